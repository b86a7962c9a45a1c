/-! the reference's least times are least times; quickest -/
/-- what stands after each settling -/
def im_dij (w : Nat → Nat → Nat) (A : Nat → Bool) (f : Nat) (t : Nat → Nat) (dn : Nat → Bool) : Prop :=
  t f = 0 ∧ (∀ v, t v ≤ 1000000) ∧ (∀ v, t v < 1000000 → A v = true ∧ t v ≤ 20 * im_cn dn 10) ∧ (∀ v, v ≠ f → t v < 1000000 → ∃ a, a < 10 ∧ dn a = true ∧ 0 < w a v ∧ t a + w a v = t v) ∧ (∀ a b, dn a = true → A b = true → 0 < w a b → t b ≤ t a + w a b) ∧ (∀ a b, dn a = true → ¬ dn b = true → t a ≤ t b) ∧ ∀ a, dn a = true → t a < 1000000 ∧ a < 10
theorem im_all10 {p : Nat → Bool} (h : 10 ≤ im_cn p 10) {u : Nat} (hu : u < 10) : p u = true := by
  by_cases q : p u = true
  · exact q
  · have h1 := im_cn_less (p := p) (q := fun _ => true) q rfl 10 hu (fun _ _ _ => rfl)
    have h2 := im_cn_le (fun _ => true) 10
    omega
section
variable {ρ : Nat → Int32}
theorem im_dij_end {w : Nat → Nat → Nat} {A : Nat → Bool} {f : Nat} {t : Nat → Nat} {dn : Nat → Bool} (h : im_dij w A f t dn) (hu : ∀ u, A u = true → ¬ dn u = true → t u = 1000000) : im_D w A f t := by
  obtain ⟨i0, i1, i2, i3, i4, i5, i6⟩ := h
  refine ⟨i0, i1, fun v v1 v2 => ?_, fun a b a1 b1 b2 => ?_⟩
  · obtain ⟨a, a1, a2, a3, a4⟩ := i3 v v1 v2
    exact ⟨(i2 v v2).1, a, a1, a3, a4⟩
  · by_cases q : dn a = true
    · exact i4 a b q b1 b2
    · have := hu a (i2 a a1).1 q
      omega
theorem im_reach_L {n : Nat} (hn : 4096 ≤ n) (hw : im_WF ρ) {f : Nat} (hf : f < 10) (k : iw_M → Option iw_M) : ∀ (d nn : Nat) (σ : iw_M) (t : Nat → Nat) (dn : Nat → Bool) (v : Int32), 10 ≤ im_cn dn 10 + d → d < nn → σ 85 = ρ → im_B01 σ 87 (im_av ρ) → im_B01 σ 88 dn → im_T86 σ t → im_dij (im_dl ρ) (im_av ρ) f t dn → im_sel t dn (im_tn (ρ 0)) v → ∃ σ' T, f_X6_reaches_L65 n k nn v σ = k σ' ∧ im_T86 σ' T ∧ im_D (im_dl ρ) (im_av ρ) f T ∧ ∀ r, r ≠ 86 → r ≠ 88 → σ' r = σ r := by
  have b0 := hw.1.1.1
  have b1 := hw.1.2.1.1
  have e88 : iw_al 88 = 10 := rfl
  have fin : ∀ (nn : Nat) (σ : iw_M) (t : Nat → Nat) (dn : Nat → Bool) (v : Int32), 0 < nn → im_T86 σ t → im_dij (im_dl ρ) (im_av ρ) f t dn → v = -1000 → (∀ u, u < im_tn (ρ 0) → ¬ dn u = true → t u = 1000000) → ∃ σ' T, f_X6_reaches_L65 n k nn v σ = k σ' ∧ im_T86 σ' T ∧ im_D (im_dl ρ) (im_av ρ) f T ∧ ∀ r, r ≠ 86 → r ≠ 88 → σ' r = σ r := by
    intro nn σ t dn v h0 hT hI hv hu
    obtain ⟨nn, rfl⟩ : ∃ q, nn = q + 1 := ⟨nn - 1, by omega⟩
    refine ⟨σ, t, ?_, hT, im_dij_end hI (fun u a b => hu u (im_av_lt a) b), fun _ _ _ => rfl⟩
    rw [s_X6_reaches_65]
    unfold f_X6_reaches_B65
    rw [if_pos hv]
  intro d
  induction d with
  | zero =>
    intro nn σ t dn v h1 h2 e hA hDn hT hI hs
    rcases hs with ⟨s1, s2⟩ | ⟨b, b1, b2, b3, b4, b5⟩
    · exact fin nn σ t dn v (by omega) hT hI s1 s2
    · exact absurd (im_all10 (p := dn) (by omega) (show b < 10 by omega)) b3
  | succ d ih =>
    intro nn σ t dn v h1 h2 e hA hDn hT hI hs
    rcases hs with ⟨s1, s2⟩ | ⟨cur, c1, c2, c3, c4, c5⟩
    · exact fin nn σ t dn v (by omega) hT hI s1 s2
    · obtain ⟨nn, rfl⟩ : ∃ q, nn = q + 1 := ⟨nn - 1, by omega⟩
      obtain ⟨i0, i1, i2, i3, i4, i5, i6⟩ := hI
      have hc : cur < 10 := by omega
      have hcn := im_cn_le dn 10
      have tc := i2 cur c4
      have dnlt : im_cn dn 10 < im_cn (fun u => decide (u = cur) || dn u) 10 := im_cn_less (a := cur) c3 (by rw [decide_eq_true rfl]; rfl) 10 hc (fun u _ z => by rw [z, Bool.or_true])
      have dn' : ∀ u, (decide (u = cur) || dn u) = true ↔ (u = cur ∨ dn u = true) := fun u => by
        rw [Bool.or_eq_true, decide_eq_true_iff]
      have hlt : ∀ x y, im_dl ρ x y < 21 := im_dl_lt hw
      obtain ⟨σ1, t1, y1, y2, y3, y4, y5, y6, y7⟩ := im_rel_L hw hc (f_X6_reaches_X213_81 n (f_X6_reaches_L65 n k nn)) (im_tn (ρ 1)) 0 n (iw_up σ 88 cur 1) t (by omega) (by omega) (by rw [iw_up_ne (by decide)]; exact e) (fun v hv => by rw [iw_up_ne (by decide)]; exact hA v hv) (fun v hv => by rw [iw_up_ne (by decide)]; exact hT v hv) i1 (by omega)
      have hD1 : im_B01 σ1 88 (fun u => decide (u = cur) || dn u) := fun u hu => by
        rw [y7 88 (by decide), im_up1]
        show _ = if (decide (u = cur) || dn u) = true then (1 : Int32) else 0
        by_cases q : u = cur
        · rw [if_pos q, decide_eq_true q]; rfl
        · rw [if_neg q, decide_eq_false q]; exact hDn u hu
      have old : ∀ a, dn a = true → t1 a = t a := fun a ha => by
        rcases y4 a with z | ⟨z1, z2, z3⟩
        · exact z
        · have := i5 a cur ha c3
          have := y3 a
          omega
      have low : ∀ a, t a < t cur → t1 a = t a := fun a ha => by
        rcases y4 a with z | ⟨z1, z2, z3⟩
        · exact z
        · have := y3 a
          omega
      have hI1 : im_dij (im_dl ρ) (im_av ρ) f t1 (fun u => decide (u = cur) || dn u) := by
        refine ⟨?_, fun v => Nat.le_trans (y3 v) (i1 v), fun v hv => ?_, fun v v1 v2 => ?_, fun a b ha hb hab => ?_, fun a b ha hb => ?_, fun a ha => ?_⟩
        · have := y3 f; omega
        · rcases y4 v with z | ⟨z1, z2, z3⟩
          · have := i2 v (by omega)
            exact ⟨this.1, by omega⟩
          · have := hlt cur v
            exact ⟨z1, by omega⟩
        · rcases y4 v with z | ⟨z1, z2, z3⟩
          · obtain ⟨a, a1, a2, a3, a4⟩ := i3 v v1 (by omega)
            exact ⟨a, a1, (dn' a).mpr (Or.inr a2), a3, by rw [old a a2, z]; exact a4⟩
          · exact ⟨cur, hc, (dn' cur).mpr (Or.inl rfl), z2, by rw [y5]; exact z3.symm⟩
        · rcases (dn' a).mp ha with rfl | ha
          · have hlk : ∃ l, l < im_tn (ρ 1) ∧ im_lkb ρ l a b = true := Decidable.byContradiction (fun z => by
              have := im_dl_0 (ρ := ρ) (a := a) (b := b) (fun l l1 l2 => z ⟨l, l1, im_lkb_iff.mpr l2⟩)
              omega)
            obtain ⟨l, l1, l2⟩ := hlk
            have := y6 l b (Nat.zero_le _) l1 (im_lkb_iff.mp l2) hb
            rw [y5]
            exact this
          · have := i4 a b ha hb hab
            have := y3 b
            rw [old a ha]
            omega
        · have hb' : ¬ dn b = true := fun z => hb ((dn' b).mpr (Or.inr z))
          have hbc : b ≠ cur := fun z => hb ((dn' b).mpr (Or.inl z))
          have cb : t cur ≤ t b := by
            by_cases q : t b < 1000000
            · exact c5 b (im_av_lt (i2 b q).1) hb'
            · omega
          have cb1 : t cur ≤ t1 b := by
            rcases y4 b with z | ⟨z1, z2, z3⟩ <;> omega
          rcases (dn' a).mp ha with rfl | ha
          · rw [y5]; exact cb1
          · rw [old a ha]
            have := i5 a cur ha c3
            omega
        · rcases (dn' a).mp ha with rfl | ha
          · rw [y5]; exact ⟨c4, hc⟩
          · rw [old a ha]; exact i6 a ha
      have hs0 : im_sel t1 (fun u => decide (u = cur) || dn u) 0 (-1000) := Or.inl ⟨rfl, fun u hu => by omega⟩
      have e1 : σ1 85 = ρ := by rw [y7 85 (by decide), iw_up_ne (by decide)]; exact e
      obtain ⟨v', z1, z2⟩ := im_sel_L hw e1 y2 hD1 hI1.2.1 (f_X6_reaches_X284_219 (f_X6_reaches_L65 n k nn) σ1) (im_tn (ρ 0)) 0 n (-1000) (by omega) (by omega) hs0
      obtain ⟨σ', T, x1, x2, x3, x4⟩ := ih nn σ1 t1 (fun u => decide (u = cur) || dn u) v' (by omega) (by omega) e1 (fun u hu => by rw [y7 87 (by decide), iw_up_ne (by decide)]; exact hA u hu) hD1 y2 hI1 z2
      refine ⟨σ', T, ?_, x2, x3, fun r r1 r2 => by rw [x4 r r1 r2, y7 r r1, iw_up_ne r2]⟩
      rw [s_X6_reaches_65]
      unfold f_X6_reaches_B65
      rw [c2, if_neg (im_neN (by omega)), show (1 : Int32) &&& 1 = 1 from rfl, im_wr (by omega), im_bind, show (0 : Int32) = nI 0 from rfl, y1]
      unfold f_X6_reaches_X213_81
      rw [show (0 : Int32) = nI 0 from rfl, z1]
      unfold f_X6_reaches_X284_219
      exact x1
/-- the times at the start -/
def im_t1 (A : Nat → Bool) (f v : Nat) : Nat := if v = f ∧ A v = true then 0 else 1000000
theorem im_init_L {A : Nat → Bool} {f : Nat} (hf : f < 10) (k : iw_M → Option iw_M) : ∀ (d i nn : Nat) (σ : iw_M), i + d = 10 → d < nn → im_B01 σ 87 A → ∃ σ', f_X6_reaches_L2 (nI f) k nn (nI i) σ = k σ' ∧ (∀ v, i ≤ v → v < 10 → σ' 86 v = (if im_t1 A f v = 1000000 then -1000 else nI (im_t1 A f v)) ∧ σ' 88 v = 0) ∧ (∀ v, v < i → σ' 86 v = σ 86 v ∧ σ' 88 v = σ 88 v) ∧ ∀ r, r ≠ 86 → r ≠ 88 → σ' r = σ r := by
  have e86 : iw_al 86 = 10 := rfl
  have e87 : iw_al 87 = 10 := rfl
  have e88 : iw_al 88 = 10 := rfl
  intro d
  induction d with
  | zero =>
    intro i nn σ h1 h2 hA
    obtain ⟨nn, rfl⟩ : ∃ q, nn = q + 1 := ⟨nn - 1, by omega⟩
    refine ⟨σ, ?_, fun v v1 v2 => by omega, fun _ _ => ⟨rfl, rfl⟩, fun _ _ _ => rfl⟩
    rw [s_X6_reaches_2]
    unfold f_X6_reaches_B2
    rw [if_pos (by rw [im_lit 10, im_le (by decide) (by omega)]; omega)]
  | succ d ih =>
    intro i nn σ h1 h2 hA
    obtain ⟨nn, rfl⟩ : ∃ q, nn = q + 1 := ⟨nn - 1, by omega⟩
    have hi : i < 10 := by omega
    obtain ⟨σ', x1, x2, x3, x4⟩ := ih (i + 1) nn (iw_up (iw_up σ 86 i (if im_t1 A f i = 1000000 then -1000 else nI (im_t1 A f i))) 88 i 0) (by omega) (by omega) (fun v hv => by rw [iw_up_ne (by decide), iw_up_ne (by decide)]; exact hA v hv)
    refine ⟨σ', ?_, fun v v1 v2 => ?_, fun v hv => ?_, fun r r1 r2 => by rw [x4 r r1 r2, iw_up_ne r2, iw_up_ne r1]⟩
    · rw [s_X6_reaches_2]
      unfold f_X6_reaches_B2 f_X6_reaches_J31 f_X6_reaches_J34
      rw [if_neg (by rw [im_lit 10, im_le (by decide) (by omega)]; omega), im_rd (by omega), im_wr (by omega), im_wr (by omega), im_bind, im_bind, im_bind, im_wr (by omega), im_wr (by omega), im_bind, im_bind, im_let, im_let, nI_1, hA i hi, ← x1]
      by_cases q : i = f
      · rw [if_pos (show nI i = nI f by rw [q])]
        by_cases q2 : A i = true
        · have e1 : im_t1 A f i = 0 := if_pos ⟨q, q2⟩
          rw [if_pos q2, if_neg (by decide), e1, if_neg (by decide)]; rfl
        · have e1 : im_t1 A f i = 1000000 := if_neg (fun z => q2 z.2)
          rw [if_neg q2, if_pos rfl, e1, if_pos rfl]; rfl
      · have e1 : im_t1 A f i = 1000000 := if_neg (fun z => q z.1)
        rw [if_neg (show ¬ nI i = nI f by rw [im_eq (by omega) (by omega)]; exact q), e1, if_pos rfl]; rfl
    · by_cases z : v = i
      · subst z
        have := x3 v (by omega)
        rw [this.1, this.2, im_upo (by decide), im_ups, im_ups]
        exact ⟨rfl, rfl⟩
      · exact x2 v (by omega) v2
    · have := x3 v (by omega)
      rw [this.1, this.2, im_upo (by decide), im_upn (by omega), im_upn (by omega), im_upo (by decide)]
      exact ⟨rfl, rfl⟩
theorem im_reaches {n : Nat} (hn : 4096 ≤ n) (hw : im_WF ρ) {f : Nat} (hf : f < 10) {σ : iw_M} (e : σ 85 = ρ) (hA : im_B01 σ 87 (im_av ρ)) : ∃ σ' T, f_X6_reaches n (nI f) σ = some σ' ∧ im_T86 σ' T ∧ (im_av ρ f = true → im_D (im_dl ρ) (im_av ρ) f T) ∧ (¬ im_av ρ f = true → ∀ v, T v = 1000000) ∧ ∀ r, r ≠ 86 → r ≠ 88 → σ' r = σ r := by
  have b0 := hw.1.1.1
  have e87 : iw_al 87 = 10 := rfl
  obtain ⟨σ1, y1, y2, y3, y4⟩ := im_init_L hf (f_X6_reaches_X48_2 n (nI f)) 10 0 n σ (by omega) (by omega) hA
  have hT : im_T86 σ1 (im_t1 (im_av ρ) f) := fun v hv => (y2 v (Nat.zero_le _) hv).1
  have hA1 : im_B01 σ1 87 (im_av ρ) := fun v hv => by rw [y4 87 (by decide) (by decide)]; exact hA v hv
  have e1 : σ1 85 = ρ := by rw [y4 85 (by decide) (by decide)]; exact e
  unfold f_X6_reaches
  rw [show f_X6_reaches_L2 (nI f) (f_X6_reaches_X48_2 n (nI f)) n (0 : Int32) σ = f_X6_reaches_L2 (nI f) (f_X6_reaches_X48_2 n (nI f)) n (nI 0) σ from rfl, y1]
  unfold f_X6_reaches_X48_2 f_X6_reaches_J64
  rw [im_rd (by omega), im_bind, hA1 f hf]
  by_cases q : im_av ρ f = true
  · rw [if_pos q, if_neg (by decide)]
    have c0 : ∀ i, im_cn (fun _ => false) i = 0 := fun i => by
      induction i with
      | zero => rfl
      | succ i ih => rw [im_cn_s, ih]; rfl
    have tz : ∀ v, im_t1 (im_av ρ) f v < 1000000 → v = f := fun v hv => by
      unfold im_t1 at hv
      by_cases z : v = f
      · exact z
      · rw [if_neg (fun u => z u.1)] at hv; omega
    have tf : im_t1 (im_av ρ) f f = 0 := by unfold im_t1; rw [if_pos ⟨rfl, q⟩]
    have hI : im_dij (im_dl ρ) (im_av ρ) f (im_t1 (im_av ρ) f) (fun _ => false) := by
      refine ⟨tf, fun v => ?_, fun v hv => ?_, fun v v1 v2 => absurd (tz v v2) v1, fun a b ha => absurd (show false = true from ha) (by decide), fun a b ha => absurd (show false = true from ha) (by decide), fun a ha => absurd (show false = true from ha) (by decide)⟩
      · unfold im_t1
        split <;> omega
      · have := tz v hv
        subst this
        exact ⟨q, by rw [tf]; exact Nat.zero_le _⟩
    obtain ⟨σ', T, x1, x2, x3, x4⟩ := im_reach_L hn hw hf f_X6_reaches_X287_65 10 n σ1 (im_t1 (im_av ρ) f) (fun _ => false) (nI f) (by omega) (by omega) e1 hA1 (fun v hv => by rw [if_neg (show ¬ false = true by decide)]; exact (y2 v (Nat.zero_le _) hv).2) hT hI (Or.inr ⟨f, im_av_lt q, rfl, (show ¬ false = true by decide), by omega, fun u _ _ => by rw [tf]; exact Nat.zero_le _⟩)
    exact ⟨σ', T, x1, x2, fun _ => x3, fun z => absurd q z, fun r r1 r2 => (x4 r r1 r2).trans (y4 r r1 r2)⟩
  · rw [if_neg q, if_pos rfl]
    obtain ⟨n, rfl⟩ : ∃ p, n = p + 1 := ⟨n - 1, by omega⟩
    refine ⟨σ1, im_t1 (im_av ρ) f, ?_, hT, fun z => absurd z q, fun _ v => ?_, fun r r1 r2 => y4 r r1 r2⟩
    · rw [s_X6_reaches_65]
      unfold f_X6_reaches_B65
      rw [if_pos rfl]
      rfl
    · exact if_neg (fun (z : v = f ∧ im_av ρ v = true) => q (z.1 ▸ z.2))
end
theorem sim_quickest_ok (n : Nat) (hn : 4096 ≤ n) : sim_quickest n im_RR := by
  intro p1 p2 σx σm h
  obtain ⟨hN, hW⟩ := im_0 h
  obtain ⟨⟨N, N1, N2, N3, N4⟩, -⟩ := im_cnt hN hW
  unfold f_X5_quickest f_X6_quickest
  rw [show f_X1_has 20 (0 : Int32) p1 σx = f_X1_has 20 (nI 0) p1 σx from rfl, show f_X1_has 20 (0 : Int32) p2 σx = f_X1_has 20 (nI 0) p2 σx from rfl, im_has iw_net_20 (by decide) (by omega) p1 N4, im_has iw_net_20 (by decide) (by omega) p2 N4, im_isNode p1 (by omega) N3, im_isNode p2 (by omega) N3, im_bind, im_bind, im_b01, im_b01, im_b01, im_b01]
  by_cases c : ∃ k, k < N ∧ p1 = nI k
  · rw [if_pos c, if_pos c]
    by_cases d : ∃ k, k < N ∧ p2 = nI k
    · rw [if_pos d, if_pos d]
      obtain ⟨f, hf, rfl⟩ := c
      obtain ⟨v, hv, rfl⟩ := d
      obtain ⟨τ0, a1, a2, a3⟩ := im_looks hn hW
      obtain ⟨τ, T, x1, x2, x3, x4, x5⟩ := im_reaches hn hW (show f < 10 by omega) (a3 85 (by decide)) a2
      have hM := im_mk_1024 (im_al (σm 85)) (show im_tn (σm 85 0) ≤ 10 by omega)
      have ho : ∀ r, r ≠ 86 → r ≠ 87 → r ≠ 88 → τ r = σm r := fun r r1 r2 r3 => (x5 r r1 r3).trans (a3 r r2)
      have rT : iw_rd τ 86 (nI v) = some (if T v = 1000000 then -1000 else nI (T v)) := by
        rw [im_rd (show v < iw_al 86 by rw [show iw_al 86 = 10 from rfl]; omega), x2 v (by omega)]
      have hR : ∀ σx', (∀ b, b = 4 ∨ b = 6 ∨ b = 7 ∨ 44 ≤ b → σx' b = σx b) → im_NR σx' 20 (σm 85) → im_RR σx' τ := fun σx' z1 z2 =>
        im_upd h z1 (by rw [ho 84 (by decide) (by decide) (by decide)]) (by rw [ho 84 (by decide) (by decide) (by decide)]) (ho 92 (by decide) (by decide) (by decide)) (fun k _ _ => by rw [ho 85 (by decide) (by decide) (by decide)]) (by rw [im_sl0, ho 85 (by decide) (by decide) (by decide)]; exact z2) (by rw [im_sl0, ho 85 (by decide) (by decide) (by decide)]; exact hW)
      rw [a1, im_bind, x1, im_bind, rT, im_bind, im_aliveNodes hn iw_net_20 hW hN, im_bind, im_holds hM (by omega), im_holds hM (by omega), im_av_bit, im_av_bit, im_b01, im_b01]
      by_cases q : im_av (σm 85) f = true
      · rw [if_pos q]
        have hD := x3 q
        have hTv := hD.2.1 v
        by_cases q2 : im_av (σm 85) v = true
        · rw [if_pos q2]
          obtain ⟨σ1, e1, e2, e3, e4⟩ := im_learn hn (Or.inl rfl : im_path 8) iw_net_20 (by decide) hW hN
          obtain ⟨σ2, g1, g2, g3, g4, g5, g6⟩ := im_explore hn (Or.inl rfl : im_path 8) (show f < 10 by omega) hM (A := im_av (σm 85)) (fun u _ => im_av_bit) (im_dl_lt hW) hD (σ := σ1) e2 (fun z => by
            rw [e3 f (by omega)] at z
            have z1 := (im_eq (show 0 < 2 ^ 31 by decide) (show im_mk (im_al (σm 85)) (im_tn (σm 85 0)) < 2 ^ 31 by omega)).mp z
            have z2 := im_av_bit (ρ := σm 85) (v := f)
            rw [← z1, Nat.zero_testBit, q] at z2
            cases z2)
          have hmk := im_mk_1024 (fun v => decide (T v < 1000000)) (show 10 ≤ 10 by omega)
          have er : f_X5_holds (f_X2_reachedFrom 8 (nI f) σ2) (nI v) = if T v < 1000000 then 1 else 0 := by
            unfold f_X2_reachedFrom
            rw [im_at (by rw [(im_al_p 8 (Or.inl rfl)).2.2.1]; omega), g2.2.2, im_holds hmk (by omega), im_mk_bit, decide_eq_true (show v < 10 by omega), Bool.true_and]
            by_cases z : T v < 1000000
            · rw [if_pos (decide_eq_true z), if_pos z]
            · rw [if_neg (by rw [decide_eq_true_iff]; exact z), if_neg z]
          have et : f_X2_timeOf 8 (nI f) (nI v) σ2 = nI (T v) := by
            unfold f_X2_timeOf
            rw [show (10 : Int32) = nI 10 from rfl, pk_mul, nI_add, im_at (by rw [(im_al_p 8 (Or.inl rfl)).2.2.2.1]; omega)]
            exact g2.1 v (by omega)
          rw [e1, im_bind, g1, im_bind, er, im_b01, et]
          have hR2 : im_RR σ2 τ := hR σ2 (fun b hb => (g4 b (by omega) (by omega) (by omega) (by omega)).trans (e4 b (by omega) (by omega))) (im_NR_congr hN (fun j j1 j2 => (g4 _ (by omega) (by omega) (by omega) (by omega)).trans (e4 _ (by omega) (by omega))))
          by_cases z : T v < 1000000
          · rw [if_pos z, if_neg (by omega)]
            exact ⟨_, _, _, rfl, rfl, hR2⟩
          · rw [if_neg z, if_pos (by omega)]
            exact ⟨_, _, _, rfl, rfl, hR2⟩
        · have : T v = 1000000 := by
            by_cases z : v = f
            · exact absurd (z ▸ q) q2
            · by_cases y : T v < 1000000
              · exact absurd (hD.2.2.1 v z y).1 q2
              · omega
          rw [if_neg q2, if_pos this]
          exact ⟨_, _, _, rfl, rfl, hR σx (fun _ _ => rfl) hN⟩
      · rw [if_neg q, if_pos (x4 q v)]
        exact ⟨_, _, _, rfl, rfl, hR σx (fun _ _ => rfl) hN⟩
    · rw [if_neg d, if_neg d]
      exact ⟨_, _, _, rfl, rfl, h⟩
  · rw [if_neg c, if_neg c]
    exact ⟨_, _, _, rfl, rfl, h⟩
