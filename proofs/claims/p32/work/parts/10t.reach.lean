/-! the reference's least times: it settles the nearest node, again and again -/
def im_av (ρ : Nat → Int32) (v : Nat) : Bool := decide (v < im_tn (ρ 0)) && im_al ρ v
theorem im_av_lt {ρ : Nat → Int32} {v : Nat} (h : im_av ρ v = true) : v < im_tn (ρ 0) := by
  unfold im_av at h
  rw [Bool.and_eq_true, decide_eq_true_iff] at h
  exact h.1
theorem im_av_bit {ρ : Nat → Int32} {v : Nat} : (im_mk (im_al ρ) (im_tn (ρ 0))).testBit v = im_av ρ v := im_mk_bit _ _ _
def im_T86 (σ : iw_M) (t : Nat → Nat) : Prop := ∀ v, v < 10 → σ 86 v = if t v = 1000000 then -1000 else nI (t v)
def im_B01 (σ : iw_M) (r : Nat) (p : Nat → Bool) : Prop := ∀ v, v < 10 → σ r v = if p v = true then 1 else 0
theorem im_neN {k : Nat} (h : k < 2 ^ 31) : ¬ nI k = (-1000 : Int32) := fun z => by
  have z1 := congrArg Int32.toInt z
  rw [nI_toInt h] at z1
  rw [show (-1000 : Int32).toInt = -1000 from rfl] at z1
  omega
section
variable {ρ : Nat → Int32}
theorem im_looks_L (k : iw_M → Option iw_M) (hw : im_WF ρ) : ∀ (d i nn : Nat) (σ : iw_M), i + d = 10 → d < nn → σ 85 = ρ → ∃ σ', f_X6_looksAlive_L2 k nn (nI i) σ = k σ' ∧ (∀ v, i ≤ v → v < 10 → σ' 87 v = if im_av ρ v = true then 1 else 0) ∧ (∀ v, v < i → σ' 87 v = σ 87 v) ∧ ∀ r, r ≠ 87 → σ' r = σ r := by
  have b := hw.1.1
  have b' := b.1
  intro d
  induction d with
  | zero =>
    intro i nn σ h1 h2 e
    obtain ⟨nn, rfl⟩ : ∃ q, nn = q + 1 := ⟨nn - 1, by omega⟩
    refine ⟨σ, ?_, fun v v1 v2 => by omega, fun _ _ => rfl, fun _ _ => rfl⟩
    rw [s_X6_looksAlive_2]
    unfold f_X6_looksAlive_B2
    rw [if_pos (by rw [im_lit 10, im_le (by decide) (by omega)]; omega)]
  | succ d ih =>
    intro i nn σ h1 h2 e
    obtain ⟨nn, rfl⟩ : ∃ q, nn = q + 1 := ⟨nn - 1, by omega⟩
    obtain ⟨σ', x1, x2, x3, x4⟩ := ih (i + 1) nn (iw_up σ 87 i (if im_av ρ i = true then 1 else 0)) (by omega) (by omega) (by rw [iw_up_ne (by decide)]; exact e)
    refine ⟨σ', ?_, fun v v1 v2 => ?_, fun v hv => ?_, fun r hr => (x4 r hr).trans (iw_up_ne hr)⟩
    · rw [s_X6_looksAlive_2]
      unfold f_X6_looksAlive_B2 f_X6_looksAlive_J35 f_X6_looksAlive_J36
      rw [if_neg (by rw [im_lit 10, im_le (by decide) (by omega)]; omega), show iw_rd σ 85 (0 : Int32) = iw_rd σ 85 (nI 0) from rfl, im_m_rd (by decide), im_bind, e, b.2]
      simp only [im_let]
      rw [im_wr (show i < iw_al 87 by rw [show iw_al 87 = 10 from rfl]; omega), im_wr (show i < iw_al 87 by rw [show iw_al 87 = 10 from rfl]; omega), im_bind, im_bind, nI_1]
      by_cases q : im_tn (ρ 0) ≤ i
      · have hv : ¬ im_av ρ i = true := fun z => by have := im_av_lt z; omega
        rw [if_neg hv] at x1
        rw [if_pos (by rw [im_le (by omega) (by omega)]; exact q), ← x1]
        rfl
      · rw [if_neg (by rw [im_le (by omega) (by omega)]; exact q), im_isAlive (by omega), im_bind, e]
        by_cases q2 : 0 < ρ (12 + i)
        · have hv : im_av ρ i = true := by
            unfold im_av im_al
            rw [decide_eq_true (show i < im_tn (ρ 0) by omega), decide_eq_true q2]
            rfl
          rw [if_pos hv] at x1
          rw [if_pos q2, if_neg (by decide), ← x1]
          rfl
        · have hv : ¬ im_av ρ i = true := by
            unfold im_av im_al
            rw [decide_eq_false q2, Bool.and_false]
            decide
          rw [if_neg hv] at x1
          rw [if_neg q2, if_pos rfl, ← x1]
          rfl
    · by_cases e : v = i
      · subst e
        rw [x3 _ (by omega), im_ups]
      · exact x2 v (by omega) v2
    · rw [x3 v (by omega), im_upn (by omega)]
theorem im_looks {n : Nat} (hn : 4096 ≤ n) {σ : iw_M} (hw : im_WF (σ 85)) : ∃ σ', f_X6_looksAlive n σ = some σ' ∧ im_B01 σ' 87 (im_av (σ 85)) ∧ ∀ r, r ≠ 87 → σ' r = σ r := by
  obtain ⟨σ', x1, x2, x3, x4⟩ := im_looks_L f_X6_looksAlive_X43_2 hw 10 0 n σ (by omega) (by omega) rfl
  exact ⟨σ', x1, fun v hv => x2 v (Nat.zero_le _) hv, x4⟩
/-- one link, seen from the node that is settled -/
theorem im_rel130 (cur o l : Nat) (w : Nat) (hc : cur < 10) (ho : o < 10) (hco : o ≠ cur) (hw : w < 21) {A : Nat → Bool} {t : Nat → Nat} {σ : iw_M} (hl : l < 20) (hd : σ 85 (22 + 3 * l + 2) = nI w) (hA : im_B01 σ 87 A) (hT : im_T86 σ t) (ht : ∀ v, t v ≤ 1000000) (hb : t cur ≤ 400) (r81 : Int32 → iw_M → Option iw_M) : ∃ σ' t', f_X6_reaches_J130 (nI cur) r81 (nI l) σ (nI o) = r81 (nI (l + 1)) σ' ∧ im_T86 σ' t' ∧ (∀ v, v ≠ o → t' v = t v) ∧ (t' o = t o ∨ (A o = true ∧ t' o = t cur + w)) ∧ t' o ≤ t o ∧ (A o = true → t' o ≤ t cur + w) ∧ ∀ r, r ≠ 86 → σ' r = σ r := by
  have e86 : iw_al 86 = 10 := rfl
  have e87 : iw_al 87 = 10 := rfl
  have rc : iw_rd σ 86 (nI cur) = some (nI (t cur)) := by
    rw [im_rd (by omega), hT cur hc, if_neg (by omega)]
  have ro : iw_rd σ 86 (nI o) = some (σ 86 o) := im_rd (by omega)
  have same : im_T86 (iw_up σ 86 o (σ 86 o)) t := fun v hv => by
    rw [im_up1]
    by_cases e : v = o
    · rw [if_pos e, e]; exact hT o ho
    · rw [if_neg e]; exact hT v hv
  have new : t cur + w < t o → im_T86 (iw_up σ 86 o (nI (t cur + w))) (fun x => if x = o then t cur + w else t x) := fun _ v hv => by
    rw [im_up1]
    show _ = if (if v = o then t cur + w else t v) = 1000000 then (-1000 : Int32) else nI (if v = o then t cur + w else t v)
    by_cases e : v = o
    · rw [if_pos e, if_pos e, if_neg (by omega)]
    · rw [if_neg e, if_neg e]; exact hT v hv
  unfold f_X6_reaches_J130 f_X6_reaches_J199 f_X6_reaches_J194 f_X6_reaches_J206
  rw [rc, im_bind, show (2 : Int32) = nI 2 from rfl, im_ofLink (by omega), im_bind, hd]
  simp only [im_let]
  rw [nI_add, if_neg (show ¬ nI o = nI cur by rw [im_eq (by omega) (by omega)]; exact hco), im_rd (by omega), im_bind, hA o ho, ro]
  simp only [im_bind]
  rw [im_wr (by omega), im_wr (by omega)]
  simp only [im_bind]
  rw [nI_1]
  by_cases q : A o = true
  · rw [if_pos q, if_neg (by decide)]
    by_cases q1 : t o = 1000000
    · rw [if_pos (show σ 86 o = -1000 by rw [hT o ho, if_pos q1])]
      exact ⟨_, _, rfl, new (by omega), fun v hv => if_neg hv, Or.inr ⟨q, if_pos rfl⟩, by rw [if_pos rfl]; omega, fun _ => by rw [if_pos rfl]; exact Nat.le_refl _, fun r hr => iw_up_ne hr⟩
    · have to := ht o
      have e : σ 86 o = nI (t o) := by rw [hT o ho, if_neg q1]
      rw [if_neg (show ¬ σ 86 o = -1000 by rw [e]; exact im_neN (by omega))]
      by_cases q2 : t o ≤ t cur + w
      · rw [if_pos (show σ 86 o ≤ nI (t cur + w) by rw [e, im_le (by omega) (by omega)]; exact q2)]
        exact ⟨_, _, rfl, same, fun v hv => rfl, Or.inl rfl, Nat.le_refl _, fun _ => q2, fun r hr => iw_up_ne hr⟩
      · rw [if_neg (show ¬ σ 86 o ≤ nI (t cur + w) by rw [e, im_le (by omega) (by omega)]; exact q2)]
        exact ⟨_, _, rfl, new (by omega), fun v hv => if_neg hv, Or.inr ⟨q, if_pos rfl⟩, by rw [if_pos rfl]; omega, fun _ => by rw [if_pos rfl]; exact Nat.le_refl _, fun r hr => iw_up_ne hr⟩
  · rw [if_neg q, if_pos rfl]
    exact ⟨_, _, rfl, same, fun v hv => rfl, Or.inl rfl, Nat.le_refl _, fun z => absurd z q, fun r hr => iw_up_ne hr⟩
theorem im_rel_L (hw : im_WF ρ) {A : Nat → Bool} {cur : Nat} (hc : cur < 10) (k : iw_M → Option iw_M) : ∀ (d l nn : Nat) (σ : iw_M) (t : Nat → Nat), l + d = im_tn (ρ 1) → d < nn → σ 85 = ρ → im_B01 σ 87 A → im_T86 σ t → (∀ v, t v ≤ 1000000) → t cur ≤ 400 → ∃ σ' t', f_X6_reaches_L81 (nI cur) k nn (nI l) σ = k σ' ∧ im_T86 σ' t' ∧ (∀ v, t' v ≤ t v) ∧ (∀ v, t' v = t v ∨ (A v = true ∧ 0 < im_dl ρ cur v ∧ t' v = t cur + im_dl ρ cur v)) ∧ t' cur = t cur ∧ (∀ l' v, l ≤ l' → l' < im_tn (ρ 1) → im_lk ρ l' cur v → A v = true → t' v ≤ t cur + im_dl ρ cur v) ∧ ∀ r, r ≠ 86 → σ' r = σ r := by
  have b0 := hw.1.1.1
  have b := hw.1.2.1
  have b' := b.1
  intro d
  induction d with
  | zero =>
    intro l nn σ t h1 h2 e hA hT ht hb
    obtain ⟨nn, rfl⟩ : ∃ q, nn = q + 1 := ⟨nn - 1, by omega⟩
    refine ⟨σ, t, ?_, hT, fun _ => Nat.le_refl _, fun _ => Or.inl rfl, rfl, fun l' v l1 l2 => by omega, fun _ _ => rfl⟩
    rw [s_X6_reaches_81]
    unfold f_X6_reaches_B81
    rw [show (1 : Int32) = nI 1 from rfl, im_m_rd (by decide), im_bind, e, b.2, if_pos (by rw [im_le (by omega) (by omega)]; omega)]
  | succ d ih =>
    intro l nn σ t h1 h2 e hA hT ht hb
    obtain ⟨nn, rfl⟩ : ∃ q, nn = q + 1 := ⟨nn - 1, by omega⟩
    have hl : l < im_tn (ρ 1) := by omega
    obtain ⟨l1, l2, l3, l4, l5⟩ := hw.2.1 l hl
    have l1' := l1.1
    have l2' := l2.1
    have l3' := l3.1
    have step : f_X6_reaches_L81 (nI cur) k (nn + 1) (nI l) σ = if im_tn (ρ (22 + 3 * l)) = cur then f_X6_reaches_J130 (nI cur) (f_X6_reaches_L81 (nI cur) k nn) (nI l) σ (nI (im_tn (ρ (22 + 3 * l + 1)))) else if im_tn (ρ (22 + 3 * l + 1)) = cur then f_X6_reaches_J130 (nI cur) (f_X6_reaches_L81 (nI cur) k nn) (nI l) σ (nI (im_tn (ρ (22 + 3 * l)))) else f_X6_reaches_J130 (nI cur) (f_X6_reaches_L81 (nI cur) k nn) (nI l) σ (nI cur) := by
      rw [s_X6_reaches_81]
      unfold f_X6_reaches_B81
      rw [show iw_rd σ 85 (1 : Int32) = iw_rd σ 85 (nI 1) from rfl, im_m_rd (by decide), im_bind, e, b.2, if_neg (by rw [im_le (by omega) (by omega)]; omega), show (0 : Int32) = nI 0 from rfl, show f_X6_ofLink (nI l) (1 : Int32) σ = f_X6_ofLink (nI l) (nI 1) σ from rfl, im_ofLink (by omega), im_ofLink (by omega)]
      simp only [im_bind]
      rw [e, Nat.add_zero, l1.2, l2.2, im_tn_nI (by omega), im_tn_nI (by omega)]
      simp only [im_eq (show im_tn (ρ (22 + 3 * l)) < 2 ^ 31 by omega) (show cur < 2 ^ 31 by omega), im_eq (show im_tn (ρ (22 + 3 * l + 1)) < 2 ^ 31 by omega) (show cur < 2 ^ 31 by omega)]
    -- the link leads from cur to o
    have go : ∀ o, o < 10 → o ≠ cur → im_lk ρ l cur o → (∀ v, im_lk ρ l cur v → v = o) → f_X6_reaches_L81 (nI cur) k (nn + 1) (nI l) σ = f_X6_reaches_J130 (nI cur) (f_X6_reaches_L81 (nI cur) k nn) (nI l) σ (nI o) → ∃ σ' t', f_X6_reaches_L81 (nI cur) k (nn + 1) (nI l) σ = k σ' ∧ im_T86 σ' t' ∧ (∀ v, t' v ≤ t v) ∧ (∀ v, t' v = t v ∨ (A v = true ∧ 0 < im_dl ρ cur v ∧ t' v = t cur + im_dl ρ cur v)) ∧ t' cur = t cur ∧ (∀ l' v, l ≤ l' → l' < im_tn (ρ 1) → im_lk ρ l' cur v → A v = true → t' v ≤ t cur + im_dl ρ cur v) ∧ ∀ r, r ≠ 86 → σ' r = σ r := fun o ho hco hlk hun hs => by
      obtain ⟨w1, w2, w3⟩ := im_dl_1 hw hl hlk
      obtain ⟨σ1, t1, y1, y2, y3, y4, y5, y6, y7⟩ := im_rel130 cur o l (im_dl ρ cur o) hc ho hco w3 (by omega) (by rw [e, w1]; exact l3.2) hA hT ht hb (f_X6_reaches_L81 (nI cur) k nn)
      have tc : t1 cur = t cur := y3 cur (fun z => hco z.symm)
      have tle : ∀ v, t1 v ≤ t v := fun v => by
        by_cases z : v = o
        · rw [z]; exact y5
        · rw [y3 v z]; exact Nat.le_refl _
      obtain ⟨σ', t', x1, x2, x3, x4, x5, x6, x7⟩ := ih (l + 1) nn σ1 t1 (by omega) (by omega) (by rw [y7 85 (by decide)]; exact e) (fun v hv => by rw [y7 87 (by decide)]; exact hA v hv) y2 (fun v => Nat.le_trans (tle v) (ht v)) (by rw [tc]; exact hb)
      refine ⟨σ', t', by rw [hs, y1, x1], x2, fun v => Nat.le_trans (x3 v) (tle v), fun v => ?_, by rw [x5, tc], fun l' v m1 m2 m3 m4 => ?_, fun r hr => (x7 r hr).trans (y7 r hr)⟩
      · rcases x4 v with z | ⟨z1, z2, z3⟩
        · by_cases zz : v = o
          · subst zz
            rcases y4 with u | ⟨u1, u2⟩
            · exact Or.inl (z.trans u)
            · exact Or.inr ⟨u1, w2, z.trans u2⟩
          · exact Or.inl (z.trans (y3 v zz))
        · exact Or.inr ⟨z1, z2, by rw [z3, tc]⟩
      · by_cases zz : l' = l
        · subst zz
          have := hun v m3
          subst this
          exact Nat.le_trans (x3 v) (y6 m4)
        · have := x6 l' v (by omega) m2 m3 m4
          rw [tc] at this
          exact this
    by_cases q1 : im_tn (ρ (22 + 3 * l)) = cur
    · refine go (im_tn (ρ (22 + 3 * l + 1))) (by omega) (by omega) (Or.inl ⟨q1, rfl⟩) (fun v hv => ?_) (by rw [step, if_pos q1])
      unfold im_lk at hv
      omega
    · by_cases q2 : im_tn (ρ (22 + 3 * l + 1)) = cur
      · refine go (im_tn (ρ (22 + 3 * l))) (by omega) (by omega) (Or.inr ⟨rfl, q2⟩) (fun v hv => ?_) (by rw [step, if_neg q1, if_pos q2])
        unfold im_lk at hv
        omega
      · rw [step, if_neg q1, if_neg q2]
        have e86 : iw_al 86 = 10 := rfl
        have hT' : im_T86 (iw_up σ 86 cur (σ 86 cur)) t := fun v hv => by
          rw [im_up1]
          by_cases z : v = cur
          · rw [if_pos z, z]; exact hT cur hc
          · rw [if_neg z]; exact hT v hv
        obtain ⟨σ', t', x1, x2, x3, x4, x5, x6, x7⟩ := ih (l + 1) nn (iw_up σ 86 cur (σ 86 cur)) t (by omega) (by omega) (by rw [iw_up_ne (by decide)]; exact e) (fun v hv => by rw [iw_up_ne (by decide)]; exact hA v hv) hT' ht hb
        refine ⟨σ', t', ?_, x2, x3, x4, x5, fun l' v m1 m2 m3 m4 => ?_, fun r hr => (x7 r hr).trans (iw_up_ne hr)⟩
        · unfold f_X6_reaches_J130 f_X6_reaches_J199 f_X6_reaches_J206
          rw [im_rd (by omega), im_bind, show (2 : Int32) = nI 2 from rfl, im_ofLink (by omega), im_bind, im_let, if_pos rfl, im_bind, im_wr (by omega), im_bind, im_let, nI_1]
          exact x1
        · by_cases zz : l' = l
          · subst zz
            unfold im_lk at m3
            omega
          · exact x6 l' v (by omega) m2 m3 m4
/-- which node is next -/
def im_sel (t : Nat → Nat) (dn : Nat → Bool) (i : Nat) (v : Int32) : Prop := (v = -1000 ∧ ∀ u, u < i → ¬ dn u = true → t u = 1000000) ∨ ∃ b, b < i ∧ v = nI b ∧ ¬ dn b = true ∧ t b < 1000000 ∧ ∀ u, u < i → ¬ dn u = true → t b ≤ t u
theorem im_sel_L (hw : im_WF ρ) {σ : iw_M} (e : σ 85 = ρ) {t : Nat → Nat} {dn : Nat → Bool} (hT : im_T86 σ t) (hD : im_B01 σ 88 dn) (ht : ∀ v, t v ≤ 1000000) (k : Int32 → Option iw_M) : ∀ (d i nn : Nat) (v : Int32), i + d = im_tn (ρ 0) → d < nn → im_sel t dn i v → ∃ v', f_X6_reaches_L219 σ k nn v (nI i) = k v' ∧ im_sel t dn (im_tn (ρ 0)) v' := by
  have b := hw.1.1
  have b' := b.1
  have e86 : iw_al 86 = 10 := rfl
  have e88 : iw_al 88 = 10 := rfl
  have r0 : iw_rd σ 85 (0 : Int32) = some (nI (im_tn (ρ 0))) := by
    rw [show iw_rd σ 85 (0 : Int32) = iw_rd σ 85 (nI 0) from rfl, im_m_rd (by decide), e]
    exact congrArg some b.2
  intro d
  induction d with
  | zero =>
    intro i nn v h1 h2 hs
    obtain ⟨nn, rfl⟩ : ∃ q, nn = q + 1 := ⟨nn - 1, by omega⟩
    refine ⟨v, ?_, by rw [show im_tn (ρ 0) = i by omega]; exact hs⟩
    rw [s_X6_reaches_219]
    unfold f_X6_reaches_B219
    rw [r0, im_bind, if_pos (by rw [im_le (by omega) (by omega)]; omega)]
  | succ d ih =>
    intro i nn v h1 h2 hs
    obtain ⟨nn, rfl⟩ : ∃ q, nn = q + 1 := ⟨nn - 1, by omega⟩
    have hi : i < 10 := by omega
    have ti := ht i
    have keep : (dn i = true ∨ t i = 1000000) → im_sel t dn (i + 1) v := fun z => by
      rcases hs with ⟨a1, a2⟩ | ⟨x, x1, x2, x3, x4, x5⟩
      · refine Or.inl ⟨a1, fun u hu hd => ?_⟩
        by_cases q : u = i
        · subst q
          rcases z with z | z
          · exact absurd z hd
          · exact z
        · exact a2 u (by omega) hd
      · refine Or.inr ⟨x, by omega, x2, x3, x4, fun u hu hd => ?_⟩
        by_cases q : u = i
        · subst q
          rcases z with z | z
          · exact absurd z hd
          · omega
        · exact x5 u (by omega) hd
    rw [s_X6_reaches_219]
    unfold f_X6_reaches_B219 f_X6_reaches_J276 f_X6_reaches_J272 f_X6_reaches_J277
    rw [r0, im_bind, if_neg (by rw [im_le (by omega) (by omega)]; omega), im_rd (by omega), im_bind, hD i hi, im_rd (by omega), hT i hi]
    simp only [im_bind, im_let]
    rw [nI_1]
    by_cases q : dn i = true
    · rw [if_pos q, if_neg (by decide)]
      exact ih (i + 1) nn v (by omega) (by omega) (keep (Or.inl q))
    · rw [if_neg q, if_pos rfl]
      by_cases q1 : t i = 1000000
      · rw [if_pos q1, if_pos rfl]
        exact ih (i + 1) nn v (by omega) (by omega) (keep (Or.inr q1))
      · rw [if_neg q1, if_neg (im_neN (by omega))]
        rcases hs with ⟨a1, a2⟩ | ⟨x, x1, x2, x3, x4, x5⟩
        · rw [if_pos a1]
          refine ih (i + 1) nn (nI i) (by omega) (by omega) (Or.inr ⟨i, by omega, rfl, q, by omega, fun u hu hd => ?_⟩)
          by_cases z : u = i
          · rw [z]; exact Nat.le_refl _
          · have := a2 u (by omega) hd
            omega
        · rw [if_neg (by rw [x2]; exact im_neN (by omega)), x2, im_rd (by omega), im_bind, hT x (by omega), if_neg (show ¬ t x = 1000000 by omega)]
          by_cases q2 : t x ≤ t i
          · rw [if_pos (by rw [im_le (by omega) (by omega)]; exact q2)]
            refine ih (i + 1) nn (nI x) (by omega) (by omega) (Or.inr ⟨x, by omega, rfl, x3, x4, fun u hu hd => ?_⟩)
            by_cases z : u = i
            · rw [z]; exact q2
            · exact x5 u (by omega) hd
          · rw [if_neg (by rw [im_le (by omega) (by omega)]; exact q2)]
            refine ih (i + 1) nn (nI i) (by omega) (by omega) (Or.inr ⟨i, by omega, rfl, q, by omega, fun u hu hd => ?_⟩)
            by_cases z : u = i
            · rw [z]; exact Nat.le_refl _
            · have := x5 u (by omega) hd
              omega
end
