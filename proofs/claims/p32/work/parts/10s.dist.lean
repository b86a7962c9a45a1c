/-! least times: what they are, and that the class's nine passes find them -/
def im_D (w : Nat → Nat → Nat) (A : Nat → Bool) (f : Nat) (T : Nat → Nat) : Prop :=
  T f = 0 ∧ (∀ v, T v ≤ 1000000) ∧ (∀ v, v ≠ f → T v < 1000000 → A v = true ∧ ∃ a, a < 10 ∧ 0 < w a v ∧ T a + w a v = T v) ∧ ∀ a b, T a < 1000000 → A b = true → 0 < w a b → T b ≤ T a + w a b
theorem im_cn_mono {p q : Nat → Bool} : ∀ k, (∀ u, u < k → p u = true → q u = true) → im_cn p k ≤ im_cn q k := by
  intro k
  induction k with
  | zero => intro _; exact Nat.le_refl _
  | succ k ih =>
    intro h
    have h1 := ih (fun u hu => h u (by omega))
    rw [im_cn_s, im_cn_s]
    by_cases z : p k = true
    · rw [if_pos z, if_pos (h k (by omega) z)]; omega
    · rw [if_neg z]; omega
theorem im_cn_less {p q : Nat → Bool} {a : Nat} (hp : ¬ p a = true) (hq : q a = true) : ∀ k, a < k → (∀ u, u < k → p u = true → q u = true) → im_cn p k < im_cn q k := by
  intro k
  induction k with
  | zero => intro h _; omega
  | succ k ih =>
    intro h0 h
    rw [im_cn_s, im_cn_s]
    by_cases e : a = k
    · subst e
      have h1 := im_cn_mono (p := p) (q := q) a (fun u hu => h u (by omega))
      rw [if_neg hp, if_pos hq]; omega
    · have h1 := ih (by omega) (fun u hu => h u (by omega))
      by_cases z : p k = true
      · rw [if_pos z, if_pos (h k (by omega) z)]; omega
      · rw [if_neg z]; omega
def im_rk (T : Nat → Nat) (v : Nat) : Nat := im_cn (fun u => decide (T u < T v)) 10
theorem im_rk_lt {T : Nat → Nat} {a v : Nat} (ha : a < 10) (h : T a < T v) : im_rk T a < im_rk T v :=
  im_cn_less (a := a) (by rw [decide_eq_true_iff]; omega) (decide_eq_true h) 10 ha (fun u _ z => by
    rw [decide_eq_true_iff] at z ⊢
    omega)
theorem im_rk_9 {T : Nat → Nat} {v : Nat} (hv : v < 10) : im_rk T v < 10 := by
  have h := im_cn_less (p := fun u => decide (T u < T v)) (q := fun _ => true) (a := v) (by rw [decide_eq_true_iff]; omega) rfl 10 hv (fun _ _ _ => rfl)
  have h2 := im_cn_le (fun _ => true) 10
  unfold im_rk
  omega
/-- the times of a row of the class -/
def im_tt (σ : iw_M) (c f : Nat) (t : Nat → Nat) : Prop := ∀ v, v < 10 → σ (c + 4) (f * 10 + v) = nI (t v)
def im_ww2 (σ : iw_M) (c : Nat) (w : Nat → Nat → Nat) : Prop := ∀ a b, a < 10 → b < 10 → σ (c + 1) (10 * a + b) = nI (w a b)
/-- all but the times of node f are as they were -/
def im_fr4 (σ σ' : iw_M) (c f : Nat) : Prop := (∀ r, r ≠ c + 4 → σ' r = σ r) ∧ ∀ j, ¬ (f * 10 ≤ j ∧ j < f * 10 + 10) → σ' (c + 4) j = σ (c + 4) j
theorem im_fr4_t {σ σ' σ'' : iw_M} {c f : Nat} (h : im_fr4 σ σ' c f) (h' : im_fr4 σ' σ'' c f) : im_fr4 σ σ'' c f :=
  ⟨fun r hr => (h'.1 r hr).trans (h.1 r hr), fun j hj => (h'.2 j hj).trans (h.2 j hj)⟩
section
variable {c f M : Nat} {w : Nat → Nat → Nat} {A : Nat → Bool} {T : Nat → Nat}
theorem im_bf67 (hp : im_path c) (hf : f < 10) (hM : M < 1024) (hA : ∀ v, v < 10 → M.testBit v = A v) (hw : ∀ a b, w a b < 21) (hD : im_D w A f T) {a : Nat} (ha : a < 10) (k : iw_M → Option iw_M) : ∀ (d b nn : Nat) (σ : iw_M) (t : Nat → Nat), b + d = 10 → d < nn → im_ww2 σ c w → im_tt σ c f t → (∀ v, T v ≤ t v ∧ t v ≤ 1000000) → ∃ σ' t', f_X2_findTimes_L67 c (nI M) (nI (f * 10)) (nI a) k nn (nI b) σ = k σ' ∧ im_tt σ' c f t' ∧ (∀ v, T v ≤ t' v ∧ t' v ≤ t v) ∧ (t a = T a → ∀ v, b ≤ v → v < 10 → A v = true → 0 < w a v → t' v ≤ T a + w a v) ∧ im_fr4 σ σ' c f := by
  obtain ⟨D0, D1, D2, D3⟩ := hD
  obtain ⟨g1, -, -, g4, -⟩ := im_al_p c hp
  intro d
  induction d with
  | zero =>
    intro b nn σ t h1 h2 hW hT hB
    obtain ⟨nn, rfl⟩ : ∃ q, nn = q + 1 := ⟨nn - 1, by omega⟩
    refine ⟨σ, t, ?_, hT, fun v => ⟨(hB v).1, Nat.le_refl _⟩, fun _ v v1 v2 => by omega, fun _ _ => rfl, fun _ _ => rfl⟩
    rw [s_X2_findTimes_67]
    unfold f_X2_findTimes_B67
    rw [if_pos (by rw [im_lit 10, im_le (by decide) (by omega)]; omega)]
  | succ d ih =>
    intro b nn σ t h1 h2 hW hT hB
    obtain ⟨nn, rfl⟩ : ∃ q, nn = q + 1 := ⟨nn - 1, by omega⟩
    have hb : b < 10 := by omega
    have wab := hw a b
    have ta := (hB a).2
    have tb := (hB b).2
    have e17 : f_X5_at (c + 1) (nI a * (10 : Int32) + nI b) σ = nI (w a b) := by
      rw [show (10 : Int32) = nI 10 from rfl, pk_mul, nI_add, im_at (by omega), Nat.mul_comm a 10]
      exact hW a b ha hb
    have e4a : f_X5_at (c + 4) (nI (f * 10) + nI a) σ = nI (t a) := by
      rw [nI_add, im_at (by omega)]
      exact hT a ha
    have e4b : f_X5_at (c + 4) (nI (f * 10) + nI b) σ = nI (t b) := by
      rw [nI_add, im_at (by omega)]
      exact hT b hb
    rw [s_X2_findTimes_67]
    unfold f_X2_findTimes_B67 f_X2_findTimes_J150
    rw [if_neg (by rw [im_lit 10, im_le (by decide) (by omega)]; omega)]
    simp only [im_let]
    rw [e17, e4a, e4b, nI_add, nI_1, im_holds hM hb, hA b hb]
    by_cases q1 : w a b = 0
    · obtain ⟨σ', t', x1, x2, x3, x4, x5⟩ := ih (b + 1) nn σ t (by omega) (by omega) hW hT hB
      refine ⟨σ', t', ?_, x2, x3, fun z v v1 v2 v3 v4 => ?_, x5⟩
      · rw [q1, if_pos (show nI 0 ≤ (0 : Int32) by decide)]; exact x1
      · by_cases e : v = b
        · subst e; omega
        · exact x4 z v (by omega) v2 v3 v4
    · rw [if_neg (show ¬ nI (w a b) ≤ (0 : Int32) by rw [show (0 : Int32) = nI 0 from rfl, im_le (by omega) (by decide)]; omega)]
      by_cases q2 : A b = true
      · rw [if_pos q2, if_neg (by decide)]
        by_cases q3 : t b ≤ t a + w a b
        · obtain ⟨σ', t', x1, x2, x3, x4, x5⟩ := ih (b + 1) nn σ t (by omega) (by omega) hW hT hB
          refine ⟨σ', t', ?_, x2, x3, fun z v v1 v2 v3 v4 => ?_, x5⟩
          · rw [if_pos (by rw [im_le (by omega) (by omega)]; exact q3)]; exact x1
          · by_cases e : v = b
            · subst e
              have := (x3 v).2
              omega
            · exact x4 z v (by omega) v2 v3 v4
        · have hTa : T a < 1000000 := by have := (hB a).1; omega
          have hD3 := D3 a b hTa q2 (by omega)
          obtain ⟨σ', t', x1, x2, x3, x4, x5⟩ := ih (b + 1) nn (iw_up σ (c + 4) (f * 10 + b) (nI (t a + w a b))) (fun x => if x = b then t a + w a b else t x) (by omega) (by omega) (fun x y hx hy => by rw [im_upo (by omega)]; exact hW x y hx hy) (fun v hv => by
              rw [im_up1]
              show _ = nI (if v = b then t a + w a b else t v)
              by_cases e : v = b
              · rw [if_pos (by omega), if_pos e]
              · rw [if_neg (by omega), if_neg e]; exact hT v hv) (fun v => by
              have := (hB a).1
              by_cases e : v = b
              · rw [if_pos e, e]; omega
              · rw [if_neg e]; exact hB v)
          refine ⟨σ', t', ?_, x2, fun v => ?_, fun z v v1 v2 v3 v4 => ?_, im_fr4_t ⟨fun r hr => iw_up_ne hr, fun j hj => im_upn (by omega)⟩ x5⟩
          · rw [if_neg (show ¬ nI (t b) ≤ nI (t a + w a b) by rw [im_le (by omega) (by omega)]; exact q3), nI_add, im_put (by omega)]
            exact x1
          · have := x3 v
            by_cases e : v = b
            · rw [if_pos e] at this
              subst e
              omega
            · rw [if_neg e] at this
              exact this
          · by_cases e : v = b
            · have y := (x3 v).2
              rw [if_pos e] at y
              subst e
              omega
            · have z' : (if a = b then t a + w a b else t a) = T a := by
                by_cases e2 : a = b
                · subst e2; omega
                · rw [if_neg e2]; exact z
              exact x4 z' v (by omega) v2 v3 v4
      · obtain ⟨σ', t', x1, x2, x3, x4, x5⟩ := ih (b + 1) nn σ t (by omega) (by omega) hW hT hB
        refine ⟨σ', t', ?_, x2, x3, fun z v v1 v2 v3 v4 => ?_, x5⟩
        · rw [if_neg q2, if_pos rfl]; exact x1
        · by_cases e : v = b
          · subst e; exact absurd v3 q2
          · exact x4 z v (by omega) v2 v3 v4
theorem im_bf57 {n : Nat} (hn : 4096 ≤ n) (hp : im_path c) (hf : f < 10) (hM : M < 1024) (hA : ∀ v, v < 10 → M.testBit v = A v) (hw : ∀ a b, w a b < 21) (hD : im_D w A f T) (k : iw_M → Option iw_M) : ∀ (d a nn : Nat) (σ : iw_M) (t : Nat → Nat), a + d = 10 → d < nn → im_ww2 σ c w → im_tt σ c f t → (∀ v, T v ≤ t v ∧ t v ≤ 1000000) → ∃ σ' t', f_X2_findTimes_L57 n c (nI M) (nI (f * 10)) k nn (nI a) σ = k σ' ∧ im_tt σ' c f t' ∧ (∀ v, T v ≤ t' v ∧ t' v ≤ t v) ∧ (∀ x, a ≤ x → x < 10 → t x = T x → ∀ v, v < 10 → A v = true → 0 < w x v → t' v ≤ T x + w x v) ∧ im_fr4 σ σ' c f := by
  intro d
  induction d with
  | zero =>
    intro a nn σ t h1 h2 hW hT hB
    obtain ⟨nn, rfl⟩ : ∃ q, nn = q + 1 := ⟨nn - 1, by omega⟩
    refine ⟨σ, t, ?_, hT, fun v => ⟨(hB v).1, Nat.le_refl _⟩, fun x x1 x2 => by omega, fun _ _ => rfl, fun _ _ => rfl⟩
    rw [s_X2_findTimes_57]
    unfold f_X2_findTimes_B57
    rw [if_pos (by rw [im_lit 10, im_le (by decide) (by omega)]; omega)]
  | succ d ih =>
    intro a nn σ t h1 h2 hW hT hB
    obtain ⟨nn, rfl⟩ : ∃ q, nn = q + 1 := ⟨nn - 1, by omega⟩
    obtain ⟨σ1, t1, y1, y2, y3, y4, y5⟩ := im_bf67 hp hf hM hA hw hD (show a < 10 by omega) (f_X2_findTimes_X156_67 (f_X2_findTimes_L57 n c (nI M) (nI (f * 10)) k nn) (nI a)) 10 0 n σ t (by omega) (by omega) hW hT hB
    obtain ⟨σ', t', x1, x2, x3, x4, x5⟩ := ih (a + 1) nn σ1 t1 (by omega) (by omega) (fun x y hx hy => by rw [y5.1 (c + 1) (by omega)]; exact hW x y hx hy) y2 (fun v => ⟨(y3 v).1, Nat.le_trans (y3 v).2 (hB v).2⟩)
    refine ⟨σ', t', ?_, x2, fun v => ⟨(x3 v).1, Nat.le_trans (x3 v).2 (y3 v).2⟩, fun x z1 z2 z3 v v1 v2 v3 => ?_, im_fr4_t y5 x5⟩
    · rw [s_X2_findTimes_57]
      unfold f_X2_findTimes_B57
      rw [if_neg (by rw [im_lit 10, im_le (by decide) (by omega)]; omega), show (0 : Int32) = nI 0 from rfl, y1]
      unfold f_X2_findTimes_X156_67
      rw [im_let, nI_1]
      exact x1
    · by_cases e : x = a
      · subst e
        have := y4 z3 v (Nat.zero_le _) v1 v2 v3
        have := (x3 v).2
        omega
      · exact x4 x (by omega) z2 (by have := y3 x; omega) v v1 v2 v3
theorem im_bf47 {n : Nat} (hn : 4096 ≤ n) (hp : im_path c) (hf : f < 10) (hM : M < 1024) (hA : ∀ v, v < 10 → M.testBit v = A v) (hw : ∀ a b, w a b < 21) (hD : im_D w A f T) (k : iw_M → Option iw_M) : ∀ (d p nn : Nat) (σ : iw_M) (t : Nat → Nat), 1 ≤ p → p + d = 10 → d < nn → im_ww2 σ c w → im_tt σ c f t → (∀ v, T v ≤ t v ∧ t v ≤ 1000000) → (∀ v, v < 10 → T v < 1000000 → im_rk T v < p → t v = T v) → ∃ σ', f_X2_findTimes_L47 n c (nI M) (nI (f * 10)) k nn (nI p) σ = k σ' ∧ im_tt σ' c f T ∧ im_fr4 σ σ' c f := by
  intro d
  induction d with
  | zero =>
    intro p nn σ t h0 h1 h2 hW hT hB hS
    obtain ⟨nn, rfl⟩ : ∃ q, nn = q + 1 := ⟨nn - 1, by omega⟩
    refine ⟨σ, ?_, fun v hv => ?_, fun _ _ => rfl, fun _ _ => rfl⟩
    · rw [s_X2_findTimes_47]
      unfold f_X2_findTimes_B47
      rw [if_pos (by rw [im_lit 10, im_le (by decide) (by omega)]; omega)]
    · rw [hT v hv]
      congr 1
      by_cases q : T v < 1000000
      · exact hS v hv q (by have := im_rk_9 (T := T) hv; omega)
      · have := hB v
        omega
  | succ d ih =>
    intro p nn σ t h0 h1 h2 hW hT hB hS
    obtain ⟨nn, rfl⟩ : ∃ q, nn = q + 1 := ⟨nn - 1, by omega⟩
    obtain ⟨σ1, t1, y1, y2, y3, y4, y5⟩ := im_bf57 hn hp hf hM hA hw hD (f_X2_findTimes_X162_57 (f_X2_findTimes_L47 n c (nI M) (nI (f * 10)) k nn) (nI p)) 10 0 n σ t (by omega) (by omega) hW hT hB
    obtain ⟨σ', x1, x2, x3⟩ := ih (p + 1) nn σ1 t1 (by omega) (by omega) (by omega) (fun x y hx hy => by rw [y5.1 (c + 1) (by omega)]; exact hW x y hx hy) y2 (fun v => ⟨(y3 v).1, Nat.le_trans (y3 v).2 (hB v).2⟩) (fun v v1 v2 v3 => by
      have u := y3 v
      by_cases e : im_rk T v < p
      · have := hS v v1 v2 e
        omega
      · by_cases ef : v = f
        · subst ef
          have hv0 := hD.1
          have hr : im_rk T v = 0 := by
            unfold im_rk
            have : ∀ k, im_cn (fun u => decide (T u < T v)) k = 0 := by
              intro k
              induction k with
              | zero => rfl
              | succ k ih =>
                rw [im_cn_s, ih, if_neg (by rw [decide_eq_true_iff]; omega)]
            exact this 10
          exact absurd (show im_rk T v < p by omega) e
        · obtain ⟨hAv, a, a1, a2, a3⟩ := hD.2.2.1 v ef v2
          have hr := im_rk_lt (T := T) a1 (show T a < T v by omega)
          have := y4 a (Nat.zero_le _) a1 (hS a a1 (by omega) (by omega)) v v1 hAv a2
          omega)
    refine ⟨σ', ?_, x2, im_fr4_t y5 x3⟩
    rw [s_X2_findTimes_47]
    unfold f_X2_findTimes_B47
    rw [if_neg (by rw [im_lit 10, im_le (by decide) (by omega)]; omega), show (0 : Int32) = nI 0 from rfl, y1]
    unfold f_X2_findTimes_X162_57
    rw [im_let, nI_1]
    exact x1
/-- the times before the passes -/
def im_t0 (f v : Nat) : Nat := if v = f then 0 else 1000000
theorem im_bf8 (hp : im_path c) (hf : f < 10) (k : iw_M → Option iw_M) : ∀ (d i nn : Nat) (σ : iw_M), i + d = 10 → d < nn → ∃ σ', f_X2_findTimes_L8 c (nI f) (nI (f * 10)) k nn (nI i) σ = k σ' ∧ (∀ v, i ≤ v → v < 10 → σ' (c + 4) (f * 10 + v) = nI (im_t0 f v)) ∧ (∀ r, r ≠ c + 4 → σ' r = σ r) ∧ ∀ j, ¬ (f * 10 + i ≤ j ∧ j < f * 10 + 10) → σ' (c + 4) j = σ (c + 4) j := by
  obtain ⟨g1, -, -, g4, -⟩ := im_al_p c hp
  intro d
  induction d with
  | zero =>
    intro i nn σ h1 h2
    obtain ⟨nn, rfl⟩ : ∃ q, nn = q + 1 := ⟨nn - 1, by omega⟩
    refine ⟨σ, ?_, fun v v1 v2 => by omega, fun _ _ => rfl, fun _ _ => rfl⟩
    rw [s_X2_findTimes_8]
    unfold f_X2_findTimes_B8
    rw [if_pos (by rw [im_lit 10, im_le (by decide) (by omega)]; omega)]
  | succ d ih =>
    intro i nn σ h1 h2
    obtain ⟨nn, rfl⟩ : ∃ q, nn = q + 1 := ⟨nn - 1, by omega⟩
    obtain ⟨σ', x1, x2, x3, x4⟩ := ih (i + 1) nn (iw_up σ (c + 4) (f * 10 + i) (nI (im_t0 f i))) (by omega) (by omega)
    refine ⟨σ', ?_, fun v v1 v2 => ?_, fun r hr => (x3 r hr).trans (iw_up_ne hr), fun j hj => (x4 j (by omega)).trans (im_upn (by omega))⟩
    · rw [s_X2_findTimes_8]
      unfold f_X2_findTimes_B8 f_X2_findTimes_J35
      rw [if_neg (by rw [im_lit 10, im_le (by decide) (by omega)]; omega)]
      simp only [im_let]
      rw [nI_add, im_put (by omega), im_put (by omega), nI_1, ← x1]
      unfold im_t0
      by_cases e : i = f
      · rw [if_pos e, if_pos (by rw [e])]; rfl
      · rw [if_neg e, if_neg (by rw [im_eq (by omega) (by omega)]; exact e)]; rfl
    · by_cases e : v = i
      · subst e
        rw [x4 _ (by omega), im_ups]
      · exact x2 v (by omega) v2
theorem im_findTimes {n : Nat} (hn : 4096 ≤ n) (hp : im_path c) (hf : f < 10) (hM : M < 1024) (hA : ∀ v, v < 10 → M.testBit v = A v) (hw : ∀ a b, w a b < 21) (hD : im_D w A f T) {σ : iw_M} (hW : im_ww2 σ c w) : ∃ σ', f_X2_findTimes n c (nI f) (nI M) σ = some σ' ∧ im_tt σ' c f T ∧ im_fr4 σ σ' c f := by
  obtain ⟨σ1, x1, x2, x3, x4⟩ := im_bf8 hp hf (f_X2_findTimes_X44_8 n c (nI M) (nI (f * 10))) 10 0 n σ (by omega) (by omega)
  obtain ⟨σ', y1, y2, y3⟩ := im_bf47 hn hp hf hM hA hw hD f_X2_findTimes_X168_47 9 1 n σ1 (im_t0 f) (by omega) (by omega) (by omega) (fun a b ha hb => by rw [x3 (c + 1) (by omega)]; exact hW a b ha hb) (fun v hv => x2 v (Nat.zero_le _) hv) (fun v => by
    have h1 := hD.2.1 v
    have h0 := hD.1
    unfold im_t0
    by_cases e : v = f
    · rw [if_pos e, e]; omega
    · rw [if_neg e]; omega) (fun v v1 v2 v3 => by
    unfold im_t0
    by_cases e : v = f
    · rw [if_pos e, e]; exact hD.1.symm
    · obtain ⟨-, a, a1, a2, a3⟩ := hD.2.2.1 v e v2
      have := im_rk_lt (T := T) a1 (show T a < T v by omega)
      omega)
  refine ⟨σ', ?_, y2, im_fr4_t ⟨x3, fun j hj => x4 j (by omega)⟩ y3⟩
  unfold f_X2_findTimes
  rw [im_let, show (10 : Int32) = nI 10 from rfl, pk_mul, show (0 : Int32) = nI 0 from rfl, x1]
  unfold f_X2_findTimes_X44_8
  rw [show (1 : Int32) = nI 1 from rfl, y1]
  rfl
/-- the node before v, or none: the first whose time and delay make up v's time -/
def im_bf (w : Nat → Nat → Nat) (T : Nat → Nat) (v : Nat) : Nat → Nat → Int32
  | 0, _ => -1
  | d + 1, u => if 0 < w u v ∧ T u + w u v = T v then nI u else im_bf w T v d (u + 1)
theorem im_bf_s (w : Nat → Nat → Nat) (T : Nat → Nat) (v d u : Nat) : im_bf w T v (d + 1) u = if 0 < w u v ∧ T u + w u v = T v then nI u else im_bf w T v d (u + 1) := rfl
theorem im_nb8 (hp : im_path c) (hf : f < 10) (hw : ∀ a b, w a b < 21) (hT : ∀ v, T v ≤ 1000000) {σ : iw_M} (hW : im_ww2 σ c w) (hTT : im_tt σ c f T) {v : Nat} (hv : v < 10) : ∀ (d u nn : Nat), u + d = 10 → d < nn → f_X2_findNodeBefore_L8 c (nI v) σ (nI (f * 10)) f_X2_findNodeBefore_X72_8 nn (nI u) = some (im_bf w T v d u) := by
  obtain ⟨g1, -, -, g4, -⟩ := im_al_p c hp
  intro d
  induction d with
  | zero =>
    intro u nn h1 h2
    obtain ⟨nn, rfl⟩ : ∃ q, nn = q + 1 := ⟨nn - 1, by omega⟩
    rw [s_X2_findNodeBefore_8]
    unfold f_X2_findNodeBefore_B8
    rw [if_pos (by rw [im_lit 10, im_le (by decide) (by omega)]; omega)]
    rfl
  | succ d ih =>
    intro u nn h1 h2
    obtain ⟨nn, rfl⟩ : ∃ q, nn = q + 1 := ⟨nn - 1, by omega⟩
    have hu : u < 10 := by omega
    have wuv := hw u v
    have tu := hT u
    have tv := hT v
    have e17 : f_X5_at (c + 1) (nI u * (10 : Int32) + nI v) σ = nI (w u v) := by
      rw [show (10 : Int32) = nI 10 from rfl, pk_mul, nI_add, im_at (by omega), Nat.mul_comm u 10]
      exact hW u v hu hv
    have e4u : f_X5_at (c + 4) (nI (f * 10) + nI u) σ = nI (T u) := by
      rw [nI_add, im_at (by omega)]
      exact hTT u hu
    have e4v : f_X5_at (c + 4) (nI (f * 10) + nI v) σ = nI (T v) := by
      rw [nI_add, im_at (by omega)]
      exact hTT v hv
    rw [s_X2_findNodeBefore_8]
    unfold f_X2_findNodeBefore_B8 f_X2_findNodeBefore_J66
    rw [if_neg (by rw [im_lit 10, im_le (by decide) (by omega)]; omega)]
    simp only [im_let]
    rw [e17, e4u, e4v, nI_add, nI_1, ih (u + 1) nn (by omega) (by omega), im_bf_s]
    by_cases q1 : w u v = 0
    · rw [q1, if_pos (show nI 0 ≤ (0 : Int32) by decide), if_neg (by omega)]
    · rw [if_neg (show ¬ nI (w u v) ≤ (0 : Int32) by rw [show (0 : Int32) = nI 0 from rfl, im_le (by omega) (by decide)]; omega)]
      by_cases q2 : T u + w u v = T v
      · rw [if_pos (by rw [q2]), if_pos ⟨by omega, q2⟩]
      · rw [if_neg (by rw [im_eq (by omega) (by omega)]; exact q2), if_neg (by omega)]
/-- what the class keeps of one node's ways: times, the nodes before, who is reached -/
def im_exp (σ : iw_M) (c f : Nat) (w : Nat → Nat → Nat) (T : Nat → Nat) : Prop := im_tt σ c f T ∧ (∀ v, v < 10 → σ (c + 5) (f * 10 + v) = im_bf w T v 10 0) ∧ σ (c + 3) f = nI (im_mk (fun v => decide (T v < 1000000)) 10)
theorem im_ex33 {n : Nat} (hn : 4096 ≤ n) (hp : im_path c) (hf : f < 10) (hw : ∀ a b, w a b < 21) (hT : ∀ v, T v ≤ 1000000) (k : Int32 → iw_M → Option iw_M) : ∀ (d i nn : Nat) (σ : iw_M), i + d = 10 → d < nn → im_ww2 σ c w → im_tt σ c f T → ∃ σ', f_X2_explore_L33 n c (nI f) k nn (nI (im_mk (fun v => decide (T v < 1000000)) i)) (nI i) σ = k (nI (im_mk (fun v => decide (T v < 1000000)) 10)) σ' ∧ (∀ v, i ≤ v → v < 10 → σ' (c + 5) (f * 10 + v) = im_bf w T v 10 0) ∧ (∀ r, r ≠ c + 5 → σ' r = σ r) ∧ ∀ j, ¬ (f * 10 + i ≤ j ∧ j < f * 10 + 10) → σ' (c + 5) j = σ (c + 5) j := by
  obtain ⟨g1, -, -, g4, g5⟩ := im_al_p c hp
  intro d
  induction d with
  | zero =>
    intro i nn σ h1 h2 hW hTT
    obtain ⟨nn, rfl⟩ : ∃ q, nn = q + 1 := ⟨nn - 1, by omega⟩
    refine ⟨σ, ?_, fun v v1 v2 => by omega, fun _ _ => rfl, fun _ _ => rfl⟩
    rw [s_X2_explore_33]
    unfold f_X2_explore_B33
    rw [if_pos (by rw [im_lit 10, im_le (by decide) (by omega)]; omega), show i = 10 by omega]
  | succ d ih =>
    intro i nn σ h1 h2 hW hTT
    obtain ⟨nn, rfl⟩ : ∃ q, nn = q + 1 := ⟨nn - 1, by omega⟩
    have hi : i < 10 := by omega
    have ti := hT i
    obtain ⟨σ', x1, x2, x3, x4⟩ := ih (i + 1) nn (iw_up σ (c + 5) (f * 10 + i) (im_bf w T i 10 0)) (by omega) (by omega) (fun a b ha hb => by rw [im_upo (by omega)]; exact hW a b ha hb) (fun v hv => by rw [im_upo (by omega)]; exact hTT v hv)
    refine ⟨σ', ?_, fun v v1 v2 => ?_, fun r hr => (x3 r hr).trans (iw_up_ne hr), fun j hj => (x4 j (by omega)).trans (im_upn (by omega))⟩
    · have eb : f_X2_findNodeBefore n c (nI f) (nI i) σ = some (im_bf w T i 10 0) := by
        unfold f_X2_findNodeBefore
        rw [im_let, show (10 : Int32) = nI 10 from rfl, pk_mul, show (0 : Int32) = nI 0 from rfl]
        exact im_nb8 hp hf hw hT hW hTT hi 10 0 n (by omega) (by omega)
      have et : f_X2_timeOf c (nI f) (nI i) (iw_up σ (c + 5) (f * 10 + i) (im_bf w T i 10 0)) = nI (T i) := by
        unfold f_X2_timeOf
        rw [show (10 : Int32) = nI 10 from rfl, pk_mul, nI_add, im_at (by omega), im_upo (by omega)]
        exact hTT i hi
      rw [im_mk_s] at x1
      rw [s_X2_explore_33]
      unfold f_X2_explore_B33 f_X2_explore_J80
      rw [if_neg (by rw [im_lit 10, im_le (by decide) (by omega)]; omega), eb, im_bind]
      simp only [im_let]
      rw [show (10 : Int32) = nI 10 from rfl, pk_mul, nI_add, im_put (by omega), et, nI_1]
      by_cases q : T i < 1000000
      · rw [if_pos (decide_eq_true q)] at x1
        rw [if_neg (show ¬ (1000000 : Int32) ≤ nI (T i) by rw [im_lit 1000000, im_le (by decide) (by omega)]; omega), im_lor ⟨_, im_mk_1024 _ (show i ≤ 10 by omega)⟩ ⟨i, hi⟩]
        exact x1
      · rw [if_neg (by rw [decide_eq_true_iff]; exact q)] at x1
        rw [if_pos (show (1000000 : Int32) ≤ nI (T i) by rw [im_lit 1000000, im_le (by decide) (by omega)]; omega)]
        exact x1
    · by_cases e : v = i
      · subst e
        rw [x4 _ (by omega), im_ups]
      · exact x2 v (by omega) v2
/-- exploring from f, when the keep does not stand yet -/
theorem im_explore {n : Nat} (hn : 4096 ≤ n) (hp : im_path c) (hf : f < 10) (hM : M < 1024) (hA : ∀ v, v < 10 → M.testBit v = A v) (hw : ∀ a b, w a b < 21) (hD : im_D w A f T) {σ : iw_M} (hW : im_ww2 σ c w) (hk : σ (c + 2) f = nI M → im_exp σ c f w T) : ∃ σ', f_X2_explore n c (nI f) (nI M) σ = some σ' ∧ im_exp σ' c f w T ∧ σ' (c + 2) f = nI M ∧ (∀ r, r ≠ c + 2 → r ≠ c + 3 → r ≠ c + 4 → r ≠ c + 5 → σ' r = σ r) ∧ (∀ j, j ≠ f → σ' (c + 2) j = σ (c + 2) j ∧ σ' (c + 3) j = σ (c + 3) j) ∧ ∀ j, ¬ (f * 10 ≤ j ∧ j < f * 10 + 10) → σ' (c + 4) j = σ (c + 4) j ∧ σ' (c + 5) j = σ (c + 5) j := by
  obtain ⟨g1, g2, g3, g4, g5⟩ := im_al_p c hp
  unfold f_X2_explore
  rw [im_at (by omega)]
  by_cases q : σ (c + 2) f = nI M
  · rw [if_pos q]
    exact ⟨σ, rfl, hk q, q, fun _ _ _ _ _ => rfl, fun _ _ => ⟨rfl, rfl⟩, fun _ _ => ⟨rfl, rfl⟩⟩
  · rw [if_neg q, im_let, im_put (by omega)]
    obtain ⟨σ1, x1, x2, x3⟩ := im_findTimes hn hp hf hM hA hw hD (σ := iw_up σ (c + 2) f (nI M)) (fun a b ha hb => by rw [im_upo (by omega)]; exact hW a b ha hb)
    obtain ⟨σ2, y1, y2, y3, y4⟩ := im_ex33 hn hp hf hw hD.2.1 (f_X2_explore_X86_33 c (nI f)) 10 0 n σ1 (by omega) (by omega) (fun a b ha hb => by rw [x3.1 (c + 1) (by omega), im_upo (by omega)]; exact hW a b ha hb) x2
    refine ⟨iw_up σ2 (c + 3) f (nI (im_mk (fun v => decide (T v < 1000000)) 10)), ?_, ⟨fun v hv => ?_, fun v hv => ?_, im_ups⟩, ?_, fun r r2 r3 r4 r5 => ?_, fun j hj => ⟨?_, ?_⟩, fun j hj => ⟨?_, ?_⟩⟩
    · rw [x1, im_bind, show f_X2_explore_L33 n c (nI f) (f_X2_explore_X86_33 c (nI f)) n (0 : Int32) (0 : Int32) σ1 = f_X2_explore_L33 n c (nI f) (f_X2_explore_X86_33 c (nI f)) n (nI (im_mk (fun v => decide (T v < 1000000)) 0)) (nI 0) σ1 from rfl, y1]
      unfold f_X2_explore_X86_33
      rw [im_let, im_put (by omega)]
    · rw [im_upo (by omega), y3 (c + 4) (by omega)]
      exact x2 v hv
    · rw [im_upo (by omega)]
      exact y2 v (Nat.zero_le _) hv
    · rw [im_upo (by omega), y3 (c + 2) (by omega), x3.1 (c + 2) (by omega), im_ups]
    · rw [iw_up_ne r3, y3 r r5, x3.1 r r4, iw_up_ne r2]
    · rw [im_upo (by omega), y3 (c + 2) (by omega), x3.1 (c + 2) (by omega), im_upn hj]
    · rw [im_upn hj, y3 (c + 3) (by omega), x3.1 (c + 3) (by omega), im_upo (by omega)]
    · rw [im_upo (by omega), y3 (c + 4) (by omega), x3.2 j hj, im_upo (by omega)]
    · rw [im_upo (by omega), y4 j (by omega), x3.1 (c + 5) (by omega), im_upo (by omega)]
end
