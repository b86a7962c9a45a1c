/-! least times are the same both ways, and the law's areTimesSound answers true -/
theorem im_dl_sym (ρ : Nat → Int32) (a b : Nat) : im_dl ρ a b = im_dl ρ b a := by
  unfold im_dl
  have key : ∀ i, im_dr ρ a b i = im_dr ρ b a i := by
    intro i
    induction i with
    | zero => rfl
    | succ i ih =>
      rw [im_dr_s, im_dr_s, ih]
      have e : im_lkb ρ i a b = im_lkb ρ i b a := by
        unfold im_lkb
        rw [Bool.or_comm]
      rw [e]
  exact key _
theorem ip_T180 {ρ : Nat → Int32} (hw : im_WF ρ) {A : Nat → Bool} {f : Nat} {T : Nat → Nat} (hD : im_D (im_dl ρ) A f T) : ∀ (x v : Nat), im_rk T v ≤ x → T v < 1000000 → T v ≤ 20 * im_rk T v := by
  intro x
  induction x with
  | zero =>
    intro v h1 h2
    by_cases q : v = f
    · rw [q, hD.1]; exact Nat.zero_le _
    · obtain ⟨-, a, a1, a2, a3⟩ := hD.2.2.1 v q h2
      have := im_rk_lt (T := T) (v := v) a1 (by omega)
      omega
  | succ x ih =>
    intro v h1 h2
    by_cases q : v = f
    · rw [q, hD.1]; exact Nat.zero_le _
    · obtain ⟨-, a, a1, a2, a3⟩ := hD.2.2.1 v q h2
      have h3 := im_rk_lt (T := T) (v := v) a1 (by omega)
      have h4 := ih a (by omega) (by omega)
      have h5 := im_dl_lt hw a v
      omega
theorem ip_T200 {ρ : Nat → Int32} (hw : im_WF ρ) {A : Nat → Bool} {f : Nat} {T : Nat → Nat} (hD : im_D (im_dl ρ) A f T) {v : Nat} (hv : v < 10) (h : T v < 1000000) : T v ≤ 200 := by
  have h1 := ip_T180 hw hD _ v (Nat.le_refl _) h
  have h2 := im_rk_9 (T := T) hv
  omega
theorem ip_T_way {ρ : Nat → Int32} {A : Nat → Bool} {f v : Nat} {T T' : Nat → Nat} (hf : A f = true) (hD : im_D (im_dl ρ) A f T) (hD' : im_D (im_dl ρ) A v T') : ∀ (x u : Nat), T u ≤ x → T u < 1000000 → T' u < 1000000 → T' f ≤ T' u + T u := by
  intro x
  induction x with
  | zero =>
    intro u h1 h2 h3
    by_cases q : u = f
    · rw [q]; exact Nat.le_add_right _ _
    · obtain ⟨-, a, a1, a2, a3⟩ := hD.2.2.1 u q h2
      omega
  | succ x ih =>
    intro u h1 h2 h3
    by_cases q : u = f
    · rw [q]; exact Nat.le_add_right _ _
    · obtain ⟨-, a, a1, a2, a3⟩ := hD.2.2.1 u q h2
      have hA : A a = true := by
        by_cases z : a = f
        · rw [z]; exact hf
        · exact (hD.2.2.1 a z (by omega)).1
      have h4 := hD'.2.2.2 u a h3 hA (by rw [im_dl_sym]; exact a2)
      rw [im_dl_sym ρ u a] at h4
      by_cases z : T' a < 1000000
      · have := ih a (by omega) (by omega) z
        omega
      · have := hD'.2.1 f
        omega
theorem ip_T_sym {ρ : Nat → Int32} {A : Nat → Bool} {f v : Nat} {T T' : Nat → Nat} (hf : A f = true) (hv : A v = true) (hD : im_D (im_dl ρ) A f T) (hD' : im_D (im_dl ρ) A v T') : T v = T' f := by
  have h1 : T v < 1000000 → T' f ≤ T v := fun q => by
    have := ip_T_way hf hD hD' _ v (Nat.le_refl _) q (by rw [hD'.1]; decide)
    rw [hD'.1] at this
    omega
  have h2 : T' f < 1000000 → T v ≤ T' f := fun q => by
    have := ip_T_way hv hD' hD _ f (Nat.le_refl _) q (by rw [hD.1]; decide)
    rw [hD.1] at this
    omega
  have b1 := hD.2.1 v
  have b2 := hD'.2.1 f
  omega
theorem ip_q_sym {ρ : Nat → Int32} (hw : im_WF ρ) {f v : Nat} (hf : f < 10) (hv : v < 10) : ip_q ρ f v = ip_q ρ v f := by
  unfold ip_q
  by_cases c : im_av ρ f = true ∧ im_av ρ v = true
  · rw [ip_T_sym c.1 c.2 (ip_tf_ok hw hf c.1) (ip_tf_ok hw hv c.2)]
    by_cases z : ip_tf ρ v f < 1000000
    · rw [if_pos ⟨c.1, c.2, z⟩, if_pos ⟨c.2, c.1, z⟩]
    · rw [if_neg (fun y => z y.2.2), if_neg (fun y => z y.2.2)]
  · rw [if_neg (fun y => c ⟨y.1, y.2.1⟩), if_neg (fun y => c ⟨y.2.1, y.1⟩)]
theorem ip_q_no {ρ : Nat → Int32} (hw : im_WF ρ) {f v : Nat} (hf : f < 10) (hv : v < 10) : (ip_q ρ f v = -1000 ∧ ¬ (im_av ρ f = true ∧ im_av ρ v = true ∧ ip_tf ρ f v < 1000000)) ∨ (ip_q ρ f v = nI (ip_tf ρ f v) ∧ ¬ ip_q ρ f v = -1000 ∧ im_av ρ f = true ∧ im_av ρ v = true ∧ ip_tf ρ f v ≤ 200) := by
  unfold ip_q
  by_cases c : im_av ρ f = true ∧ im_av ρ v = true ∧ ip_tf ρ f v < 1000000
  · have h2 := ip_T200 hw (ip_tf_ok hw hf c.1) hv c.2.2
    rw [if_pos c]
    exact Or.inr ⟨rfl, im_neN (by omega), c.1, c.2.1, h2⟩
  · rw [if_neg c]
    exact Or.inl ⟨rfl, c⟩
theorem ip_av_al {ρ : Nat → Int32} {v : Nat} (hv : v < im_tn (ρ 0)) : im_av ρ v = decide (0 < ρ (12 + v)) := by
  unfold im_av im_al
  rw [decide_eq_true hv, Bool.true_and]
/-- link l goes from n to o, takes d; over it n's time from f is the one told -/
def ip_gv (ρ : Nat → Int32) (f n l : Nat) : Prop := ∃ o, im_lk ρ l n o ∧ o < 10 ∧ ¬ ip_q ρ f o = -1000 ∧ ip_q ρ f o + ρ (22 + 3 * l + 2) = ip_q ρ f n
theorem s_L_areTimesSound_99 (n : Nat) (p2 v2 v6 : Int32) (k : Int32 → iw_M → Option (Int32 × iw_M)) (nn : Nat) : f_L_areTimesSound_L99 n p2 v2 v6 k (nn + 1) = f_L_areTimesSound_B99 n p2 v2 v6 k (f_L_areTimesSound_L99 n p2 v2 v6 k nn) := rfl
theorem s_L_areTimesSound_2 (n : Nat) (p2 : Int32) (k : iw_M → Option (Int32 × iw_M)) (nn : Nat) : f_L_areTimesSound_L2 n p2 k (nn + 1) = f_L_areTimesSound_B2 n p2 k (f_L_areTimesSound_L2 n p2 k nn) := rfl
/-- over each link the times fit -/
theorem ip_fit {ρ : Nat → Int32} (hw : im_WF ρ) {f n o l : Nat} (hf : f < 10) (hn : n < im_tn (ρ 0)) (hl : l < im_tn (ρ 1)) (hk : im_lk ρ l n o) (ho : o < 10) (hq : ¬ ip_q ρ f o = -1000) (he : ¬ ρ (12 + n) ≤ 0) : ¬ ip_q ρ f n = -1000 ∧ ip_q ρ f n ≤ ip_q ρ f o + ρ (22 + 3 * l + 2) := by
  have b0 := hw.1.1.1
  rcases ip_q_no hw hf ho with ⟨a, -⟩ | ⟨a1, a2, a3, a4, a5⟩
  · exact absurd a hq
  · have hD := ip_tf_ok hw hf a3
    have hav : im_av ρ n = true := by rw [ip_av_al hn]; exact decide_eq_true (Int32.not_le.mp he)
    obtain ⟨d1, d2, d3⟩ := im_dl_1 hw hl (im_lk_sym hk)
    have h1 := hD.2.2.2 o n (by omega) hav d2
    have hT : ip_tf ρ f n < 1000000 := by omega
    have e1 : ip_q ρ f n = nI (ip_tf ρ f n) := if_pos ⟨a3, hav, hT⟩
    have w2 := (hw.2.1 l hl).2.2.1.2
    rw [e1, a1, w2, nI_add, ← d1]
    exact ⟨im_neN (by omega), by rw [im_le (by omega) (by omega)]; exact h1⟩
theorem ip_at99 {ρ : Nat → Int32} {x84 : Nat → Int32} {f n : Nat} (hf : f < im_tn (ρ 0)) (hn : n < im_tn (ρ 0)) (k : Int32 → iw_M → Option (Int32 × iw_M)) : ∀ (d l nn : Nat) (σ : iw_M) (g : Int32), l + d = im_tn (ρ 1) → d < nn → ip_G σ ρ → σ 84 = x84 → (g = 0 ∨ g = 1) → (g = 1 ∨ ∃ l', l ≤ l' ∧ l' < im_tn (ρ 1) ∧ ip_gv ρ f n l') → ∃ σ', ip_G σ' ρ ∧ σ' 84 = x84 ∧ f_L_areTimesSound_L99 4096 (nI f) (nI n) (ip_q ρ f n) k nn g (nI l) σ = k 1 σ' := by
  intro d
  induction d with
  | zero =>
    intro l nn σ g h1 h2 hG h84 hg hx
    obtain ⟨nn, rfl⟩ : ∃ q, nn = q + 1 := ⟨nn - 1, by omega⟩
    have b1 := hG.2.1.1.2.1
    have b1' := b1.1
    refine ⟨σ, hG, h84, ?_⟩
    rw [s_L_areTimesSound_99]
    unfold f_L_areTimesSound_B99
    rw [ip_c1 hG, im_bind, if_pos (by rw [im_le (by omega) (by omega)]; omega)]
    rcases hx with hx | ⟨l', y1, y2, -⟩
    · rw [hx]
    · omega
  | succ d ih =>
    intro l nn σ g h1 h2 hG h84 hg hx
    obtain ⟨nn, rfl⟩ : ∃ q, nn = q + 1 := ⟨nn - 1, by omega⟩
    have hW := hG.2.1
    have b0 := hW.1.1.1
    have b1 := hW.1.2.1
    have b1' := b1.1
    have hl : l < im_tn (ρ 1) := by omega
    obtain ⟨w1, w2, w3, w4, w5⟩ := hW.2.1 l hl
    have e0 : f_X5_linkPart (nI l) (0 : Int32) σ = nI (im_tn (ρ (22 + 3 * l))) := (op_linkPart hG hl (w := 0) (by decide)).trans w1.2
    have e1 : f_X5_linkPart (nI l) (1 : Int32) σ = nI (im_tn (ρ (22 + 3 * l + 1))) := (op_linkPart hG hl (w := 1) (by decide)).trans w2.2
    have w1' := w1.1
    have w2' := w2.1
    -- on to the next link
    have next : ∀ (σ1 : iw_M) (g' : Int32), ip_G σ1 ρ → σ1 84 = x84 → (g' = 0 ∨ g' = 1) → (g' = 1 ∨ ∃ l', l + 1 ≤ l' ∧ l' < im_tn (ρ 1) ∧ ip_gv ρ f n l') → ∃ σ', ip_G σ' ρ ∧ σ' 84 = x84 ∧ f_L_areTimesSound_J241 (f_L_areTimesSound_L99 4096 (nI f) (nI n) (ip_q ρ f n) k nn) (nI l) g' σ1 = k 1 σ' := by
      intro σ1 g' z1 z2 z3 z4
      unfold f_L_areTimesSound_J241
      rw [im_let, nI_1]
      exact ih (l + 1) nn σ1 g' (by omega) (by omega) z1 z2 z3 z4
    have later : ¬ ip_gv ρ f n l → (g = 1 ∨ ∃ l', l + 1 ≤ l' ∧ l' < im_tn (ρ 1) ∧ ip_gv ρ f n l') := fun hno => by
      rcases hx with hx | ⟨l', y1, y2, y3⟩
      · exact Or.inl hx
      · refine Or.inr ⟨l', ?_, y2, y3⟩
        by_cases z : l' = l
        · rw [z] at y3; exact absurd y3 hno
        · omega
    -- another end
    have oth : ∀ o, im_lk ρ l n o → o < im_tn (ρ 0) → ∃ σ', ip_G σ' ρ ∧ σ' 84 = x84 ∧ f_L_areTimesSound_J152 4096 (nI f) (nI n) (ip_q ρ f n) (f_L_areTimesSound_L99 4096 (nI f) (nI n) (ip_q ρ f n) k nn) g (nI l) σ (nI o) = k 1 σ' := by
      intro o hk ho
      obtain ⟨σ1, q1, q2, q3⟩ := op_quickest (n := 4096) (by decide) hG hf ho
      have h84' : σ1 84 = x84 := q3.trans h84
      have e2 : f_X5_linkPart (nI l) (2 : Int32) σ1 = ρ (22 + 3 * l + 2) := op_linkPart q2 hl (w := 2) (by decide)
      have huniq : ∀ o', im_lk ρ l n o' → o' = o := fun o' hk' => by
        unfold im_lk at hk hk'
        omega
      have j207 : ∃ σ', ip_G σ' ρ ∧ σ' 84 = x84 ∧ f_L_areTimesSound_J207 (ip_q ρ f n) (f_L_areTimesSound_L99 4096 (nI f) (nI n) (ip_q ρ f n) k nn) g (nI l) (ip_q ρ f o) σ1 = k 1 σ' := by
        unfold f_L_areTimesSound_J207 f_L_areTimesSound_J234 f_L_areTimesSound_J238 f_L_areTimesSound_J239
        rcases hg with hg | hg
        · rw [if_pos hg]
          by_cases c1 : ip_q ρ f o = -1000
          · rw [if_pos c1]
            refine next σ1 0 q2 h84' (Or.inl rfl) ?_
            rcases later (fun ⟨o', y1, y2, y3, y4⟩ => y3 (by rw [huniq o' y1]; exact c1)) with z | z
            · rw [hg] at z; exact absurd z (by decide)
            · exact Or.inr z
          · rw [if_neg c1, e2]
            by_cases c2 : ip_q ρ f o + ρ (22 + 3 * l + 2) = ip_q ρ f n
            · rw [if_pos c2]
              exact next σ1 1 q2 h84' (Or.inr rfl) (Or.inl rfl)
            · rw [if_neg c2]
              refine next σ1 0 q2 h84' (Or.inl rfl) ?_
              rcases later (fun ⟨o', y1, y2, y3, y4⟩ => c2 (by rw [huniq o' y1] at y4; exact y4)) with z | z
              · rw [hg] at z; exact absurd z (by decide)
              · exact Or.inr z
        · rw [if_neg (by rw [hg]; decide)]
          exact next σ1 1 q2 h84' (Or.inr rfl) (Or.inl rfl)
      unfold f_L_areTimesSound_J152
      rw [if_neg (nI_pos (by omega)), q1, im_b2]
      by_cases c1 : ip_q ρ f o = -1000
      · rw [if_pos c1]
        exact j207
      · rw [if_neg c1, op_energy q2 hn]
        by_cases c2 : ρ (12 + n) ≤ 0
        · rw [if_pos c2]
          exact j207
        · obtain ⟨t1, t2⟩ := ip_fit hW (show f < 10 by omega) hn hl hk (show o < 10 by omega) c1 c2
          rw [if_neg c2, if_neg t1, e2, if_pos t2]
          exact j207
    rw [s_L_areTimesSound_99]
    unfold f_L_areTimesSound_B99
    rw [ip_c1 hG, im_bind, if_neg (by rw [im_le (by omega) (by omega)]; omega), e0, e1]
    by_cases c1 : im_tn (ρ (22 + 3 * l)) = n
    · rw [if_pos (by rw [c1])]
      exact oth _ (Or.inl ⟨c1, rfl⟩) w2'
    · rw [if_neg (by rw [im_eq (by omega) (by omega)]; exact c1)]
      by_cases c2 : im_tn (ρ (22 + 3 * l + 1)) = n
      · rw [if_pos (by rw [c2])]
        exact oth _ (Or.inr ⟨rfl, c2⟩) w1'
      · rw [if_neg (by rw [im_eq (by omega) (by omega)]; exact c2)]
        unfold f_L_areTimesSound_J152
        rw [if_pos (by decide)]
        exact next σ g hG h84 hg (later (fun ⟨o', y1, _⟩ => by unfold im_lk at y1; omega))
theorem ip_at2 {ρ : Nat → Int32} {x84 : Nat → Int32} {f : Nat} (hf : f < im_tn (ρ 0)) (k : iw_M → Option (Int32 × iw_M)) : ∀ (d n nn : Nat) (σ : iw_M), n + d = im_tn (ρ 0) → d < nn → ip_G σ ρ → σ 84 = x84 → ∃ σ', ip_G σ' ρ ∧ σ' 84 = x84 ∧ f_L_areTimesSound_L2 4096 (nI f) k nn (nI n) σ = k σ' := by
  intro d
  induction d with
  | zero =>
    intro n nn σ h1 h2 hG h84
    obtain ⟨nn, rfl⟩ : ∃ q, nn = q + 1 := ⟨nn - 1, by omega⟩
    have b0 := hG.2.1.1.1
    have b0' := b0.1
    refine ⟨σ, hG, h84, ?_⟩
    rw [s_L_areTimesSound_2]
    unfold f_L_areTimesSound_B2
    rw [ip_c0 hG, im_bind, if_pos (by rw [im_le (by omega) (by omega)]; omega)]
  | succ d ih =>
    intro n nn σ h1 h2 hG h84
    obtain ⟨nn, rfl⟩ : ∃ q, nn = q + 1 := ⟨nn - 1, by omega⟩
    have hW := hG.2.1
    have b0 := hW.1.1
    have b0' := b0.1
    have b1 := hW.1.2.1.1
    have hn : n < im_tn (ρ 0) := by omega
    have hf10 : f < 10 := by omega
    have hn10 : n < 10 := by omega
    obtain ⟨σ1, q1, q2, q3⟩ := op_quickest (n := 4096) (by decide) hG hf hn
    obtain ⟨σ2, r1, r2, r3⟩ := op_quickest (n := 4096) (by decide) q2 hn hf
    have h84' : σ2 84 = x84 := r3.trans (q3.trans h84)
    -- the links
    have j94 : ∀ g : Int32, (g = 0 ∨ g = 1) → (g = 1 ∨ ∃ l', 0 ≤ l' ∧ l' < im_tn (ρ 1) ∧ ip_gv ρ f n l') → ∃ σ', ip_G σ' ρ ∧ σ' 84 = x84 ∧ f_L_areTimesSound_J94 4096 (nI f) (f_L_areTimesSound_L2 4096 (nI f) k nn) (nI n) (ip_q ρ f n) σ2 g = k σ' := by
      intro g g1 g2
      obtain ⟨σ3, s1, s2, s3⟩ := ip_at99 hf hn (f_L_areTimesSound_X247_99 (f_L_areTimesSound_L2 4096 (nI f) k nn) (nI n)) (im_tn (ρ 1)) 0 4096 σ2 g (by omega) (by omega) r2 h84' g1 g2
      obtain ⟨σ', t1, t2, t3⟩ := ih (n + 1) nn σ3 (by omega) (by omega) s1 s2
      refine ⟨σ', t1, t2, ?_⟩
      unfold f_L_areTimesSound_J94
      rw [show ∀ kk, f_L_areTimesSound_L99 4096 (nI f) (nI n) (ip_q ρ f n) kk 4096 g (0 : Int32) σ2 = f_L_areTimesSound_L99 4096 (nI f) (nI n) (ip_q ρ f n) kk 4096 g (nI 0) σ2 from fun _ => rfl, s3]
      unfold f_L_areTimesSound_X247_99
      rw [if_neg (by decide), im_let, nI_1, t3]
    have j77 : ∃ σ', ip_G σ' ρ ∧ σ' 84 = x84 ∧ f_L_areTimesSound_J77 4096 (nI f) (f_L_areTimesSound_L2 4096 (nI f) k nn) (nI n) (ip_q ρ f n) σ2 = k σ' := by
      unfold f_L_areTimesSound_J77 f_L_areTimesSound_J89
      by_cases c1 : n = f
      · rw [if_pos (by rw [c1])]
        exact j94 1 (Or.inr rfl) (Or.inl rfl)
      · rw [if_neg (by rw [im_eq (by omega) (by omega)]; exact c1)]
        by_cases c2 : ip_q ρ f n = -1000
        · rw [if_pos c2]
          exact j94 1 (Or.inr rfl) (Or.inl rfl)
        · rw [if_neg c2]
          refine j94 0 (Or.inl rfl) (Or.inr ?_)
          rcases ip_q_no hW hf10 hn10 with ⟨a, -⟩ | ⟨a1, a2, a3, a4, a5⟩
          · exact absurd a c2
          · have hD := ip_tf_ok hW hf10 a3
            obtain ⟨-, o, o1, o2, o3⟩ := hD.2.2.1 n c1 (by omega)
            have hlk : ∃ l, l < im_tn (ρ 1) ∧ im_lk ρ l o n := by
              by_cases z : ∃ l, l < im_tn (ρ 1) ∧ im_lk ρ l o n
              · exact z
              · have := im_dl_0 (ρ := ρ) (a := o) (b := n) (fun l y1 y2 => z ⟨l, y1, y2⟩)
                omega
            obtain ⟨l, l1, l2⟩ := hlk
            obtain ⟨d1, d2, d3⟩ := im_dl_1 hW l1 l2
            have hoA : im_av ρ o = true := by
              by_cases z : o = f
              · rw [z]; exact a3
              · exact (hD.2.2.1 o z (by omega)).1
            have eo : ip_q ρ f o = nI (ip_tf ρ f o) := if_pos ⟨a3, hoA, by omega⟩
            refine ⟨l, Nat.zero_le _, l1, o, im_lk_sym l2, o1, by rw [eo]; exact im_neN (by omega), ?_⟩
            rw [eo, a1, (hW.2.1 l l1).2.2.1.2, nI_add, ← d1, o3]
    have j52 : ∃ σ', ip_G σ' ρ ∧ σ' 84 = x84 ∧ f_L_areTimesSound_J52 4096 (nI f) (f_L_areTimesSound_L2 4096 (nI f) k nn) (nI n) (ip_q ρ f n) σ2 = k σ' := by
      unfold f_L_areTimesSound_J52
      by_cases c : ip_q ρ f n = -1000
      · rw [if_pos c]
        exact j77
      · rcases ip_q_no hW hf10 hn10 with ⟨a, -⟩ | ⟨a1, a2, a3, a4, a5⟩
        · exact absurd a c
        · rw [ip_av_al hf, decide_eq_true_iff] at a3
          rw [ip_av_al hn, decide_eq_true_iff] at a4
          rw [if_neg c, op_energy r2 hn, op_energy r2 hf, if_neg (fun z => by rw [z] at a4; exact absurd a4 (by decide)), if_neg (fun z => by rw [z] at a3; exact absurd a3 (by decide))]
          exact j77
    obtain ⟨σ', t1, t2, t3⟩ := j52
    refine ⟨σ', t1, t2, ?_⟩
    rw [s_L_areTimesSound_2]
    unfold f_L_areTimesSound_B2
    rw [ip_c0 hG, im_bind, if_neg (by rw [im_le (by omega) (by omega)]; omega), q1, im_b2, r1, im_b2, if_pos (ip_q_sym hW hf10 hn10)]
    by_cases c : n = f
    · subst c
      rw [if_pos rfl, op_energy r2 hn]
      by_cases z : ρ (12 + n) ≤ 0
      · have e : ip_q ρ n n = -1000 := if_neg (fun y => by
          have := y.1
          rw [ip_av_al hn, decide_eq_true_iff] at this
          exact absurd this (Int32.not_lt.mpr z))
        rw [if_pos z]
        unfold f_L_areTimesSound_J49
        rw [if_pos e]
        exact t3
      · have hav : im_av ρ n = true := by rw [ip_av_al hn]; exact decide_eq_true (Int32.not_le.mp z)
        have hD := ip_tf_ok hW hn10 hav
        have e : ip_q ρ n n = 0 := by
          unfold ip_q
          rw [if_pos ⟨hav, hav, by rw [hD.1]; decide⟩, hD.1]
          rfl
        rw [if_neg z]
        unfold f_L_areTimesSound_J49
        rw [if_pos e]
        exact t3
    · rw [if_neg (by rw [im_eq (by omega) (by omega)]; exact c)]
      exact t3
theorem ip_areTimesSound {e : Int32} {R : Nat} {σ : iw_M} {ρ : Nat → Int32} (h : ip_L e R σ ρ) {f : Nat} (hf : f < im_tn (ρ 0)) : ∃ σ', f_L_areTimesSound 4096 (nI f) σ = some (1, σ') ∧ ip_L e R σ' ρ := by
  obtain ⟨hG, hV, h5, h84⟩ := h
  have b0 := hG.2.1.1.1.1
  obtain ⟨σ', t1, t2, t3⟩ := ip_at2 hf f_L_areTimesSound_X260_2 (im_tn (ρ 0)) 0 4096 σ (by omega) (by omega) hG rfl
  refine ⟨σ', ?_, t1, hV, h5, by rw [t2]; exact h84⟩
  unfold f_L_areTimesSound
  rw [show f_L_areTimesSound_L2 4096 (nI f) f_L_areTimesSound_X260_2 4096 (0 : Int32) σ = f_L_areTimesSound_L2 4096 (nI f) f_L_areTimesSound_X260_2 4096 (nI 0) σ from rfl, t3]
  rfl
