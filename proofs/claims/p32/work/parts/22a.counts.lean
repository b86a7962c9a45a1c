/-! the law's linkOf; hops over links, counted both ways -/
theorem ip_c0 {σ : iw_M} {ρ : Nat → Int32} (h : ip_G σ ρ) : f_X5_count 4096 (0 : Int32) σ = some (nI (im_tn (ρ 0))) := (op_count (by decide) h (w := 0) (by decide)).trans (congrArg some h.2.1.1.1.2)
theorem ip_c1 {σ : iw_M} {ρ : Nat → Int32} (h : ip_G σ ρ) : f_X5_count 4096 (1 : Int32) σ = some (nI (im_tn (ρ 1))) := (op_count (by decide) h (w := 1) (by decide)).trans (congrArg some h.2.1.1.2.1.2)
theorem ip_c2 {σ : iw_M} {ρ : Nat → Int32} (h : ip_G σ ρ) : f_X5_count 4096 (2 : Int32) σ = some (nI (im_tn (ρ 2))) := (op_count (by decide) h (w := 2) (by decide)).trans (congrArg some h.2.1.1.2.2.1.2)
theorem ip_c3 {σ : iw_M} {ρ : Nat → Int32} (h : ip_G σ ρ) : f_X5_count 4096 (3 : Int32) σ = some (nI (im_tn (ρ 3))) := (op_count (by decide) h (w := 3) (by decide)).trans (congrArg some h.2.1.1.2.2.2.1.2)
theorem s_L_linkOf_2 (n : Nat) (p2 p3 : Int32) (σ : iw_M) (k : Option Int32) (nn : Nat) : f_L_linkOf_L2 n p2 p3 σ k (nn + 1) = f_L_linkOf_B2 n p2 p3 σ k (f_L_linkOf_L2 n p2 p3 σ k nn) := rfl
theorem ip_linkOf_L {σ : iw_M} {ρ : Nat → Int32} (h : ip_G σ ρ) {a b : Nat} (ha : a < 2 ^ 31) (hb : b < 2 ^ 31) : ∀ (d l nn : Nat), l + d = im_tn (ρ 1) → d < nn → (∀ l', l' < l → ¬ im_lk ρ l' a b) → ∃ r, f_L_linkOf_L2 4096 (nI a) (nI b) σ f_L_linkOf_X59_2 nn (nI l) = some r ∧ ((r = -1 ∧ ∀ l, l < im_tn (ρ 1) → ¬ im_lk ρ l a b) ∨ ∃ l, l < im_tn (ρ 1) ∧ r = nI l ∧ im_lk ρ l a b) := by
  have hW := h.2.1
  have b1 := hW.1.2.1
  have b1' := b1.1
  have b0 := hW.1.1.1
  intro d
  induction d with
  | zero =>
    intro l nn h1 h2 hl
    obtain ⟨nn, rfl⟩ : ∃ q, nn = q + 1 := ⟨nn - 1, by omega⟩
    refine ⟨-1, ?_, Or.inl ⟨rfl, fun l' hl' => hl l' (by omega)⟩⟩
    rw [s_L_linkOf_2]
    unfold f_L_linkOf_B2
    rw [ip_c1 h, im_bind, if_pos (by rw [im_le (by omega) (by omega)]; omega)]
    rfl
  | succ d ih =>
    intro l nn h1 h2 hl
    obtain ⟨nn, rfl⟩ : ∃ q, nn = q + 1 := ⟨nn - 1, by omega⟩
    have hl1 : l < im_tn (ρ 1) := by omega
    obtain ⟨w1, w2, -⟩ := hW.2.1 l hl1
    have e0 : f_X5_linkPart (nI l) (0 : Int32) σ = nI (im_tn (ρ (22 + 3 * l))) := (op_linkPart h hl1 (w := 0) (by decide)).trans w1.2
    have e1 : f_X5_linkPart (nI l) (1 : Int32) σ = nI (im_tn (ρ (22 + 3 * l + 1))) := (op_linkPart h hl1 (w := 1) (by decide)).trans w2.2
    have w1' := w1.1
    have w2' := w2.1
    have next : ¬ im_lk ρ l a b → ∃ r, f_L_linkOf_J53 (f_L_linkOf_L2 4096 (nI a) (nI b) σ f_L_linkOf_X59_2 nn) (nI l) = some r ∧ ((r = -1 ∧ ∀ l, l < im_tn (ρ 1) → ¬ im_lk ρ l a b) ∨ ∃ l, l < im_tn (ρ 1) ∧ r = nI l ∧ im_lk ρ l a b) := fun hno => by
      unfold f_L_linkOf_J53
      rw [im_let, nI_1]
      exact ih (l + 1) nn (by omega) (by omega) (fun l' hl' => by
        by_cases q : l' = l
        · rw [q]; exact hno
        · exact hl l' (by omega))
    have j39 : ¬ (im_tn (ρ (22 + 3 * l)) = a ∧ im_tn (ρ (22 + 3 * l + 1)) = b) → ∃ r, f_L_linkOf_J39 (nI a) (nI b) (f_L_linkOf_L2 4096 (nI a) (nI b) σ f_L_linkOf_X59_2 nn) (nI l) (nI (im_tn (ρ (22 + 3 * l)))) (nI (im_tn (ρ (22 + 3 * l + 1)))) = some r ∧ ((r = -1 ∧ ∀ l, l < im_tn (ρ 1) → ¬ im_lk ρ l a b) ∨ ∃ l, l < im_tn (ρ 1) ∧ r = nI l ∧ im_lk ρ l a b) := fun hno => by
      unfold f_L_linkOf_J39
      by_cases c1 : im_tn (ρ (22 + 3 * l)) = b
      · rw [if_pos (by rw [c1])]
        by_cases c2 : im_tn (ρ (22 + 3 * l + 1)) = a
        · rw [if_pos (by rw [c2])]
          exact ⟨_, rfl, Or.inr ⟨l, hl1, rfl, Or.inr ⟨c1, c2⟩⟩⟩
        · rw [if_neg (by rw [im_eq (by omega) ha]; exact c2)]
          exact next (fun z => z.elim hno (fun y => c2 y.2))
      · rw [if_neg (by rw [im_eq (by omega) hb]; exact c1)]
        exact next (fun z => z.elim hno (fun y => c1 y.1))
    rw [s_L_linkOf_2]
    unfold f_L_linkOf_B2
    rw [ip_c1 h, im_bind, if_neg (by rw [im_le (by omega) (by omega)]; omega), e0, e1, im_let, im_let]
    by_cases c1 : im_tn (ρ (22 + 3 * l)) = a
    · rw [if_pos (by rw [c1])]
      by_cases c2 : im_tn (ρ (22 + 3 * l + 1)) = b
      · rw [if_pos (by rw [c2])]
        exact ⟨_, rfl, Or.inr ⟨l, hl1, rfl, Or.inl ⟨c1, c2⟩⟩⟩
      · rw [if_neg (by rw [im_eq (by omega) hb]; exact c2)]
        exact j39 (fun z => c2 z.2)
    · rw [if_neg (by rw [im_eq (by omega) ha]; exact c1)]
      exact j39 (fun z => c1 z.1)
theorem ip_linkOf {σ : iw_M} {ρ : Nat → Int32} (h : ip_G σ ρ) {a b : Nat} (ha : a < 2 ^ 31) (hb : b < 2 ^ 31) : ∃ r, f_L_linkOf 4096 (nI a) (nI b) σ = some r ∧ (0 < im_dl ρ a b → ¬ r < 0) ∧ (im_dl ρ a b = 0 → r < 0) := by
  have b1 := h.2.1.1.2.1.1
  obtain ⟨r, x1, x2⟩ := ip_linkOf_L h ha hb (im_tn (ρ 1)) 0 4096 (by omega) (by omega) (fun l' hl' => by omega)
  refine ⟨r, x1, fun q => ?_, fun q => ?_⟩
  · rcases x2 with ⟨y1, y2⟩ | ⟨l, y1, y2, y3⟩
    · rw [im_dl_0 y2] at q
      omega
    · rw [y2]
      exact nI_pos (by omega)
  · rcases x2 with ⟨y1, y2⟩ | ⟨l, y1, y2, y3⟩
    · rw [y1]; decide
    · have := (im_dl_1 h.2.1 y1 y3).2.1
      omega
/-- one hop of a way goes over a link, or over none -/
def ip_hk (ρ : Nat → Int32) (i s k : Nat) : Nat := if 0 < im_dl ρ (im_wn ρ i s (k - 1)) (im_wn ρ i s k) then 1 else 0
def ip_hw (ρ : Nat → Int32) (i s : Nat) : Nat := im_su (ip_hk ρ i s) (im_wlen ρ i s - 1) 1
def ip_hi (ρ : Nat → Int32) (i : Nat) : Nat := im_su (ip_hw ρ i) (im_tn (ρ 2)) 0
theorem ip_su_one {g : Nat → Nat} {l : Nat} : ∀ (d a : Nat), a ≤ l → l < a + d → g l = 1 → (∀ k, a ≤ k → k < a + d → k ≠ l → g k = 0) → im_su g d a = 1 := by
  intro d
  induction d with
  | zero => intro a h1 h2; omega
  | succ d ih =>
    intro a h1 h2 h3 h4
    rw [im_su_s]
    by_cases q : a = l
    · rw [q, h3, im_su_0 d (l + 1) (fun k k1 k2 => h4 k (by omega) (by omega) (by omega))]
    · rw [h4 a (by omega) (by omega) q, ih (a + 1) (by omega) (by omega) h3 (fun k k1 k2 k3 => h4 k (by omega) (by omega) k3)]
theorem ip_hop1 {ρ : Nat → Int32} (hw : im_WF ρ) (i s k : Nat) : im_su (fun l => im_ov ρ l i s k) (im_tn (ρ 1)) 0 = ip_hk ρ i s k := by
  unfold ip_hk
  by_cases q : ∃ l, l < im_tn (ρ 1) ∧ im_lk ρ l (im_wn ρ i s (k - 1)) (im_wn ρ i s k)
  · obtain ⟨l, q1, q2⟩ := q
    rw [if_pos (im_dl_1 hw q1 q2).2.1]
    refine ip_su_one (l := l) _ _ (Nat.zero_le _) (by omega) (im_ov_1.mpr q2) (fun l' _ h2 h3 => ?_)
    have h4 := im_ov_le (ρ := ρ) (l := l') (i := i) (s := s) (k := k)
    by_cases z : im_ov ρ l' i s k = 1
    · exact absurd (hw.2.2.1 l' l _ _ (by omega) q1 (im_ov_1.mp z) q2) h3
    · omega
  · have q' : ∀ l, l < im_tn (ρ 1) → ¬ im_lk ρ l (im_wn ρ i s (k - 1)) (im_wn ρ i s k) := fun l h1 h2 => q ⟨l, h1, h2⟩
    rw [im_dl_0 q', if_neg (by omega)]
    refine im_su_0 _ _ (fun l _ h2 => ?_)
    have h4 := im_ov_le (ρ := ρ) (l := l) (i := i) (s := s) (k := k)
    by_cases z : im_ov ρ l i s k = 1
    · exact absurd (im_ov_1.mp z) (q' l (by omega))
    · omega
theorem ip_loads {ρ : Nat → Int32} (hw : im_WF ρ) : im_su (ip_ld ρ) (im_tn (ρ 1)) 0 = im_su (ip_hi ρ) (im_tn (ρ 3)) 0 := by
  have e1 : im_su (ip_ld ρ) (im_tn (ρ 1)) 0 = im_su (fun i => im_su (fun l => im_su (im_o1 ρ l i) (im_tn (ρ 2)) 0) (im_tn (ρ 1)) 0) (im_tn (ρ 3)) 0 :=
    im_su_swap (F := fun l i => im_su (im_o1 ρ l i) (im_tn (ρ 2)) 0) (e := im_tn (ρ 3)) (b := 0) (im_tn (ρ 1)) 0
  rw [e1]
  refine im_su_c _ _ (fun i _ _ => ?_)
  have e2 : im_su (fun l => im_su (im_o1 ρ l i) (im_tn (ρ 2)) 0) (im_tn (ρ 1)) 0 = im_su (fun s => im_su (fun l => im_o1 ρ l i s) (im_tn (ρ 1)) 0) (im_tn (ρ 2)) 0 :=
    im_su_swap (F := fun l s => im_o1 ρ l i s) (e := im_tn (ρ 2)) (b := 0) (im_tn (ρ 1)) 0
  rw [e2]
  unfold ip_hi
  refine im_su_c _ _ (fun s _ _ => ?_)
  have e3 : im_su (fun l => im_o1 ρ l i s) (im_tn (ρ 1)) 0 = im_su (fun k => im_su (fun l => im_ov ρ l i s k) (im_tn (ρ 1)) 0) (im_wlen ρ i s - 1) 1 :=
    im_su_swap (F := fun l k => im_ov ρ l i s k) (e := im_wlen ρ i s - 1) (b := 1) (im_tn (ρ 1)) 0
  rw [e3]
  unfold ip_hw
  exact im_su_c _ _ (fun k _ _ => ip_hop1 hw i s k)
/-- the sum with its last term apart -/
theorem ip_su_last {g : Nat → Nat} : ∀ (d a : Nat), im_su g (d + 1) a = im_su g d a + g (a + d) := by
  intro d
  induction d with
  | zero => intro a; rw [im_su_s, Nat.add_zero]; show g a + 0 = 0 + g a; omega
  | succ d ih => intro a; rw [im_su_s, ih (a + 1), im_su_s, show a + 1 + d = a + (d + 1) by omega]; omega
