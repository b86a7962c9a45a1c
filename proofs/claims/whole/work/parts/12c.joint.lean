/-! reading on both sides at once -/
def im_tx (len : Nat) (q : Nat → Nat) (p : Nat) (σx σm : iw_M) : Prop := p ≤ len ∧ im_tX len q σx ∧ im_tM len q σm ∧ σx 6 5 = nI p ∧ σm 84 12 = nI p ∧ im_NR σx 36 (σm 85) ∧ im_WF (σm 85)
/-- what reading may change -/
def im_kx (σ σ' : iw_M) : Prop := (∀ r, r ≠ 6 → (r < 36 ∨ 43 < r) → σ' r = σ r) ∧ σ' 6 2 = σ 6 2 ∧ σ' 6 3 = σ 6 3
def im_kM (σ σ' : iw_M) : Prop := (∀ r, r ≠ 84 → r ≠ 85 → σ' r = σ r) ∧ (∀ j, j ≠ 12 → j ≠ 13 → σ' 84 j = σ 84 j) ∧ ∀ k, 465 ≤ k → σ' 85 k = σ 85 k
/-- both refuse, at the same place -/
def im_bad (len : Nat) (q : Nat → Nat) (σx σm : iw_M) : Prop := ∃ F, F ≤ len ∧ (F < len → q F ≠ 32) ∧ σx 6 4 = nI F ∧ σm 84 12 = nI F ∧ im_tM len q σm
theorem im_kx_t {σ σ' σ'' : iw_M} (h : im_kx σ σ') (h' : im_kx σ' σ'') : im_kx σ σ'' := ⟨fun r r1 r2 => (h'.1 r r1 r2).trans (h.1 r r1 r2), h'.2.1.trans h.2.1, h'.2.2.trans h.2.2⟩
theorem im_kM_t {σ σ' σ'' : iw_M} (h : im_kM σ σ') (h' : im_kM σ' σ'') : im_kM σ σ'' := ⟨fun r r1 r2 => (h'.1 r r1 r2).trans (h.1 r r1 r2), fun j j1 j2 => (h'.2.1 j j1 j2).trans (h.2.1 j j1 j2), fun k hk => (h'.2.2 k hk).trans (h.2.2 k hk)⟩
theorem im_kx_0 (σ : iw_M) : im_kx σ σ := ⟨fun _ _ _ => rfl, rfl, rfl⟩
theorem im_kM_0 (σ : iw_M) : im_kM σ σ := ⟨fun _ _ _ => rfl, fun _ _ _ => rfl, fun _ _ => rfl⟩
/-- what reading a sign or a number may change -/
def im_kN (σ σ' : iw_M) : Prop := (∀ r, r ≠ 84 → σ' r = σ r) ∧ ∀ j, j ≠ 12 → j ≠ 13 → σ' 84 j = σ 84 j
theorem im_kN_t {σ σ' σ'' : iw_M} (h : im_kN σ σ') (h' : im_kN σ' σ'') : im_kN σ σ'' := ⟨fun r r1 => (h'.1 r r1).trans (h.1 r r1), fun j j1 j2 => (h'.2 j j1 j2).trans (h.2 j j1 j2)⟩
theorem im_kN_M {σ σ' : iw_M} (h : im_kN σ σ') : im_kM σ σ' := ⟨fun r r1 _ => h.1 r r1, h.2, fun k _ => by rw [h.1 85 (by decide)]⟩
theorem im_kN_u {σ : iw_M} {j : Nat} {v : Int32} (hj : j = 12 ∨ j = 13) : im_kN σ (iw_up σ 84 j v) := ⟨fun r r1 => iw_up_ne r1, fun i i1 i2 => im_upn (by omega)⟩
theorem im_kx_u {σ : iw_M} {j : Nat} {v : Int32} (hj : 4 ≤ j) : im_kx σ (iw_up σ 6 j v) := ⟨fun r r1 _ => iw_up_ne r1, im_upn (by omega), im_upn (by omega)⟩
theorem im_kM_u {σ : iw_M} {j : Nat} {v : Int32} (hj : j = 12 ∨ j = 13) : im_kM σ (iw_up σ 84 j v) := ⟨fun r r1 _ => iw_up_ne r1, fun i i1 i2 => im_upn (by omega), fun k _ => by rw [iw_up_ne (by decide)]⟩
section
variable {len : Nat} {q : Nat → Nat} {p : Nat} {σx σm : iw_M}
theorem im_tx_up (h : im_tx len q p σx σm) {p' : Nat} (hp : p' ≤ len) {τx τm : iw_M} (h5 : τx 6 5 = nI p') (h12 : τm 84 12 = nI p') (h2 : τx 6 2 = σx 6 2) (hx : ∀ r, r ≠ 6 → τx r = σx r) (h11 : τm 84 11 = σm 84 11) (hm : ∀ r, r ≠ 84 → τm r = σm r) : im_tx len q p' τx τm := by
  obtain ⟨a1, a2, a3, a4, a5, a6, a7⟩ := h
  refine ⟨hp, ⟨a2.1, h2.trans a2.2.1, fun k hk => by rw [hx 7 (by decide)]; exact a2.2.2 k hk⟩, ⟨a3.1, h11.trans a3.2.1, fun k hk => by rw [hm 92 (by decide)]; exact a3.2.2 k hk⟩, h5, h12, ?_, by rw [hm 85 (by decide)]; exact a7⟩
  rw [hm 85 (by decide)]
  exact im_NR_congr a6 (fun j j1 j2 => hx _ (by omega))
theorem im_jsign {n : Nat} (hn : 4096 ≤ n) {k : Nat} (hk : k < 256) (h : im_tx len q p σx σm) : (∃ τx τm p', f_X4_readSign n (nI k) σx = some (1, τx) ∧ f_X6_sign n (nI k) σm = some (1, τm) ∧ p < p' ∧ im_tx len q p' τx τm ∧ im_kx σx τx ∧ im_kN σm τm) ∨ ∃ τx τm, f_X4_readSign n (nI k) σx = some (0, τx) ∧ f_X6_sign n (nI k) σm = some (0, τm) ∧ im_bad len q τx τm ∧ im_kx σx τx ∧ im_kN σm τm := by
  obtain ⟨a1, a2, a3, a4, a5, a6, a7⟩ := id h
  have sl := im_S_le (q := q) a1
  obtain ⟨x1, x2⟩ := im_signX hn hk a1 a2 a4
  obtain ⟨m1, m2⟩ := im_signM hn hk a1 a3 a5
  by_cases z : im_S len q p < len ∧ q (im_S len q p) = k
  · exact Or.inl ⟨_, _, im_S len q p + 1, x1 z, m1 z, by omega, im_tx_up h (by omega) im_ups im_ups (im_upn (by decide)) (fun r hr => iw_up_ne hr) (im_upn (by decide)) (fun r hr => iw_up_ne hr), im_kx_u (by decide), im_kN_u (Or.inl rfl)⟩
  · exact Or.inr ⟨_, _, x2 z, m2 z, ⟨im_S len q p, sl.2, im_S_nb a1, im_ups, im_ups, im_tM_up a3 (by decide)⟩, im_kx_t (im_kx_u (by decide)) (im_kx_u (by decide)), im_kN_u (Or.inl rfl)⟩
theorem im_nX_6 {σ : iw_M} {s e : Nat} : im_nX σ s e 6 5 = nI e ∧ im_nX σ s e 6 6 = nI s ∧ im_nX σ s e 6 2 = σ 6 2 ∧ (∀ r, r ≠ 6 → im_nX σ s e r = σ r) ∧ im_kx σ (im_nX σ s e) := by
  refine ⟨im_ups, ?_, ?_, fun r hr => ?_, ?_⟩
  · unfold im_nX; rw [im_upn (by decide), im_ups]
  · unfold im_nX; rw [im_upn (by decide), im_upn (by decide), im_upn (by decide)]
  · unfold im_nX; rw [iw_up_ne hr, iw_up_ne hr, iw_up_ne hr]
  · exact im_kx_t (im_kx_t (im_kx_u (by decide)) (im_kx_u (by decide))) (im_kx_u (by decide))
/-- a number, when both ask the same of it: u is the reference's number -/
theorem im_jfind {n : Nat} (hn : 4096 ≤ n) (h : im_tx len q p σx σm) {a b a' b' g : Int32} (hab : ∀ V : Nat, V < 100000 → ((a ≤ nI V ∧ nI V ≤ b) ↔ (a' ≤ (if g = 0 then nI V else - nI V) ∧ (if g = 0 then nI V else - nI V) ≤ b'))) : (∃ V τx τm S p', V < 100000 ∧ a ≤ nI V ∧ nI V ≤ b ∧ f_X4_readNumber n a b σx = some (nI V, τx) ∧ f_X6_finds n a' b' g σm = some (nI p', τm) ∧ τm 84 13 = (if g = 0 then nI V else - nI V) ∧ τx 6 6 = nI S ∧ τm 84 12 = nI S ∧ S ≤ len ∧ (S < len → q S ≠ 32) ∧ p < p' ∧ p' ≤ len ∧ im_tx len q p' τx (iw_up τm 84 12 (nI p')) ∧ im_tM len q τm ∧ im_kx σx τx ∧ im_kN σm τm) ∨ ∃ τx τm, f_X4_readNumber n a b σx = some (-1, τx) ∧ f_X6_finds n a' b' g σm = some (-1000, τm) ∧ im_bad len q τx τm ∧ im_kx σx τx ∧ im_kN σm τm := by
  obtain ⟨a1, a2, a3, a4, a5, a6, a7⟩ := id h
  have sl := im_S_le (q := q) a1
  have el := im_E_le (q := q) sl.2
  obtain ⟨x1, x2⟩ := im_numX hn a1 a2 a4 a b
  obtain ⟨u, m0, m1, m2⟩ := im_finds hn a1 a3 a5 a' b' g
  obtain ⟨y1, y2, y3, y4, y5⟩ := im_nX_6 (σ := σx) (s := im_S len q p) (e := im_E len q (im_S len q p))
  have iff : im_ok len q (im_S len q p) a b (nI (im_V len q (im_S len q p))) ↔ im_ok len q (im_S len q p) a' b' u := by
    unfold im_ok
    refine ⟨fun z => ⟨z.1, ?_⟩, fun z => ⟨z.1, ?_⟩⟩
    · rw [m0 z.1.2]
      exact (hab _ (im_V_lt sl.2 z.1.2)).mp z.2
    · have w := z.2
      rw [m0 z.1.2] at w
      exact (hab _ (im_V_lt sl.2 z.1.2)).mpr w
  by_cases z : im_ok len q (im_S len q p) a b (nI (im_V len q (im_S len q p)))
  · have d := z.1
    refine Or.inl ⟨im_V len q (im_S len q p), _, _, im_S len q p, im_E len q (im_S len q p), im_V_lt sl.2 d.2, z.2.1, z.2.2, x1 z, m1 (iff.mp z), ?_, y2, ?_, sl.2, im_S_nb a1, by omega, el.2, ?_, im_tM_up (im_tM_up a3 (by decide)) (by decide), y5, im_kN_t (im_kN_u (Or.inl rfl)) (im_kN_u (Or.inr rfl))⟩
    · rw [im_ups, m0 d.2]
    · rw [im_upn (by decide), im_ups]
    · exact im_tx_up h el.2 y1 im_ups y3 y4 (by rw [im_upn (by decide), im_upn (by decide), im_upn (by decide)]) (fun r hr => by rw [iw_up_ne hr, iw_up_ne hr, iw_up_ne hr])
  · refine Or.inr ⟨_, _, x2 z, m2 (fun y => z (iff.mpr y)), ⟨im_S len q p, sl.2, im_S_nb a1, im_ups, ?_, im_tM_up (im_tM_up a3 (by decide)) (by decide)⟩, im_kx_t y5 (im_kx_u (by decide)), im_kN_t (im_kN_u (Or.inl rfl)) (im_kN_u (Or.inr rfl))⟩
    rw [im_upn (by decide), im_ups]
theorem im_jnum {n : Nat} (hn : 4096 ≤ n) (h : im_tx len q p σx σm) (a b : Int32) : (∃ V τx τm p', V < 100000 ∧ a ≤ nI V ∧ nI V ≤ b ∧ f_X4_readNumber n a b σx = some (nI V, τx) ∧ f_X6_reads n a b σm = some (1, τm) ∧ τm 84 13 = nI V ∧ p < p' ∧ im_tx len q p' τx τm ∧ im_kx σx τx ∧ im_kN σm τm) ∨ ∃ τx τm, f_X4_readNumber n a b σx = some (-1, τx) ∧ f_X6_reads n a b σm = some (0, τm) ∧ im_bad len q τx τm ∧ im_kx σx τx ∧ im_kN σm τm := by
  rcases im_jfind hn h (a := a) (b := b) (a' := a) (b' := b) (g := 0) (fun V _ => by rw [if_pos rfl]) with ⟨V, τx, τm, S, p', v1, v2, v3, e1, e2, e3, e4, e5, e6, e7, e8, e9, e10, e11, e12, e13⟩ | ⟨τx, τm, e1, e2, e3, e4, e5⟩
  · rw [if_pos rfl] at e3
    refine Or.inl ⟨V, τx, iw_up τm 84 12 (nI p'), p', v1, v2, v3, e1, ?_, by rw [im_upn (by decide)]; exact e3, e8, e10, e12, im_kN_t e13 (im_kN_u (Or.inl rfl))⟩
    unfold f_X6_reads f_X6_reads_J24
    have l1 := h.2.1.1
    rw [e2, im_b2, if_neg (im_neN (by omega)), im_let, if_neg (im_neN (by omega))]
  · refine Or.inr ⟨τx, τm, e1, ?_, e3, e4, e5⟩
    unfold f_X6_reads f_X6_reads_J24
    rw [e2, im_b2, if_pos rfl, im_up_self, im_let, if_pos rfl]
end
theorem im_neg {k : Nat} (h : k < 2 ^ 30) : (- nI k).toInt = - (k : Int) := by
  rw [Int32.toInt_neg, nI_toInt (by omega)]
  exact Int.bmod_eq_of_le (by omega) (by omega)
/-- the last number of a sensor: the class asks for its size -/
theorem im_jlast {g : Int32} {V : Nat} (hV : V < 100000) : (((0 : Int32) ≤ nI V ∧ nI V ≤ (100 : Int32)) ↔ ((-100 : Int32) ≤ (if g = 0 then nI V else - nI V) ∧ (if g = 0 then nI V else - nI V) ≤ (100 : Int32))) := by
  have t := nI_toInt (show V < 2 ^ 31 by omega)
  have t' := im_neg (show V < 2 ^ 30 by omega)
  by_cases z : g = 0
  · rw [if_pos z]
    simp only [Int32.le_iff_toInt_le, t, show (0 : Int32).toInt = 0 by decide, show (100 : Int32).toInt = 100 by decide, show (-100 : Int32).toInt = -100 by decide]
    omega
  · rw [if_neg z]
    simp only [Int32.le_iff_toInt_le, t, t', show (0 : Int32).toInt = 0 by decide, show (100 : Int32).toInt = 100 by decide, show (-100 : Int32).toInt = -100 by decide]
    omega
