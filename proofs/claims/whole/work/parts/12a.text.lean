/-! the text: blanks are passed over, signs and numbers are read, on both sides -/
def im_sk (q : Nat → Nat) : Nat → Nat → Nat
  | 0, p => p
  | d + 1, p => if q p = 32 then im_sk q d (p + 1) else p
theorem im_sk_s (q : Nat → Nat) (d p : Nat) : im_sk q (d + 1) p = if q p = 32 then im_sk q d (p + 1) else p := rfl
theorem im_sk_le {q : Nat → Nat} : ∀ (d p : Nat), p ≤ im_sk q d p ∧ im_sk q d p ≤ p + d := by
  intro d
  induction d with
  | zero => intro p; exact ⟨Nat.le_refl _, Nat.le_refl _⟩
  | succ d ih =>
    intro p
    rw [im_sk_s]
    have := ih (p + 1)
    by_cases z : q p = 32
    · rw [if_pos z]; omega
    · rw [if_neg z]; omega
theorem im_sk_nb {q : Nat → Nat} : ∀ (d p : Nat), im_sk q d p < p + d → q (im_sk q d p) ≠ 32 := by
  intro d
  induction d with
  | zero => intro p h; exact absurd h (Nat.lt_irrefl _)
  | succ d ih =>
    intro p
    rw [im_sk_s]
    by_cases z : q p = 32
    · rw [if_pos z]
      intro h
      exact ih (p + 1) (by omega)
    · rw [if_neg z]
      intro _
      exact z
/-- where the next byte that is no blank stands -/
def im_S (len : Nat) (q : Nat → Nat) (p : Nat) : Nat := im_sk q (len - p) p
theorem im_S_le {len : Nat} {q : Nat → Nat} {p : Nat} (h : p ≤ len) : p ≤ im_S len q p ∧ im_S len q p ≤ len := by
  have := im_sk_le (q := q) (len - p) p
  unfold im_S
  omega
theorem im_S_nb {len : Nat} {q : Nat → Nat} {p : Nat} (h : p ≤ len) (h1 : im_S len q p < len) : q (im_S len q p) ≠ 32 := by
  unfold im_S at h1 ⊢
  exact im_sk_nb (len - p) p (by omega)
theorem im_S_id {len : Nat} {q : Nat → Nat} {p : Nat} (h : p ≤ len) (h1 : p < len → q p ≠ 32) : im_S len q p = p := by
  unfold im_S
  by_cases z : p < len
  · rw [show len - p = (len - p - 1) + 1 by omega, im_sk_s, if_neg (h1 z)]
  · rw [show len - p = 0 by omega]
    rfl
theorem im_S_S {len : Nat} {q : Nat → Nat} {p : Nat} (h : p ≤ len) : im_S len q (im_S len q p) = im_S len q p :=
  im_S_id (im_S_le h).2 (im_S_nb h)
/-- the byte there, or the end -/
def im_cd (len : Nat) (q : Nat → Nat) (s : Nat) : Int32 := if s < len then nI (q s) else -1
def im_tX (len : Nat) (q : Nat → Nat) (σ : iw_M) : Prop := len ≤ 120 ∧ σ 6 2 = nI len ∧ ∀ k, k < len → q k < 256 ∧ σ 7 k = nI (q k)
def im_tM (len : Nat) (q : Nat → Nat) (σ : iw_M) : Prop := len ≤ 120 ∧ σ 84 11 = nI len ∧ ∀ k, k < len → q k < 256 ∧ σ 92 k = nI (q k)
theorem im_m1 {k : Nat} (h : k < 2 ^ 31) : ¬ nI k = (-1 : Int32) := fun z => by
  have t := nI_toInt h
  rw [z, show (-1 : Int32).toInt = -1 by decide] at t
  omega
theorem im_cd_eq {len : Nat} {q : Nat → Nat} {s k : Nat} (hk : k < 256) (hq : ∀ j, j < len → q j < 256) : im_cd len q s = nI k ↔ s < len ∧ q s = k := by
  unfold im_cd
  by_cases z : s < len
  · have := hq s z
    rw [if_pos z, im_eq (by omega) (by omega)]
    exact ⟨fun y => ⟨z, y⟩, fun y => y.2⟩
  · rw [if_neg z]
    exact ⟨fun y => absurd y.symm (im_m1 (by omega)), fun y => absurd y.1 z⟩
section
variable {len : Nat} {q : Nat → Nat}
theorem im_tX_up {σ : iw_M} {j : Nat} {v : Int32} (h : im_tX len q σ) (hj : j ≠ 2) : im_tX len q (iw_up σ 6 j v) :=
  ⟨h.1, by rw [im_upn (fun z => hj z.symm)]; exact h.2.1, fun k hk => by rw [iw_up_ne (by decide)]; exact h.2.2 k hk⟩
theorem im_tM_up {σ : iw_M} {j : Nat} {v : Int32} (h : im_tM len q σ) (hj : j ≠ 11) : im_tM len q (iw_up σ 84 j v) :=
  ⟨h.1, by rw [im_upn (fun z => hj z.symm)]; exact h.2.1, fun k hk => by rw [iw_up_ne (by decide)]; exact h.2.2 k hk⟩
theorem im_next_L : ∀ (d p nn : Nat) (σ : iw_M), p + d = len → d < nn → im_tX len q σ → σ 6 5 = nI p → f_X4_nextCode_L0 f_X4_nextCode_X40_0 nn σ = some (im_cd len q (im_sk q d p), iw_up σ 6 5 (nI (im_sk q d p))) := by
  have e7 : iw_al 7 = 120 := rfl
  intro d
  induction d with
  | zero =>
    intro p nn σ h1 h2 h h5
    obtain ⟨nn, rfl⟩ : ∃ q, nn = q + 1 := ⟨nn - 1, by omega⟩
    obtain ⟨l1, l2, l3⟩ := h
    rw [s_X4_nextCode_0]
    unfold f_X4_nextCode_B0 f_X4_nextCode_X40_0 im_cd
    rw [l2, h5, if_pos (by rw [im_le (by omega) (by omega)]; omega), if_pos (by rw [im_le (by omega) (by omega)]; omega), show im_sk q 0 p = p from rfl, if_neg (by omega), ← h5, im_up_self]
  | succ d ih =>
    intro p nn σ h1 h2 h h5
    obtain ⟨nn, rfl⟩ : ∃ q, nn = q + 1 := ⟨nn - 1, by omega⟩
    obtain ⟨l1, l2, l3⟩ := id h
    have lp := l3 p (by omega)
    have at7 : f_X5_at 7 (nI p) σ = nI (q p) := by rw [im_at (by omega)]; exact lp.2
    have ng : ¬ nI len ≤ nI p := by rw [im_le (by omega) (by omega)]; omega
    rw [s_X4_nextCode_0]
    unfold f_X4_nextCode_B0 f_X4_nextCode_X40_0
    rw [l2, h5, if_neg ng, if_neg ng, at7, im_sk_s]
    by_cases z : q p = 32
    · rw [if_pos (show nI (q p) = (32 : Int32) by rw [z]; rfl), if_pos z, im_let, nI_1]
      have r := ih (p + 1) nn (iw_up σ 6 5 (nI (p + 1))) (by omega) (by omega) (im_tX_up h (by decide)) im_ups
      rw [im_up_up] at r
      exact r
    · rw [if_neg (show ¬ nI (q p) = (32 : Int32) by rw [im_lit 32, im_eq (by omega) (by decide)]; exact z), if_neg z]
      unfold im_cd
      rw [if_pos (by omega), ← h5, im_up_self]
theorem im_next {n : Nat} (hn : 4096 ≤ n) {σ : iw_M} {p : Nat} (hp : p ≤ len) (h : im_tX len q σ) (h5 : σ 6 5 = nI p) : f_X4_nextCode n σ = some (im_cd len q (im_S len q p), iw_up σ 6 5 (nI (im_S len q p))) :=
  im_next_L (len - p) p n σ (by omega) (by have := h.1; omega) h h5
theorem im_here_L : ∀ (d p nn : Nat) (σ : iw_M), p + d = len → d < nn → im_tM len q σ → σ 84 12 = nI p → f_X6_here_L0 f_X6_here_X38_0 nn σ = some (im_cd len q (im_sk q d p), iw_up σ 84 12 (nI (im_sk q d p))) := by
  have e92 : iw_al 92 = 120 := rfl
  intro d
  induction d with
  | zero =>
    intro p nn σ h1 h2 h h5
    obtain ⟨nn, rfl⟩ : ∃ q, nn = q + 1 := ⟨nn - 1, by omega⟩
    obtain ⟨l1, l2, l3⟩ := h
    rw [s_X6_here_0]
    unfold f_X6_here_B0 f_X6_here_X38_0 im_cd
    rw [l2, h5, if_pos (by rw [im_le (by omega) (by omega)]; omega), if_pos (by rw [im_le (by omega) (by omega)]; omega), show im_sk q 0 p = p from rfl, if_neg (by omega), ← h5, im_up_self]
  | succ d ih =>
    intro p nn σ h1 h2 h h5
    obtain ⟨nn, rfl⟩ : ∃ q, nn = q + 1 := ⟨nn - 1, by omega⟩
    obtain ⟨l1, l2, l3⟩ := id h
    have lp := l3 p (by omega)
    have at92 : iw_rd σ 92 (nI p) = some (nI (q p)) := by rw [im_rd (by omega)]; exact congrArg some lp.2
    have ng : ¬ nI len ≤ nI p := by rw [im_le (by omega) (by omega)]; omega
    rw [s_X6_here_0]
    unfold f_X6_here_B0 f_X6_here_X38_0
    rw [l2, h5, if_neg ng, if_neg ng, at92, im_bind, im_bind, im_sk_s]
    by_cases z : q p = 32
    · rw [if_pos (show nI (q p) = (32 : Int32) by rw [z]; rfl), if_pos z, im_let, nI_1]
      have r := ih (p + 1) nn (iw_up σ 84 12 (nI (p + 1))) (by omega) (by omega) (im_tM_up h (by decide)) im_ups
      rw [im_up_up] at r
      exact r
    · rw [if_neg (show ¬ nI (q p) = (32 : Int32) by rw [im_lit 32, im_eq (by omega) (by decide)]; exact z), if_neg z]
      unfold im_cd
      rw [if_pos (by omega), ← h5, im_up_self]
theorem im_here {n : Nat} (hn : 4096 ≤ n) {σ : iw_M} {p : Nat} (hp : p ≤ len) (h : im_tM len q σ) (h5 : σ 84 12 = nI p) : f_X6_here n σ = some (im_cd len q (im_S len q p), iw_up σ 84 12 (nI (im_S len q p))) :=
  im_here_L (len - p) p n σ (by omega) (by have := h.1; omega) h h5
theorem im_let2 {α β γ : Type} (a : α) (b : β) (f : α → β → γ) : iw_let2 (a, b) f = f a b := rfl
theorem im_refuse {σ : iw_M} {v : Int32} : f_X4_refuse v σ = (0, iw_up σ 6 4 v) := rfl
theorem im_signX {n : Nat} (hn : 4096 ≤ n) {σ : iw_M} {p k : Nat} (hk : k < 256) (hp : p ≤ len) (h : im_tX len q σ) (h5 : σ 6 5 = nI p) : (im_S len q p < len ∧ q (im_S len q p) = k → f_X4_readSign n (nI k) σ = some (1, iw_up σ 6 5 (nI (im_S len q p + 1)))) ∧ (¬ (im_S len q p < len ∧ q (im_S len q p) = k) → f_X4_readSign n (nI k) σ = some (0, iw_up (iw_up σ 6 5 (nI (im_S len q p))) 6 4 (nI (im_S len q p)))) := by
  have c := im_cd_eq (s := im_S len q p) hk (fun j hj => (h.2.2 j hj).1)
  unfold f_X4_readSign
  rw [im_next hn hp h h5, im_b2]
  refine ⟨fun z => ?_, fun z => ?_⟩
  · rw [if_pos (c.mpr z), im_let, im_ups, nI_1, im_up_up]
  · rw [if_neg (fun y => z (c.mp y)), im_ups, im_refuse, im_let2]
    rfl
theorem im_signM {n : Nat} (hn : 4096 ≤ n) {σ : iw_M} {p k : Nat} (hk : k < 256) (hp : p ≤ len) (h : im_tM len q σ) (h5 : σ 84 12 = nI p) : (im_S len q p < len ∧ q (im_S len q p) = k → f_X6_sign n (nI k) σ = some (1, iw_up σ 84 12 (nI (im_S len q p + 1)))) ∧ (¬ (im_S len q p < len ∧ q (im_S len q p) = k) → f_X6_sign n (nI k) σ = some (0, iw_up σ 84 12 (nI (im_S len q p)))) := by
  have c := im_cd_eq (s := im_S len q p) hk (fun j hj => (h.2.2 j hj).1)
  unfold f_X6_sign f_X6_sign_J13 f_X6_sign_J28
  rw [im_here hn hp h h5, im_b2]
  refine ⟨fun z => ?_, fun z => ?_⟩
  · rw [if_pos (c.mpr z), if_neg (by decide), im_let, im_ups, nI_1, im_up_up]
    rfl
  · rw [if_neg (fun y => z (c.mp y)), if_pos rfl, im_let, im_ups, Int32.add_zero, im_up_up]
    rfl
end
