/-! the way back: each node before has a smaller time -/
theorem im_bf_r {w : Nat → Nat → Nat} {T : Nat → Nat} {v : Nat} : ∀ (d u : Nat), (∃ a, u ≤ a ∧ a < u + d ∧ 0 < w a v ∧ T a + w a v = T v) → ∃ a, u ≤ a ∧ a < u + d ∧ 0 < w a v ∧ T a + w a v = T v ∧ im_bf w T v d u = nI a ∧ ∀ b, u ≤ b → b < a → ¬ (0 < w b v ∧ T b + w b v = T v) := by
  intro d
  induction d with
  | zero =>
    intro u h
    obtain ⟨a, a1, a2, -⟩ := h
    omega
  | succ d ih =>
    intro u h
    rw [im_bf_s]
    by_cases q : 0 < w u v ∧ T u + w u v = T v
    · rw [if_pos q]
      exact ⟨u, Nat.le_refl _, by omega, q.1, q.2, rfl, fun b b1 b2 => by omega⟩
    · rw [if_neg q]
      obtain ⟨a, a1, a2, a3, a4⟩ := h
      have ne : a ≠ u := fun z => q ⟨by rw [← z]; exact a3, by rw [← z]; exact a4⟩
      obtain ⟨x, x1, x2, x3, x4, x5, x6⟩ := ih (u + 1) ⟨a, by omega, by omega, a3, a4⟩
      refine ⟨x, by omega, by omega, x3, x4, x5, fun b b1 b2 => ?_⟩
      by_cases e : b = u
      · rw [e]; exact q
      · exact x6 b (by omega) b2
/-- the node before v -/
def im_pv (w : Nat → Nat → Nat) (T : Nat → Nat) (v : Nat) : Nat := im_tn (im_bf w T v 10 0)
theorem im_pv_ok {w : Nat → Nat → Nat} {A : Nat → Bool} {f : Nat} {T : Nat → Nat} (hD : im_D w A f T) {v : Nat} (hv : v ≠ f) (hr : T v < 1000000) : im_bf w T v 10 0 = nI (im_pv w T v) ∧ im_pv w T v < 10 ∧ 0 < w (im_pv w T v) v ∧ T (im_pv w T v) + w (im_pv w T v) v = T v ∧ ∀ b, b < im_pv w T v → ¬ (0 < w b v ∧ T b + w b v = T v) := by
  obtain ⟨-, a, a1, a2, a3⟩ := hD.2.2.1 v hv hr
  obtain ⟨x, x1, x2, x3, x4, x5, x6⟩ := im_bf_r (w := w) (T := T) (v := v) 10 0 ⟨a, Nat.zero_le _, by omega, a2, a3⟩
  have e : im_pv w T v = x := by
    unfold im_pv
    rw [x5, im_tn_nI (by omega)]
  rw [e]
  exact ⟨x5, by omega, x3, x4, fun b hb => x6 b (Nat.zero_le _) hb⟩
/-- the k-th node before v -/
def im_pk (w : Nat → Nat → Nat) (T : Nat → Nat) (v : Nat) : Nat → Nat
  | 0 => v
  | k + 1 => im_pv w T (im_pk w T v k)
theorem im_pk_s (w : Nat → Nat → Nat) (T : Nat → Nat) (v k : Nat) : im_pk w T v (k + 1) = im_pv w T (im_pk w T v k) := rfl
theorem im_pk_b (w : Nat → Nat → Nat) (T : Nat → Nat) (v k : Nat) : im_pk w T v (k + 1) = im_pk w T (im_pv w T v) k := by
  induction k with
  | zero => rfl
  | succ k ih => rw [im_pk_s, ih, im_pk_s]
/-- it comes to f, over reached nodes, with falling times -/
theorem im_pk_ok {w : Nat → Nat → Nat} {A : Nat → Bool} {f : Nat} {T : Nat → Nat} (hD : im_D w A f T) : ∀ (x v : Nat), v < 10 → im_rk T v ≤ x → T v < 1000000 → ∃ K, K ≤ x ∧ im_pk w T v K = f ∧ (∀ k, k < K → im_pk w T v k ≠ f) ∧ (∀ k, k ≤ K → im_pk w T v k < 10 ∧ T (im_pk w T v k) < 1000000) ∧ ∀ k, k < K → T (im_pk w T v (k + 1)) < T (im_pk w T v k) := by
  intro x
  induction x with
  | zero =>
    intro v h10 hv hr
    by_cases e : v = f
    · refine ⟨0, Nat.le_refl _, e, fun k hk => by omega, fun k hk => ?_, fun k hk => by omega⟩
      rw [show k = 0 by omega]
      exact ⟨h10, hr⟩
    · obtain ⟨p1, p2, p3, p4, -⟩ := im_pv_ok hD e hr
      have := im_rk_lt (T := T) p2 (show T (im_pv w T v) < T v by omega)
      omega
  | succ x ih =>
    intro v h10 hv hr
    by_cases e : v = f
    · refine ⟨0, Nat.zero_le _, e, fun k hk => by omega, fun k hk => ?_, fun k hk => by omega⟩
      rw [show k = 0 by omega]
      exact ⟨h10, hr⟩
    · obtain ⟨p1, p2, p3, p4, -⟩ := im_pv_ok hD e hr
      have hlt := im_rk_lt (T := T) p2 (show T (im_pv w T v) < T v by omega)
      obtain ⟨K, k1, k2, k3, k4, k5⟩ := ih (im_pv w T v) p2 (by omega) (by omega)
      refine ⟨K + 1, by omega, by rw [im_pk_b]; exact k2, fun k hk => ?_, fun k hk => ?_, fun k hk => ?_⟩
      · cases k with
        | zero => exact e
        | succ k => rw [im_pk_b]; exact k3 k (by omega)
      · cases k with
        | zero => exact ⟨h10, hr⟩
        | succ k => rw [im_pk_b]; exact k4 k (by omega)
      · cases k with
        | zero =>
          show T (im_pv w T v) < T v
          omega
        | succ k => rw [im_pk_b w T v (k + 1), im_pk_b w T v k]; exact k5 k (by omega)
theorem im_pk_fall {w : Nat → Nat → Nat} {T : Nat → Nat} {v K : Nat} (h : ∀ k, k < K → T (im_pk w T v (k + 1)) < T (im_pk w T v k)) : ∀ (d k : Nat), k + d + 1 ≤ K → T (im_pk w T v (k + d + 1)) < T (im_pk w T v k) := by
  intro d
  induction d with
  | zero => intro k hk; exact h k (by omega)
  | succ d ih =>
    intro k hk
    have h1 := ih k (by omega)
    have h2 := h (k + d + 1) (by omega)
    rw [show k + (d + 1) + 1 = k + d + 1 + 1 by omega]
    omega
theorem im_pk_un {w : Nat → Nat → Nat} {T : Nat → Nat} {v K : Nat} (h : ∀ k, k < K → T (im_pk w T v (k + 1)) < T (im_pk w T v k)) {k k' : Nat} (hk : k ≤ K) (hk' : k' ≤ K) (e : im_pk w T v k = im_pk w T v k') : k = k' := by
  rcases Nat.lt_trichotomy k k' with q | q | q
  · have := im_pk_fall h (k' - k - 1) k (by omega)
    rw [show k + (k' - k - 1) + 1 = k' by omega, e] at this
    omega
  · exact q
  · have := im_pk_fall h (k - k' - 1) k' (by omega)
    rw [show k' + (k - k' - 1) + 1 = k by omega, e] at this
    omega
