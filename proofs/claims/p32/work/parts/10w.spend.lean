/-! spending, on both sides; least times are one -/
theorem im_D_un {w : Nat → Nat → Nat} {A : Nat → Bool} {f : Nat} {T T' : Nat → Nat} (h : im_D w A f T) (h' : im_D w A f T') : T = T' := by
  have key : ∀ (T T' : Nat → Nat), im_D w A f T → im_D w A f T' → ∀ x v, T v ≤ x → T v < 1000000 → T' v ≤ T v := by
    intro T T' h h' x
    induction x with
    | zero =>
      intro v hv hl
      by_cases e : v = f
      · rw [e, h'.1]; exact Nat.zero_le _
      · obtain ⟨-, a, -, a2, a3⟩ := h.2.2.1 v e hl
        omega
    | succ x ih =>
      intro v hv hl
      by_cases e : v = f
      · rw [e, h'.1]; exact Nat.zero_le _
      · obtain ⟨b, a, -, a2, a3⟩ := h.2.2.1 v e hl
        have h1 := ih a (by omega) (by omega)
        have h2 := h'.2.2.2 a v (by omega) b a2
        omega
  funext v
  have a1 := h.2.1 v
  have a2 := h'.2.1 v
  by_cases q : T v < 1000000
  · have k1 := key T T' h h' (T v) v (Nat.le_refl _) q
    have k2 := key T' T h' h (T' v) v (Nat.le_refl _) (by omega)
    omega
  · by_cases q2 : T' v < 1000000
    · have k2 := key T' T h' h (T' v) v (Nat.le_refl _) q2
      omega
    · omega
theorem im_D_A {w : Nat → Nat → Nat} {A A' : Nat → Bool} {f : Nat} {T : Nat → Nat} (h : im_D w A f T) (e : ∀ v, A v = A' v) : im_D w A' f T := by
  have : A = A' := funext e
  rw [← this]
  exact h
/-- the row after node v has spent amt, or what it had -/
def im_sp (ρ : Nat → Int32) (v : Nat) (amt : Int32) : Nat → Int32 := im_ru (im_ru ρ (12 + v) (ρ (12 + v) - (if amt ≤ ρ (12 + v) then amt else ρ (12 + v)))) 10 (ρ 10 + (if amt ≤ ρ (12 + v) then amt else ρ (12 + v)))
theorem im_sp_o {ρ : Nat → Int32} {v k : Nat} {amt : Int32} (h1 : k ≠ 10) (h2 : k ≠ 12 + v) : im_sp ρ v amt k = ρ k := by
  unfold im_sp
  rw [im_ru_ne h1, im_ru_ne h2]
theorem im_sp_ru {ρ : Nat → Int32} {v j : Nat} {amt x : Int32} (h1 : j ≠ 10) (h2 : j ≠ 12 + v) : im_sp (im_ru ρ j x) v amt = im_ru (im_sp ρ v amt) j x := by
  funext k
  unfold im_sp
  rw [im_ru_ne (show 12 + v ≠ j from fun z => h2 z.symm), im_ru_ne (show 10 ≠ j from fun z => h1 z.symm)]
  by_cases q : k = j
  · rw [q, im_ru_ne h1, im_ru_ne h2, im_ru_eq, im_ru_eq]
  · rw [im_ru_ne q]
    by_cases q1 : k = 10
    · rw [q1, im_ru_eq, im_ru_eq]
    · rw [im_ru_ne q1, im_ru_ne q1]
      by_cases q2 : k = 12 + v
      · rw [q2, im_ru_eq, im_ru_eq]
      · rw [im_ru_ne q2, im_ru_ne q2, im_ru_ne q]
theorem im_WF_sp {ρ : Nat → Int32} (hw : im_WF ρ) {v : Nat} (hv : v < 10) {amt : Int32} : im_WF (im_sp ρ v amt) :=
  im_WF_ru (im_WF_ru hw (Or.inl (by omega))) (Or.inl (by omega))
theorem im_spends {σ : iw_M} {v : Nat} (hv : v < 10) (amt : Int32) : ∃ σ', f_X6_spends (nI v) amt σ = some σ' ∧ σ' 85 = im_sp (σ 85) v amt ∧ ∀ r, r ≠ 85 → σ' r = σ r := by
  refine ⟨iw_up (iw_up σ 85 (12 + v) (σ 85 (12 + v) - (if amt ≤ σ 85 (12 + v) then amt else σ 85 (12 + v)))) 85 10 (σ 85 10 + (if amt ≤ σ 85 (12 + v) then amt else σ 85 (12 + v))), ?_, ?_, fun r hr => by rw [iw_up_ne hr, iw_up_ne hr]⟩
  · have r1 : ∀ σ : iw_M, iw_rd σ 85 10 = some (σ 85 10) := fun σ => im_m_rd (k := 10) (by decide)
    have w1 : ∀ (σ : iw_M) (x : Int32), iw_wr σ 85 10 x = some (iw_up σ 85 10 x) := fun σ x => im_wr (a := 85) (k := 10) (by rw [im_al85]; decide)
    unfold f_X6_spends f_X6_spends_J26
    rw [im_lit 12, nI_add, im_m_rd (by omega)]
    simp only [im_bind]
    by_cases q : amt ≤ σ 85 (12 + v)
    · rw [if_pos q, if_pos q, im_wr (by rw [im_al85]; omega), im_bind, r1, im_bind, w1, im_bind, im_upn (by omega)]
    · rw [if_neg q, if_neg q, im_wr (by rw [im_al85]; omega), im_bind, r1, im_bind, w1, im_bind, im_upn (by omega)]
  · unfold im_sp
    rw [im_up_row, im_up_row]
theorem im_spend {σ : iw_M} {c : Nat} {ρ : Nat → Int32} (hc : iw_net c) (h : im_NR σ c ρ) {v : Nat} (hv : v < im_tn (ρ 0)) (hv' : v < 10) (amt : Int32) : im_NR (f_X1_spend c (nI v) amt σ) c (im_sp ρ v amt) ∧ ∀ r, r ≠ c + 1 → r ≠ c + 2 → f_X1_spend c (nI v) amt σ r = σ r := by
  have a1 := im_al_n c hc
  have ev : σ (c + 2) v = ρ (12 + v) := h.2.1 v hv
  have e10 : σ (c + 1) 10 = ρ 10 := h.1 10 (by omega) (by omega)
  have em : (if σ (c + 2) v < amt then σ (c + 2) v else amt) = if amt ≤ ρ (12 + v) then amt else ρ (12 + v) := by
    rw [ev]
    by_cases q : amt ≤ ρ (12 + v)
    · rw [if_pos q, if_neg (Int32.not_lt.mpr q)]
    · rw [if_neg q, if_pos (Int32.not_le.mp q)]
  unfold f_X1_spend
  rw [im_let, im_let, im_let, im_at (by rw [a1.2.1]; exact hv'), em, im_inc (by rw [a1.2.1]; exact hv'), show (10 : Int32) = nI 10 from rfl, im_inc (by rw [a1.1]; decide), im_upo (show c + 1 ≠ c + 2 by omega), ev, e10, ← Int32.sub_eq_add_neg]
  have h1 := im_NR_en (v := ρ (12 + v) - (if amt ≤ ρ (12 + v) then amt else ρ (12 + v))) h hv'
  have h2 := im_NR_num (v := ρ 10 + (if amt ≤ ρ (12 + v) then amt else ρ (12 + v))) h1 (show 4 ≤ 10 by omega) (show 10 < 12 by omega)
  exact ⟨h2, fun r r1 r2 => by rw [iw_up_ne r1, iw_up_ne r2]⟩
