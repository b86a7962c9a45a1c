/-! numbers of a text -/
def im_de (q : Nat → Nat) : Nat → Nat → Nat
  | 0, p => p
  | d + 1, p => if 48 ≤ q p ∧ q p ≤ 57 then im_de q d (p + 1) else p
theorem im_de_s (q : Nat → Nat) (d p : Nat) : im_de q (d + 1) p = if 48 ≤ q p ∧ q p ≤ 57 then im_de q d (p + 1) else p := rfl
theorem im_de_le {q : Nat → Nat} : ∀ (d p : Nat), p ≤ im_de q d p ∧ im_de q d p ≤ p + d := by
  intro d
  induction d with
  | zero => intro p; exact ⟨Nat.le_refl _, Nat.le_refl _⟩
  | succ d ih =>
    intro p
    rw [im_de_s]
    have := ih (p + 1)
    by_cases z : 48 ≤ q p ∧ q p ≤ 57
    · rw [if_pos z]; omega
    · rw [if_neg z]; omega
theorem im_de_dg {q : Nat → Nat} : ∀ (d p k : Nat), p ≤ k → k < im_de q d p → 48 ≤ q k ∧ q k ≤ 57 := by
  intro d
  induction d with
  | zero => intro p k h1 h2; have : im_de q 0 p = p := rfl; omega
  | succ d ih =>
    intro p k h1 h2
    rw [im_de_s] at h2
    by_cases z : 48 ≤ q p ∧ q p ≤ 57
    · rw [if_pos z] at h2
      by_cases e : k = p
      · rw [e]; exact z
      · exact ih (p + 1) k (by omega) h2
    · rw [if_neg z] at h2
      omega
def im_nv (q : Nat → Nat) : Nat → Nat → Nat → Nat
  | 0, _, v => v
  | d + 1, p, v => im_nv q d (p + 1) (10 * v + q p - 48)
theorem im_nv_s (q : Nat → Nat) (d p v : Nat) : im_nv q (d + 1) p v = im_nv q d (p + 1) (10 * v + q p - 48) := rfl
theorem im_nv_lt {q : Nat → Nat} : ∀ (d p v : Nat), (∀ k, p ≤ k → k < p + d → 48 ≤ q k ∧ q k ≤ 57) → im_nv q d p v + 1 ≤ (v + 1) * 10 ^ d := by
  intro d
  induction d with
  | zero =>
    intro p v _
    rw [Nat.pow_zero, Nat.mul_one]
    exact Nat.le_refl _
  | succ d ih =>
    intro p v h
    have h0 := h p (Nat.le_refl _) (by omega)
    have h1 := ih (p + 1) (10 * v + q p - 48) (fun k k1 k2 => h k (by omega) (by omega))
    rw [im_nv_s, Nat.pow_succ, Nat.mul_comm (10 ^ d) 10, ← Nat.mul_assoc]
    refine Nat.le_trans h1 (Nat.mul_le_mul_right _ ?_)
    omega
/-- where the digits end, and what they make -/
def im_E (len : Nat) (q : Nat → Nat) (s : Nat) : Nat := im_de q (len - s) s
def im_V (len : Nat) (q : Nat → Nat) (s : Nat) : Nat := im_nv q (im_E len q s - s) s 0
theorem im_E_le {len : Nat} {q : Nat → Nat} {s : Nat} (h : s ≤ len) : s ≤ im_E len q s ∧ im_E len q s ≤ len := by
  have := im_de_le (q := q) (len - s) s
  unfold im_E
  omega
theorem im_V_lt {len : Nat} {q : Nat → Nat} {s : Nat} (h : s ≤ len) (h5 : im_E len q s - s ≤ 5) : im_V len q s < 100000 := by
  have e := im_E_le (q := q) h
  have h1 := im_nv_lt (q := q) (im_E len q s - s) s 0 (fun k k1 k2 => im_de_dg (len - s) s k k1 (show k < im_E len q s by omega))
  have h2 : (10 : Nat) ^ (im_E len q s - s) ≤ 10 ^ 5 := Nat.pow_le_pow_right (by decide) h5
  rw [Nat.zero_add, Nat.one_mul] at h1
  unfold im_V
  omega
theorem im_isDigit (x : Int32) : f_X4_isDigit x = if 48 ≤ x ∧ x ≤ 57 then 1 else 0 := im_within x 48 57
theorem im_dig {k : Nat} (h : k < 2 ^ 31) : ((48 : Int32) ≤ nI k ∧ nI k ≤ (57 : Int32)) = (48 ≤ k ∧ k ≤ 57) := by
  rw [im_lit 48, im_lit 57, im_le (by decide) h, im_le h (by decide)]
section
variable {len : Nat} {q : Nat → Nat}
theorem im_numX_L (kk : Int32 → iw_M → Option (Int32 × iw_M)) : ∀ (d p nn : Nat) (σ : iw_M) (v : Nat), p + d = len → d < nn → im_tX len q σ → σ 6 5 = nI p → f_X4_readNumber_L15 kk nn (nI v) σ = kk (nI (im_nv q (im_de q d p - p) p v)) (iw_up σ 6 5 (nI (im_de q d p))) := by
  have e7 : iw_al 7 = 120 := rfl
  intro d
  induction d with
  | zero =>
    intro p nn σ v h1 h2 h h5
    obtain ⟨nn, rfl⟩ : ∃ q, nn = q + 1 := ⟨nn - 1, by omega⟩
    obtain ⟨l1, l2, l3⟩ := h
    rw [s_X4_readNumber_15]
    unfold f_X4_readNumber_B15
    rw [l2, h5, if_pos (by rw [im_le (by omega) (by omega)]; omega), show im_de q 0 p = p from rfl, Nat.sub_self, ← h5, im_up_self]
    rfl
  | succ d ih =>
    intro p nn σ v h1 h2 h h5
    obtain ⟨nn, rfl⟩ : ∃ q, nn = q + 1 := ⟨nn - 1, by omega⟩
    obtain ⟨l1, l2, l3⟩ := id h
    have lp := l3 p (by omega)
    have at7 : f_X5_at 7 (nI p) σ = nI (q p) := by rw [im_at (by omega)]; exact lp.2
    have ng : ¬ nI len ≤ nI p := by rw [im_le (by omega) (by omega)]; omega
    have le := im_de_le (q := q) d (p + 1)
    rw [s_X4_readNumber_15]
    unfold f_X4_readNumber_B15
    rw [l2, h5, if_neg ng, at7, im_isDigit, im_b01, im_de_s]
    by_cases z : 48 ≤ q p ∧ q p ≤ 57
    · have r := ih (p + 1) nn (iw_up σ 6 5 (nI (p + 1))) (10 * v + q p - 48) (by omega) (by omega) (im_tX_up h (by decide)) im_ups
      rw [im_up_up] at r
      rw [if_pos (by rw [im_dig (by omega)]; exact z), if_pos z, im_let, im_let, nI_1, show (10 : Int32) = nI 10 from rfl, show (48 : Int32) = nI 48 from rfl, pk_mul, nI_add, pk_sub (by omega), r, show im_de q d (p + 1) - p = (im_de q d (p + 1) - (p + 1)) + 1 by omega, im_nv_s]
    · rw [if_neg (by rw [im_dig (by omega)]; exact z), if_neg z, Nat.sub_self, ← h5, im_up_self]
      rfl
/-- what the class's memory is after it read a number's digits -/
def im_nX (σ : iw_M) (s e : Nat) : iw_M := iw_up (iw_up (iw_up σ 6 5 (nI s)) 6 6 (nI s)) 6 5 (nI e)
/-- is the number there allowed -/
def im_ok (len : Nat) (q : Nat → Nat) (s : Nat) (a b x : Int32) : Prop := (1 ≤ im_E len q s - s ∧ im_E len q s - s ≤ 5) ∧ a ≤ x ∧ x ≤ b
theorem im_15 {k : Nat} (h : k < 2 ^ 31) : ((1 : Int32) ≤ nI k ∧ nI k ≤ (5 : Int32)) = (1 ≤ k ∧ k ≤ 5) := by
  rw [im_lit 1, im_lit 5, im_le (by decide) h, im_le h (by decide)]
theorem im_numX {n : Nat} (hn : 4096 ≤ n) {σ : iw_M} {p : Nat} (hp : p ≤ len) (h : im_tX len q σ) (h5 : σ 6 5 = nI p) (a b : Int32) : (im_ok len q (im_S len q p) a b (nI (im_V len q (im_S len q p))) → f_X4_readNumber n a b σ = some (nI (im_V len q (im_S len q p)), im_nX σ (im_S len q p) (im_E len q (im_S len q p)))) ∧ (¬ im_ok len q (im_S len q p) a b (nI (im_V len q (im_S len q p))) → f_X4_readNumber n a b σ = some (-1, iw_up (im_nX σ (im_S len q p) (im_E len q (im_S len q p))) 6 4 (nI (im_S len q p)))) := by
  have sl := im_S_le (q := q) hp
  have l1 := h.1
  have el := im_E_le (q := q) sl.2
  have L := im_numX_L (q := q) (len := len) (f_X4_readNumber_X76_15 a b) (len - im_S len q p) (im_S len q p) n (iw_up (iw_up σ 6 5 (nI (im_S len q p))) 6 6 (nI (im_S len q p))) 0 (by omega) (by omega) (im_tX_up (im_tX_up h (by decide)) (by decide)) (by rw [im_upn (by decide), im_ups])
  have e : f_X4_readNumber n a b σ = f_X4_readNumber_X76_15 a b (nI (im_V len q (im_S len q p))) (im_nX σ (im_S len q p) (im_E len q (im_S len q p))) := by
    unfold f_X4_readNumber
    rw [im_next hn hp h h5, im_b2, im_let, im_ups]
    exact L
  have d5 : im_nX σ (im_S len q p) (im_E len q (im_S len q p)) 6 5 = nI (im_E len q (im_S len q p)) := im_ups
  have d6 : im_nX σ (im_S len q p) (im_E len q (im_S len q p)) 6 6 = nI (im_S len q p) := by
    unfold im_nX
    rw [im_upn (by decide), im_ups]
  unfold im_ok
  rw [e]
  unfold f_X4_readNumber_X76_15 f_X4_readNumber_J106
  rw [d5, d6, im_let, pk_sub (by omega), im_within, im_b01, im_within, im_b01, im_refuse, im_let2]
  refine ⟨fun z => ?_, fun z => ?_⟩
  · rw [if_pos (by rw [im_15 (by omega)]; exact z.1), if_pos z.2]
  · by_cases y : 1 ≤ im_E len q (im_S len q p) - im_S len q p ∧ im_E len q (im_S len q p) - im_S len q p ≤ 5
    · rw [if_pos (by rw [im_15 (by omega)]; exact y), if_neg (fun x => z ⟨y, x⟩)]
    · rw [if_neg (by rw [im_15 (by omega)]; exact y)]
/-- the reference's digits -/
theorem im_numM_L {σ : iw_M} {s : Nat} (h : im_tM len q σ) (h12 : σ 84 12 = nI s) {v1 : Int32} (hv1 : ¬ v1 < 0) (kk : Int32 → Int32 → Option (Int32 × iw_M)) : ∀ (d p nn v : Nat), s ≤ p → p + d = len → d < nn → ∃ w : Nat, f_X6_finds_L15 v1 σ kk nn (nI p) (nI v) = kk (nI (im_de q d p)) (nI w) ∧ (im_de q d p - s ≤ 5 → w = im_nv q (im_de q d p - p) p v) := by
  have e92 : iw_al 92 = 120 := rfl
  obtain ⟨l1, l2, l3⟩ := h
  intro d
  induction d with
  | zero =>
    intro p nn v sp h1 h2
    obtain ⟨nn, rfl⟩ : ∃ q, nn = q + 1 := ⟨nn - 1, by omega⟩
    refine ⟨v, ?_, fun _ => ?_⟩
    · rw [s_X6_finds_15]
      unfold f_X6_finds_B15
      rw [if_neg hv1, l2, if_pos (by rw [im_le (by omega) (by omega)]; omega)]
      rfl
    · rw [show im_de q 0 p = p from rfl, Nat.sub_self]
      rfl
  | succ d ih =>
    intro p nn v sp h1 h2
    obtain ⟨nn, rfl⟩ : ∃ q, nn = q + 1 := ⟨nn - 1, by omega⟩
    have lp := l3 p (by omega)
    have at92 : iw_rd σ 92 (nI p) = some (nI (q p)) := by rw [im_rd (by omega)]; exact congrArg some lp.2
    have ng : ¬ nI len ≤ nI p := by rw [im_le (by omega) (by omega)]; omega
    have le := im_de_le (q := q) d (p + 1)
    rw [s_X6_finds_15]
    unfold f_X6_finds_B15 f_X6_finds_J79
    rw [if_neg hv1, l2, if_neg ng, at92, im_bind, im_bind, im_in, im_b01, im_de_s, h12, pk_sub sp]
    by_cases z : 48 ≤ q p ∧ q p ≤ 57
    · rw [if_pos (by rw [im_dig (by omega)]; exact z), if_pos z, im_let, im_let, nI_1]
      by_cases y : 6 ≤ p - s
      · obtain ⟨w, w1, w2⟩ := ih (p + 1) nn v (by omega) (by omega) (by omega)
        refine ⟨w, ?_, fun c => by omega⟩
        rw [if_pos (by rw [im_lit 6, im_le (by decide) (by omega)]; exact y)]
        exact w1
      · obtain ⟨w, w1, w2⟩ := ih (p + 1) nn (10 * v + q p - 48) (by omega) (by omega) (by omega)
        refine ⟨w, ?_, fun c => ?_⟩
        · rw [if_neg (by rw [im_lit 6, im_le (by decide) (by omega)]; exact y), show (10 : Int32) = nI 10 from rfl, show (48 : Int32) = nI 48 from rfl, pk_mul, nI_add, pk_sub (by omega)]
          exact w1
        · rw [w2 c, show im_de q d (p + 1) - p = (im_de q d (p + 1) - (p + 1)) + 1 by omega, im_nv_s]
    · rw [if_neg (by rw [im_dig (by omega)]; exact z), if_neg z]
      refine ⟨v, rfl, fun _ => ?_⟩
      rw [Nat.sub_self]
      rfl
theorem im_finds {n : Nat} (hn : 4096 ≤ n) {σ : iw_M} {p : Nat} (hp : p ≤ len) (h : im_tM len q σ) (h12 : σ 84 12 = nI p) (a b g : Int32) : ∃ u : Int32, (im_E len q (im_S len q p) - im_S len q p ≤ 5 → u = if g = 0 then nI (im_V len q (im_S len q p)) else - nI (im_V len q (im_S len q p))) ∧ (im_ok len q (im_S len q p) a b u → f_X6_finds n a b g σ = some (nI (im_E len q (im_S len q p)), iw_up (iw_up σ 84 12 (nI (im_S len q p))) 84 13 u)) ∧ (¬ im_ok len q (im_S len q p) a b u → f_X6_finds n a b g σ = some (-1000, iw_up (iw_up σ 84 12 (nI (im_S len q p))) 84 13 u)) := by
  have sl := im_S_le (q := q) hp
  have l1 := h.1
  have el := im_E_le (q := q) sl.2
  have key : ∃ w : Nat, (f_X6_finds n a b g σ = f_X6_finds_X87_15 a b g (iw_up σ 84 12 (nI (im_S len q p))) (nI (im_E len q (im_S len q p))) (nI w)) ∧ (im_E len q (im_S len q p) - im_S len q p ≤ 5 → w = im_V len q (im_S len q p)) := by
    unfold f_X6_finds
    rw [im_here hn hp h h12, im_b2, im_let, im_ups]
    by_cases z : im_S len q p < len
    · obtain ⟨w, w1, w2⟩ := im_numM_L (q := q) (len := len) (σ := iw_up σ 84 12 (nI (im_S len q p))) (s := im_S len q p) (im_tM_up h (by decide)) im_ups (v1 := im_cd len q (im_S len q p)) (by unfold im_cd; rw [if_pos z]; exact nI_pos (by have := (h.2.2 _ z).1; omega)) (f_X6_finds_X87_15 a b g (iw_up σ 84 12 (nI (im_S len q p)))) (len - im_S len q p) (im_S len q p) n 0 (Nat.le_refl _) (by omega) (by omega)
      exact ⟨w, w1, w2⟩
    · have eE : im_E len q (im_S len q p) = im_S len q p := by omega
      obtain ⟨n1, e1⟩ : ∃ x, n = x + 1 := ⟨n - 1, by omega⟩
      refine ⟨0, ?_, fun _ => ?_⟩
      · rw [eE, e1, s_X6_finds_15]
        unfold f_X6_finds_B15 im_cd
        rw [if_neg z, if_pos (by decide)]
        rfl
      · unfold im_V
        rw [eE, Nat.sub_self]
        rfl
  obtain ⟨w, w1, w2⟩ := key
  have c1 : (nI (im_E len q (im_S len q p)) ≤ nI (im_S len q p)) = (im_E len q (im_S len q p) ≤ im_S len q p) := im_le (by omega) (by omega)
  have c2 : ((6 : Int32) ≤ nI (im_E len q (im_S len q p) - im_S len q p)) = (6 ≤ im_E len q (im_S len q p) - im_S len q p) := by rw [im_lit 6, im_le (by decide) (by omega)]
  have J : ∀ u : Int32, (im_ok len q (im_S len q p) a b u → f_X6_finds_J100 a b (iw_up σ 84 12 (nI (im_S len q p))) (nI (im_E len q (im_S len q p))) u = some (nI (im_E len q (im_S len q p)), iw_up (iw_up σ 84 12 (nI (im_S len q p))) 84 13 u)) ∧ (¬ im_ok len q (im_S len q p) a b u → f_X6_finds_J100 a b (iw_up σ 84 12 (nI (im_S len q p))) (nI (im_E len q (im_S len q p))) u = some (-1000, iw_up (iw_up σ 84 12 (nI (im_S len q p))) 84 13 u)) := by
    intro u
    unfold im_ok f_X6_finds_J100
    rw [im_let, im_upn (show 12 ≠ 13 by decide), im_ups, im_ups, pk_sub el.1, im_in, im_b01]
    refine ⟨fun z => ?_, fun z => ?_⟩
    · rw [if_neg (by rw [c1]; omega), if_neg (by rw [c2]; omega), if_pos z.2]
    · by_cases y1 : im_E len q (im_S len q p) ≤ im_S len q p
      · rw [if_pos (by rw [c1]; exact y1)]
      · rw [if_neg (by rw [c1]; exact y1)]
        by_cases y2 : 6 ≤ im_E len q (im_S len q p) - im_S len q p
        · rw [if_pos (by rw [c2]; exact y2)]
        · rw [if_neg (by rw [c2]; exact y2), if_neg (fun x => z ⟨⟨by omega, by omega⟩, x⟩)]
  rw [w1]
  unfold f_X6_finds_X87_15
  by_cases z : g = 0
  · exact ⟨nI w, fun c => by rw [if_pos z, w2 c], fun y => by rw [if_pos z]; exact (J _).1 y, fun y => by rw [if_pos z]; exact (J _).2 y⟩
  · exact ⟨- nI w, fun c => by rw [if_neg z, w2 c], fun y => by rw [if_neg z]; exact (J _).1 y, fun y => by rw [if_neg z]; exact (J _).2 y⟩
end
