/-! what the small functions answer -/
theorem im_let {α β : Type} (x : α) (f : α → β) : iw_let x f = f x := rfl
theorem im_bind {α β : Type} (x : α) (f : α → Option β) : (some x).bind f = f x := rfl
theorem im_b2 {α β γ : Type} (x : α) (y : β) (f : α → β → Option γ) : iw_b2 (some (x, y)) f = f x y := rfl
theorem im_within (x a b : Int32) : f_X5_isWithin x a b = if a ≤ x ∧ x ≤ b then 1 else 0 := by
  unfold f_X5_isWithin
  by_cases h1 : x < a
  · rw [if_pos h1, if_neg (fun q => absurd q.1 (Int32.not_le.mpr h1))]
  · rw [if_neg h1]
    by_cases h2 : b < x
    · rw [if_pos h2, if_neg (fun q => absurd q.2 (Int32.not_le.mpr h2))]
    · rw [if_neg h2, if_pos ⟨Int32.not_lt.mp h1, Int32.not_lt.mp h2⟩]
theorem im_in (x a b : Int32) : f_X6_in x a b = if a ≤ x ∧ x ≤ b then 1 else 0 := im_within x a b
/-- an index of one of n things: what the class's 'has' and the reference's 'in' say -/
theorem im_idx (x : Int32) {n : Nat} (hn : n < 2 ^ 30) : (0 ≤ x ∧ x ≤ nI n - 1) ↔ ∃ k, k < n ∧ x = nI k := by
  constructor
  · rintro ⟨h1, h2⟩
    obtain ⟨j, hj, rfl⟩ := nI_of (Int32.not_lt.mpr h1)
    refine ⟨j, ?_, rfl⟩
    have e1 : (1 : Int32) = nI 1 := rfl
    have h3 := Int32.le_iff_toInt_le.mp h2
    rw [e1, pk_sub_toInt (by omega) (by decide), nI_toInt hj] at h3
    omega
  · rintro ⟨k, hk, rfl⟩
    refine ⟨nI_pos' (by omega), ?_⟩
    have e1 : (1 : Int32) = nI 1 := rfl
    rw [e1, pk_sub (by omega), im_le (by omega) (by omega)]
    omega
theorem im_has {c j : Nat} (hc : iw_net c) (hj : j < 12) {n : Nat} (hn : n < 2 ^ 30) (x : Int32) {σ : iw_M} (h : σ (c + 1) j = nI n) : f_X1_has c (nI j) x σ = if (∃ k, k < n ∧ x = nI k) then 1 else 0 := by
  unfold f_X1_has
  rw [im_at (by rw [(im_al_n c hc).1]; exact hj), h]
  by_cases h1 : x < 0
  · rw [if_pos h1, if_neg]
    rintro ⟨k, hk, rfl⟩
    exact nI_pos (by omega) h1
  · rw [if_neg h1]
    by_cases h2 : nI n ≤ x
    · rw [if_pos h2, if_neg]
      rintro ⟨k, hk, rfl⟩
      rw [im_le (by omega) (by omega)] at h2
      omega
    · rw [if_neg h2, if_pos]
      rcases im_ix x (n := n) (by omega) with ⟨j, a, b⟩ | a | a
      · exact ⟨j, a, b⟩
      · exact absurd a h1
      · exact absurd a h2
theorem im_al85 : iw_al 85 = 3255 := rfl
theorem im_isI (x : Int32) {n : Nat} (hn : n < 2 ^ 30) {y : Int32} (h : y = nI n) : (f_X6_in x 0 (y - 1)) &&& 1 = if (∃ k, k < n ∧ x = nI k) then 1 else 0 := by
  rw [im_in, h]
  by_cases q : ∃ k, k < n ∧ x = nI k
  · rw [if_pos q, if_pos ((im_idx x hn).mpr q)]; rfl
  · rw [if_neg q, if_neg (fun z => q ((im_idx x hn).mp z))]; rfl
theorem im_m_rd {σ : iw_M} {k : Nat} (h : k < 3255) : iw_rd σ 85 (nI k) = some (σ 85 k) := im_rd h
theorem im_isNode (x : Int32) {σ : iw_M} {n : Nat} (hn : n < 2 ^ 30) (h : σ 85 0 = nI n) : f_X6_isNode x σ = some (if (∃ k, k < n ∧ x = nI k) then 1 else 0) := by
  unfold f_X6_isNode
  rw [show (0 : Int32) = nI 0 from rfl, im_m_rd (by decide), im_bind, show nI 0 = (0 : Int32) from rfl, im_isI x hn h]
theorem im_isLink (x : Int32) {σ : iw_M} {n : Nat} (hn : n < 2 ^ 30) (h : σ 85 1 = nI n) : f_X6_isLink x σ = some (if (∃ k, k < n ∧ x = nI k) then 1 else 0) := by
  unfold f_X6_isLink
  rw [show iw_rd σ 85 (1 : Int32) = some (σ 85 1) from im_m_rd (k := 1) (by decide), im_bind, im_isI x hn h]
theorem im_isSensor (x : Int32) {σ : iw_M} {n : Nat} (hn : n < 2 ^ 30) (h : σ 85 2 = nI n) : f_X6_isSensor x σ = some (if (∃ k, k < n ∧ x = nI k) then 1 else 0) := by
  unfold f_X6_isSensor
  rw [show iw_rd σ 85 (2 : Int32) = some (σ 85 2) from im_m_rd (k := 2) (by decide), im_bind, im_isI x hn h]
theorem im_isInterest (x : Int32) {σ : iw_M} {n : Nat} (hn : n < 2 ^ 30) (h : σ 85 3 = nI n) : f_X6_isInterest x σ = some (if (∃ k, k < n ∧ x = nI k) then 1 else 0) := by
  unfold f_X6_isInterest
  rw [show iw_rd σ 85 (3 : Int32) = some (σ 85 3) from im_m_rd (k := 3) (by decide), im_bind, im_isI x hn h]
theorem im_ofLink {l w : Nat} {σ : iw_M} (h : 22 + 3 * l + w < 3255) : f_X6_ofLink (nI l) (nI w) σ = some (σ 85 (22 + 3 * l + w)) := by
  unfold f_X6_ofLink
  rw [im_lit 22, im_lit 3, pk_mul, nI_add, nI_add, im_m_rd h, im_bind]
theorem im_ofSensor {l w : Nat} {σ : iw_M} (h : 82 + 3 * l + w < 3255) : f_X6_ofSensor (nI l) (nI w) σ = some (σ 85 (82 + 3 * l + w)) := by
  unfold f_X6_ofSensor
  rw [im_lit 82, im_lit 3, pk_mul, nI_add, nI_add, im_m_rd h, im_bind]
theorem im_ofInterest {l w : Nat} {σ : iw_M} (h : 100 + 7 * l + w < 3255) : f_X6_ofInterest (nI l) (nI w) σ = some (σ 85 (100 + 7 * l + w)) := by
  unfold f_X6_ofInterest
  rw [im_lit 100, im_lit 7, pk_mul, nI_add, nI_add, im_m_rd h, im_bind]
theorem im_wayAt (i s : Nat) : f_X6_wayAt (nI i) (nI s) = nI (im_wa i s) := by
  unfold f_X6_wayAt im_wa
  rw [im_lit 135, im_lit 11, im_lit 6, pk_mul, nI_add, pk_mul, nI_add]
theorem im_lengthOf {i s : Nat} {σ : iw_M} (h : im_wa i s < 3255) : f_X6_lengthOf (nI i) (nI s) σ = some (σ 85 (im_wa i s)) := by
  unfold f_X6_lengthOf
  rw [im_wayAt, im_m_rd h, im_bind]
theorem im_nodeOf {i s k : Nat} {σ : iw_M} (h : im_wa i s + 1 + k < 3255) : f_X6_nodeOf (nI i) (nI s) (nI k) σ = some (σ 85 (im_wa i s + 1 + k)) := by
  unfold f_X6_nodeOf
  rw [im_wayAt, im_lit 1, nI_add, nI_add, im_m_rd h, im_bind]
theorem im_isAlive {v : Nat} {σ : iw_M} (h : 12 + v < 3255) : f_X6_isAlive (nI v) σ = some (if 0 < σ 85 (12 + v) then 1 else 0) := by
  unfold f_X6_isAlive
  rw [im_lit 12, nI_add, im_m_rd h, im_bind]
  by_cases q : σ 85 (12 + v) ≤ 0
  · rw [if_pos q, if_neg (Int32.not_lt.mpr q)]
  · rw [if_neg q, if_pos (Int32.not_le.mp q)]
theorem im_wayOf (i s : Nat) : f_X5_wayOf (nI i) (nI s) = nI (6 * i + s) := by
  unfold f_X5_wayOf
  rw [im_lit 6, pk_mul, nI_add, Nat.mul_comm]
section
variable {σ : iw_M} {c : Nat}
theorem im_partOfLink (hc : iw_net c) {l w : Nat} (h : 3 * l + w < 60) : f_X1_partOfLink c (nI l) (nI w) σ = σ (c + 3) (3 * l + w) := by
  unfold f_X1_partOfLink
  rw [im_lit 3, pk_mul, nI_add, Nat.mul_comm, im_at (by rw [(im_al_n c hc).2.2.1]; exact h)]
theorem im_sensorPart (hc : iw_net c) {l w : Nat} (h : 3 * l + w < 18) : f_X1_sensorPart c (nI l) (nI w) σ = σ (c + 4) (3 * l + w) := by
  unfold f_X1_sensorPart
  rw [im_lit 3, pk_mul, nI_add, Nat.mul_comm, im_at (by rw [(im_al_n c hc).2.2.2.1]; exact h)]
theorem im_lenOf (hc : iw_net c) {w : Nat} (h : w < 30) : f_X1_lengthOf c (nI w) σ = σ (c + 6) w := by
  unfold f_X1_lengthOf
  rw [im_at (by rw [(im_al_n c hc).2.2.2.2.2.1]; exact h)]
theorem im_nodeOfX (hc : iw_net c) {w k : Nat} (h : 10 * w + k < 300) : f_X1_nodeOf c (nI w) (nI k) σ = σ (c + 7) (10 * w + k) := by
  unfold f_X1_nodeOf
  rw [im_lit 10, pk_mul, nI_add, Nat.mul_comm, im_at (by rw [(im_al_n c hc).2.2.2.2.2.2]; exact h)]
theorem im_num (n : Nat) (hc : iw_net c) {j : Nat} (h : j < 12) (h6 : j ≠ 6) : f_X1_number n c (nI j) σ = some (σ (c + 1) j) := by
  unfold f_X1_number
  rw [if_neg (by rw [im_lit 6, im_eq (by omega) (by decide)]; exact h6), im_at (by rw [(im_al_n c hc).1]; exact h)]
theorem im_intPart (n : Nat) (hc : iw_net c) {i w : Nat} (h : 7 * i + w < 35) (hw : w < 7) : f_X1_interestPart n c (nI i) (nI w) σ = some (σ (c + 5) (7 * i + w)) := by
  unfold f_X1_interestPart
  rw [if_neg (by rw [im_lit 7, im_eq (by omega) (by decide)]; omega), im_lit 7, pk_mul, nI_add, Nat.mul_comm, im_at (by rw [(im_al_n c hc).2.2.2.2.1]; exact h)]
end
