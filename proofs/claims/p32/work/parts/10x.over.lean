/-! does a way go over a pair of nodes: on both sides -/
def im_pm (q : Nat → Nat) (a b k : Nat) : Nat := if (q (k - 1) = a ∧ q k = b) ∨ (q (k - 1) = b ∧ q k = a) then 1 else 0
theorem im_pm_le {q : Nat → Nat} {a b k : Nat} : im_pm q a b k ≤ 1 := by
  unfold im_pm
  split <;> omega
theorem im_pm_1 {q : Nat → Nat} {a b k : Nat} : im_pm q a b k = 1 ↔ (q (k - 1) = a ∧ q k = b) ∨ (q (k - 1) = b ∧ q k = a) := by
  unfold im_pm
  by_cases z : (q (k - 1) = a ∧ q k = b) ∨ (q (k - 1) = b ∧ q k = a)
  · rw [if_pos z]; exact ⟨fun _ => z, fun _ => rfl⟩
  · rw [if_neg z]; exact ⟨fun y => by omega, fun y => absurd y z⟩
theorem im_pm_un {q : Nat → Nat} {m a b : Nat} (hq : ∀ k k', k < m → k' < m → q k = q k' → k = k') {k j : Nat} (k0 : 1 ≤ k) (k1 : k < m) (j0 : 1 ≤ j) (j1 : j < m) (hk : im_pm q a b k = 1) (hj : im_pm q a b j = 1) : k = j := by
  have q1 := im_pm_1.mp hk
  have q2 := im_pm_1.mp hj
  have e1 := hq k j k1 j1
  have e2 := hq (k - 1) j (by omega) j1
  have e3 := hq k (j - 1) k1 (by omega)
  rcases q1 with ⟨x1, x2⟩ | ⟨x1, x2⟩ <;> rcases q2 with ⟨y1, y2⟩ | ⟨y1, y2⟩
  · exact e1 (by rw [x2, y2])
  · have z1 := e3 (by rw [x2, y1])
    have z2 := e2 (by rw [x1, y2])
    omega
  · have z1 := e3 (by rw [x2, y1])
    have z2 := e2 (by rw [x1, y2])
    omega
  · exact e1 (by rw [x2, y2])
section
variable {σ : iw_M} {c : Nat} {ρ : Nat → Int32}
theorem im_overG_L (hc : iw_net c) (hw : im_WF ρ) (h : im_NR σ c ρ) {i s a b : Nat} (hi : i < im_tn (ρ 3)) (hs : s < im_tn (ρ 2)) (ha : a < 2 ^ 31) (hb : b < 2 ^ 31) (k : Option Int32) : ∀ (d j nn : Nat), 1 ≤ j → j + d = max 1 (im_wlen ρ i s) → d < nn → f_X1_goesOver_L9 c (nI (6 * i + s)) (nI a) (nI b) σ (nI (10 * (6 * i + s))) k nn (nI j) = if im_su (im_pm (im_wn ρ i s) a b) d j = 0 then k else some 1 := by
  have b0 := hw.1.1.1
  obtain ⟨w1, w2, w3⟩ := im_way_X hc hw h hi hs
  intro d
  induction d with
  | zero =>
    intro j nn j0 h1 h2
    obtain ⟨nn, rfl⟩ : ∃ q, nn = q + 1 := ⟨nn - 1, by omega⟩
    rw [s_X1_goesOver_9]
    unfold f_X1_goesOver_B9
    rw [w2, if_pos (by rw [im_le (by omega) (by omega)]; omega), if_pos (show im_su (im_pm (im_wn ρ i s) a b) 0 j = 0 from rfl)]
  | succ d ih =>
    intro j nn j0 h1 h2
    obtain ⟨nn, rfl⟩ : ∃ q, nn = q + 1 := ⟨nn - 1, by omega⟩
    have n1 := w3 (j - 1) (by omega)
    have n2 := w3 j (by omega)
    have m1 := n1.1
    have m2 := n2.1
    have e1 : nI (10 * (6 * i + s)) + nI j - 1 = nI (10 * (6 * i + s) + (j - 1)) := by
      rw [nI_add, show (1 : Int32) = nI 1 from rfl, pk_sub (by omega)]
      congr 1
      omega
    have le := im_pm_le (q := im_wn ρ i s) (a := a) (b := b) (k := j)
    rw [s_X1_goesOver_9]
    unfold f_X1_goesOver_B9
    rw [w2, if_neg (by rw [im_le (by omega) (by omega)]; omega), e1, nI_add, n1.2, n2.2, im_isPair (by omega) (by omega) ha hb, im_su_s]
    by_cases q : im_pm (im_wn ρ i s) a b j = 1
    · rw [q, if_pos (im_pm_1.mp q), if_neg (show ¬ (1 : Int32) = 0 by decide), if_neg (by omega)]
    · rw [show im_pm (im_wn ρ i s) a b j = 0 by omega, Nat.zero_add, if_neg (fun z => q (im_pm_1.mpr z)), if_pos rfl, im_let, nI_1]
      exact ih (j + 1) nn (by omega) (by omega) (by omega)
/-- how often the way goes over the pair -/
theorem im_overG {n : Nat} (hn : 4096 ≤ n) (hc : iw_net c) (hw : im_WF ρ) (h : im_NR σ c ρ) {i s a b : Nat} (hi : i < im_tn (ρ 3)) (hs : s < im_tn (ρ 2)) (ha : a < 2 ^ 31) (hb : b < 2 ^ 31) : im_su (im_pm (im_wn ρ i s) a b) (im_wlen ρ i s - 1) 1 ≤ 1 ∧ f_X1_goesOver n c (nI (6 * i + s)) (nI a) (nI b) σ = some (nI (im_su (im_pm (im_wn ρ i s) a b) (im_wlen ρ i s - 1) 1)) := by
  have w1 := (im_way_X hc hw h hi hs).1
  have le : im_su (im_pm (im_wn ρ i s) a b) (im_wlen ρ i s - 1) 1 ≤ 1 := im_su_1 (fun _ => im_pm_le) _ _ (fun k j k1 k2 j1 j2 hk hj => im_pm_un (m := im_wlen ρ i s) (fun x y hx hy e => (hw.2.2.2.2.2 i s hi hs).2.2 x y hx hy e) k1 (by omega) j1 (by omega) hk hj)
  refine ⟨le, ?_⟩
  unfold f_X1_goesOver
  rw [im_let, show (10 : Int32) = nI 10 from rfl, pk_mul, show (6 * i + s) * 10 = 10 * (6 * i + s) by omega, show (1 : Int32) = nI 1 from rfl, im_overG_L hc hw h hi hs ha hb _ (im_wlen ρ i s - 1) 1 n (by omega) (by omega) (by omega)]
  by_cases q : im_su (im_pm (im_wn ρ i s) a b) (im_wlen ρ i s - 1) 1 = 0
  · rw [if_pos q, q]; rfl
  · rw [if_neg q, show im_su (im_pm (im_wn ρ i s) a b) (im_wlen ρ i s - 1) 1 = 1 by omega]; rfl
end
