/-! the reference's way over a pair -/
/-- row r holds the nodes q -/
def im_ls (σ : iw_M) (r m : Nat) (q : Nat → Nat) : Prop := ∀ k, k < m → σ r k = nI (q k)
theorem im_overM_L {σ : iw_M} {r m a b : Nat} {q : Nat → Nat} (hr : iw_al r = 10) (hm : m ≤ 10) (hq : ∀ k, k < m → q k < 10) (hl : im_ls σ r m q) (ha : a < 2 ^ 31) (hb : b < 2 ^ 31) (k : Int32 → Option Int32) : ∀ (d j nn v : Nat), 1 ≤ j → j + d = max 1 m → d < nn → v ≤ 1 → f_X6_goesOver_L6 r (nI m) (nI a) (nI b) σ k nn (nI v) (nI j) = k (nI (if v = 0 ∧ im_su (im_pm q a b) d j = 0 then 0 else 1)) := by
  intro d
  induction d with
  | zero =>
    intro j nn v j0 h1 h2 hv
    obtain ⟨nn, rfl⟩ : ∃ q, nn = q + 1 := ⟨nn - 1, by omega⟩
    have e0 : im_su (im_pm q a b) 0 j = 0 := rfl
    rw [s_X6_goesOver_6]
    unfold f_X6_goesOver_B6
    rw [if_pos (by rw [im_le (by omega) (by omega)]; omega), e0]
    by_cases z : v = 0
    · rw [if_pos ⟨z, rfl⟩, z]
    · rw [if_neg (fun y => z y.1), show v = 1 by omega]
  | succ d ih =>
    intro j nn v j0 h1 h2 hv
    obtain ⟨nn, rfl⟩ : ∃ q, nn = q + 1 := ⟨nn - 1, by omega⟩
    have q1 := hq (j - 1) (by omega)
    have q2 := hq j (by omega)
    have e1 : nI j - (1 : Int32) = nI (j - 1) := by rw [show (1 : Int32) = nI 1 from rfl, pk_sub (by omega)]
    have le := im_pm_le (q := q) (a := a) (b := b) (k := j)
    have ih0 := ih (j + 1) nn 0 (by omega) (by omega) (by omega) (by omega)
    have ih1 := ih (j + 1) nn 1 (by omega) (by omega) (by omega) (by omega)
    rw [if_neg (show ¬ (1 = 0 ∧ im_su (im_pm q a b) d (j + 1) = 0) from fun z => by omega)] at ih1
    rw [s_X6_goesOver_6]
    unfold f_X6_goesOver_B6 f_X6_goesOver_J35 f_X6_goesOver_J53 f_X6_goesOver_J57 f_X6_goesOver_J58
    rw [if_neg (by rw [im_le (by omega) (by omega)]; omega), e1, im_rd (by omega), im_rd (by omega), hl (j - 1) (by omega), hl j (by omega)]
    simp only [im_bind, im_let]
    rw [nI_1, im_su_s]
    simp only [im_eq (show q (j - 1) < 2 ^ 31 by omega) ha, im_eq (show q (j - 1) < 2 ^ 31 by omega) hb, im_eq (show q j < 2 ^ 31 by omega) ha, im_eq (show q j < 2 ^ 31 by omega) hb]
    by_cases z : v = 0
    · subst z
      rw [if_pos (show nI 0 = (0 : Int32) from rfl)]
      by_cases p : im_pm q a b j = 1
      · rw [p, if_neg (show ¬ (0 = 0 ∧ 1 + im_su (im_pm q a b) d (j + 1) = 0) from fun y => by omega), ← ih1]
        rcases im_pm_1.mp p with ⟨x1, x2⟩ | ⟨x1, x2⟩
        · rw [if_pos x1, if_pos x2]; rfl
        · by_cases y1 : q (j - 1) = a
          · by_cases y2 : q j = b
            · rw [if_pos y1, if_pos y2]; rfl
            · rw [if_pos y1, if_neg y2, if_pos x1, if_pos x2]; rfl
          · rw [if_neg y1, if_pos x1, if_pos x2]; rfl
      · have p' : ¬ ((q (j - 1) = a ∧ q j = b) ∨ (q (j - 1) = b ∧ q j = a)) := fun y => p (im_pm_1.mpr y)
        rw [show im_pm q a b j = 0 by omega, Nat.zero_add, ← ih0]
        by_cases y1 : q (j - 1) = a
        · have y2 : ¬ q j = b := fun y => p' (Or.inl ⟨y1, y⟩)
          rw [if_pos y1, if_neg y2]
          by_cases y3 : q (j - 1) = b
          · rw [if_pos y3, if_neg (fun y => p' (Or.inr ⟨y3, y⟩))]; rfl
          · rw [if_neg y3]; rfl
        · rw [if_neg y1]
          by_cases y3 : q (j - 1) = b
          · rw [if_pos y3, if_neg (fun y => p' (Or.inr ⟨y3, y⟩))]; rfl
          · rw [if_neg y3]; rfl
    · rw [if_neg (show ¬ nI v = (0 : Int32) by rw [show (0 : Int32) = nI 0 from rfl, im_eq (by omega) (by omega)]; exact z), if_neg (fun y => z y.1), ← ih1]
      rfl
theorem im_overM {n : Nat} (hn : 4096 ≤ n) {σ : iw_M} {r m a b : Nat} {q : Nat → Nat} (hr : iw_al r = 10) (hm : m ≤ 10) (hq : ∀ k, k < m → q k < 10) (hl : im_ls σ r m q) (ha : a < 2 ^ 31) (hb : b < 2 ^ 31) : f_X6_goesOver n r (nI m) (nI a) (nI b) σ = some (if im_su (im_pm q a b) (m - 1) 1 = 0 then 0 else 1) := by
  unfold f_X6_goesOver
  rw [show f_X6_goesOver_L6 r (nI m) (nI a) (nI b) σ f_X6_goesOver_X66_6 n (0 : Int32) (1 : Int32) = f_X6_goesOver_L6 r (nI m) (nI a) (nI b) σ f_X6_goesOver_X66_6 n (nI 0) (nI 1) from rfl, im_overM_L hr hm hq hl ha hb _ (m - 1) 1 n 0 (by omega) (by omega) (by omega) (by omega)]
  unfold f_X6_goesOver_X66_6
  by_cases z : im_su (im_pm q a b) (m - 1) 1 = 0
  · rw [if_pos ⟨rfl, z⟩, if_pos z]; rfl
  · rw [if_neg (fun y => z y.2), if_neg z]; rfl
