/-! what two ways have in common, counted from either -/
theorem im_su_c {g h : Nat → Nat} : ∀ (d a : Nat), (∀ k, a ≤ k → k < a + d → g k = h k) → im_su g d a = im_su h d a := by
  intro d
  induction d with
  | zero => intro a _; rfl
  | succ d ih =>
    intro a e
    rw [im_su_s, im_su_s, e a (Nat.le_refl _) (by omega), ih (a + 1) (fun k k1 k2 => e k (by omega) (by omega))]
theorem im_su_add {g h : Nat → Nat} : ∀ (d a : Nat), im_su (fun k => g k + h k) d a = im_su g d a + im_su h d a := by
  intro d
  induction d with
  | zero => intro a; rfl
  | succ d ih =>
    intro a
    rw [im_su_s, im_su_s, im_su_s, ih (a + 1)]
    omega
theorem im_su_z : ∀ (d a : Nat), im_su (fun _ => 0) d a = 0 := fun d a => im_su_0 d a (fun _ _ _ => rfl)
theorem im_su_swap {F : Nat → Nat → Nat} {e b : Nat} : ∀ (d a : Nat), im_su (fun j => im_su (F j) e b) d a = im_su (fun k => im_su (fun j => F j k) d a) e b := by
  intro d
  induction d with
  | zero =>
    intro a
    exact (im_su_z e b).symm
  | succ d ih =>
    intro a
    rw [im_su_s, ih (a + 1), ← im_su_add]
    rfl
theorem im_pm_sym {q p : Nat → Nat} {j k : Nat} : im_pm q (p (j - 1)) (p j) k = im_pm p (q (k - 1)) (q k) j := by
  unfold im_pm
  by_cases z : (q (k - 1) = p (j - 1) ∧ q k = p j) ∨ (q (k - 1) = p j ∧ q k = p (j - 1))
  · rw [if_pos z, if_pos (by omega)]
  · rw [if_neg z, if_neg (by omega)]
/-- the number of links that two ways share -/
def im_kp (q p : Nat → Nat) (l m : Nat) : Nat := im_su (fun j => im_su (im_pm q (p (j - 1)) (p j)) (l - 1) 1) (m - 1) 1
theorem im_kp_sym {q p : Nat → Nat} {l m : Nat} : im_kp q p l m = im_kp p q m l := by
  unfold im_kp
  rw [im_su_swap]
  exact im_su_c _ _ (fun k _ _ => im_su_c _ _ (fun j _ _ => im_pm_sym))
