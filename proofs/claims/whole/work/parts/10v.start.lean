/-! at the start both hold the same -/
theorem im_RR0 : im_RR is_x0 is_m0 := by
  have z4 : ∀ k, (upd (fun _ => (0 : Int32)) 4 10) k = if k = 4 then 10 else 0 := fun k => rfl
  have r85 : ∀ k, is_m0 85 k = if k = 4 then 10 else 0 := fun k => by
    rw [← z4]; rfl
  have x21 : ∀ k, is_x0 (20 + 1) k = if k = 4 then 10 else 0 := fun k => by
    rw [← z4]; rfl
  have o : ∀ k, k ≠ 4 → is_m0 85 k = 0 := fun k hk => by rw [r85, if_neg hk]
  have t0 : im_tn (0 : Int32) = 0 := im_tn_nI (k := 0) (by decide)
  have s0 : ∀ b, 0 < b → im_sm (0 : Int32) b := fun b hb => ⟨by rw [t0]; exact hb, by rw [t0]; rfl⟩
  unfold im_RR
  rw [im_sl0]
  refine ⟨⟨fun j h1 h2 => by rw [x21, r85], fun k hk => ?_, fun k hk => ?_, fun k hk => ?_, fun k hk => ?_, fun i s hi => ?_, fun i s hi => ?_⟩, ⟨⟨?_, ?_, ?_, ?_, ?_, ?_⟩, fun l hl => ?_, fun l l' a b hl => ?_, fun s hs => ?_, fun i hi => ?_, fun i s hi => ?_⟩, ⟨0, 0, by omega, by omega, rfl, rfl, rfl, fun j hj => by omega⟩, ⟨0, by omega, rfl, rfl, fun k hk => by omega⟩⟩
  · rw [o 0 (by omega), t0] at hk; omega
  · rw [o 1 (by omega), t0] at hk; omega
  · rw [o 2 (by omega), t0] at hk; omega
  · rw [o 3 (by omega), t0] at hk; omega
  · rw [o 3 (by omega), t0] at hi; omega
  · rw [o 3 (by omega), t0] at hi; omega
  · rw [o 0 (by omega)]; exact s0 _ (by omega)
  · rw [o 1 (by omega)]; exact s0 _ (by omega)
  · rw [o 2 (by omega)]; exact s0 _ (by omega)
  · rw [o 3 (by omega)]; exact s0 _ (by omega)
  · rw [r85, if_pos rfl]; exact im_sm_nI (k := 10) (by omega) (by omega)
  · rw [r85, if_pos rfl, show (10 : Int32) = nI 10 from rfl, im_tn_nI (by omega)]; omega
  · rw [o 1 (by omega), t0] at hl; omega
  · rw [o 1 (by omega), t0] at hl; omega
  · rw [o 2 (by omega), t0] at hs; omega
  · rw [o 3 (by omega), t0] at hi; omega
  · rw [o 3 (by omega), t0] at hi; omega
