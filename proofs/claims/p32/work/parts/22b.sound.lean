/-! the law's isSound answers true -/
theorem s_L_isSound_7 (n : Nat) (σ : iw_M) (k7 : Int32 → Int32 → Option (Int32 × iw_M)) (nn : Nat) : f_L_isSound_L7 n σ k7 (nn + 1) = f_L_isSound_B7 n σ k7 (f_L_isSound_L7 n σ k7 nn) := rfl
theorem s_L_isSound_92 (n : Nat) (σ : iw_M) (k : Int32 → Option (Int32 × iw_M)) (nn : Nat) : f_L_isSound_L92 n σ k (nn + 1) = f_L_isSound_B92 n σ k (f_L_isSound_L92 n σ k nn) := rfl
theorem s_L_isSound_125 (n : Nat) (k : Int32 → iw_M → Option (Int32 × iw_M)) (nn : Nat) : f_L_isSound_L125 n k (nn + 1) = f_L_isSound_B125 n k (f_L_isSound_L125 n k nn) := rfl
theorem s_L_isSound_141 (n : Nat) (v13 : Int32) (k : Int32 → Int32 → iw_M → Option (Int32 × iw_M)) (nn : Nat) : f_L_isSound_L141 n v13 k (nn + 1) = f_L_isSound_B141 n v13 k (f_L_isSound_L141 n v13 k nn) := rfl
theorem s_L_isSound_179 (n : Nat) (v13 v29 : Int32) (m30 : iw_M) (v33 : Int32) (k : Int32 → Int32 → Option (Int32 × iw_M)) (nn : Nat) : f_L_isSound_L179 n v13 v29 m30 v33 k (nn + 1) = f_L_isSound_B179 n v13 v29 m30 v33 k (f_L_isSound_L179 n v13 v29 m30 v33 k nn) := rfl
/-- the nodes' energies -/
theorem ip_so7 {e : Int32} {R : Nat} {σ : iw_M} {ρ : Nat → Int32} (h : ip_L e R σ ρ) (k : Int32 → Int32 → Option (Int32 × iw_M)) : ∀ (d v nn : Nat), v + d = im_tn (ρ 0) → d < nn → f_L_isSound_L7 4096 σ k nn (ip_es ρ v) (nI (im_cn (im_al ρ) v)) (nI v) = k (ip_es ρ (im_tn (ρ 0))) (nI (im_cn (im_al ρ) (im_tn (ρ 0)))) := by
  obtain ⟨hG, hV, h5, h84⟩ := h
  have b0 := hG.2.1.1.1
  have b0' := b0.1
  intro d
  induction d with
  | zero =>
    intro v nn h1 h2
    obtain ⟨nn, rfl⟩ : ∃ q, nn = q + 1 := ⟨nn - 1, by omega⟩
    rw [s_L_isSound_7]
    unfold f_L_isSound_B7
    rw [ip_c0 hG, im_bind, if_pos (by rw [im_le (by omega) (by omega)]; omega), show v = im_tn (ρ 0) by omega]
  | succ d ih =>
    intro v nn h1 h2
    obtain ⟨nn, rfl⟩ : ∃ q, nn = q + 1 := ⟨nn - 1, by omega⟩
    have he := hV.1.1 v (by omega)
    rw [s_L_isSound_7]
    unfold f_L_isSound_B7
    rw [ip_c0 hG, im_bind, if_neg (by rw [im_le (by omega) (by omega)]; omega), op_energy hG (show v < im_tn (ρ 0) by omega), im_let]
    by_cases q : ρ (12 + v) ≤ 0
    · rw [if_pos q]
      unfold f_L_isSound_J41
      rw [im_let, op_energy hG (show v < im_tn (ρ 0) by omega), if_pos he, im_let, nI_1, Int32.add_zero, ← ih (v + 1) nn (by omega) (by omega), ip_es_s, im_cn_s, if_neg (show ¬ im_al ρ v = true by unfold im_al; rw [decide_eq_true_iff]; exact Int32.not_lt.mpr q)]
      try rfl
    · rw [if_neg q]
      unfold f_L_isSound_J41
      rw [im_let, op_energy hG (show v < im_tn (ρ 0) by omega), if_pos he, im_let, nI_1, nI_1, ← ih (v + 1) nn (by omega) (by omega), ip_es_s, im_cn_s, if_pos (show im_al ρ v = true by unfold im_al; rw [decide_eq_true_iff]; exact Int32.not_le.mp q)]
/-- the links' loads -/
theorem ip_so92 {σ : iw_M} {ρ : Nat → Int32} (hG : ip_G σ ρ) (k : Int32 → Option (Int32 × iw_M)) : ∀ (d l nn v : Nat), l + d = im_tn (ρ 1) → d < nn → f_L_isSound_L92 4096 σ k nn (nI v) (nI l) = k (nI (v + im_su (ip_ld ρ) d l)) := by
  have b1 := hG.2.1.1.2.1
  have b1' := b1.1
  intro d
  induction d with
  | zero =>
    intro l nn v h1 h2
    obtain ⟨nn, rfl⟩ : ∃ q, nn = q + 1 := ⟨nn - 1, by omega⟩
    rw [s_L_isSound_92]
    unfold f_L_isSound_B92
    rw [ip_c1 hG, im_bind, if_pos (by rw [im_le (by omega) (by omega)]; omega)]
    rfl
  | succ d ih =>
    intro l nn v h1 h2
    obtain ⟨nn, rfl⟩ : ∃ q, nn = q + 1 := ⟨nn - 1, by omega⟩
    rw [s_L_isSound_92]
    unfold f_L_isSound_B92
    rw [ip_c1 hG, im_bind, if_neg (by rw [im_le (by omega) (by omega)]; omega), op_load (by decide) hG (show l < im_tn (ρ 1) by omega), im_bind, im_let, im_let, nI_add, nI_1, ih (l + 1) nn _ (by omega) (by omega), im_su_s, Nat.add_assoc]
/-- the nodes seen so far -/
def ip_mb (f : Nat → Nat) : Nat → Nat
  | 0 => 0
  | k + 1 => ip_mb f k ||| 2 ^ f k
theorem ip_mb_s (f : Nat → Nat) (k : Nat) : ip_mb f (k + 1) = ip_mb f k ||| 2 ^ f k := rfl
theorem ip_mb_lt {f : Nat → Nat} : ∀ k, (∀ j, j < k → f j < 10) → ip_mb f k < 1024 := by
  intro k
  induction k with
  | zero => intro _; exact (show 0 < 1024 by decide)
  | succ k ih =>
    intro h
    rw [ip_mb_s]
    exact Nat.or_lt_two_pow (n := 10) (ih (fun j hj => h j (by omega))) (Nat.pow_lt_pow_right (by decide) (h k (by omega)))
theorem ip_mb_bit {f : Nat → Nat} {v : Nat} : ∀ k, (∀ j, j < k → f j ≠ v) → (ip_mb f k).testBit v = false := by
  intro k
  induction k with
  | zero => intro _; exact Nat.zero_testBit v
  | succ k ih =>
    intro h
    rw [ip_mb_s, Nat.testBit_or, ih (fun j hj => h j (by omega)), Nat.testBit_two_pow_of_ne (h k (by omega))]
    rfl
/-- all nodes up to here are alive, with links between -/
def ip_wh (ρ : Nat → Int32) (i s : Nat) : Nat → Bool
  | 0 => decide (0 < im_wlen ρ i s)
  | k + 1 => ip_wh ρ i s k && im_gd ρ i s k
theorem ip_wh_s (ρ : Nat → Int32) (i s k : Nat) : ip_wh ρ i s (k + 1) = (ip_wh ρ i s k && im_gd ρ i s k) := rfl
theorem ip_wh_ab {ρ : Nat → Int32} {i s : Nat} : ∀ (d k : Nat), ip_wh ρ i s (k + d) = (ip_wh ρ i s k && im_ab (im_gd ρ i s) d k) := by
  intro d
  induction d with
  | zero =>
    intro k
    show ip_wh ρ i s k = (ip_wh ρ i s k && true)
    rw [Bool.and_true]
  | succ d ih => intro k; rw [show k + (d + 1) = k + 1 + d by omega, ih (k + 1), ip_wh_s, im_ab_s, Bool.and_assoc]
theorem ip_wh_ww {ρ : Nat → Int32} {i s : Nat} : ip_wh ρ i s (im_wlen ρ i s) = im_ww ρ i s := by
  have := ip_wh_ab (ρ := ρ) (i := i) (s := s) (im_wlen ρ i s) 0
  rw [Nat.zero_add] at this
  rw [this]
  rfl
def ip_b (b : Bool) : Int32 := if b = true then 1 else 0
theorem ip_so179 {σ : iw_M} {ρ : Nat → Int32} (hG : ip_G σ ρ) {i s : Nat} (hi : i < im_tn (ρ 3)) (hs : s < im_tn (ρ 2)) (k : Int32 → Int32 → Option (Int32 × iw_M)) : ∀ (d j nn v : Nat), j + d = im_wlen ρ i s → d < nn → f_L_isSound_L179 4096 (nI i) (nI s) σ (nI (im_wlen ρ i s)) k nn (nI (v + im_su (ip_hk ρ i s) (j - 1) 1)) (nI (ip_mb (im_wn ρ i s) j)) (ip_b (ip_wh ρ i s j)) (nI j) = k (nI (v + ip_hw ρ i s)) (ip_b (im_ww ρ i s)) := by
  have hW := hG.2.1
  have b0 := hW.1.1
  have b0' := b0.1
  obtain ⟨g1, g2, g3⟩ := hW.2.2.2.2.2 i s hi hs
  have l10 : im_wlen ρ i s < 11 := g1.1
  have hnode : ∀ u, u < im_wlen ρ i s → im_wn ρ i s u < im_tn (ρ 0) := fun u hu => (g2 u hu).1
  intro d
  induction d with
  | zero =>
    intro j nn v h1 h2
    obtain ⟨nn, rfl⟩ : ∃ q, nn = q + 1 := ⟨nn - 1, by omega⟩
    rw [s_L_isSound_179]
    unfold f_L_isSound_B179
    rw [if_pos (by rw [im_le (by omega) (by omega)]; omega), show j = im_wlen ρ i s by omega, ip_wh_ww]
    rfl
  | succ d ih =>
    intro j nn v h1 h2
    obtain ⟨nn, rfl⟩ : ∃ q, nn = q + 1 := ⟨nn - 1, by omega⟩
    have hj : j < im_wlen ρ i s := by omega
    have nj := hnode j hj
    obtain ⟨a, ea⟩ : ∃ x, x = im_wn ρ i s j := ⟨_, rfl⟩
    have hM := ip_mb_lt (f := im_wn ρ i s) j (fun u hu => by have := hnode u (by omega); omega)
    have hbit : (ip_mb (im_wn ρ i s) j).testBit a = false := ip_mb_bit j (fun u hu z => by
      have := g3 u j (by show u < im_wlen ρ i s; omega) hj (by show im_wn ρ i s u = im_wn ρ i s j; rw [z, ea])
      omega)
    have sh : ((nI (ip_mb (im_wn ρ i s) j)) >>> (nI a &&& 31)) &&& (1 : Int32) = nI (im_bt (ip_mb (im_wn ρ i s) j) a) := im_shr ⟨_, hM⟩ ⟨a, by omega⟩
    have lor : nI (ip_mb (im_wn ρ i s) j) ||| ((1 : Int32) <<< (nI a &&& 31)) = nI (ip_mb (im_wn ρ i s) j ||| 2 ^ a) := im_lor ⟨_, hM⟩ ⟨a, by omega⟩
    have hb0 : im_bt (ip_mb (im_wn ρ i s) j) a = 0 := by
      unfold im_bt
      rw [hbit]
      rfl
    rw [s_L_isSound_179]
    unfold f_L_isSound_B179
    rw [if_neg (by rw [im_le (by omega) (by omega)]; omega), op_wayNode hG hi hs (show j < 1000 by omega), if_pos hj, ← ea, im_let, if_neg (nI_pos (by omega)), ip_c0 hG, im_bind, if_neg (by rw [im_le (by omega) (by omega)]; omega), sh, hb0, if_neg (by decide), lor, im_let]
    -- what stands behind the hop's look
    have fin : ∀ (v62 : Int32) (hop : Nat), (j = 0 → hop = 0 ∧ ¬ v62 < 0) → (0 < j → hop = ip_hk ρ i s j ∧ (v62 < 0 ↔ ip_hk ρ i s j = 0)) → f_L_isSound_J262 σ (f_L_isSound_L179 4096 (nI i) (nI s) σ (nI (im_wlen ρ i s)) k nn) (nI (v + im_su (ip_hk ρ i s) (j - 1) 1)) (ip_b (ip_wh ρ i s j)) (nI j) (nI a) (nI (ip_mb (im_wn ρ i s) j ||| 2 ^ a)) v62 = k (nI (v + ip_hw ρ i s)) (ip_b (im_ww ρ i s)) := by
      intro v62 hop f0 f1
      have egd : im_gd ρ i s j = (im_al ρ a && !(decide (v62 < 0))) := by
        unfold im_gd
        rw [← ea]
        by_cases z : j = 0
        · have := (f0 z).2
          rw [decide_eq_true z, decide_eq_false this]
          rfl
        · obtain ⟨-, y⟩ := f1 (by omega)
          rw [decide_eq_false z, Bool.false_or]
          congr 1
          unfold ip_hk at y
          rw [← ea] at y
          by_cases w : 0 < im_dl ρ (im_wn ρ i s (j - 1)) a
          · rw [decide_eq_true w, decide_eq_false (fun x => by have := y.mp x; rw [if_pos w] at this; omega)]
            rfl
          · rw [decide_eq_false w, decide_eq_true (y.mpr (by rw [if_neg w]))]
            rfl
      have hsum : v + im_su (ip_hk ρ i s) (j - 1) 1 + hop = v + im_su (ip_hk ρ i s) (j + 1 - 1) 1 := by
        by_cases z : j = 0
        · rw [(f0 z).1, z]
          rfl
        · obtain ⟨j', rfl⟩ : ∃ q, j = q + 1 := ⟨j - 1, by omega⟩
          rw [(f1 (by omega)).1, show j' + 1 + 1 - 1 = j' + 1 by omega, show j' + 1 - 1 = j' by omega, ip_su_last, show 1 + j' = j' + 1 by omega]
          omega
      have emb : ip_mb (im_wn ρ i s) j ||| 2 ^ a = ip_mb (im_wn ρ i s) (j + 1) := by rw [ip_mb_s, ea]
      -- the flag
      have j281 : f_L_isSound_J281 σ (f_L_isSound_L179 4096 (nI i) (nI s) σ (nI (im_wlen ρ i s)) k nn) (nI (v + im_su (ip_hk ρ i s) (j - 1) 1)) (ip_b (ip_wh ρ i s j)) (nI j) (nI a) (nI (ip_mb (im_wn ρ i s) j ||| 2 ^ a)) v62 (nI hop) = k (nI (v + ip_hw ρ i s)) (ip_b (im_ww ρ i s)) := by
        have go : ∀ f : Int32, f = ip_b (ip_wh ρ i s (j + 1)) → f_L_isSound_J308 (f_L_isSound_L179 4096 (nI i) (nI s) σ (nI (im_wlen ρ i s)) k nn) (nI j) (nI (ip_mb (im_wn ρ i s) j ||| 2 ^ a)) (nI (v + im_su (ip_hk ρ i s) (j - 1) 1 + hop)) f = k (nI (v + ip_hw ρ i s)) (ip_b (im_ww ρ i s)) := by
          intro f ef
          unfold f_L_isSound_J308
          rw [im_let, nI_1, ef, hsum, emb]
          exact ih (j + 1) nn v (by omega) (by omega)
        unfold f_L_isSound_J281
        rw [nI_add, im_let, op_energy hG (show a < im_tn (ρ 0) by omega)]
        rw [ip_wh_s, egd] at go
        unfold f_L_isSound_J307
        by_cases c1 : ip_wh ρ i s j = true
        · rw [c1, if_neg (by decide)]
          by_cases c2 : ρ (12 + a) ≤ 0
          · rw [if_pos c2]
            refine go 0 ?_
            unfold im_al
            rw [decide_eq_false (Int32.not_lt.mpr c2), c1]
            rfl
          · rw [if_neg c2]
            by_cases c3 : v62 < 0
            · rw [if_pos c3]
              refine go 0 ?_
              rw [decide_eq_true c3, c1]
              cases im_al ρ a <;> rfl
            · rw [if_neg c3]
              refine go 1 ?_
              unfold im_al
              rw [decide_eq_true (Int32.not_le.mp c2), decide_eq_false c3, c1]
              rfl
        · have c1' : ip_wh ρ i s j = false := by cases h : ip_wh ρ i s j with
            | false => rfl
            | true => exact absurd h c1
          rw [c1', if_pos (by decide)]
          refine go 0 ?_
          rw [c1']
          rfl
      unfold f_L_isSound_J262 f_L_isSound_J280
      by_cases z : j = 0
      · rw [if_pos (by rw [z]; decide), show (0 : Int32) = nI hop by rw [(f0 z).1]; rfl]
        exact j281
      · obtain ⟨y1, y2⟩ := f1 (by omega)
        rw [if_neg (by rw [show (0 : Int32) = nI 0 from rfl, im_le (by omega) (by omega)]; omega)]
        by_cases w : v62 < 0
        · rw [if_pos w, show (0 : Int32) = nI hop by rw [y1, y2.mp w]; rfl]
          exact j281
        · rw [if_neg w, show (1 : Int32) = nI hop by
            have : ip_hk ρ i s j = 1 := by
              have h1 : ¬ ip_hk ρ i s j = 0 := fun x => w (y2.mpr x)
              unfold ip_hk at h1 ⊢
              by_cases u : 0 < im_dl ρ (im_wn ρ i s (j - 1)) (im_wn ρ i s j)
              · rw [if_pos u]
              · rw [if_neg u] at h1; omega
            rw [y1, this]
            rfl]
          exact j281
    by_cases z : j = 0
    · rw [if_pos (by rw [z]; rfl)]
      exact fin 0 0 (fun _ => ⟨rfl, by decide⟩) (fun q => by omega)
    · rw [if_neg (by rw [show (0 : Int32) = nI 0 from rfl, im_eq (by omega) (by omega)]; exact z), show nI j - (1 : Int32) = nI (j - 1) by rw [show (1 : Int32) = nI 1 from rfl, pk_sub (by omega)], op_wayNode hG hi hs (show j - 1 < 1000 by omega), if_pos (by omega)]
      have nj1 := hnode (j - 1) (by omega)
      obtain ⟨r, x1, x2, x3⟩ := ip_linkOf hG (a := im_wn ρ i s (j - 1)) (b := a) (by omega) (by omega)
      rw [x1, im_bind]
      refine fin r (ip_hk ρ i s j) (fun q => absurd q z) (fun _ => ⟨rfl, ?_⟩)
      unfold ip_hk
      rw [← ea]
      constructor
      · intro y
        by_cases w : 0 < im_dl ρ (im_wn ρ i s (j - 1)) a
        · exact absurd y (x2 w)
        · rw [if_neg w]
      · intro y
        by_cases w : 0 < im_dl ρ (im_wn ρ i s (j - 1)) a
        · rw [if_pos w] at y; omega
        · exact x3 (by omega)
/-- a way of length 0 or more, by the number in the row -/
theorem ip_wl_iff {ρ : Nat → Int32} (hw : im_WF ρ) {i s : Nat} (hi : i < im_tn (ρ 3)) (hs : s < im_tn (ρ 2)) : im_wl ρ i s = decide (0 < im_wlen ρ i s) := by
  have g1 := (hw.2.2.2.2.2 i s hi hs).1
  have l10 : im_wlen ρ i s < 11 := g1.1
  unfold im_wl
  rw [g1.2, show im_tn (ρ (im_wa i s)) = im_wlen ρ i s from rfl]
  congr 1
  rw [show (0 : Int32) = nI 0 from rfl, im_lt (by omega) (by omega)]
theorem ip_so141 {e : Int32} {R : Nat} {ρ : Nat → Int32} (hV : ip_V e (30 * R) ρ) {x84 : Nat → Int32} {i : Nat} (hi : i < im_tn (ρ 3)) (k : Int32 → Int32 → iw_M → Option (Int32 × iw_M)) : ∀ (d s nn v : Nat) (σ : iw_M), s + d = im_tn (ρ 2) → d < nn → ip_G σ ρ → σ 84 = x84 → ∃ σ', ip_G σ' ρ ∧ σ' 84 = x84 ∧ f_L_isSound_L141 4096 (nI i) k nn (nI v) (nI (im_cn (im_wl ρ i) s)) (nI s) σ = k (nI (v + im_su (ip_hw ρ i) d s)) (nI (im_cn (im_wl ρ i) (im_tn (ρ 2)))) σ' := by
  intro d
  induction d with
  | zero =>
    intro s nn v σ h1 h2 hG h84
    obtain ⟨nn, rfl⟩ : ∃ q, nn = q + 1 := ⟨nn - 1, by omega⟩
    have b2 := hG.2.1.1.2.2.1
    have b2' := b2.1
    refine ⟨σ, hG, h84, ?_⟩
    rw [s_L_isSound_141]
    unfold f_L_isSound_B141
    rw [ip_c2 hG, im_bind, if_pos (by rw [im_le (by omega) (by omega)]; omega), show s = im_tn (ρ 2) by omega]
    rfl
  | succ d ih =>
    intro s nn v σ h1 h2 hG h84
    obtain ⟨nn, rfl⟩ : ∃ q, nn = q + 1 := ⟨nn - 1, by omega⟩
    have hW := hG.2.1
    have b2 := hW.1.2.2.1
    have b2' := b2.1
    have hs : s < im_tn (ρ 2) := by omega
    have l10 : im_wlen ρ i s < 11 := (hW.2.2.2.2.2 i s hi hs).1.1
    obtain ⟨σ1, w1, w2, w3⟩ := op_isWhole (n := 4096) (by decide) hG hi hs
    obtain ⟨σ', g1, g2, g3⟩ := ih (s + 1) nn (v + ip_hw ρ i s) σ1 (by omega) (by omega) w2 (w3.trans h84)
    refine ⟨σ', g1, g2, ?_⟩
    rw [s_L_isSound_141]
    unfold f_L_isSound_B141
    rw [ip_c2 hG, im_bind, if_neg (by rw [im_le (by omega) (by omega)]; omega), op_wayLength hG hi hs, im_let]
    have st : ∀ f : Int32, f = ip_b (ip_wh ρ i s 0) → f_L_isSound_J174 4096 (nI i) (f_L_isSound_L141 4096 (nI i) k nn) (nI v) (nI (im_cn (im_wl ρ i) s)) (nI s) σ (nI (im_wlen ρ i s)) f = k (nI (v + im_su (ip_hw ρ i) (d + 1) s)) (nI (im_cn (im_wl ρ i) (im_tn (ρ 2)))) σ' := by
      intro f ef
      unfold f_L_isSound_J174
      rw [ef, show ∀ kk, f_L_isSound_L179 4096 (nI i) (nI s) σ (nI (im_wlen ρ i s)) kk 4096 (nI v) (0 : Int32) (ip_b (ip_wh ρ i s 0)) (0 : Int32) = f_L_isSound_L179 4096 (nI i) (nI s) σ (nI (im_wlen ρ i s)) kk 4096 (nI (v + im_su (ip_hk ρ i s) (0 - 1) 1)) (nI (ip_mb (im_wn ρ i s) 0)) (ip_b (ip_wh ρ i s 0)) (nI 0) from fun _ => rfl, ip_so179 hG hi hs _ (im_wlen ρ i s) 0 4096 v (by omega) (by omega)]
      unfold f_L_isSound_X316_179
      rw [op_wayNode hG hi hs (show im_wlen ρ i s < 1000 by omega), if_neg (Nat.lt_irrefl (im_wlen ρ i s)), if_pos rfl, w1, im_b2]
      have jj : f_L_isSound_J350 4096 (nI i) (f_L_isSound_L141 4096 (nI i) k nn) (nI (im_cn (im_wl ρ i) s)) (nI s) (nI (im_wlen ρ i s)) (nI (v + ip_hw ρ i s)) (if im_ww ρ i s = true then 1 else 0) σ1 (ip_b (im_ww ρ i s)) = k (nI (v + im_su (ip_hw ρ i) (d + 1) s)) (nI (im_cn (im_wl ρ i) (im_tn (ρ 2)))) σ' := by
        have j401 : f_L_isSound_J401 (f_L_isSound_L141 4096 (nI i) k nn) (nI (im_cn (im_wl ρ i) s)) (nI s) (nI (im_wlen ρ i s)) (nI (v + ip_hw ρ i s)) σ1 = k (nI (v + im_su (ip_hw ρ i) (d + 1) s)) (nI (im_cn (im_wl ρ i) (im_tn (ρ 2)))) σ' := by
          unfold f_L_isSound_J401 f_L_isSound_J413
          have ew := ip_wl_iff hW hi hs
          rw [im_su_s, ← Nat.add_assoc, ← g3, im_cn_s]
          by_cases z : im_wlen ρ i s = 0
          · rw [if_pos (by rw [z]; decide), im_let, im_let, nI_1, Int32.add_zero, if_neg (by rw [ew, z]; decide)]
            try rfl
          · rw [if_neg (by rw [show (0 : Int32) = nI 0 from rfl, im_le (by omega) (by omega)]; omega), im_let, im_let, nI_1, nI_1, if_pos (by rw [ew]; exact decide_eq_true (by omega))]
        unfold f_L_isSound_J350
        rw [if_pos (show (if im_ww ρ i s = true then (1 : Int32) else 0) = ip_b (im_ww ρ i s) from rfl)]
        by_cases z : im_wlen ρ i s = 0
        · rw [if_pos (by rw [z]; decide)]
          exact j401
        · obtain ⟨v1, v2⟩ := hV.2.1 i s hi hs (by omega)
          have s1 := hW.2.2.2.1 s hs
          have s2 := hW.2.2.2.2.1 i hi
          have eA : f_X5_wayNode (nI i) (nI s) (0 : Int32) σ1 = nI (im_wn ρ i s 0) := (op_wayNode w2 hi hs (k := 0) (by decide)).trans (if_pos (by omega))
          have eB : f_X5_wayNode (nI i) (nI s) (nI (im_wlen ρ i s - 1)) σ1 = nI (im_wn ρ i s (im_wlen ρ i s - 1)) := (op_wayNode w2 hi hs (by omega)).trans (if_pos (by omega))
          have eC : f_X5_sensor (nI s) (0 : Int32) σ1 = nI (im_tn (ρ (82 + 3 * s))) := (op_sensor w2 hs (w := 0) (by decide)).trans s1.2
          have eD : f_X5_interest 4096 (nI i) (0 : Int32) σ1 = some (nI (im_tn (ρ (100 + 7 * i)))) := (op_interest (by decide) w2 hi (w := 0) (by decide)).trans (congrArg some s2.2)
          have eE : nI (im_wlen ρ i s) - (1 : Int32) = nI (im_wlen ρ i s - 1) := by rw [show (1 : Int32) = nI 1 from rfl, pk_sub (by omega)]
          rw [if_neg (by rw [show (0 : Int32) = nI 0 from rfl, im_le (by omega) (by omega)]; omega), eE, eA, eC, v1, if_pos rfl, eD, im_bind, eB, v2, if_pos rfl]
          exact j401
      by_cases q : im_ww ρ i s = true
      · rw [q, if_neg (by decide)]
        rw [q] at jj
        exact jj
      · have q' : im_ww ρ i s = false := by cases h : im_ww ρ i s with
          | false => rfl
          | true => exact absurd h q
        rw [q', if_pos (by decide)]
        rw [q'] at jj
        exact jj
    by_cases z : im_wlen ρ i s = 0
    · rw [if_pos (by rw [z]; decide)]
      refine st 0 ?_
      show (0 : Int32) = ip_b (decide (0 < im_wlen ρ i s))
      rw [z]
      rfl
    · rw [if_neg (by rw [show (0 : Int32) = nI 0 from rfl, im_le (by omega) (by omega)]; omega)]
      refine st 1 ?_
      show (1 : Int32) = ip_b (decide (0 < im_wlen ρ i s))
      rw [decide_eq_true (by omega)]
      rfl
theorem ip_so125 {e : Int32} {R : Nat} (hR : R ≤ 1000) {ρ : Nat → Int32} (hV : ip_V e (30 * R) ρ) {x84 : Nat → Int32} (k : Int32 → iw_M → Option (Int32 × iw_M)) : ∀ (d i nn v : Nat) (σ : iw_M), i + d = im_tn (ρ 3) → d < nn → ip_G σ ρ → σ 84 = x84 → ∃ σ', ip_G σ' ρ ∧ σ' 84 = x84 ∧ f_L_isSound_L125 4096 k nn (nI v) (nI i) σ = k (nI (v + im_su (ip_hi ρ) d i)) σ' := by
  intro d
  induction d with
  | zero =>
    intro i nn v σ h1 h2 hG h84
    obtain ⟨nn, rfl⟩ : ∃ q, nn = q + 1 := ⟨nn - 1, by omega⟩
    have b3 := hG.2.1.1.2.2.2.1
    have b3' := b3.1
    refine ⟨σ, hG, h84, ?_⟩
    rw [s_L_isSound_125]
    unfold f_L_isSound_B125
    rw [ip_c3 hG, im_bind, if_pos (by rw [im_le (by omega) (by omega)]; omega)]
    rfl
  | succ d ih =>
    intro i nn v σ h1 h2 hG h84
    obtain ⟨nn, rfl⟩ : ∃ q, nn = q + 1 := ⟨nn - 1, by omega⟩
    have hW := hG.2.1
    have b3 := hW.1.2.2.2.1
    have b3' := b3.1
    have b2 := hW.1.2.2.1.1
    have hi : i < im_tn (ρ 3) := by omega
    obtain ⟨σ1, g1, g2, g3⟩ := ip_so141 hV hi (f_L_isSound_X422_141 4096 (f_L_isSound_L125 4096 k nn) (nI i)) (im_tn (ρ 2)) 0 4096 v σ (by omega) (by omega) hG h84
    obtain ⟨σ', y1, y2, y3⟩ := ih (i + 1) nn (v + ip_hi ρ i) σ1 (by omega) (by omega) g1 g2
    refine ⟨σ', y1, y2, ?_⟩
    obtain ⟨a, c, a1, c1, ea, ec⟩ := hV.2.2.1 i hi
    rw [s_L_isSound_125]
    unfold f_L_isSound_B125
    rw [ip_c3 hG, im_bind, if_neg (by rw [im_le (by omega) (by omega)]; omega), show ∀ kk, f_L_isSound_L141 4096 (nI i) kk 4096 (nI v) (0 : Int32) (0 : Int32) σ = f_L_isSound_L141 4096 (nI i) kk 4096 (nI v) (nI (im_cn (im_wl ρ i) 0)) (nI 0) σ from fun _ => rfl, g3]
    unfold f_L_isSound_X422_141
    rw [show f_X5_interest 4096 (nI i) (7 : Int32) σ1 = f_X5_interest 4096 (nI i) (nI 7) σ1 from rfl, op_interest (by decide) g1 hi (w := 7) (by decide), im_bind, if_pos rfl, if_pos rfl, show f_X5_interest 4096 (nI i) (5 : Int32) σ1 = f_X5_interest 4096 (nI i) (nI 5) σ1 from rfl, op_interest (by decide) g1 hi (w := 5) (by decide), im_bind, if_neg (show ¬ (5 : Nat) = 7 by decide), ea, if_neg (nI_pos (by omega)), show f_X5_interest 4096 (nI i) (6 : Int32) σ1 = f_X5_interest 4096 (nI i) (nI 6) σ1 from rfl, op_interest (by decide) g1 hi (w := 6) (by decide), im_bind, if_neg (show ¬ (6 : Nat) = 7 by decide), ec, if_pos (nI_pos' (by omega)), im_let, nI_1, im_su_s, ← Nat.add_assoc, ← y3]
    rfl
theorem ip_isSound {e : Int32} {R : Nat} (hR : R ≤ 1000) {σ : iw_M} {ρ : Nat → Int32} (h : ip_L e R σ ρ) : ∃ σ', f_L_isSound 4096 σ = some (1, σ') ∧ ip_L e R σ' ρ := by
  obtain ⟨hG, hV, h5, h84⟩ := id h
  have hW := hG.2.1
  have b0 := hW.1.1.1
  have b1 := hW.1.2.1.1
  have b3 := hW.1.2.2.2.1.1
  obtain ⟨σ', g1, g2, g3⟩ := ip_so125 hR hV (f_L_isSound_X464_125 (nI (im_su (ip_ld ρ) (im_tn (ρ 1)) 0))) (im_tn (ρ 3)) 0 4096 0 σ (by omega) (by omega) hG rfl
  refine ⟨σ', ?_, g1, hV, h5, by rw [g2]; exact h84⟩
  unfold f_L_isSound
  rw [show ∀ kk, f_L_isSound_L7 4096 σ kk 4096 (0 : Int32) (0 : Int32) (0 : Int32) = f_L_isSound_L7 4096 σ kk 4096 (ip_es ρ 0) (nI (im_cn (im_al ρ) 0)) (nI 0) from fun _ => rfl, ip_so7 h _ (im_tn (ρ 0)) 0 4096 (by omega) (by omega)]
  unfold f_L_isSound_X60_7
  rw [show f_X5_count 4096 (10 : Int32) σ = f_X5_count 4096 (nI 10) σ from rfl, op_count (by decide) hG (w := 10) (by decide), im_bind, ip_rd84, im_bind, show im_n12 ρ 10 = ρ 10 from rfl, if_pos (by rw [hV.1.2, h84]), show f_X5_count 4096 (6 : Int32) σ = f_X5_count 4096 (nI 6) σ from rfl, op_count (by decide) hG (w := 6) (by decide), im_bind, show im_n12 ρ 6 = nI (im_cn (im_al ρ) (im_tn (ρ 0))) from rfl, if_pos rfl, show ∀ kk, f_L_isSound_L92 4096 σ kk 4096 (0 : Int32) (0 : Int32) = f_L_isSound_L92 4096 σ kk 4096 (nI 0) (nI 0) from fun _ => rfl, ip_so92 hG _ (im_tn (ρ 1)) 0 4096 0 (by omega) (by omega), Nat.zero_add]
  unfold f_L_isSound_X119_92
  rw [show ∀ kk, f_L_isSound_L125 4096 kk 4096 (0 : Int32) (0 : Int32) σ = f_L_isSound_L125 4096 kk 4096 (nI 0) (nI 0) σ from fun _ => rfl, g3, Nat.zero_add]
  unfold f_L_isSound_X464_125
  rw [if_pos (congrArg nI (ip_loads hW))]
