/-! what goes on holding while rounds are done: energies, ways' ends, what was delivered -/
def ip_es (ρ : Nat → Int32) : Nat → Int32
  | 0 => 0
  | k + 1 => ip_es ρ k + ρ (12 + k)
theorem ip_es_s (ρ : Nat → Int32) (k : Nat) : ip_es ρ (k + 1) = ip_es ρ k + ρ (12 + k) := rfl
theorem ip_es_c {ρ ρ' : Nat → Int32} : ∀ N, (∀ v, v < N → ρ' (12 + v) = ρ (12 + v)) → ip_es ρ' N = ip_es ρ N := by
  intro N
  induction N with
  | zero => intro _; rfl
  | succ N ih => intro h; rw [ip_es_s, ip_es_s, ih (fun v hv => h v (by omega)), h N (by omega)]
theorem ip_es_u {ρ ρ' : Nat → Int32} {v : Nat} {x : Int32} (h1 : ρ' (12 + v) = x) (h2 : ∀ u, u ≠ v → ρ' (12 + u) = ρ (12 + u)) : ∀ N, v < N → ip_es ρ' N = ip_es ρ N + (x - ρ (12 + v)) := by
  intro N
  induction N with
  | zero => intro h; omega
  | succ N ih =>
    intro h
    rw [ip_es_s, ip_es_s]
    by_cases q : v = N
    · subst q
      rw [ip_es_c v (fun u hu => h2 u (by omega)), h1]
      rw [Int32.add_assoc, Int32.add_comm (ρ (12 + v)) (x - ρ (12 + v)), Int32.sub_add_cancel]
    · rw [ih (by omega), h2 N (fun z => q z.symm), Int32.add_assoc, Int32.add_assoc, Int32.add_comm (x - ρ (12 + v)) (ρ (12 + N))]
/-- energies go down, what is spent goes up by as much -/
def ip_pe (N : Nat) (ρ ρ' : Nat → Int32) : Prop := (∀ v, v < N → 0 ≤ ρ (12 + v)) → (∀ v, v < N → 0 ≤ ρ' (12 + v) ∧ ρ' (12 + v) ≤ ρ (12 + v)) ∧ ip_es ρ' N + ρ' 10 = ip_es ρ N + ρ 10
theorem ip_pe_0 (N : Nat) (ρ : Nat → Int32) : ip_pe N ρ ρ := fun h => ⟨fun v hv => ⟨h v hv, Int32.le_refl _⟩, rfl⟩
theorem ip_pe_t {N : Nat} {ρ ρ' ρ'' : Nat → Int32} (h : ip_pe N ρ ρ') (h' : ip_pe N ρ' ρ'') : ip_pe N ρ ρ'' := fun q => by
  obtain ⟨a, b⟩ := h q
  obtain ⟨c, d⟩ := h' (fun v hv => (a v hv).1)
  exact ⟨fun v hv => ⟨(c v hv).1, Int32.le_trans (c v hv).2 (a v hv).2⟩, d.trans b⟩
theorem ip_pe_c {N : Nat} {ρ ρ' : Nat → Int32} (h : ∀ k, k = 10 ∨ (12 ≤ k ∧ k < 12 + N) → ρ' k = ρ k) : ip_pe N ρ ρ' := fun q => by
  refine ⟨fun v hv => ?_, ?_⟩
  · rw [h (12 + v) (by omega)]
    exact ⟨q v hv, Int32.le_refl _⟩
  · rw [ip_es_c N (fun v hv => h _ (by omega)), h 10 (Or.inl rfl)]
theorem ip_pe_sp {N v : Nat} {ρ : Nat → Int32} {amt : Int32} (hv : v < N) (ha : 0 ≤ amt) : ip_pe N ρ (im_sp ρ v amt) := fun q => by
  obtain ⟨a, a31, ea⟩ := nI_of (Int32.not_lt.mpr (q v hv))
  obtain ⟨b, b31, eb⟩ := nI_of (Int32.not_lt.mpr ha)
  obtain ⟨m, em⟩ : ∃ x, x = (if amt ≤ ρ (12 + v) then amt else ρ (12 + v)) := ⟨_, rfl⟩
  have hm : ∃ c, c ≤ a ∧ m = nI c := by
    rw [em, ea, eb]
    by_cases z : nI b ≤ nI a
    · rw [if_pos z]
      rw [im_le b31 a31] at z
      exact ⟨b, z, rfl⟩
    · rw [if_neg z]
      exact ⟨a, Nat.le_refl _, rfl⟩
  obtain ⟨c, c1, rfl⟩ := hm
  have e1 : im_sp ρ v amt (12 + v) = nI (a - c) := by
    unfold im_sp
    rw [← em, im_ru_ne (by omega), im_ru_eq, ea, pk_sub (by omega)]
  have e10 : im_sp ρ v amt 10 = ρ 10 + nI c := by
    unfold im_sp
    rw [← em, im_ru_eq]
  have eo : ∀ u, u ≠ v → im_sp ρ v amt (12 + u) = ρ (12 + u) := fun u hu => im_sp_o (by omega) (by omega)
  refine ⟨fun u hu => ?_, ?_⟩
  · by_cases z : u = v
    · subst z
      rw [e1, ea]
      exact ⟨nI_pos' (by omega), by rw [im_le (by omega) (by omega)]; omega⟩
    · rw [eo u z]
      exact ⟨q u hu, Int32.le_refl _⟩
  · rw [ip_es_u e1 eo N hv, e10, ea, ← pk_sub c1]
    have key : ∀ S A C T : Int32, S + (A - C - A) + (T + C) = S + T := fun S A C T => by grind
    exact key _ _ _ _
theorem ip_pe_spN {N : Nat} {p : Nat → Bool} : ∀ (d i : Nat) (ρ : Nat → Int32), i + d ≤ N → ip_pe N ρ (im_spN p d i ρ) := by
  intro d
  induction d with
  | zero => intro i ρ _; exact ip_pe_0 N ρ
  | succ d ih =>
    intro i ρ h
    rw [im_spN_s]
    by_cases q : p i = true
    · rw [if_pos q]
      exact ip_pe_t (ip_pe_sp (by omega) (by decide)) (ih (i + 1) _ (by omega))
    · rw [if_neg q]
      exact ih (i + 1) _ (by omega)
/-- what the net's numbers keep: e was given in all, B bounds what was delivered -/
def ip_V (e : Int32) (B : Nat) (ρ : Nat → Int32) : Prop :=
  ((∀ v, v < im_tn (ρ 0) → 0 ≤ ρ (12 + v)) ∧ ip_es ρ (im_tn (ρ 0)) + ρ 10 = e) ∧
  (∀ i s, i < im_tn (ρ 3) → s < im_tn (ρ 2) → 0 < im_wlen ρ i s → im_wn ρ i s 0 = im_tn (ρ (82 + 3 * s)) ∧ im_wn ρ i s (im_wlen ρ i s - 1) = im_tn (ρ (100 + 7 * i))) ∧
  (∀ i, i < im_tn (ρ 3) → ∃ a d, a ≤ B ∧ d ≤ 180 * B ∧ ρ (100 + 7 * i + 5) = nI a ∧ ρ (100 + 7 * i + 6) = nI d) ∧
  ∀ s, s < im_tn (ρ 2) → -1000 ≤ ρ (82 + 3 * s + 2)
/-- a row after d turns -/
def ip_pg (d : Nat) (ρ ρ' : Nat → Int32) : Prop := ρ' 0 = ρ 0 ∧ ∀ e B, ip_V e B ρ → ip_V e (B + d) ρ' ∧ ∀ v, v < im_tn (ρ 0) → ρ' (12 + v) ≤ ρ (12 + v)
theorem ip_pg_0 (ρ : Nat → Int32) : ip_pg 0 ρ ρ := ⟨rfl, fun _ _ h => ⟨h, fun _ _ => Int32.le_refl _⟩⟩
theorem ip_pg_t {d d' : Nat} {ρ ρ' ρ'' : Nat → Int32} (h : ip_pg d ρ ρ') (h' : ip_pg d' ρ' ρ'') : ip_pg (d + d') ρ ρ'' := by
  refine ⟨h'.1.trans h.1, fun e B q => ?_⟩
  obtain ⟨a, b⟩ := h.2 e B q
  obtain ⟨c, f⟩ := h'.2 e (B + d) a
  rw [Nat.add_assoc] at c
  exact ⟨c, fun v hv => Int32.le_trans (f v (by rw [h.1]; exact hv)) (b v hv)⟩
theorem ip_V_m {e : Int32} {B B' : Nat} {ρ : Nat → Int32} (h : ip_V e B ρ) (hB : B ≤ B') : ip_V e B' ρ := by
  refine ⟨h.1, h.2.1, fun i hi => ?_, h.2.2.2⟩
  obtain ⟨a, d, h1, h2, h3, h4⟩ := h.2.2.1 i hi
  exact ⟨a, d, by omega, by omega, h3, h4⟩
theorem ip_pg_m {d d' : Nat} {ρ ρ' : Nat → Int32} (h : ip_pg d ρ ρ') (hd : d ≤ d') : ip_pg d' ρ ρ' := ⟨h.1, fun e B q => ⟨ip_V_m (h.2 e B q).1 (by omega), (h.2 e B q).2⟩⟩
/-- a row whose ways, sensors and interests are another's, its energies those of a run -/
theorem ip_V_c {e : Int32} {B : Nat} {ρ ρ' : Nat → Int32} (h : ip_V e B ρ) (hr : ∀ k, k = 0 ∨ k = 2 ∨ k = 3 ∨ 82 ≤ k → ρ' k = ρ k) (hp : ip_pe (im_tn (ρ 0)) ρ ρ') : ip_V e B ρ' := by
  obtain ⟨⟨h1, h2⟩, h3, h4, h5⟩ := h
  obtain ⟨p1, p2⟩ := hp h1
  have ew : ∀ i s, im_wlen ρ' i s = im_wlen ρ i s ∧ im_wn ρ' i s = im_wn ρ i s := fun i s => im_wn_c (fun k hk => hr k (by omega)) i s
  unfold ip_V
  rw [hr 0 (by omega), hr 2 (by omega), hr 3 (by omega)]
  refine ⟨⟨fun v hv => (p1 v hv).1, p2.trans h2⟩, fun i s hi hs hl => ?_, fun i hi => ?_, fun s hs => ?_⟩
  · rw [(ew i s).1] at hl ⊢
    rw [(ew i s).2, hr _ (by omega), hr _ (by omega)]
    exact h3 i s hi hs hl
  · rw [hr _ (by omega), hr _ (by omega)]
    exact h4 i hi
  · rw [hr _ (by omega)]
    exact h5 s hs
theorem ip_pg_c {ρ ρ' : Nat → Int32} (hr : ∀ k, k = 0 ∨ k = 2 ∨ k = 3 ∨ 82 ≤ k → ρ' k = ρ k) (hp : ip_pe (im_tn (ρ 0)) ρ ρ') : ip_pg 0 ρ ρ' := ⟨hr 0 (by omega), fun e B h => ⟨ip_V_c h hr hp, fun v hv => ((hp h.1.1).1 v hv).2⟩⟩
/-- a way is set -/
theorem ip_pg_sw {ρ : Nat → Int32} (hw : im_WF ρ) {i s m : Nat} {g : Nat → Nat} (hi : i < im_tn (ρ 3)) (hs : s < im_tn (ρ 2)) (hm : m ≤ 10) (hg : ∀ k, k < m → g k < 10) (h0 : 0 < m → g 0 = im_tn (ρ (82 + 3 * s)) ∧ g (m - 1) = im_tn (ρ (100 + 7 * i))) : ip_pg 0 ρ (im_sw ρ i s m g) := by
  have w0 := im_wa_ge i s
  have b2 := hw.1.2.2.1.1
  have lo : ∀ k, k < 135 → im_sw ρ i s m g k = ρ k := fun k hk => im_sw_o (by omega)
  have pe : ip_pe (im_tn (ρ 0)) ρ (im_sw ρ i s m g) := ip_pe_c (fun k hk => lo k (by have := hw.1.1.1; omega))
  refine ⟨lo 0 (by omega), fun e B h => ⟨?_, fun v hv => ((pe h.1.1).1 v hv).2⟩⟩
  obtain ⟨⟨h1, h2⟩, h3, h4, h5⟩ := h
  obtain ⟨p1, p2⟩ := pe h1
  unfold ip_V
  have b3 := hw.1.2.2.2.1.1
  rw [lo 0 (by omega), lo 2 (by omega), lo 3 (by omega)]
  refine ⟨⟨fun v hv => (p1 v hv).1, p2.trans h2⟩, fun i' s' hi' hs' hl => ?_, fun i' hi' => ?_, fun s' hs' => ?_⟩
  · rw [lo _ (by omega), lo _ (by omega)]
    by_cases q : i' = i ∧ s' = s
    · obtain ⟨rfl, rfl⟩ := q
      have el : im_wlen (im_sw ρ i' s' m g) i' s' = m := by
        unfold im_wlen
        rw [im_sw_l, im_tn_nI (by omega)]
      have en : ∀ k, k < m → im_wn (im_sw ρ i' s' m g) i' s' k = g k := fun k hk => by
        unfold im_wn
        rw [im_sw_n hk, im_tn_nI (by have := hg k hk; omega)]
      rw [el] at hl ⊢
      rw [en 0 hl, en (m - 1) (by omega)]
      exact h0 hl
    · have far := im_wa_far (i := i) (s := s) (i' := i') (s' := s') (by omega) (by omega) q
      have g' := (hw.2.2.2.2.2 i' s' hi' hs').1.1
      have el : im_wlen (im_sw ρ i s m g) i' s' = im_wlen ρ i' s' := by
        unfold im_wlen
        rw [im_sw_o (by omega)]
      have en : ∀ k, k < 10 → im_wn (im_sw ρ i s m g) i' s' k = im_wn ρ i' s' k := fun k hk => by
        unfold im_wn
        rw [im_sw_o (by omega)]
      have l10 : im_wlen ρ i' s' < 11 := g'
      rw [el] at hl ⊢
      rw [en 0 (by omega), en _ (by omega)]
      exact h3 i' s' hi' hs' hl
  · rw [lo _ (by omega), lo _ (by omega)]
    exact h4 i' hi'
  · rw [lo _ (by omega)]
    exact h5 s' hs'
theorem ip_pg_drop {ρ : Nat → Int32} (hw : im_WF ρ) {i s : Nat} (hi : i < im_tn (ρ 3)) (hs : s < im_tn (ρ 2)) : ip_pg 0 ρ (im_ru ρ (im_wa i s) 0) := by
  have e : im_ru ρ (im_wa i s) 0 = im_sw ρ i s 0 (fun _ => 0) := by
    funext k
    unfold im_ru im_sw
    by_cases q : k = im_wa i s
    · rw [if_pos q, if_pos q]; rfl
    · rw [if_neg q, if_neg q, if_neg (by omega)]
  rw [e]
  exact ip_pg_sw hw hi hs (by omega) (fun k hk => by omega) (fun h => by omega)
/-- an interest ends -/
theorem ip_pg_end {ρ ρ' : Nat → Int32} (hw : im_WF ρ) {I i0 : Nat} (hI : im_tn (ρ 3) = I) (hi0 : i0 < I) (hd : im_dropped ρ ρ' I i0) : ip_pg 0 ρ ρ' := by
  have b3 := hw.1.2.2.2.1.1
  have b2 := hw.1.2.2.1.1
  have b0 := hw.1.1.1
  have lo : ∀ k, k < 100 → k ≠ 3 → ρ' k = ρ k := fun k hk k3 => hd.2.2.2 k k3 (by omega) (by omega)
  have e3 : im_tn (ρ' 3) = I - 1 := by rw [hd.1, im_tn_nI (by omega)]
  have pe : ip_pe (im_tn (ρ 0)) ρ ρ' := ip_pe_c (fun k hk => lo k (by omega) (by omega))
  refine ⟨lo 0 (by omega) (by omega), fun e B h => ⟨?_, fun v hv => ((pe h.1.1).1 v hv).2⟩⟩
  obtain ⟨⟨h1, h2⟩, h3, h4, h5⟩ := h
  obtain ⟨p1, p2⟩ := pe h1
  unfold ip_V
  rw [lo 0 (by omega) (by omega), lo 2 (by omega) (by omega), e3]
  refine ⟨⟨fun v hv => (p1 v hv).1, p2.trans h2⟩, fun i s hi hs hl => ?_, fun i hi => ?_, fun s hs => ?_⟩
  · obtain ⟨i', i1, -, -, m1, m2⟩ := im_drop_map hd (by omega) hi
    have el : im_wlen ρ' i s = im_wlen ρ i' s := by
      unfold im_wlen
      have := m2 s 0 (by omega) (by omega)
      rw [Nat.add_zero, Nat.add_zero] at this
      rw [this]
    have l10 : im_wlen ρ i' s < 11 := (hw.2.2.2.2.2 i' s (by omega) hs).1.1
    have en : ∀ k, k < 10 → im_wn ρ' i s k = im_wn ρ i' s k := fun k hk => by
      unfold im_wn
      have := m2 s (1 + k) (by omega) (by omega)
      rw [← Nat.add_assoc, ← Nat.add_assoc] at this
      rw [this]
    rw [el] at hl ⊢
    rw [en 0 (by omega), en _ (by omega), lo _ (by omega) (by omega), show ρ' (100 + 7 * i) = ρ (100 + 7 * i') from m1 0 (by omega)]
    exact h3 i' s (by omega) hs hl
  · obtain ⟨i', i1, -, -, m1, m2⟩ := im_drop_map hd (by omega) hi
    rw [m1 5 (by omega), m1 6 (by omega)]
    exact h4 i' (by omega)
  · rw [lo _ (by omega) (by omega)]
    exact h5 s hs
theorem ip_dl_lt {ρ : Nat → Int32} {i s : Nat} (hw : im_WF ρ) : ∀ (d j : Nat), im_su (fun k => im_dl ρ (im_wn ρ i s (k - 1)) (im_wn ρ i s k)) d j ≤ 20 * d := by
  intro d
  induction d with
  | zero => intro j; exact Nat.le_refl _
  | succ d ih =>
    intro j
    rw [im_su_s]
    have h1 := im_dl_lt hw (im_wn ρ i s (j - 1)) (im_wn ρ i s j)
    have h2 := ih (j + 1)
    omega
/-- an exploration -/
theorem ip_pg_er {ρ : Nat → Int32} (hw : im_WF ρ) {i s f g m : Nat} {T : Nat → Nat} (hi : i < im_tn (ρ 3)) (hs : s < im_tn (ρ 2)) (ef : im_tn (ρ (82 + 3 * s)) = f) (eg : im_tn (ρ (100 + 7 * i)) = g) (hy : im_wy (im_dl ρ) T f g m) : ip_pg 0 ρ (im_er ρ i s T g m) := by
  have b0 := hw.1.1.1
  obtain ⟨m10, y2, y3, y4⟩ := im_wy_f hy
  have w0 := im_wa_ge i s
  obtain ⟨ρ1, e1⟩ : ∃ x, x = im_ru (im_ru (im_ru (im_spN (fun v => decide (T v < 1000000)) (im_tn (ρ 0)) 0 ρ) 7 (ρ 7 + 1)) 8 (ρ 8 + nI (im_nw (im_wn ρ i s) (im_pk (im_dl ρ) T g) (im_wlen ρ i s) (m - 1) 1))) 9 (ρ 9 + nI (im_nw (im_pk (im_dl ρ) T g) (im_wn ρ i s) m (im_wlen ρ i s - 1) 1)) := ⟨_, rfl⟩
  have e2 : im_er ρ i s T g m = im_sw ρ1 i s m (fun k => im_pk (im_dl ρ) T g (m - 1 - k)) := by
    unfold im_er
    rw [e1]
  have lo : ∀ k, k ≠ 7 → k ≠ 8 → k ≠ 9 → ρ1 k = im_spN (fun v => decide (T v < 1000000)) (im_tn (ρ 0)) 0 ρ k := fun k k1 k2 k3 => by rw [e1, im_ru_ne k3, im_ru_ne k2, im_ru_ne k1]
  have lo2 : ∀ k, k < 7 ∨ k = 11 ∨ 22 ≤ k → ρ1 k = ρ k := fun k hk => by rw [lo k (by omega) (by omega) (by omega), im_spN_o (by omega) _ _ _ (by omega)]
  have pg1 : ip_pg 0 ρ ρ1 := ip_pg_c (fun k hk => lo2 k (by omega)) (ip_pe_t (ip_pe_spN (im_tn (ρ 0)) 0 ρ (by omega)) (ip_pe_c (fun k hk => lo k (by omega) (by omega) (by omega))))
  have hw1 : im_WF ρ1 := im_WF_fr hw (fun k hk hf => lo2 k (by unfold im_fr at hf; omega))
  rw [e2]
  refine ip_pg_t (d := 0) (d' := 0) pg1 (ip_pg_sw hw1 (by rw [lo2 3 (by omega)]; exact hi) (by rw [lo2 2 (by omega)]; exact hs) m10 (fun k hk => (y2 _ (by omega)).1) (fun h0 => ?_))
  rw [lo2 _ (by omega), lo2 _ (by omega), ef, eg]
  rcases hy with ⟨-, z⟩ | ⟨-, K, K1, K2, K3, -⟩
  · omega
  · refine ⟨?_, ?_⟩
    · rw [show m - 1 - 0 = K by omega]
      exact K3
    · rw [show m - 1 - (m - 1) = 0 by omega]
      rfl
/-- how many of the first j interests end now -/
def ip_go (ρ : Nat → Int32) : Nat → Nat
  | 0 => 0
  | j + 1 => ip_go ρ j + if ρ (100 + 7 * j + 4) < ρ 5 then 1 else 0
theorem ip_go_s (ρ : Nat → Int32) (j : Nat) : ip_go ρ (j + 1) = ip_go ρ j + if ρ (100 + 7 * j + 4) < ρ 5 then 1 else 0 := rfl
theorem ip_go_c {ρ ρ' : Nat → Int32} : ∀ j, (∀ i, i < j → ρ' (100 + 7 * i + 4) = ρ (100 + 7 * i + 4)) → ρ' 5 = ρ 5 → ip_go ρ' j = ip_go ρ j := by
  intro j
  induction j with
  | zero => intro _ _; rfl
  | succ j ih => intro h h5; rw [ip_go_s, ip_go_s, ih (fun i hi => h i (by omega)) h5, h j (by omega), h5]
def ip_tg (d : Nat) (ρ ρ' : Nat → Int32) : Prop := ip_pg d ρ ρ' ∧ ρ' 11 = ρ 11
theorem ip_tg_t {d d' : Nat} {ρ ρ' ρ'' : Nat → Int32} (h : ip_tg d ρ ρ') (h' : ip_tg d' ρ' ρ'') : ip_tg (d + d') ρ ρ'' := ⟨ip_pg_t h.1 h'.1, h'.2.trans h.2⟩
theorem ip_tg_m {d d' : Nat} {ρ ρ' : Nat → Int32} (h : ip_tg d ρ ρ') (hd : d ≤ d') : ip_tg d' ρ ρ' := ⟨ip_pg_m h.1 hd, h.2⟩
/-- the ghost after k rounds -/
def ip_gs (n : Nat) : Nat → iw_M → iw_M
  | 0, σ => σ
  | k + 1, σ => match f_X6_goesOn n σ with
    | none => σ
    | some q => ip_gs n k q.2
theorem ip_gs_s {n k : Nat} {σ σ' : iw_M} {c : Int32} (h : f_X6_goesOn n σ = some (c, σ')) : ip_gs n (k + 1) σ = ip_gs n k σ' := by
  show (match f_X6_goesOn n σ with | none => σ | some q => ip_gs n k q.2) = _
  rw [h]
