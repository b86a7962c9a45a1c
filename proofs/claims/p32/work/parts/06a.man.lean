/-! the four methods whose walks are written by hand: at, put, copy, stateAt -/
theorem iw_on_n {α : Type} {x : Option Nat} {a : α} {f : Nat → α} {o : α} (e : x = none) (h : iw_on x a f = o) : a = o := by rw [e] at h; exact h
theorem iw_on_s {α : Type} {x : Option Nat} {a : α} {f : Nat → α} {o : α} {c : Nat} (e : x = some c) (h : iw_on x a f = o) : f c = o := by rw [e] at h; exact h
theorem iw_nth_le {l : List Nat} {n : Nat} (h : ∀ x ∈ l, x ≤ n) (i : Nat) : iw_nth l i ≤ n := by
  unfold iw_nth
  rw [List.getD_eq_getElem?_getD]
  cases hi : l[i]? with
  | none => exact Nat.zero_le _
  | some x => exact h x (List.mem_of_getElem? hi)
theorem iw_al_le (a : Nat) : iw_al a ≤ 3255 := by
  unfold iw_al
  split
  · exact iw_nth_le (by decide) _
  · split
    · exact iw_nth_le (by decide) _
    · split <;> exact iw_nth_le (by decide) _
theorem iw_al31 {G : iw_G} {a : Nat} (_ : iw_ia G a) : iw_al a < 2 ^ 31 := by
  have := iw_al_le a
  omega
theorem iw_inb {i : Int32} {n : Nat} (hn : n < 2 ^ 31) (h1 : ¬ i < 0) (h2 : ¬ nI n ≤ i) : vp_in i n := by
  rcases pk_ix i hn with h | h | ⟨j, h, rfl⟩
  · exact absurd h h1
  · exact absurd h h2
  · exact vp_in_nI h hn
theorem iw_puth_ne {σ : iw_M} {v : Int64} {b : Nat} (h : b ≠ 84) : iw_puth σ v b = σ b := by
  unfold iw_puth
  rw [iw_up_ne h, iw_up_ne h]
theorem iw_get_puth (σ : iw_M) (v : Int64) : iw_geth (iw_puth σ v) = v := iw_h_hl v
def f_X5_at (a1 : Nat) (p2 : Int32) (σ : iw_M) : Int32 := if p2 < 0 then 0 else if nI (iw_al a1) ≤ p2 then 0 else σ a1 p2.toNatClampNeg
def f_X5_put (a1 : Nat) (p2 p3 : Int32) (σ : iw_M) : iw_M := if p2 < 0 then σ else if nI (iw_al a1) ≤ p2 then σ else iw_up σ a1 p2.toNatClampNeg p3
def f_X5_copy (a1 a2 : Nat) (σ : iw_M) : iw_M := fun b => if b = a2 then va_cpy (σ a1) (σ a2) 0 0 (min (iw_al a1) (iw_al a2)) else σ b
def f_X0_stateAt (p1 : Int32) (σ : iw_M) : Option Nat := iw_let ((σ 4 1 + p1) - (σ 4 1 + p1) / 5 * 5) fun v => if v < 0 then none else if 5 ≤ v then none else some (44 + 8 * v.toNatClampNeg)
abbrev rm_X5_at : Room := { frames := 0, cells := 0, slots := 0, locals := 0 }
abbrev rm_X5_put : Room := { frames := 0, cells := 0, slots := 0, locals := 0 }
abbrev rm_X5_copy : Room := { frames := 1, cells := 0, slots := 0, locals := 40 }
abbrev rm_X0_stateAt : Room := { frames := 0, cells := 0, slots := 0, locals := 0 }
set_option maxHeartbeats 4000000 in
set_option maxRecDepth 100000 in
theorem k_X5_at (l : Launch) (G : iw_G) (hJ : iw_J G) (a1 : Nat) (ha1 : iw_ia G a1) (p2 : Int32) (σ : iw_M) {r : Int32} (h : f_X5_at a1 p2 σ = r) : iw_Ct l yX5_at wsX5_at rm_X5_at G ([.ref (G.2.1 a1), .int p2] : List Value) σ (some (.int r)) σ := by
  refine iv_start (nL := 2) (own := RX5) (ret := (some .int)) (cc := cX5_at) (by decide +kernel) rfl rfl hJ (Nat.le_of_ble_eq_true rfl) ?_
  intro p e s m below meth c0 C hr hlk
  refine iv_sub (lv' := [(0, .ref (G.2.1 a1)), (1, .int p2)]) [0, 1] rfl ?_
  unfold f_X5_at at h
  refine iv_iload_n (pc := 0) C 1 dX5_at_0 rfl rfl ?_
  refine iv_if_lt (pc := 1) C 16 dX5_at_1 (by decide) (fun h1 => ?_) (fun h1 => ?_)
  · replace h := iw_ift h1 h
    refine iv_iconst (pc := 16) C (0 : Int32) dX5_at_16 (by decide) ?_
    cases h
    exact iv_iret C hr hlk rfl rfl dX5_at_17
  · replace h := iw_iff h1 h
    refine iv_iload_n (pc := 4) C 1 dX5_at_4 rfl rfl ?_
    refine iv_aload_n (pc := 5) C 0 dX5_at_5 rfl rfl ?_
    refine iv_alen (pc := 6) C a1 ha1.2 ha1.1 dX5_at_6 ?_
    refine iv_icmp_ge (pc := 7) C 16 dX5_at_7 (by decide) (fun h2 => ?_) (fun h2 => ?_)
    · replace h := iw_ift h2 h
      refine iv_iconst (pc := 16) C (0 : Int32) dX5_at_16 (by decide) ?_
      cases h
      exact iv_iret C hr hlk rfl rfl dX5_at_17
    · replace h := iw_iff h2 h
      refine iv_aload_n (pc := 10) C 0 dX5_at_10 rfl rfl ?_
      refine iv_iload_n (pc := 11) C 1 dX5_at_11 rfl rfl ?_
      refine iv_iald (pc := 12) C a1 ha1.2 ha1.1 (iw_inb (iw_al31 ha1) h1 h2) dX5_at_12 ?_
      refine iv_goto (pc := 13) C 17 dX5_at_13 (by decide) ?_
      cases h
      exact iv_iret C hr hlk rfl rfl dX5_at_17
set_option maxHeartbeats 4000000 in
set_option maxRecDepth 100000 in
theorem k_X5_put (l : Launch) (G : iw_G) (hJ : iw_J G) (a1 : Nat) (ha1 : iw_ia G a1) (p2 p3 : Int32) (σ : iw_M) {σ' : iw_M} (h : f_X5_put a1 p2 p3 σ = σ') : iw_Ct l yX5_put wsX5_put rm_X5_put G ([.ref (G.2.1 a1), .int p2, .int p3] : List Value) σ none σ' := by
  refine iv_start (nL := 3) (own := RX5) (ret := none) (cc := cX5_put) (by decide +kernel) rfl rfl hJ (Nat.le_of_ble_eq_true rfl) ?_
  intro p e s m below meth c0 C hr hlk
  refine iv_sub (lv' := [(0, .ref (G.2.1 a1)), (1, .int p2), (2, .int p3)]) [0, 1, 2] rfl ?_
  unfold f_X5_put at h
  refine iv_iload_n (pc := 0) C 1 dX5_put_0 rfl rfl ?_
  refine iv_if_lt (pc := 1) C 14 dX5_put_1 (by decide) (fun h1 => ?_) (fun h1 => ?_)
  · replace h := iw_ift h1 h
    cases h
    exact iv_vret C hr hlk rfl rfl dX5_put_14
  · replace h := iw_iff h1 h
    refine iv_iload_n (pc := 4) C 1 dX5_put_4 rfl rfl ?_
    refine iv_aload_n (pc := 5) C 0 dX5_put_5 rfl rfl ?_
    refine iv_alen (pc := 6) C a1 ha1.2 ha1.1 dX5_put_6 ?_
    refine iv_icmp_ge (pc := 7) C 14 dX5_put_7 (by decide) (fun h2 => ?_) (fun h2 => ?_)
    · replace h := iw_ift h2 h
      cases h
      exact iv_vret C hr hlk rfl rfl dX5_put_14
    · replace h := iw_iff h2 h
      refine iv_aload_n (pc := 10) C 0 dX5_put_10 rfl rfl ?_
      refine iv_iload_n (pc := 11) C 1 dX5_put_11 rfl rfl ?_
      refine iv_iload_n (pc := 12) C 2 dX5_put_12 rfl rfl ?_
      refine iv_iast (pc := 13) C a1 ha1.2 ha1.1 (iw_inb (iw_al31 ha1) h1 h2) dX5_put_13 ?_
      cases h
      exact iv_vret C hr hlk rfl rfl dX5_put_14
theorem iw_min2 {a b : Nat} (ha : a < 2 ^ 31) (hb : b < 2 ^ 31) : (if nI b < nI a then nI b else nI a) = nI (min a b) := by
  by_cases h : b < a
  · rw [if_pos (nI_lt h (by omega)), Nat.min_eq_right (Nat.le_of_lt h)]
  · rw [if_neg (nI_nlt (by omega) (by omega)), Nat.min_eq_left (by omega)]
theorem iv_copyW {p : Program} {l : Launch} {e : Env} {R : Room} {s : State} {m : MethodId} {args : Array Value} {below : List Frame} {meth : Method} {c : Code} {cells slots : Nat} {Q : State → Prop} {nL : Nat} {G : iw_G} {A : Nat → Prop} {σ : iw_M} {pc : Nat} {lv : List (Nat × Value)} {st : List Value} {cc : ByteArray} {Ts : List Cond} {own : String} (C : iw_C p R s m args c cc nL Ts own G A cells slots) {index : Nat} (a1 a2 : Nat) (h1 : iw_ia G a1) (h2 : iw_ia G a2) (hw : Cond.methodLink own index arraycopyName ∈ Ts ∧ Cond.native arraycopyName ∈ Ts ∧ Cond.static arraycopyName ∈ Ts ∧ Cond.initialized "java/lang/System" ∈ Ts) (hf : 1 ≤ R.frames) (hlo : (st.map fun v => v.category).sum + (nativeFrameWords "java/lang/System" "arraycopy" 5 + 11) ≤ R.locals) (hdg : decode cc pc = .ok (.invokestatic index, 3)) (q : iw_V p l e R s m args below meth c cells slots Q nL G A (f_X5_copy a1 a2 σ) (pc + 3) lv st) : iw_V p l e R s m args below meth c cells slots Q nL G A σ pc lv (.int (nI (min (iw_al a1) (iw_al a2))) :: .int 0 :: .ref (G.2.1 a2) :: .int 0 :: .ref (G.2.1 a1) :: st) := by
  intro H locs ls hP hS hl
  have e1 := iw_al31 h1
  have e2 := iw_al31 h2
  have e3 : min (iw_al a1) (iw_al a2) < 2 ^ 31 := by omega
  refine va_copyi C.1 C.2.1 (C.2.2.1.trans hl.1.symm) C.2.2.2.1 (C.2.2.2.2.1 _ hw.1) (C.2.2.2.2.1 _ hw.2.1) (C.2.2.2.2.1 _ hw.2.2.1) (C.2.2.2.2.1 _ hw.2.2.2) C.K.1 hP C.D hS (a1 - G.2.2.2.2.2.1) (a2 - G.2.2.2.2.2.1) 0 0 (f := σ a1) (g := σ a2) (n0 := iw_al a1) (n1 := iw_al a2) (ty := .int) (by rw [iw_at h1.2, iw_E7 h1.1]) (by rw [iw_at h2.2, iw_E7 h2.1]) rfl rfl rfl (by decide) (by decide) (nI_pos e3) ?_ ?_ (fun _ _ => rfl) hf hlo hdg ?_
  · rw [nI_clamp e3, show (0 : Int32).toNatClampNeg = 0 from rfl]
    omega
  · rw [nI_clamp e3, show (0 : Int32).toNatClampNeg = 0 from rfl]
    omega
  · intro H1 locs1 hP1 _ hS1
    rw [nI_clamp e3, show (0 : Int32).toNatClampNeg = 0 from rfl] at hP1
    refine q H1 locs1 ls ?_ hS1 hl
    rw [iw_set h2.2 (σ' := f_X5_copy a1 a2 σ) (by rw [iw_E7 h2.1]; simp [f_X5_copy]) (fun b hb => by simp [f_X5_copy, hb])] at hP1
    exact hP1
theorem jd_copy_min : Cond.methodLink RX5 195 Lib.Math.min.name ∈ wsX5_copy ∧ Cond.static Lib.Math.min.name ∈ wsX5_copy ∧ Cond.initialized "java/lang/Math" ∈ wsX5_copy ∧ Cond.code Lib.Math.min.name Lib.Math.min.code 2 (some .int) ∈ wsX5_copy := by decide +kernel
theorem jd_copy_ac : Cond.methodLink RX5 200 arraycopyName ∈ wsX5_copy ∧ Cond.native arraycopyName ∈ wsX5_copy ∧ Cond.static arraycopyName ∈ wsX5_copy ∧ Cond.initialized "java/lang/System" ∈ wsX5_copy := by decide +kernel
set_option maxHeartbeats 4000000 in
set_option maxRecDepth 100000 in
theorem k_X5_copy (l : Launch) (G : iw_G) (hJ : iw_JX G) (a1 : Nat) (ha1 : iw_ia G a1) (a2 : Nat) (ha2 : iw_ia G a2) (σ : iw_M) {σ' : iw_M} (h : f_X5_copy a1 a2 σ = σ') : iw_Ct l yX5_copy wsX5_copy rm_X5_copy G ([.ref (G.2.1 a1), .ref (G.2.1 a2)] : List Value) σ none σ' := by
  refine iv_start (nL := 2) (own := RX5) (ret := none) (cc := cX5_copy) (by decide +kernel) rfl rfl hJ.1 (Nat.le_of_ble_eq_true rfl) ?_
  intro p e s m below meth c0 C hr hlk
  refine iv_sub (lv' := [(0, .ref (G.2.1 a1)), (1, .ref (G.2.1 a2))]) [0, 1] rfl ?_
  refine iv_aload_n (pc := 0) C 0 dX5_copy_0 rfl rfl ?_
  refine iv_iconst (pc := 1) C (0 : Int32) dX5_copy_1 (by decide) ?_
  refine iv_aload_n (pc := 2) C 1 dX5_copy_2 rfl rfl ?_
  refine iv_iconst (pc := 3) C (0 : Int32) dX5_copy_3 (by decide) ?_
  refine iv_aload_n (pc := 4) C 0 dX5_copy_4 rfl rfl ?_
  refine iv_alen (pc := 5) C a1 ha1.2 ha1.1 dX5_copy_5 ?_
  refine iv_aload_n (pc := 6) C 1 dX5_copy_6 rfl rfl ?_
  refine iv_alen (pc := 7) C a2 ha2.2 ha2.1 dX5_copy_7 ?_
  refine iv_min (pc := 8) C jd_copy_min ⟨Nat.le_of_ble_eq_true rfl, Nat.le_of_ble_eq_true rfl⟩ dX5_copy_8 ?_
  rw [iw_min2 (iw_al31 ha1) (iw_al31 ha2)]
  refine iv_copyW (pc := 11) C a1 a2 ha1 ha2 jd_copy_ac (Nat.le_of_ble_eq_true rfl) (by decide +kernel) dX5_copy_11 ?_
  cases h
  exact iv_vret C hr hlk rfl rfl dX5_copy_14
theorem lk_X0_stateAt_22 : Cond.fieldLink RX0 22 RX0 (TX0 1).2.1 (TX0 1).2.2.1 ∈ wsX0_stateAt := by decide +kernel
theorem lk_X0_stateAt_11 : Cond.fieldLink RX0 11 RX0 (TX0 0).2.1 (TX0 0).2.2.1 ∈ wsX0_stateAt := by decide +kernel
theorem in_X0_stateAt_0 : ∀ w ∈ u_ws RX0 TX0 3, w ∈ wsX0_stateAt := by decide +kernel
set_option maxHeartbeats 4000000 in
set_option maxRecDepth 100000 in
theorem k_X0_stateAt (l : Launch) (G : iw_G) (hJ : iw_JX G) (p1 : Int32) (σ : iw_M) {r : Option Nat} (h : f_X0_stateAt p1 σ = r) : iw_Ct l yX0_stateAt wsX0_stateAt rm_X0_stateAt G ([.ref (G.2.1 4), .int p1] : List Value) σ (some (va_rf (r.map G.2.1))) σ := by
  refine iv_start (nL := 3) (own := RX0) (ret := (some (.object "InterestNet$Net"))) (cc := cX0_stateAt) (by decide +kernel) rfl rfl hJ.1 (Nat.le_of_ble_eq_true rfl) ?_
  intro p e s m below meth c0 C hr hlk
  refine iv_sub (lv' := [(0, .ref (G.2.1 4)), (1, .int p1)]) [0, 1] rfl ?_
  unfold f_X0_stateAt at h
  refine iv_aload_n (pc := 0) C 0 dX0_stateAt_0 rfl rfl ?_
  refine iv_getf (pc := 1) (T := TX0) (N := 3) (ci := 0) C 4 1 in_X0_stateAt_0 (iw_ix hJ (by decide)) iw_Eo4 rfl (by decide) lk_X0_stateAt_22 rfl rfl dX0_stateAt_1 ?_
  refine iv_iload_n (pc := 4) C 1 dX0_stateAt_4 rfl rfl ?_
  refine iv_iadd (pc := 5) C dX0_stateAt_5 ?_
  refine iv_iconst (pc := 6) C (5 : Int32) dX0_stateAt_6 (by decide) ?_
  refine iv_irem (pc := 7) C (by decide) dX0_stateAt_7 ?_
  refine iv_topi (fun v1 ev1 => ?_)
  replace h := iw_lete ev1 h
  refine iv_istore_n (pc := 8) C [(2, .int v1), (0, .ref (G.2.1 4)), (1, .int p1)] dX0_stateAt_8 rfl (by decide) rfl ?_
  refine iv_iload_n (pc := 9) C 0 dX0_stateAt_9 rfl rfl ?_
  refine iv_if_lt (pc := 10) C 31 dX0_stateAt_10 (by decide) (fun h1 => ?_) (fun h1 => ?_)
  · replace h := iw_ift h1 h
    refine iv_null (pc := 31) C dX0_stateAt_31 ?_
    cases h
    exact iv_aret C hr ⟨_, rfl⟩ hlk (Or.inl rfl) rfl rfl dX0_stateAt_32
  · replace h := iw_iff h1 h
    refine iv_iload_n (pc := 13) C 0 dX0_stateAt_13 rfl rfl ?_
    refine iv_aload_n (pc := 14) C 1 dX0_stateAt_14 rfl rfl ?_
    refine iv_getf (pc := 15) (T := TX0) (N := 3) (ci := 0) C 4 0 in_X0_stateAt_0 (iw_ix hJ (by decide)) iw_Eo4 rfl (by decide) lk_X0_stateAt_11 rfl rfl dX0_stateAt_15 ?_
    refine iv_alen9 (pc := 18) C (iw_ix hJ (by decide)) dX0_stateAt_18 ?_
    refine iv_icmp_ge (pc := 19) C 31 dX0_stateAt_19 (by decide) (fun h2 => ?_) (fun h2 => ?_)
    · replace h := iw_ift h2 h
      refine iv_null (pc := 31) C dX0_stateAt_31 ?_
      cases h
      exact iv_aret C hr ⟨_, rfl⟩ hlk (Or.inl rfl) rfl rfl dX0_stateAt_32
    · replace h := iw_iff h2 h
      refine iv_aload_n (pc := 22) C 1 dX0_stateAt_22 rfl rfl ?_
      refine iv_getf (pc := 23) (T := TX0) (N := 3) (ci := 0) C 4 0 in_X0_stateAt_0 (iw_ix hJ (by decide)) iw_Eo4 rfl (by decide) lk_X0_stateAt_11 rfl rfl dX0_stateAt_23 ?_
      refine iv_iload_n (pc := 26) C 0 dX0_stateAt_26 rfl rfl ?_
      refine iv_aald (pc := 27) C (iw_ix hJ (by decide)) (iw_inb (n := 5) (by decide) h1 h2) dX0_stateAt_27 ?_
      refine iv_goto (pc := 28) C 32 dX0_stateAt_28 (by decide) ?_
      cases h
      exact iv_aret C hr ⟨_, rfl⟩ hlk (Or.inr ⟨_, rfl⟩) rfl rfl dX0_stateAt_32
theorem X0_stateAt_net {p1 : Int32} {σ : iw_M} {c : Nat} (h : f_X0_stateAt p1 σ = some c) : iw_net c := by
  unfold f_X0_stateAt iw_let at h
  by_cases h1 : ((σ 4 1 + p1) - (σ 4 1 + p1) / 5 * 5) < 0
  · simp only [if_pos h1] at h; cases h
  · simp only [if_neg h1] at h
    by_cases h2 : 5 ≤ ((σ 4 1 + p1) - (σ 4 1 + p1) / 5 * 5)
    · simp only [if_pos h2] at h; cases h
    · simp only [if_neg h2] at h
      obtain ⟨j, h3, h4⟩ := vp_in_of (iw_inb (n := 5) (by decide) h1 h2) (by decide)
      rw [h4, nI_clamp (by omega)] at h
      have h5 := Option.some.inj h
      unfold iw_net
      omega
theorem qd_X5_at : yX5_at.cls ≠ "java/lang/invoke/MethodHandle" ∧ yX5_at.cls ≠ "java/lang/invoke/VarHandle" ∧ (parseMethodDescriptor yX5_at.desc).map (fun d => d.parameters.length) = some 2 := by decide +kernel
theorem qd_X5_put : yX5_put.cls ≠ "java/lang/invoke/MethodHandle" ∧ yX5_put.cls ≠ "java/lang/invoke/VarHandle" ∧ (parseMethodDescriptor yX5_put.desc).map (fun d => d.parameters.length) = some 3 := by decide +kernel
theorem qd_X5_copy : yX5_copy.cls ≠ "java/lang/invoke/MethodHandle" ∧ yX5_copy.cls ≠ "java/lang/invoke/VarHandle" ∧ (parseMethodDescriptor yX5_copy.desc).map (fun d => d.parameters.length) = some 2 := by decide +kernel
theorem qd_X0_stateAt : yX0_stateAt.cls = RX0 ∧ yX0_stateAt.cls ≠ "java/lang/invoke/MethodHandle" ∧ yX0_stateAt.cls ≠ "java/lang/invoke/VarHandle" ∧ (parseMethodDescriptor yX0_stateAt.desc).map (fun d => d.parameters.length) = some 1 := by decide +kernel
theorem ne_RX1_104 : (RX1, 104, yX5_hashOf) ∈ iw_nm := by decide +kernel
theorem ne_RX1_33 : (RX1, 33, yX5_put) ∈ iw_nm := by decide +kernel
theorem ne_RX1_37 : (RX1, 37, yX5_copy) ∈ iw_nm := by decide +kernel
theorem ne_RX1_51 : (RX1, 51, yX5_at) ∈ iw_nm := by decide +kernel
theorem ne_RX1_55 : (RX1, 55, yX5_increase) ∈ iw_nm := by decide +kernel
theorem ne_RX1_64 : (RX1, 64, yX5_removePiece) ∈ iw_nm := by decide +kernel
theorem ne_RX1_74 : (RX1, 74, yX5_wayOf) ∈ iw_nm := by decide +kernel
theorem ne_RX1_90 : (RX1, 90, yX5_isWithin) ∈ iw_nm := by decide +kernel
theorem ne_RX2_43 : (RX2, 43, yX5_put) ∈ iw_nm := by decide +kernel
theorem ne_RX2_47 : (RX2, 47, yX5_at) ∈ iw_nm := by decide +kernel
theorem ne_RX2_57 : (RX2, 57, yX5_holds) ∈ iw_nm := by decide +kernel
theorem ne_RX3_133 : (RX3, 133, yX5_put) ∈ iw_nm := by decide +kernel
theorem ne_RX3_140 : (RX3, 140, yX5_at) ∈ iw_nm := by decide +kernel
theorem ne_RX3_60 : (RX3, 60, yX5_wayOf) ∈ iw_nm := by decide +kernel
theorem ne_RX3_77 : (RX3, 77, yX5_holds) ∈ iw_nm := by decide +kernel
theorem ne_RX4_92 : (RX4, 92, yX5_at) ∈ iw_nm := by decide +kernel
theorem ne_RX4_96 : (RX4, 96, yX5_isWithin) ∈ iw_nm := by decide +kernel
