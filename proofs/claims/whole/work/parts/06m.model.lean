def f_X6_in (p1 : Int32) (p2 : Int32) (p3 : Int32) : Int32 :=
if p1 < p2 then
((0 : Int32))
else
(if p3 < p1 then
((0 : Int32))
else
((1 : Int32)))
abbrev rm_X6_in : Room := { frames := 0, cells := 0, slots := 0, locals := 0 }
set_option maxHeartbeats 4000000 in
set_option maxRecDepth 100000 in
theorem k_X6_in (l : Launch) (G : iw_G) (hJ : iw_JM G) (p1 : Int32) (p2 : Int32) (p3 : Int32) (σ : iw_M) {r : Int32} (h : f_X6_in p1 p2 p3 = r) : iw_Ct l yX6_in wsX6_in rm_X6_in G ([.int p1, .int p2, .int p3] : List Value) σ (some (.int r)) σ := by
  refine iv_start (nL := 3) (own := RX6) (ret := (some .boolean)) (cc := cX6_in) (by decide +kernel) rfl rfl hJ.1 (Nat.le_of_ble_eq_true rfl) ?_
  intro p e s m below meth c0 C hr hlk
  refine iv_sub (lv' := [(0, .int p1), (1, .int p2), (2, .int p3)]) [0, 1, 2] rfl ?_
  unfold f_X6_in at h
  refine iv_iload_n (pc := 0) C 0 dX6_in_0 rfl rfl ?_
  refine iv_iload_n (pc := 1) C 1 dX6_in_1 rfl rfl ?_
  refine iv_icmp_lt (pc := 2) C 14 dX6_in_2 (by decide) (fun h1 => ?_) (fun h1 => ?_)
  · replace h := iw_ift h1 h
    refine iv_iconst (pc := 14) C (0 : Int32) dX6_in_14 (by decide) ?_
    cases h
    exact iv_zret C hr hlk rfl rfl dX6_in_15
  · replace h := iw_iff h1 h
    refine iv_iload_n (pc := 5) C 0 dX6_in_5 rfl rfl ?_
    refine iv_iload_n (pc := 6) C 2 dX6_in_6 rfl rfl ?_
    refine iv_icmp_gt (pc := 7) C 14 dX6_in_7 (by decide) (fun h2 => ?_) (fun h2 => ?_)
    · replace h := iw_ift h2 h
      refine iv_iconst (pc := 14) C (0 : Int32) dX6_in_14 (by decide) ?_
      cases h
      exact iv_zret C hr hlk rfl rfl dX6_in_15
    · replace h := iw_iff h2 h
      refine iv_iconst (pc := 10) C (1 : Int32) dX6_in_10 (by decide) ?_
      refine iv_goto (pc := 11) C 15 dX6_in_11 (by decide) ?_
      cases h
      exact iv_zret C hr hlk rfl rfl dX6_in_15
theorem qd_X6_in : yX6_in.cls ≠ "java/lang/invoke/MethodHandle" ∧ yX6_in.cls ≠ "java/lang/invoke/VarHandle" ∧ (parseMethodDescriptor yX6_in.desc).map (fun d => d.parameters.length) = some 3 := by decide +kernel
def f_X6_copies_X39_2 (m1 : iw_M) : Option (iw_M) :=
some m1
def f_X6_copies_B2 (p1 : Int32) (p2 : Int32) (k2 : iw_M → Option (iw_M)) (r2 : Int32 → iw_M → Option (iw_M)) (v2 : Int32) (m3 : iw_M) : Option (iw_M) :=
if (465 : Int32) ≤ v2 then
(k2 m3)
else
((iw_rd m3 85 (((465 : Int32) * p1) + v2)).bind fun v5 =>
(iw_wr m3 85 (((465 : Int32) * p2) + v2) v5).bind fun m6 =>
iw_let (v2 + (1 : Int32)) fun v7 =>
r2 v7 m6)
def f_X6_copies_L2 (p1 : Int32) (p2 : Int32) (k2 : iw_M → Option (iw_M)) (nn : Nat) : Int32 → iw_M → Option (iw_M) :=
iw_it (fun r2 => f_X6_copies_B2 p1 p2 k2 r2) (fun _ _ => none) nn
def f_X6_copies (n : Nat) (p1 : Int32) (p2 : Int32) (σ : iw_M) : Option (iw_M) :=
f_X6_copies_L2 p1 p2 (f_X6_copies_X39_2) n (0 : Int32) σ
abbrev rm_X6_copies : Room := { frames := 0, cells := 0, slots := 0, locals := 0 }
theorem lk_X6_copies_7 : Cond.fieldLink RX6 7 RX6 (TX6 0).2.1 (TX6 0).2.2.1 ∈ wsX6_copies := by decide +kernel
theorem in_X6_copies_6 : ∀ w ∈ u_ws RX6 TX6 16, w ∈ wsX6_copies := by decide +kernel
set_option maxHeartbeats 4000000 in
set_option maxRecDepth 100000 in
theorem k_X6_copies (l : Launch) (G : iw_G) (hJ : iw_JM G) (n : Nat) (p1 : Int32) (p2 : Int32) (σ : iw_M) {σ' : iw_M} (h : f_X6_copies n p1 p2 σ = some σ') : iw_Ct l yX6_copies wsX6_copies rm_X6_copies G ([.ref (G.2.1 84), .int p1, .int p2] : List Value) σ none σ' := by
  refine iv_start (nL := 4) (own := RX6) (ret := none) (cc := cX6_copies) (by decide +kernel) rfl rfl hJ.1 (Nat.le_of_ble_eq_true rfl) ?_
  intro p e s m below meth c0 C hr hlk
  refine iv_sub (lv' := [(0, .ref (G.2.1 84)), (1, .int p1), (2, .int p2)]) [0, 1, 2] rfl ?_
  unfold f_X6_copies at h
  refine iv_iconst (pc := 0) C (0 : Int32) dX6_copies_0 (by decide) ?_
  refine iv_istore_n (pc := 1) C [(3, .int (0 : Int32)), (0, .ref (G.2.1 84)), (1, .int p1), (2, .int p2)] dX6_copies_1 rfl (by decide) rfl ?_
  have vX2 : ∀ (m1 : iw_M), f_X6_copies_X39_2 m1 = some σ' → iw_V p l e rm_X6_copies s m ([.ref (G.2.1 84), .int p1, .int p2] : List Value).toArray below meth c0 0 0 (MQ below (iw_Q none G σ') ([.ref (G.2.1 84), .int p1, .int p2] : List Value).toArray s 0 0 (iw_A G)) 4 G (iw_A G) m1 39 [] [] := by
    intro m1 h
    unfold f_X6_copies_X39_2 at h
    cases h
    exact iv_vret C hr hlk rfl rfl dX6_copies_39
  have vB2 : ∀ (k2 : iw_M → Option (iw_M)) (r2 : Int32 → iw_M → Option (iw_M)), (∀ (m1 : iw_M), k2 m1 = some σ' → iw_V p l e rm_X6_copies s m ([.ref (G.2.1 84), .int p1, .int p2] : List Value).toArray below meth c0 0 0 (MQ below (iw_Q none G σ') ([.ref (G.2.1 84), .int p1, .int p2] : List Value).toArray s 0 0 (iw_A G)) 4 G (iw_A G) m1 39 [] []) → (∀ (v2 : Int32) (m3 : iw_M), r2 v2 m3 = some σ' → iw_V p l e rm_X6_copies s m ([.ref (G.2.1 84), .int p1, .int p2] : List Value).toArray below meth c0 0 0 (MQ below (iw_Q none G σ') ([.ref (G.2.1 84), .int p1, .int p2] : List Value).toArray s 0 0 (iw_A G)) 4 G (iw_A G) m3 2 [(0, .ref (G.2.1 84)), (1, .int p1), (2, .int p2), (3, .int v2)] []) → ∀ (v2 : Int32) (m3 : iw_M), f_X6_copies_B2 p1 p2 k2 r2 v2 m3 = some σ' → iw_V p l e rm_X6_copies s m ([.ref (G.2.1 84), .int p1, .int p2] : List Value).toArray below meth c0 0 0 (MQ below (iw_Q none G σ') ([.ref (G.2.1 84), .int p1, .int p2] : List Value).toArray s 0 0 (iw_A G)) 4 G (iw_A G) m3 2 [(0, .ref (G.2.1 84)), (1, .int p1), (2, .int p2), (3, .int v2)] [] := by
    intro k2 r2 hk2 hr2 v2 m3 h
    unfold f_X6_copies_B2 at h
    refine iv_iload_n (pc := 2) C 3 dX6_copies_2 rfl rfl ?_
    refine iv_sipush (pc := 3) C (465 : Int32) dX6_copies_3 (by decide) ?_
    refine iv_icmp_ge (pc := 6) C 39 dX6_copies_6 (by decide) (fun h4 => ?_) (fun h4 => ?_)
    · replace h := iw_ift h4 h
      exact iv_sub [] rfl (hk2 m3 h)
    · replace h := iw_iff h4 h
      refine iv_aload_n (pc := 9) C 0 dX6_copies_9 rfl rfl ?_
      refine iv_getf (pc := 10) (T := TX6) (N := 16) (ci := 6) C 84 0 in_X6_copies_6 (iw_im hJ (by decide)) iw_Eo84 rfl (by decide) lk_X6_copies_7 rfl rfl dX6_copies_10 ?_
      refine iv_sipush (pc := 13) C (465 : Int32) dX6_copies_13 (by decide) ?_
      refine iv_iload_n (pc := 16) C 2 dX6_copies_16 rfl rfl ?_
      refine iv_imul (pc := 17) C dX6_copies_17 ?_
      refine iv_iload_n (pc := 18) C 3 dX6_copies_18 rfl rfl ?_
      refine iv_iadd (pc := 19) C dX6_copies_19 ?_
      refine iv_aload_n (pc := 20) C 0 dX6_copies_20 rfl rfl ?_
      refine iv_getf (pc := 21) (T := TX6) (N := 16) (ci := 6) C 84 0 in_X6_copies_6 (iw_im hJ (by decide)) iw_Eo84 rfl (by decide) lk_X6_copies_7 rfl rfl dX6_copies_21 ?_
      refine iv_sipush (pc := 24) C (465 : Int32) dX6_copies_24 (by decide) ?_
      refine iv_iload_n (pc := 27) C 1 dX6_copies_27 rfl rfl ?_
      refine iv_imul (pc := 28) C dX6_copies_28 ?_
      refine iv_iload_n (pc := 29) C 3 dX6_copies_29 rfl rfl ?_
      refine iv_iadd (pc := 30) C dX6_copies_30 ?_
      obtain ⟨v5, ev5, h⟩ := iw_be h
      refine iv_rd (pc := 31) C 85 (iw_lm hJ rfl (by decide)) ev5 dX6_copies_31 ?_
      obtain ⟨m6, em6, h⟩ := iw_be h
      refine iv_wr (pc := 32) C 85 (iw_lm hJ rfl (by decide)) em6 dX6_copies_32 ?_
      obtain ⟨v7, ev7⟩ : ∃ y : Int32, y = v2 + (1 : Int32) := ⟨_, rfl⟩
      replace h := iw_lete ev7 h
      refine iv_iinc (pc := 33) C 3 v7 [(3, .int v7), (0, .ref (G.2.1 84)), (1, .int p1), (2, .int p2)] dX6_copies_33 rfl (by rw [ev7]; rfl) (by decide) rfl ?_
      refine iv_goto (pc := 36) C 2 dX6_copies_36 (by decide) ?_
      exact iv_sub [1, 2, 3, 0] rfl (hr2 v7 m6 h)
  have vL2 : ∀ (nn : Nat) (v2 : Int32) (m3 : iw_M), f_X6_copies_L2 p1 p2 (f_X6_copies_X39_2) nn v2 m3 = some σ' → iw_V p l e rm_X6_copies s m ([.ref (G.2.1 84), .int p1, .int p2] : List Value).toArray below meth c0 0 0 (MQ below (iw_Q none G σ') ([.ref (G.2.1 84), .int p1, .int p2] : List Value).toArray s 0 0 (iw_A G)) 4 G (iw_A G) m3 2 [(0, .ref (G.2.1 84)), (1, .int p1), (2, .int p2), (3, .int v2)] [] := by
    intro nn
    induction nn with
    | zero => intro v2 m3 h; exact absurd h (fun q => by cases q)
    | succ nn ih => intro v2 m3 h; exact vB2 (f_X6_copies_X39_2) (f_X6_copies_L2 p1 p2 (f_X6_copies_X39_2) nn) vX2 ih v2 m3 h
  exact iv_sub [1, 2, 3, 0] rfl (vL2 n (0 : Int32) σ h)
theorem qd_X6_copies : yX6_copies.cls = RX6 ∧ yX6_copies.cls ≠ "java/lang/invoke/MethodHandle" ∧ yX6_copies.cls ≠ "java/lang/invoke/VarHandle" ∧ (parseMethodDescriptor yX6_copies.desc).map (fun d => d.parameters.length) = some 2 := by decide +kernel
def f_X6_saves_J47 (n : Nat) (m1 : iw_M) (v2 : Int32) : Option (iw_M) :=
iw_let (iw_up m1 84 1 ((m1 84 1) - v2)) fun m3 =>
iw_let (iw_up m3 84 1 ((m3 84 1) + (1 : Int32))) fun m4 =>
(f_X6_copies n (0 : Int32) (m4 84 1) m4).bind fun m5 =>
some m5
def f_X6_saves_X29_2 (n : Nat) (m1 : iw_M) : Option (iw_M) :=
if (m1 84 1) = (5 : Int32) then
(f_X6_saves_J47 n m1 (1 : Int32))
else
(f_X6_saves_J47 n m1 (0 : Int32))
def f_X6_saves_B2 (n : Nat) (k2 : iw_M → Option (iw_M)) (r2 : Int32 → iw_M → Option (iw_M)) (v7 : Int32) (m8 : iw_M) : Option (iw_M) :=
if (5 : Int32) ≤ v7 then
(k2 m8)
else
(if (m8 84 1) = (5 : Int32) then
((f_X6_copies n (v7 + (1 : Int32)) v7 m8).bind fun m11 =>
iw_let (v7 + (1 : Int32)) fun v12 =>
r2 v12 m11)
else
(k2 m8))
def f_X6_saves_L2 (n : Nat) (k2 : iw_M → Option (iw_M)) (nn : Nat) : Int32 → iw_M → Option (iw_M) :=
iw_it (fun r2 => f_X6_saves_B2 n k2 r2) (fun _ _ => none) nn
def f_X6_saves (n : Nat) (σ : iw_M) : Option (iw_M) :=
f_X6_saves_L2 n (f_X6_saves_X29_2 n) n (1 : Int32) σ
abbrev rm_X6_saves : Room := { frames := 1, cells := 0, slots := 0, locals := 23 }
theorem lk_X6_saves_35 : Cond.fieldLink RX6 35 RX6 (TX6 1).2.1 (TX6 1).2.2.1 ∈ wsX6_saves := by decide +kernel
theorem in_X6_saves_6 : ∀ w ∈ u_ws RX6 TX6 16, w ∈ wsX6_saves := by decide +kernel
set_option maxHeartbeats 4000000 in
set_option maxRecDepth 100000 in
theorem k_X6_saves (l : Launch) (G : iw_G) (hJ : iw_JM G) (n : Nat) (σ : iw_M) {σ' : iw_M} (h : f_X6_saves n σ = some σ') : iw_Ct l yX6_saves wsX6_saves rm_X6_saves G ([.ref (G.2.1 84)] : List Value) σ none σ' := by
  refine iv_start (nL := 2) (own := RX6) (ret := none) (cc := cX6_saves) (by decide +kernel) rfl rfl hJ.1 (Nat.le_of_ble_eq_true rfl) ?_
  intro p e s m below meth c0 C hr hlk
  refine iv_sub (lv' := [(0, .ref (G.2.1 84))]) [0] rfl ?_
  unfold f_X6_saves at h
  refine iv_iconst (pc := 0) C (1 : Int32) dX6_saves_0 (by decide) ?_
  refine iv_istore_n (pc := 1) C [(1, .int (1 : Int32)), (0, .ref (G.2.1 84))] dX6_saves_1 rfl (by decide) rfl ?_
  have vX2 : ∀ (m1 : iw_M), f_X6_saves_X29_2 n m1 = some σ' → iw_V p l e rm_X6_saves s m ([.ref (G.2.1 84)] : List Value).toArray below meth c0 0 0 (MQ below (iw_Q none G σ') ([.ref (G.2.1 84)] : List Value).toArray s 0 0 (iw_A G)) 2 G (iw_A G) m1 29 [(0, .ref (G.2.1 84))] [] := by
    intro m1 h
    unfold f_X6_saves_X29_2 at h
    refine iv_aload_n (pc := 29) C 0 dX6_saves_29 rfl rfl ?_
    refine iv_dup (pc := 30) C rfl dX6_saves_30 ?_
    refine iv_getf (pc := 31) (T := TX6) (N := 16) (ci := 6) C 84 1 in_X6_saves_6 (iw_im hJ (by decide)) iw_Eo84 rfl (by decide) lk_X6_saves_35 rfl rfl dX6_saves_31 ?_
    refine iv_aload_n (pc := 34) C 0 dX6_saves_34 rfl rfl ?_
    refine iv_getf (pc := 35) (T := TX6) (N := 16) (ci := 6) C 84 1 in_X6_saves_6 (iw_im hJ (by decide)) iw_Eo84 rfl (by decide) lk_X6_saves_35 rfl rfl dX6_saves_35 ?_
    refine iv_iconst (pc := 38) C (5 : Int32) dX6_saves_38 (by decide) ?_
    have vJ47 : ∀ (v2 : Int32), f_X6_saves_J47 n m1 v2 = some σ' → iw_V p l e rm_X6_saves s m ([.ref (G.2.1 84)] : List Value).toArray below meth c0 0 0 (MQ below (iw_Q none G σ') ([.ref (G.2.1 84)] : List Value).toArray s 0 0 (iw_A G)) 2 G (iw_A G) m1 47 [(0, .ref (G.2.1 84))] [.int v2, .int (m1 84 1), .ref (G.2.1 84)] := by
      intro v2 h
      unfold f_X6_saves_J47 at h
      refine iv_isub (pc := 47) C dX6_saves_47 ?_
      refine iv_putf (pc := 48) (T := TX6) (N := 16) (ci := 6) C 84 1 (iw_up m1 84 1 ((m1 84 1) - v2)) in_X6_saves_6 (iw_im hJ (by decide)) iw_Eo84 tyX6_ok nmX6 rfl (by decide) lk_X6_saves_35 rfl rfl (tyX6_ok 1 (by decide)) rfl rfl (Nat.le_of_ble_eq_true rfl) rfl (fun b hb => iw_up_ne hb) dX6_saves_48 ?_
      refine iv_topm (fun m3 em3 => ?_)
      replace h := iw_lete em3 h
      refine iv_aload_n (pc := 51) C 0 dX6_saves_51 rfl rfl ?_
      refine iv_dup (pc := 52) C rfl dX6_saves_52 ?_
      refine iv_getf (pc := 53) (T := TX6) (N := 16) (ci := 6) C 84 1 in_X6_saves_6 (iw_im hJ (by decide)) iw_Eo84 rfl (by decide) lk_X6_saves_35 rfl rfl dX6_saves_53 ?_
      refine iv_iconst (pc := 56) C (1 : Int32) dX6_saves_56 (by decide) ?_
      refine iv_iadd (pc := 57) C dX6_saves_57 ?_
      refine iv_putf (pc := 58) (T := TX6) (N := 16) (ci := 6) C 84 1 (iw_up m3 84 1 ((m3 84 1) + (1 : Int32))) in_X6_saves_6 (iw_im hJ (by decide)) iw_Eo84 tyX6_ok nmX6 rfl (by decide) lk_X6_saves_35 rfl rfl (tyX6_ok 1 (by decide)) rfl rfl (Nat.le_of_ble_eq_true rfl) rfl (fun b hb => iw_up_ne hb) dX6_saves_58 ?_
      refine iv_topm (fun m4 em4 => ?_)
      replace h := iw_lete em4 h
      refine iv_aload_n (pc := 61) C 0 dX6_saves_61 rfl rfl ?_
      refine iv_iconst (pc := 62) C (0 : Int32) dX6_saves_62 (by decide) ?_
      refine iv_aload_n (pc := 63) C 0 dX6_saves_63 rfl rfl ?_
      refine iv_getf (pc := 64) (T := TX6) (N := 16) (ci := 6) C 84 1 in_X6_saves_6 (iw_im hJ (by decide)) iw_Eo84 rfl (by decide) lk_X6_saves_35 rfl rfl dX6_saves_64 ?_
      obtain ⟨m5, em5, h⟩ := iw_be h
      refine iv_callV (pc := 67) (b := 84) (ci := 6) C [.int (0 : Int32), .int (m4 84 1)] (k_X6_copies l G hJ n (0 : Int32) (m4 84 1) m4 em5) gX6_saves_X6_copies rfl qd_X6_copies ⟨rfl, rfl, Nat.le_of_ble_eq_true rfl, Nat.le_of_ble_eq_true rfl⟩ (iw_im hJ (by decide)) iw_Eo84 rfl rfl rfl (Nat.le_of_ble_eq_true rfl) dX6_saves_67 ?_
      cases h
      exact iv_vret C hr hlk rfl rfl dX6_saves_70
    refine iv_icmp_ne (pc := 39) C 46 dX6_saves_39 (by decide) (fun h6 => ?_) (fun h6 => ?_)
    · replace h := iw_iff h6 h
      refine iv_iconst (pc := 46) C (0 : Int32) dX6_saves_46 (by decide) ?_
      exact iv_sub [0] rfl (vJ47 (0 : Int32) h)
    · replace h := iw_ift h6 h
      refine iv_iconst (pc := 42) C (1 : Int32) dX6_saves_42 (by decide) ?_
      refine iv_goto (pc := 43) C 47 dX6_saves_43 (by decide) ?_
      exact iv_sub [0] rfl (vJ47 (1 : Int32) h)
  have vB2 : ∀ (k2 : iw_M → Option (iw_M)) (r2 : Int32 → iw_M → Option (iw_M)), (∀ (m1 : iw_M), k2 m1 = some σ' → iw_V p l e rm_X6_saves s m ([.ref (G.2.1 84)] : List Value).toArray below meth c0 0 0 (MQ below (iw_Q none G σ') ([.ref (G.2.1 84)] : List Value).toArray s 0 0 (iw_A G)) 2 G (iw_A G) m1 29 [(0, .ref (G.2.1 84))] []) → (∀ (v7 : Int32) (m8 : iw_M), r2 v7 m8 = some σ' → iw_V p l e rm_X6_saves s m ([.ref (G.2.1 84)] : List Value).toArray below meth c0 0 0 (MQ below (iw_Q none G σ') ([.ref (G.2.1 84)] : List Value).toArray s 0 0 (iw_A G)) 2 G (iw_A G) m8 2 [(0, .ref (G.2.1 84)), (1, .int v7)] []) → ∀ (v7 : Int32) (m8 : iw_M), f_X6_saves_B2 n k2 r2 v7 m8 = some σ' → iw_V p l e rm_X6_saves s m ([.ref (G.2.1 84)] : List Value).toArray below meth c0 0 0 (MQ below (iw_Q none G σ') ([.ref (G.2.1 84)] : List Value).toArray s 0 0 (iw_A G)) 2 G (iw_A G) m8 2 [(0, .ref (G.2.1 84)), (1, .int v7)] [] := by
    intro k2 r2 hk2 hr2 v7 m8 h
    unfold f_X6_saves_B2 at h
    refine iv_iload_n (pc := 2) C 1 dX6_saves_2 rfl rfl ?_
    refine iv_iconst (pc := 3) C (5 : Int32) dX6_saves_3 (by decide) ?_
    refine iv_icmp_ge (pc := 4) C 29 dX6_saves_4 (by decide) (fun h9 => ?_) (fun h9 => ?_)
    · replace h := iw_ift h9 h
      exact iv_sub [0] rfl (hk2 m8 h)
    · replace h := iw_iff h9 h
      refine iv_aload_n (pc := 7) C 0 dX6_saves_7 rfl rfl ?_
      refine iv_getf (pc := 8) (T := TX6) (N := 16) (ci := 6) C 84 1 in_X6_saves_6 (iw_im hJ (by decide)) iw_Eo84 rfl (by decide) lk_X6_saves_35 rfl rfl dX6_saves_8 ?_
      refine iv_iconst (pc := 11) C (5 : Int32) dX6_saves_11 (by decide) ?_
      refine iv_icmp_ne (pc := 12) C 29 dX6_saves_12 (by decide) (fun h10 => ?_) (fun h10 => ?_)
      · replace h := iw_iff h10 h
        exact iv_sub [0] rfl (hk2 m8 h)
      · replace h := iw_ift h10 h
        refine iv_aload_n (pc := 15) C 0 dX6_saves_15 rfl rfl ?_
        refine iv_iload_n (pc := 16) C 1 dX6_saves_16 rfl rfl ?_
        refine iv_iconst (pc := 17) C (1 : Int32) dX6_saves_17 (by decide) ?_
        refine iv_iadd (pc := 18) C dX6_saves_18 ?_
        refine iv_iload_n (pc := 19) C 1 dX6_saves_19 rfl rfl ?_
        obtain ⟨m11, em11, h⟩ := iw_be h
        refine iv_callV (pc := 20) (b := 84) (ci := 6) C [.int (v7 + (1 : Int32)), .int v7] (k_X6_copies l G hJ n (v7 + (1 : Int32)) v7 m8 em11) gX6_saves_X6_copies rfl qd_X6_copies ⟨rfl, rfl, Nat.le_of_ble_eq_true rfl, Nat.le_of_ble_eq_true rfl⟩ (iw_im hJ (by decide)) iw_Eo84 rfl rfl rfl (Nat.le_of_ble_eq_true rfl) dX6_saves_20 ?_
        obtain ⟨v12, ev12⟩ : ∃ y : Int32, y = v7 + (1 : Int32) := ⟨_, rfl⟩
        replace h := iw_lete ev12 h
        refine iv_iinc (pc := 23) C 1 v12 [(1, .int v12), (0, .ref (G.2.1 84))] dX6_saves_23 rfl (by rw [ev12]; rfl) (by decide) rfl ?_
        refine iv_goto (pc := 26) C 2 dX6_saves_26 (by decide) ?_
        exact iv_sub [1, 0] rfl (hr2 v12 m11 h)
  have vL2 : ∀ (nn : Nat) (v7 : Int32) (m8 : iw_M), f_X6_saves_L2 n (f_X6_saves_X29_2 n) nn v7 m8 = some σ' → iw_V p l e rm_X6_saves s m ([.ref (G.2.1 84)] : List Value).toArray below meth c0 0 0 (MQ below (iw_Q none G σ') ([.ref (G.2.1 84)] : List Value).toArray s 0 0 (iw_A G)) 2 G (iw_A G) m8 2 [(0, .ref (G.2.1 84)), (1, .int v7)] [] := by
    intro nn
    induction nn with
    | zero => intro v7 m8 h; exact absurd h (fun q => by cases q)
    | succ nn ih => intro v7 m8 h; exact vB2 (f_X6_saves_X29_2 n) (f_X6_saves_L2 n (f_X6_saves_X29_2 n) nn) vX2 ih v7 m8 h
  exact iv_sub [1, 0] rfl (vL2 n (1 : Int32) σ h)
theorem qd_X6_saves : yX6_saves.cls = RX6 ∧ yX6_saves.cls ≠ "java/lang/invoke/MethodHandle" ∧ yX6_saves.cls ≠ "java/lang/invoke/VarHandle" ∧ (parseMethodDescriptor yX6_saves.desc).map (fun d => d.parameters.length) = some 0 := by decide +kernel
def f_X6_isNode (p1 : Int32) (σ : iw_M) : Option (Int32) :=
(iw_rd σ 85 (0 : Int32)).bind fun v1 =>
some ((f_X6_in p1 (0 : Int32) (v1 - (1 : Int32))) &&& 1)
abbrev rm_X6_isNode : Room := { frames := 1, cells := 0, slots := 0, locals := 22 }
theorem lk_X6_isNode_7 : Cond.fieldLink RX6 7 RX6 (TX6 0).2.1 (TX6 0).2.2.1 ∈ wsX6_isNode := by decide +kernel
theorem in_X6_isNode_6 : ∀ w ∈ u_ws RX6 TX6 16, w ∈ wsX6_isNode := by decide +kernel
set_option maxHeartbeats 4000000 in
set_option maxRecDepth 100000 in
theorem k_X6_isNode (l : Launch) (G : iw_G) (hJ : iw_JM G) (p1 : Int32) (σ : iw_M) {r : Int32} (h : f_X6_isNode p1 σ = some r) : iw_Ct l yX6_isNode wsX6_isNode rm_X6_isNode G ([.ref (G.2.1 84), .int p1] : List Value) σ (some (.int r)) σ := by
  refine iv_start (nL := 2) (own := RX6) (ret := (some .boolean)) (cc := cX6_isNode) (by decide +kernel) rfl rfl hJ.1 (Nat.le_of_ble_eq_true rfl) ?_
  intro p e s m below meth c0 C hr hlk
  refine iv_sub (lv' := [(0, .ref (G.2.1 84)), (1, .int p1)]) [0, 1] rfl ?_
  unfold f_X6_isNode at h
  refine iv_iload_n (pc := 0) C 1 dX6_isNode_0 rfl rfl ?_
  refine iv_iconst (pc := 1) C (0 : Int32) dX6_isNode_1 (by decide) ?_
  refine iv_aload_n (pc := 2) C 0 dX6_isNode_2 rfl rfl ?_
  refine iv_getf (pc := 3) (T := TX6) (N := 16) (ci := 6) C 84 0 in_X6_isNode_6 (iw_im hJ (by decide)) iw_Eo84 rfl (by decide) lk_X6_isNode_7 rfl rfl dX6_isNode_3 ?_
  refine iv_iconst (pc := 6) C (0 : Int32) dX6_isNode_6 (by decide) ?_
  obtain ⟨v1, ev1, h⟩ := iw_be h
  refine iv_rd (pc := 7) C 85 (iw_lm hJ rfl (by decide)) ev1 dX6_isNode_7 ?_
  refine iv_iconst (pc := 8) C (1 : Int32) dX6_isNode_8 (by decide) ?_
  refine iv_isub (pc := 9) C dX6_isNode_9 ?_
  refine iv_callS (pc := 10) C [.int p1, .int (0 : Int32), .int (v1 - (1 : Int32))] (k_X6_in l G hJ p1 (0 : Int32) (v1 - (1 : Int32)) σ rfl) gX6_isNode_X6_in rfl qd_X6_in ⟨rfl, rfl, Nat.le_of_ble_eq_true rfl, Nat.le_of_ble_eq_true rfl⟩ rfl rfl (Nat.le_of_ble_eq_true rfl) dX6_isNode_10 ?_
  cases h
  exact iv_zret C hr hlk rfl rfl dX6_isNode_13
theorem qd_X6_isNode : yX6_isNode.cls = RX6 ∧ yX6_isNode.cls ≠ "java/lang/invoke/MethodHandle" ∧ yX6_isNode.cls ≠ "java/lang/invoke/VarHandle" ∧ (parseMethodDescriptor yX6_isNode.desc).map (fun d => d.parameters.length) = some 1 := by decide +kernel
def f_X6_isLink (p1 : Int32) (σ : iw_M) : Option (Int32) :=
(iw_rd σ 85 (1 : Int32)).bind fun v1 =>
some ((f_X6_in p1 (0 : Int32) (v1 - (1 : Int32))) &&& 1)
abbrev rm_X6_isLink : Room := { frames := 1, cells := 0, slots := 0, locals := 22 }
theorem lk_X6_isLink_7 : Cond.fieldLink RX6 7 RX6 (TX6 0).2.1 (TX6 0).2.2.1 ∈ wsX6_isLink := by decide +kernel
theorem in_X6_isLink_6 : ∀ w ∈ u_ws RX6 TX6 16, w ∈ wsX6_isLink := by decide +kernel
set_option maxHeartbeats 4000000 in
set_option maxRecDepth 100000 in
theorem k_X6_isLink (l : Launch) (G : iw_G) (hJ : iw_JM G) (p1 : Int32) (σ : iw_M) {r : Int32} (h : f_X6_isLink p1 σ = some r) : iw_Ct l yX6_isLink wsX6_isLink rm_X6_isLink G ([.ref (G.2.1 84), .int p1] : List Value) σ (some (.int r)) σ := by
  refine iv_start (nL := 2) (own := RX6) (ret := (some .boolean)) (cc := cX6_isLink) (by decide +kernel) rfl rfl hJ.1 (Nat.le_of_ble_eq_true rfl) ?_
  intro p e s m below meth c0 C hr hlk
  refine iv_sub (lv' := [(0, .ref (G.2.1 84)), (1, .int p1)]) [0, 1] rfl ?_
  unfold f_X6_isLink at h
  refine iv_iload_n (pc := 0) C 1 dX6_isLink_0 rfl rfl ?_
  refine iv_iconst (pc := 1) C (0 : Int32) dX6_isLink_1 (by decide) ?_
  refine iv_aload_n (pc := 2) C 0 dX6_isLink_2 rfl rfl ?_
  refine iv_getf (pc := 3) (T := TX6) (N := 16) (ci := 6) C 84 0 in_X6_isLink_6 (iw_im hJ (by decide)) iw_Eo84 rfl (by decide) lk_X6_isLink_7 rfl rfl dX6_isLink_3 ?_
  refine iv_iconst (pc := 6) C (1 : Int32) dX6_isLink_6 (by decide) ?_
  obtain ⟨v1, ev1, h⟩ := iw_be h
  refine iv_rd (pc := 7) C 85 (iw_lm hJ rfl (by decide)) ev1 dX6_isLink_7 ?_
  refine iv_iconst (pc := 8) C (1 : Int32) dX6_isLink_8 (by decide) ?_
  refine iv_isub (pc := 9) C dX6_isLink_9 ?_
  refine iv_callS (pc := 10) C [.int p1, .int (0 : Int32), .int (v1 - (1 : Int32))] (k_X6_in l G hJ p1 (0 : Int32) (v1 - (1 : Int32)) σ rfl) gX6_isLink_X6_in rfl qd_X6_in ⟨rfl, rfl, Nat.le_of_ble_eq_true rfl, Nat.le_of_ble_eq_true rfl⟩ rfl rfl (Nat.le_of_ble_eq_true rfl) dX6_isLink_10 ?_
  cases h
  exact iv_zret C hr hlk rfl rfl dX6_isLink_13
theorem qd_X6_isLink : yX6_isLink.cls = RX6 ∧ yX6_isLink.cls ≠ "java/lang/invoke/MethodHandle" ∧ yX6_isLink.cls ≠ "java/lang/invoke/VarHandle" ∧ (parseMethodDescriptor yX6_isLink.desc).map (fun d => d.parameters.length) = some 1 := by decide +kernel
def f_X6_isSensor (p1 : Int32) (σ : iw_M) : Option (Int32) :=
(iw_rd σ 85 (2 : Int32)).bind fun v1 =>
some ((f_X6_in p1 (0 : Int32) (v1 - (1 : Int32))) &&& 1)
abbrev rm_X6_isSensor : Room := { frames := 1, cells := 0, slots := 0, locals := 22 }
theorem lk_X6_isSensor_7 : Cond.fieldLink RX6 7 RX6 (TX6 0).2.1 (TX6 0).2.2.1 ∈ wsX6_isSensor := by decide +kernel
theorem in_X6_isSensor_6 : ∀ w ∈ u_ws RX6 TX6 16, w ∈ wsX6_isSensor := by decide +kernel
set_option maxHeartbeats 4000000 in
set_option maxRecDepth 100000 in
theorem k_X6_isSensor (l : Launch) (G : iw_G) (hJ : iw_JM G) (p1 : Int32) (σ : iw_M) {r : Int32} (h : f_X6_isSensor p1 σ = some r) : iw_Ct l yX6_isSensor wsX6_isSensor rm_X6_isSensor G ([.ref (G.2.1 84), .int p1] : List Value) σ (some (.int r)) σ := by
  refine iv_start (nL := 2) (own := RX6) (ret := (some .boolean)) (cc := cX6_isSensor) (by decide +kernel) rfl rfl hJ.1 (Nat.le_of_ble_eq_true rfl) ?_
  intro p e s m below meth c0 C hr hlk
  refine iv_sub (lv' := [(0, .ref (G.2.1 84)), (1, .int p1)]) [0, 1] rfl ?_
  unfold f_X6_isSensor at h
  refine iv_iload_n (pc := 0) C 1 dX6_isSensor_0 rfl rfl ?_
  refine iv_iconst (pc := 1) C (0 : Int32) dX6_isSensor_1 (by decide) ?_
  refine iv_aload_n (pc := 2) C 0 dX6_isSensor_2 rfl rfl ?_
  refine iv_getf (pc := 3) (T := TX6) (N := 16) (ci := 6) C 84 0 in_X6_isSensor_6 (iw_im hJ (by decide)) iw_Eo84 rfl (by decide) lk_X6_isSensor_7 rfl rfl dX6_isSensor_3 ?_
  refine iv_iconst (pc := 6) C (2 : Int32) dX6_isSensor_6 (by decide) ?_
  obtain ⟨v1, ev1, h⟩ := iw_be h
  refine iv_rd (pc := 7) C 85 (iw_lm hJ rfl (by decide)) ev1 dX6_isSensor_7 ?_
  refine iv_iconst (pc := 8) C (1 : Int32) dX6_isSensor_8 (by decide) ?_
  refine iv_isub (pc := 9) C dX6_isSensor_9 ?_
  refine iv_callS (pc := 10) C [.int p1, .int (0 : Int32), .int (v1 - (1 : Int32))] (k_X6_in l G hJ p1 (0 : Int32) (v1 - (1 : Int32)) σ rfl) gX6_isSensor_X6_in rfl qd_X6_in ⟨rfl, rfl, Nat.le_of_ble_eq_true rfl, Nat.le_of_ble_eq_true rfl⟩ rfl rfl (Nat.le_of_ble_eq_true rfl) dX6_isSensor_10 ?_
  cases h
  exact iv_zret C hr hlk rfl rfl dX6_isSensor_13
theorem qd_X6_isSensor : yX6_isSensor.cls = RX6 ∧ yX6_isSensor.cls ≠ "java/lang/invoke/MethodHandle" ∧ yX6_isSensor.cls ≠ "java/lang/invoke/VarHandle" ∧ (parseMethodDescriptor yX6_isSensor.desc).map (fun d => d.parameters.length) = some 1 := by decide +kernel
def f_X6_isInterest (p1 : Int32) (σ : iw_M) : Option (Int32) :=
(iw_rd σ 85 (3 : Int32)).bind fun v1 =>
some ((f_X6_in p1 (0 : Int32) (v1 - (1 : Int32))) &&& 1)
abbrev rm_X6_isInterest : Room := { frames := 1, cells := 0, slots := 0, locals := 22 }
theorem lk_X6_isInterest_7 : Cond.fieldLink RX6 7 RX6 (TX6 0).2.1 (TX6 0).2.2.1 ∈ wsX6_isInterest := by decide +kernel
theorem in_X6_isInterest_6 : ∀ w ∈ u_ws RX6 TX6 16, w ∈ wsX6_isInterest := by decide +kernel
set_option maxHeartbeats 4000000 in
set_option maxRecDepth 100000 in
theorem k_X6_isInterest (l : Launch) (G : iw_G) (hJ : iw_JM G) (p1 : Int32) (σ : iw_M) {r : Int32} (h : f_X6_isInterest p1 σ = some r) : iw_Ct l yX6_isInterest wsX6_isInterest rm_X6_isInterest G ([.ref (G.2.1 84), .int p1] : List Value) σ (some (.int r)) σ := by
  refine iv_start (nL := 2) (own := RX6) (ret := (some .boolean)) (cc := cX6_isInterest) (by decide +kernel) rfl rfl hJ.1 (Nat.le_of_ble_eq_true rfl) ?_
  intro p e s m below meth c0 C hr hlk
  refine iv_sub (lv' := [(0, .ref (G.2.1 84)), (1, .int p1)]) [0, 1] rfl ?_
  unfold f_X6_isInterest at h
  refine iv_iload_n (pc := 0) C 1 dX6_isInterest_0 rfl rfl ?_
  refine iv_iconst (pc := 1) C (0 : Int32) dX6_isInterest_1 (by decide) ?_
  refine iv_aload_n (pc := 2) C 0 dX6_isInterest_2 rfl rfl ?_
  refine iv_getf (pc := 3) (T := TX6) (N := 16) (ci := 6) C 84 0 in_X6_isInterest_6 (iw_im hJ (by decide)) iw_Eo84 rfl (by decide) lk_X6_isInterest_7 rfl rfl dX6_isInterest_3 ?_
  refine iv_iconst (pc := 6) C (3 : Int32) dX6_isInterest_6 (by decide) ?_
  obtain ⟨v1, ev1, h⟩ := iw_be h
  refine iv_rd (pc := 7) C 85 (iw_lm hJ rfl (by decide)) ev1 dX6_isInterest_7 ?_
  refine iv_iconst (pc := 8) C (1 : Int32) dX6_isInterest_8 (by decide) ?_
  refine iv_isub (pc := 9) C dX6_isInterest_9 ?_
  refine iv_callS (pc := 10) C [.int p1, .int (0 : Int32), .int (v1 - (1 : Int32))] (k_X6_in l G hJ p1 (0 : Int32) (v1 - (1 : Int32)) σ rfl) gX6_isInterest_X6_in rfl qd_X6_in ⟨rfl, rfl, Nat.le_of_ble_eq_true rfl, Nat.le_of_ble_eq_true rfl⟩ rfl rfl (Nat.le_of_ble_eq_true rfl) dX6_isInterest_10 ?_
  cases h
  exact iv_zret C hr hlk rfl rfl dX6_isInterest_13
theorem qd_X6_isInterest : yX6_isInterest.cls = RX6 ∧ yX6_isInterest.cls ≠ "java/lang/invoke/MethodHandle" ∧ yX6_isInterest.cls ≠ "java/lang/invoke/VarHandle" ∧ (parseMethodDescriptor yX6_isInterest.desc).map (fun d => d.parameters.length) = some 1 := by decide +kernel
def f_X6_ofLink (p1 : Int32) (p2 : Int32) (σ : iw_M) : Option (Int32) :=
(iw_rd σ 85 (((22 : Int32) + ((3 : Int32) * p1)) + p2)).bind fun v1 =>
some v1
abbrev rm_X6_ofLink : Room := { frames := 0, cells := 0, slots := 0, locals := 0 }
theorem lk_X6_ofLink_7 : Cond.fieldLink RX6 7 RX6 (TX6 0).2.1 (TX6 0).2.2.1 ∈ wsX6_ofLink := by decide +kernel
theorem in_X6_ofLink_6 : ∀ w ∈ u_ws RX6 TX6 16, w ∈ wsX6_ofLink := by decide +kernel
set_option maxHeartbeats 4000000 in
set_option maxRecDepth 100000 in
theorem k_X6_ofLink (l : Launch) (G : iw_G) (hJ : iw_JM G) (p1 : Int32) (p2 : Int32) (σ : iw_M) {r : Int32} (h : f_X6_ofLink p1 p2 σ = some r) : iw_Ct l yX6_ofLink wsX6_ofLink rm_X6_ofLink G ([.ref (G.2.1 84), .int p1, .int p2] : List Value) σ (some (.int r)) σ := by
  refine iv_start (nL := 3) (own := RX6) (ret := (some .int)) (cc := cX6_ofLink) (by decide +kernel) rfl rfl hJ.1 (Nat.le_of_ble_eq_true rfl) ?_
  intro p e s m below meth c0 C hr hlk
  refine iv_sub (lv' := [(0, .ref (G.2.1 84)), (1, .int p1), (2, .int p2)]) [0, 1, 2] rfl ?_
  unfold f_X6_ofLink at h
  refine iv_aload_n (pc := 0) C 0 dX6_ofLink_0 rfl rfl ?_
  refine iv_getf (pc := 1) (T := TX6) (N := 16) (ci := 6) C 84 0 in_X6_ofLink_6 (iw_im hJ (by decide)) iw_Eo84 rfl (by decide) lk_X6_ofLink_7 rfl rfl dX6_ofLink_1 ?_
  refine iv_bipush (pc := 4) C (22 : Int32) dX6_ofLink_4 (by decide) ?_
  refine iv_iconst (pc := 6) C (3 : Int32) dX6_ofLink_6 (by decide) ?_
  refine iv_iload_n (pc := 7) C 1 dX6_ofLink_7 rfl rfl ?_
  refine iv_imul (pc := 8) C dX6_ofLink_8 ?_
  refine iv_iadd (pc := 9) C dX6_ofLink_9 ?_
  refine iv_iload_n (pc := 10) C 2 dX6_ofLink_10 rfl rfl ?_
  refine iv_iadd (pc := 11) C dX6_ofLink_11 ?_
  obtain ⟨v1, ev1, h⟩ := iw_be h
  refine iv_rd (pc := 12) C 85 (iw_lm hJ rfl (by decide)) ev1 dX6_ofLink_12 ?_
  cases h
  exact iv_iret C hr hlk rfl rfl dX6_ofLink_13
theorem qd_X6_ofLink : yX6_ofLink.cls = RX6 ∧ yX6_ofLink.cls ≠ "java/lang/invoke/MethodHandle" ∧ yX6_ofLink.cls ≠ "java/lang/invoke/VarHandle" ∧ (parseMethodDescriptor yX6_ofLink.desc).map (fun d => d.parameters.length) = some 2 := by decide +kernel
def f_X6_ofSensor (p1 : Int32) (p2 : Int32) (σ : iw_M) : Option (Int32) :=
(iw_rd σ 85 (((82 : Int32) + ((3 : Int32) * p1)) + p2)).bind fun v1 =>
some v1
abbrev rm_X6_ofSensor : Room := { frames := 0, cells := 0, slots := 0, locals := 0 }
theorem lk_X6_ofSensor_7 : Cond.fieldLink RX6 7 RX6 (TX6 0).2.1 (TX6 0).2.2.1 ∈ wsX6_ofSensor := by decide +kernel
theorem in_X6_ofSensor_6 : ∀ w ∈ u_ws RX6 TX6 16, w ∈ wsX6_ofSensor := by decide +kernel
set_option maxHeartbeats 4000000 in
set_option maxRecDepth 100000 in
theorem k_X6_ofSensor (l : Launch) (G : iw_G) (hJ : iw_JM G) (p1 : Int32) (p2 : Int32) (σ : iw_M) {r : Int32} (h : f_X6_ofSensor p1 p2 σ = some r) : iw_Ct l yX6_ofSensor wsX6_ofSensor rm_X6_ofSensor G ([.ref (G.2.1 84), .int p1, .int p2] : List Value) σ (some (.int r)) σ := by
  refine iv_start (nL := 3) (own := RX6) (ret := (some .int)) (cc := cX6_ofSensor) (by decide +kernel) rfl rfl hJ.1 (Nat.le_of_ble_eq_true rfl) ?_
  intro p e s m below meth c0 C hr hlk
  refine iv_sub (lv' := [(0, .ref (G.2.1 84)), (1, .int p1), (2, .int p2)]) [0, 1, 2] rfl ?_
  unfold f_X6_ofSensor at h
  refine iv_aload_n (pc := 0) C 0 dX6_ofSensor_0 rfl rfl ?_
  refine iv_getf (pc := 1) (T := TX6) (N := 16) (ci := 6) C 84 0 in_X6_ofSensor_6 (iw_im hJ (by decide)) iw_Eo84 rfl (by decide) lk_X6_ofSensor_7 rfl rfl dX6_ofSensor_1 ?_
  refine iv_bipush (pc := 4) C (82 : Int32) dX6_ofSensor_4 (by decide) ?_
  refine iv_iconst (pc := 6) C (3 : Int32) dX6_ofSensor_6 (by decide) ?_
  refine iv_iload_n (pc := 7) C 1 dX6_ofSensor_7 rfl rfl ?_
  refine iv_imul (pc := 8) C dX6_ofSensor_8 ?_
  refine iv_iadd (pc := 9) C dX6_ofSensor_9 ?_
  refine iv_iload_n (pc := 10) C 2 dX6_ofSensor_10 rfl rfl ?_
  refine iv_iadd (pc := 11) C dX6_ofSensor_11 ?_
  obtain ⟨v1, ev1, h⟩ := iw_be h
  refine iv_rd (pc := 12) C 85 (iw_lm hJ rfl (by decide)) ev1 dX6_ofSensor_12 ?_
  cases h
  exact iv_iret C hr hlk rfl rfl dX6_ofSensor_13
theorem qd_X6_ofSensor : yX6_ofSensor.cls = RX6 ∧ yX6_ofSensor.cls ≠ "java/lang/invoke/MethodHandle" ∧ yX6_ofSensor.cls ≠ "java/lang/invoke/VarHandle" ∧ (parseMethodDescriptor yX6_ofSensor.desc).map (fun d => d.parameters.length) = some 2 := by decide +kernel
def f_X6_ofInterest (p1 : Int32) (p2 : Int32) (σ : iw_M) : Option (Int32) :=
(iw_rd σ 85 (((100 : Int32) + ((7 : Int32) * p1)) + p2)).bind fun v1 =>
some v1
abbrev rm_X6_ofInterest : Room := { frames := 0, cells := 0, slots := 0, locals := 0 }
theorem lk_X6_ofInterest_7 : Cond.fieldLink RX6 7 RX6 (TX6 0).2.1 (TX6 0).2.2.1 ∈ wsX6_ofInterest := by decide +kernel
theorem in_X6_ofInterest_6 : ∀ w ∈ u_ws RX6 TX6 16, w ∈ wsX6_ofInterest := by decide +kernel
set_option maxHeartbeats 4000000 in
set_option maxRecDepth 100000 in
theorem k_X6_ofInterest (l : Launch) (G : iw_G) (hJ : iw_JM G) (p1 : Int32) (p2 : Int32) (σ : iw_M) {r : Int32} (h : f_X6_ofInterest p1 p2 σ = some r) : iw_Ct l yX6_ofInterest wsX6_ofInterest rm_X6_ofInterest G ([.ref (G.2.1 84), .int p1, .int p2] : List Value) σ (some (.int r)) σ := by
  refine iv_start (nL := 3) (own := RX6) (ret := (some .int)) (cc := cX6_ofInterest) (by decide +kernel) rfl rfl hJ.1 (Nat.le_of_ble_eq_true rfl) ?_
  intro p e s m below meth c0 C hr hlk
  refine iv_sub (lv' := [(0, .ref (G.2.1 84)), (1, .int p1), (2, .int p2)]) [0, 1, 2] rfl ?_
  unfold f_X6_ofInterest at h
  refine iv_aload_n (pc := 0) C 0 dX6_ofInterest_0 rfl rfl ?_
  refine iv_getf (pc := 1) (T := TX6) (N := 16) (ci := 6) C 84 0 in_X6_ofInterest_6 (iw_im hJ (by decide)) iw_Eo84 rfl (by decide) lk_X6_ofInterest_7 rfl rfl dX6_ofInterest_1 ?_
  refine iv_bipush (pc := 4) C (100 : Int32) dX6_ofInterest_4 (by decide) ?_
  refine iv_bipush (pc := 6) C (7 : Int32) dX6_ofInterest_6 (by decide) ?_
  refine iv_iload_n (pc := 8) C 1 dX6_ofInterest_8 rfl rfl ?_
  refine iv_imul (pc := 9) C dX6_ofInterest_9 ?_
  refine iv_iadd (pc := 10) C dX6_ofInterest_10 ?_
  refine iv_iload_n (pc := 11) C 2 dX6_ofInterest_11 rfl rfl ?_
  refine iv_iadd (pc := 12) C dX6_ofInterest_12 ?_
  obtain ⟨v1, ev1, h⟩ := iw_be h
  refine iv_rd (pc := 13) C 85 (iw_lm hJ rfl (by decide)) ev1 dX6_ofInterest_13 ?_
  cases h
  exact iv_iret C hr hlk rfl rfl dX6_ofInterest_14
theorem qd_X6_ofInterest : yX6_ofInterest.cls = RX6 ∧ yX6_ofInterest.cls ≠ "java/lang/invoke/MethodHandle" ∧ yX6_ofInterest.cls ≠ "java/lang/invoke/VarHandle" ∧ (parseMethodDescriptor yX6_ofInterest.desc).map (fun d => d.parameters.length) = some 2 := by decide +kernel
def f_X6_isAlive (p1 : Int32) (σ : iw_M) : Option (Int32) :=
(iw_rd σ 85 ((12 : Int32) + p1)).bind fun v1 =>
if v1 ≤ (0 : Int32) then
(some (0 : Int32))
else
(some (1 : Int32))
abbrev rm_X6_isAlive : Room := { frames := 0, cells := 0, slots := 0, locals := 0 }
theorem lk_X6_isAlive_7 : Cond.fieldLink RX6 7 RX6 (TX6 0).2.1 (TX6 0).2.2.1 ∈ wsX6_isAlive := by decide +kernel
theorem in_X6_isAlive_6 : ∀ w ∈ u_ws RX6 TX6 16, w ∈ wsX6_isAlive := by decide +kernel
set_option maxHeartbeats 4000000 in
set_option maxRecDepth 100000 in
theorem k_X6_isAlive (l : Launch) (G : iw_G) (hJ : iw_JM G) (p1 : Int32) (σ : iw_M) {r : Int32} (h : f_X6_isAlive p1 σ = some r) : iw_Ct l yX6_isAlive wsX6_isAlive rm_X6_isAlive G ([.ref (G.2.1 84), .int p1] : List Value) σ (some (.int r)) σ := by
  refine iv_start (nL := 2) (own := RX6) (ret := (some .boolean)) (cc := cX6_isAlive) (by decide +kernel) rfl rfl hJ.1 (Nat.le_of_ble_eq_true rfl) ?_
  intro p e s m below meth c0 C hr hlk
  refine iv_sub (lv' := [(0, .ref (G.2.1 84)), (1, .int p1)]) [0, 1] rfl ?_
  unfold f_X6_isAlive at h
  refine iv_aload_n (pc := 0) C 0 dX6_isAlive_0 rfl rfl ?_
  refine iv_getf (pc := 1) (T := TX6) (N := 16) (ci := 6) C 84 0 in_X6_isAlive_6 (iw_im hJ (by decide)) iw_Eo84 rfl (by decide) lk_X6_isAlive_7 rfl rfl dX6_isAlive_1 ?_
  refine iv_bipush (pc := 4) C (12 : Int32) dX6_isAlive_4 (by decide) ?_
  refine iv_iload_n (pc := 6) C 1 dX6_isAlive_6 rfl rfl ?_
  refine iv_iadd (pc := 7) C dX6_isAlive_7 ?_
  obtain ⟨v1, ev1, h⟩ := iw_be h
  refine iv_rd (pc := 8) C 85 (iw_lm hJ rfl (by decide)) ev1 dX6_isAlive_8 ?_
  refine iv_if_le (pc := 9) C 16 dX6_isAlive_9 (by decide) (fun h2 => ?_) (fun h2 => ?_)
  · replace h := iw_ift h2 h
    refine iv_iconst (pc := 16) C (0 : Int32) dX6_isAlive_16 (by decide) ?_
    cases h
    exact iv_zret C hr hlk rfl rfl dX6_isAlive_17
  · replace h := iw_iff h2 h
    refine iv_iconst (pc := 12) C (1 : Int32) dX6_isAlive_12 (by decide) ?_
    refine iv_goto (pc := 13) C 17 dX6_isAlive_13 (by decide) ?_
    cases h
    exact iv_zret C hr hlk rfl rfl dX6_isAlive_17
theorem qd_X6_isAlive : yX6_isAlive.cls = RX6 ∧ yX6_isAlive.cls ≠ "java/lang/invoke/MethodHandle" ∧ yX6_isAlive.cls ≠ "java/lang/invoke/VarHandle" ∧ (parseMethodDescriptor yX6_isAlive.desc).map (fun d => d.parameters.length) = some 1 := by decide +kernel
def f_X6_linkOf_X73_7 (v1 : Int32) : Option (Int32) :=
some v1
def f_X6_linkOf_J66 (r7 : Int32 → Int32 → Option (Int32)) (v3 : Int32) (v8 : Int32) : Option (Int32) :=
iw_let (v3 + (1 : Int32)) fun v9 =>
r7 v8 v9
def f_X6_linkOf_J60 (r7 : Int32 → Int32 → Option (Int32)) (v3 : Int32) : Option (Int32) :=
f_X6_linkOf_J66 r7 v3 v3
def f_X6_linkOf_J65 (r7 : Int32 → Int32 → Option (Int32)) (v2 : Int32) (v3 : Int32) : Option (Int32) :=
f_X6_linkOf_J66 r7 v3 v2
def f_X6_linkOf_J48 (p1 : Int32) (p2 : Int32) (r7 : Int32 → Int32 → Option (Int32)) (v2 : Int32) (v3 : Int32) (v6 : Int32) (v7 : Int32) : Option (Int32) :=
if v6 = p2 then
(if v7 = p1 then
(f_X6_linkOf_J60 r7 v3)
else
(f_X6_linkOf_J65 r7 v2 v3))
else
(f_X6_linkOf_J65 r7 v2 v3)
def f_X6_linkOf_B7 (p1 : Int32) (p2 : Int32) (σ : iw_M) (k7 : Int32 → Option (Int32)) (r7 : Int32 → Int32 → Option (Int32)) (v2 : Int32) (v3 : Int32) : Option (Int32) :=
(iw_rd σ 85 (1 : Int32)).bind fun v4 =>
if v4 ≤ v3 then
(k7 v2)
else
((f_X6_ofLink v3 (0 : Int32) σ).bind fun v6 =>
(f_X6_ofLink v3 (1 : Int32) σ).bind fun v7 =>
if v6 = p1 then
(if v7 = p2 then
(f_X6_linkOf_J60 r7 v3)
else
(f_X6_linkOf_J48 p1 p2 r7 v2 v3 v6 v7))
else
(f_X6_linkOf_J48 p1 p2 r7 v2 v3 v6 v7))
def f_X6_linkOf_L7 (p1 : Int32) (p2 : Int32) (σ : iw_M) (k7 : Int32 → Option (Int32)) (nn : Nat) : Int32 → Int32 → Option (Int32) :=
iw_it (fun r7 => f_X6_linkOf_B7 p1 p2 σ k7 r7) (fun _ _ => none) nn
def f_X6_linkOf (n : Nat) (p1 : Int32) (p2 : Int32) (σ : iw_M) : Option (Int32) :=
f_X6_linkOf_L7 p1 p2 σ (f_X6_linkOf_X73_7) n (-1000 : Int32) (0 : Int32)
abbrev rm_X6_linkOf : Room := { frames := 1, cells := 0, slots := 0, locals := 22 }
theorem lk_X6_linkOf_7 : Cond.fieldLink RX6 7 RX6 (TX6 0).2.1 (TX6 0).2.2.1 ∈ wsX6_linkOf := by decide +kernel
theorem in_X6_linkOf_6 : ∀ w ∈ u_ws RX6 TX6 16, w ∈ wsX6_linkOf := by decide +kernel
set_option maxHeartbeats 4000000 in
set_option maxRecDepth 100000 in
theorem k_X6_linkOf (l : Launch) (G : iw_G) (hJ : iw_JM G) (n : Nat) (p1 : Int32) (p2 : Int32) (σ : iw_M) {r : Int32} (h : f_X6_linkOf n p1 p2 σ = some r) : iw_Ct l yX6_linkOf wsX6_linkOf rm_X6_linkOf G ([.ref (G.2.1 84), .int p1, .int p2] : List Value) σ (some (.int r)) σ := by
  refine iv_start (nL := 7) (own := RX6) (ret := (some .int)) (cc := cX6_linkOf) (by decide +kernel) rfl rfl hJ.1 (Nat.le_of_ble_eq_true rfl) ?_
  intro p e s m below meth c0 C hr hlk
  refine iv_sub (lv' := [(0, .ref (G.2.1 84)), (1, .int p1), (2, .int p2)]) [0, 1, 2] rfl ?_
  unfold f_X6_linkOf at h
  refine iv_sipush (pc := 0) C (-1000 : Int32) dX6_linkOf_0 (by decide) ?_
  refine iv_istore_n (pc := 3) C [(3, .int (-1000 : Int32)), (0, .ref (G.2.1 84)), (1, .int p1), (2, .int p2)] dX6_linkOf_3 rfl (by decide) rfl ?_
  refine iv_iconst (pc := 4) C (0 : Int32) dX6_linkOf_4 (by decide) ?_
  refine iv_istore (pc := 5) C [(4, .int (0 : Int32)), (3, .int (-1000 : Int32)), (0, .ref (G.2.1 84)), (1, .int p1), (2, .int p2)] dX6_linkOf_5 (by decide) rfl ?_
  have vX7 : ∀ (v1 : Int32), f_X6_linkOf_X73_7 v1 = some r → iw_V p l e rm_X6_linkOf s m ([.ref (G.2.1 84), .int p1, .int p2] : List Value).toArray below meth c0 0 0 (MQ below (iw_Q (some (.int r)) G σ) ([.ref (G.2.1 84), .int p1, .int p2] : List Value).toArray s 0 0 (iw_A G)) 7 G (iw_A G) σ 73 [(3, .int v1)] [] := by
    intro v1 h
    unfold f_X6_linkOf_X73_7 at h
    refine iv_iload_n (pc := 73) C 0 dX6_linkOf_73 rfl rfl ?_
    cases h
    exact iv_iret C hr hlk rfl rfl dX6_linkOf_74
  have vB7 : ∀ (k7 : Int32 → Option (Int32)) (r7 : Int32 → Int32 → Option (Int32)), (∀ (v1 : Int32), k7 v1 = some r → iw_V p l e rm_X6_linkOf s m ([.ref (G.2.1 84), .int p1, .int p2] : List Value).toArray below meth c0 0 0 (MQ below (iw_Q (some (.int r)) G σ) ([.ref (G.2.1 84), .int p1, .int p2] : List Value).toArray s 0 0 (iw_A G)) 7 G (iw_A G) σ 73 [(3, .int v1)] []) → (∀ (v2 : Int32) (v3 : Int32), r7 v2 v3 = some r → iw_V p l e rm_X6_linkOf s m ([.ref (G.2.1 84), .int p1, .int p2] : List Value).toArray below meth c0 0 0 (MQ below (iw_Q (some (.int r)) G σ) ([.ref (G.2.1 84), .int p1, .int p2] : List Value).toArray s 0 0 (iw_A G)) 7 G (iw_A G) σ 7 [(0, .ref (G.2.1 84)), (1, .int p1), (2, .int p2), (3, .int v2), (4, .int v3)] []) → ∀ (v2 : Int32) (v3 : Int32), f_X6_linkOf_B7 p1 p2 σ k7 r7 v2 v3 = some r → iw_V p l e rm_X6_linkOf s m ([.ref (G.2.1 84), .int p1, .int p2] : List Value).toArray below meth c0 0 0 (MQ below (iw_Q (some (.int r)) G σ) ([.ref (G.2.1 84), .int p1, .int p2] : List Value).toArray s 0 0 (iw_A G)) 7 G (iw_A G) σ 7 [(0, .ref (G.2.1 84)), (1, .int p1), (2, .int p2), (3, .int v2), (4, .int v3)] [] := by
    intro k7 r7 hk7 hr7 v2 v3 h
    unfold f_X6_linkOf_B7 at h
    refine iv_iload (pc := 7) C 4 dX6_linkOf_7 rfl ?_
    refine iv_aload_n (pc := 9) C 0 dX6_linkOf_9 rfl rfl ?_
    refine iv_getf (pc := 10) (T := TX6) (N := 16) (ci := 6) C 84 0 in_X6_linkOf_6 (iw_im hJ (by decide)) iw_Eo84 rfl (by decide) lk_X6_linkOf_7 rfl rfl dX6_linkOf_10 ?_
    refine iv_iconst (pc := 13) C (1 : Int32) dX6_linkOf_13 (by decide) ?_
    obtain ⟨v4, ev4, h⟩ := iw_be h
    refine iv_rd (pc := 14) C 85 (iw_lm hJ rfl (by decide)) ev4 dX6_linkOf_14 ?_
    refine iv_icmp_ge (pc := 15) C 73 dX6_linkOf_15 (by decide) (fun h5 => ?_) (fun h5 => ?_)
    · replace h := iw_ift h5 h
      exact iv_sub [3] rfl (hk7 v2 h)
    · replace h := iw_iff h5 h
      refine iv_aload_n (pc := 18) C 0 dX6_linkOf_18 rfl rfl ?_
      refine iv_iload (pc := 19) C 4 dX6_linkOf_19 rfl ?_
      refine iv_iconst (pc := 21) C (0 : Int32) dX6_linkOf_21 (by decide) ?_
      obtain ⟨v6, ev6, h⟩ := iw_be h
      refine iv_callV (pc := 22) (b := 84) (ci := 6) C [.int v3, .int (0 : Int32)] (k_X6_ofLink l G hJ v3 (0 : Int32) σ ev6) gX6_linkOf_X6_ofLink rfl qd_X6_ofLink ⟨rfl, rfl, Nat.le_of_ble_eq_true rfl, Nat.le_of_ble_eq_true rfl⟩ (iw_im hJ (by decide)) iw_Eo84 rfl rfl rfl (Nat.le_of_ble_eq_true rfl) dX6_linkOf_22 ?_
      refine iv_istore (pc := 25) C [(5, .int v6), (0, .ref (G.2.1 84)), (1, .int p1), (2, .int p2), (3, .int v2), (4, .int v3)] dX6_linkOf_25 (by decide) rfl ?_
      refine iv_aload_n (pc := 27) C 1 dX6_linkOf_27 rfl rfl ?_
      refine iv_iload (pc := 28) C 5 dX6_linkOf_28 rfl ?_
      refine iv_iconst (pc := 30) C (1 : Int32) dX6_linkOf_30 (by decide) ?_
      obtain ⟨v7, ev7, h⟩ := iw_be h
      refine iv_callV (pc := 31) (b := 84) (ci := 6) C [.int v3, .int (1 : Int32)] (k_X6_ofLink l G hJ v3 (1 : Int32) σ ev7) gX6_linkOf_X6_ofLink rfl qd_X6_ofLink ⟨rfl, rfl, Nat.le_of_ble_eq_true rfl, Nat.le_of_ble_eq_true rfl⟩ (iw_im hJ (by decide)) iw_Eo84 rfl rfl rfl (Nat.le_of_ble_eq_true rfl) dX6_linkOf_31 ?_
      refine iv_istore (pc := 34) C [(6, .int v7), (5, .int v6), (0, .ref (G.2.1 84)), (1, .int p1), (2, .int p2), (3, .int v2), (4, .int v3)] dX6_linkOf_34 (by decide) rfl ?_
      refine iv_iload (pc := 36) C 1 dX6_linkOf_36 rfl ?_
      refine iv_iload_n (pc := 38) C 3 dX6_linkOf_38 rfl rfl ?_
      have vJ66 : ∀ (v8 : Int32), f_X6_linkOf_J66 r7 v3 v8 = some r → iw_V p l e rm_X6_linkOf s m ([.ref (G.2.1 84), .int p1, .int p2] : List Value).toArray below meth c0 0 0 (MQ below (iw_Q (some (.int r)) G σ) ([.ref (G.2.1 84), .int p1, .int p2] : List Value).toArray s 0 0 (iw_A G)) 7 G (iw_A G) σ 66 [(0, .ref (G.2.1 84)), (1, .int p1), (2, .int p2), (4, .int v3)] [.int v8] := by
        intro v8 h
        unfold f_X6_linkOf_J66 at h
        refine iv_istore_n (pc := 66) C [(3, .int v8), (0, .ref (G.2.1 84)), (1, .int p1), (2, .int p2), (4, .int v3)] dX6_linkOf_66 rfl (by decide) rfl ?_
        obtain ⟨v9, ev9⟩ : ∃ y : Int32, y = v3 + (1 : Int32) := ⟨_, rfl⟩
        replace h := iw_lete ev9 h
        refine iv_iinc (pc := 67) C 4 v9 [(4, .int v9), (3, .int v8), (0, .ref (G.2.1 84)), (1, .int p1), (2, .int p2)] dX6_linkOf_67 rfl (by rw [ev9]; rfl) (by decide) rfl ?_
        refine iv_goto (pc := 70) C 7 dX6_linkOf_70 (by decide) ?_
        exact iv_sub [2, 3, 4, 1, 0] rfl (hr7 v8 v9 h)
      have vJ60 : f_X6_linkOf_J60 r7 v3  = some r → iw_V p l e rm_X6_linkOf s m ([.ref (G.2.1 84), .int p1, .int p2] : List Value).toArray below meth c0 0 0 (MQ below (iw_Q (some (.int r)) G σ) ([.ref (G.2.1 84), .int p1, .int p2] : List Value).toArray s 0 0 (iw_A G)) 7 G (iw_A G) σ 60 [(0, .ref (G.2.1 84)), (1, .int p1), (2, .int p2), (4, .int v3)] [] := by
        intro h
        unfold f_X6_linkOf_J60 at h
        refine iv_iload (pc := 60) C 3 dX6_linkOf_60 rfl ?_
        refine iv_goto (pc := 62) C 66 dX6_linkOf_62 (by decide) ?_
        exact iv_sub [0, 1, 2, 3] rfl (vJ66 v3 h)
      have vJ48 : f_X6_linkOf_J48 p1 p2 r7 v2 v3 v6 v7  = some r → iw_V p l e rm_X6_linkOf s m ([.ref (G.2.1 84), .int p1, .int p2] : List Value).toArray below meth c0 0 0 (MQ below (iw_Q (some (.int r)) G σ) ([.ref (G.2.1 84), .int p1, .int p2] : List Value).toArray s 0 0 (iw_A G)) 7 G (iw_A G) σ 48 [(0, .ref (G.2.1 84)), (1, .int p1), (2, .int p2), (3, .int v2), (4, .int v3), (5, .int v6), (6, .int v7)] [] := by
        intro h
        unfold f_X6_linkOf_J48 at h
        refine iv_iload (pc := 48) C 5 dX6_linkOf_48 rfl ?_
        refine iv_iload_n (pc := 50) C 2 dX6_linkOf_50 rfl rfl ?_
        have vJ65 : f_X6_linkOf_J65 r7 v2 v3  = some r → iw_V p l e rm_X6_linkOf s m ([.ref (G.2.1 84), .int p1, .int p2] : List Value).toArray below meth c0 0 0 (MQ below (iw_Q (some (.int r)) G σ) ([.ref (G.2.1 84), .int p1, .int p2] : List Value).toArray s 0 0 (iw_A G)) 7 G (iw_A G) σ 65 [(0, .ref (G.2.1 84)), (1, .int p1), (2, .int p2), (3, .int v2), (4, .int v3)] [] := by
          intro h
          unfold f_X6_linkOf_J65 at h
          refine iv_iload_n (pc := 65) C 3 dX6_linkOf_65 rfl rfl ?_
          exact iv_sub [0, 1, 2, 4] rfl (vJ66 v2 h)
        refine iv_icmp_ne (pc := 51) C 65 dX6_linkOf_51 (by decide) (fun h10 => ?_) (fun h10 => ?_)
        · replace h := iw_iff h10 h
          exact iv_sub [0, 1, 2, 3, 4] rfl (vJ65 h)
        · replace h := iw_ift h10 h
          refine iv_iload (pc := 54) C 6 dX6_linkOf_54 rfl ?_
          refine iv_iload_n (pc := 56) C 1 dX6_linkOf_56 rfl rfl ?_
          refine iv_icmp_ne (pc := 57) C 65 dX6_linkOf_57 (by decide) (fun h11 => ?_) (fun h11 => ?_)
          · replace h := iw_iff h11 h
            exact iv_sub [0, 1, 2, 3, 4] rfl (vJ65 h)
          · replace h := iw_ift h11 h
            exact iv_sub [0, 1, 2, 4] rfl (vJ60 h)
      refine iv_icmp_ne (pc := 39) C 48 dX6_linkOf_39 (by decide) (fun h12 => ?_) (fun h12 => ?_)
      · replace h := iw_iff h12 h
        exact iv_sub [2, 3, 4, 5, 6, 1, 0] rfl (vJ48 h)
      · replace h := iw_ift h12 h
        refine iv_iload (pc := 42) C 0 dX6_linkOf_42 rfl ?_
        refine iv_iload_n (pc := 44) C 4 dX6_linkOf_44 rfl rfl ?_
        refine iv_icmp_eq (pc := 45) C 60 dX6_linkOf_45 (by decide) (fun h13 => ?_) (fun h13 => ?_)
        · replace h := iw_ift h13 h
          exact iv_sub [2, 3, 4, 6] rfl (vJ60 h)
        · replace h := iw_iff h13 h
          exact iv_sub [2, 3, 4, 5, 6, 1, 0] rfl (vJ48 h)
  have vL7 : ∀ (nn : Nat) (v2 : Int32) (v3 : Int32), f_X6_linkOf_L7 p1 p2 σ (f_X6_linkOf_X73_7) nn v2 v3 = some r → iw_V p l e rm_X6_linkOf s m ([.ref (G.2.1 84), .int p1, .int p2] : List Value).toArray below meth c0 0 0 (MQ below (iw_Q (some (.int r)) G σ) ([.ref (G.2.1 84), .int p1, .int p2] : List Value).toArray s 0 0 (iw_A G)) 7 G (iw_A G) σ 7 [(0, .ref (G.2.1 84)), (1, .int p1), (2, .int p2), (3, .int v2), (4, .int v3)] [] := by
    intro nn
    induction nn with
    | zero => intro v2 v3 h; exact absurd h (fun q => by cases q)
    | succ nn ih => intro v2 v3 h; exact vB7 (f_X6_linkOf_X73_7) (f_X6_linkOf_L7 p1 p2 σ (f_X6_linkOf_X73_7) nn) vX7 ih v2 v3 h
  exact iv_sub [2, 3, 4, 1, 0] rfl (vL7 n (-1000 : Int32) (0 : Int32) h)
theorem qd_X6_linkOf : yX6_linkOf.cls = RX6 ∧ yX6_linkOf.cls ≠ "java/lang/invoke/MethodHandle" ∧ yX6_linkOf.cls ≠ "java/lang/invoke/VarHandle" ∧ (parseMethodDescriptor yX6_linkOf.desc).map (fun d => d.parameters.length) = some 2 := by decide +kernel
def f_X6_wayAt (p1 : Int32) (p2 : Int32) : Int32 :=
((135 : Int32) + ((11 : Int32) * (((6 : Int32) * p1) + p2)))
abbrev rm_X6_wayAt : Room := { frames := 0, cells := 0, slots := 0, locals := 0 }
set_option maxHeartbeats 4000000 in
set_option maxRecDepth 100000 in
theorem k_X6_wayAt (l : Launch) (G : iw_G) (hJ : iw_JM G) (p1 : Int32) (p2 : Int32) (σ : iw_M) {r : Int32} (h : f_X6_wayAt p1 p2 = r) : iw_Ct l yX6_wayAt wsX6_wayAt rm_X6_wayAt G ([.ref (G.2.1 84), .int p1, .int p2] : List Value) σ (some (.int r)) σ := by
  refine iv_start (nL := 3) (own := RX6) (ret := (some .int)) (cc := cX6_wayAt) (by decide +kernel) rfl rfl hJ.1 (Nat.le_of_ble_eq_true rfl) ?_
  intro p e s m below meth c0 C hr hlk
  refine iv_sub (lv' := [(0, .ref (G.2.1 84)), (1, .int p1), (2, .int p2)]) [0, 1, 2] rfl ?_
  unfold f_X6_wayAt at h
  refine iv_sipush (pc := 0) C (135 : Int32) dX6_wayAt_0 (by decide) ?_
  refine iv_bipush (pc := 3) C (11 : Int32) dX6_wayAt_3 (by decide) ?_
  refine iv_bipush (pc := 5) C (6 : Int32) dX6_wayAt_5 (by decide) ?_
  refine iv_iload_n (pc := 7) C 1 dX6_wayAt_7 rfl rfl ?_
  refine iv_imul (pc := 8) C dX6_wayAt_8 ?_
  refine iv_iload_n (pc := 9) C 2 dX6_wayAt_9 rfl rfl ?_
  refine iv_iadd (pc := 10) C dX6_wayAt_10 ?_
  refine iv_imul (pc := 11) C dX6_wayAt_11 ?_
  refine iv_iadd (pc := 12) C dX6_wayAt_12 ?_
  cases h
  exact iv_iret C hr hlk rfl rfl dX6_wayAt_13
theorem qd_X6_wayAt : yX6_wayAt.cls = RX6 ∧ yX6_wayAt.cls ≠ "java/lang/invoke/MethodHandle" ∧ yX6_wayAt.cls ≠ "java/lang/invoke/VarHandle" ∧ (parseMethodDescriptor yX6_wayAt.desc).map (fun d => d.parameters.length) = some 2 := by decide +kernel
def f_X6_lengthOf (p1 : Int32) (p2 : Int32) (σ : iw_M) : Option (Int32) :=
(iw_rd σ 85 (f_X6_wayAt p1 p2)).bind fun v1 =>
some v1
abbrev rm_X6_lengthOf : Room := { frames := 1, cells := 0, slots := 0, locals := 22 }
theorem lk_X6_lengthOf_7 : Cond.fieldLink RX6 7 RX6 (TX6 0).2.1 (TX6 0).2.2.1 ∈ wsX6_lengthOf := by decide +kernel
theorem in_X6_lengthOf_6 : ∀ w ∈ u_ws RX6 TX6 16, w ∈ wsX6_lengthOf := by decide +kernel
set_option maxHeartbeats 4000000 in
set_option maxRecDepth 100000 in
theorem k_X6_lengthOf (l : Launch) (G : iw_G) (hJ : iw_JM G) (p1 : Int32) (p2 : Int32) (σ : iw_M) {r : Int32} (h : f_X6_lengthOf p1 p2 σ = some r) : iw_Ct l yX6_lengthOf wsX6_lengthOf rm_X6_lengthOf G ([.ref (G.2.1 84), .int p1, .int p2] : List Value) σ (some (.int r)) σ := by
  refine iv_start (nL := 3) (own := RX6) (ret := (some .int)) (cc := cX6_lengthOf) (by decide +kernel) rfl rfl hJ.1 (Nat.le_of_ble_eq_true rfl) ?_
  intro p e s m below meth c0 C hr hlk
  refine iv_sub (lv' := [(0, .ref (G.2.1 84)), (1, .int p1), (2, .int p2)]) [0, 1, 2] rfl ?_
  unfold f_X6_lengthOf at h
  refine iv_aload_n (pc := 0) C 0 dX6_lengthOf_0 rfl rfl ?_
  refine iv_getf (pc := 1) (T := TX6) (N := 16) (ci := 6) C 84 0 in_X6_lengthOf_6 (iw_im hJ (by decide)) iw_Eo84 rfl (by decide) lk_X6_lengthOf_7 rfl rfl dX6_lengthOf_1 ?_
  refine iv_aload_n (pc := 4) C 0 dX6_lengthOf_4 rfl rfl ?_
  refine iv_iload_n (pc := 5) C 1 dX6_lengthOf_5 rfl rfl ?_
  refine iv_iload_n (pc := 6) C 2 dX6_lengthOf_6 rfl rfl ?_
  refine iv_callV (pc := 7) (b := 84) (ci := 6) C [.int p1, .int p2] (k_X6_wayAt l G hJ p1 p2 σ rfl) gX6_lengthOf_X6_wayAt rfl qd_X6_wayAt ⟨rfl, rfl, Nat.le_of_ble_eq_true rfl, Nat.le_of_ble_eq_true rfl⟩ (iw_im hJ (by decide)) iw_Eo84 rfl rfl rfl (Nat.le_of_ble_eq_true rfl) dX6_lengthOf_7 ?_
  obtain ⟨v1, ev1, h⟩ := iw_be h
  refine iv_rd (pc := 10) C 85 (iw_lm hJ rfl (by decide)) ev1 dX6_lengthOf_10 ?_
  cases h
  exact iv_iret C hr hlk rfl rfl dX6_lengthOf_11
theorem qd_X6_lengthOf : yX6_lengthOf.cls = RX6 ∧ yX6_lengthOf.cls ≠ "java/lang/invoke/MethodHandle" ∧ yX6_lengthOf.cls ≠ "java/lang/invoke/VarHandle" ∧ (parseMethodDescriptor yX6_lengthOf.desc).map (fun d => d.parameters.length) = some 2 := by decide +kernel
def f_X6_nodeOf (p1 : Int32) (p2 : Int32) (p3 : Int32) (σ : iw_M) : Option (Int32) :=
(iw_rd σ 85 (((f_X6_wayAt p1 p2) + (1 : Int32)) + p3)).bind fun v1 =>
some v1
abbrev rm_X6_nodeOf : Room := { frames := 1, cells := 0, slots := 0, locals := 22 }
theorem lk_X6_nodeOf_7 : Cond.fieldLink RX6 7 RX6 (TX6 0).2.1 (TX6 0).2.2.1 ∈ wsX6_nodeOf := by decide +kernel
theorem in_X6_nodeOf_6 : ∀ w ∈ u_ws RX6 TX6 16, w ∈ wsX6_nodeOf := by decide +kernel
set_option maxHeartbeats 4000000 in
set_option maxRecDepth 100000 in
theorem k_X6_nodeOf (l : Launch) (G : iw_G) (hJ : iw_JM G) (p1 : Int32) (p2 : Int32) (p3 : Int32) (σ : iw_M) {r : Int32} (h : f_X6_nodeOf p1 p2 p3 σ = some r) : iw_Ct l yX6_nodeOf wsX6_nodeOf rm_X6_nodeOf G ([.ref (G.2.1 84), .int p1, .int p2, .int p3] : List Value) σ (some (.int r)) σ := by
  refine iv_start (nL := 4) (own := RX6) (ret := (some .int)) (cc := cX6_nodeOf) (by decide +kernel) rfl rfl hJ.1 (Nat.le_of_ble_eq_true rfl) ?_
  intro p e s m below meth c0 C hr hlk
  refine iv_sub (lv' := [(0, .ref (G.2.1 84)), (1, .int p1), (2, .int p2), (3, .int p3)]) [0, 1, 2, 3] rfl ?_
  unfold f_X6_nodeOf at h
  refine iv_aload_n (pc := 0) C 0 dX6_nodeOf_0 rfl rfl ?_
  refine iv_getf (pc := 1) (T := TX6) (N := 16) (ci := 6) C 84 0 in_X6_nodeOf_6 (iw_im hJ (by decide)) iw_Eo84 rfl (by decide) lk_X6_nodeOf_7 rfl rfl dX6_nodeOf_1 ?_
  refine iv_aload_n (pc := 4) C 0 dX6_nodeOf_4 rfl rfl ?_
  refine iv_iload_n (pc := 5) C 1 dX6_nodeOf_5 rfl rfl ?_
  refine iv_iload_n (pc := 6) C 2 dX6_nodeOf_6 rfl rfl ?_
  refine iv_callV (pc := 7) (b := 84) (ci := 6) C [.int p1, .int p2] (k_X6_wayAt l G hJ p1 p2 σ rfl) gX6_nodeOf_X6_wayAt rfl qd_X6_wayAt ⟨rfl, rfl, Nat.le_of_ble_eq_true rfl, Nat.le_of_ble_eq_true rfl⟩ (iw_im hJ (by decide)) iw_Eo84 rfl rfl rfl (Nat.le_of_ble_eq_true rfl) dX6_nodeOf_7 ?_
  refine iv_iconst (pc := 10) C (1 : Int32) dX6_nodeOf_10 (by decide) ?_
  refine iv_iadd (pc := 11) C dX6_nodeOf_11 ?_
  refine iv_iload_n (pc := 12) C 3 dX6_nodeOf_12 rfl rfl ?_
  refine iv_iadd (pc := 13) C dX6_nodeOf_13 ?_
  obtain ⟨v1, ev1, h⟩ := iw_be h
  refine iv_rd (pc := 14) C 85 (iw_lm hJ rfl (by decide)) ev1 dX6_nodeOf_14 ?_
  cases h
  exact iv_iret C hr hlk rfl rfl dX6_nodeOf_15
theorem qd_X6_nodeOf : yX6_nodeOf.cls = RX6 ∧ yX6_nodeOf.cls ≠ "java/lang/invoke/MethodHandle" ∧ yX6_nodeOf.cls ≠ "java/lang/invoke/VarHandle" ∧ (parseMethodDescriptor yX6_nodeOf.desc).map (fun d => d.parameters.length) = some 3 := by decide +kernel
def f_X6_laysNode (p1 : Int32) (σ : iw_M) : Option (iw_M) :=
(iw_rd σ 85 (0 : Int32)).bind fun v1 =>
(iw_wr σ 85 ((12 : Int32) + v1) p1).bind fun m2 =>
(iw_rd m2 85 (0 : Int32)).bind fun v3 =>
(iw_wr m2 85 (0 : Int32) (v3 + (1 : Int32))).bind fun m4 =>
some m4
abbrev rm_X6_laysNode : Room := { frames := 0, cells := 0, slots := 0, locals := 0 }
theorem lk_X6_laysNode_7 : Cond.fieldLink RX6 7 RX6 (TX6 0).2.1 (TX6 0).2.2.1 ∈ wsX6_laysNode := by decide +kernel
theorem in_X6_laysNode_6 : ∀ w ∈ u_ws RX6 TX6 16, w ∈ wsX6_laysNode := by decide +kernel
set_option maxHeartbeats 4000000 in
set_option maxRecDepth 100000 in
theorem k_X6_laysNode (l : Launch) (G : iw_G) (hJ : iw_JM G) (p1 : Int32) (σ : iw_M) {σ' : iw_M} (h : f_X6_laysNode p1 σ = some σ') : iw_Ct l yX6_laysNode wsX6_laysNode rm_X6_laysNode G ([.ref (G.2.1 84), .int p1] : List Value) σ none σ' := by
  refine iv_start (nL := 2) (own := RX6) (ret := none) (cc := cX6_laysNode) (by decide +kernel) rfl rfl hJ.1 (Nat.le_of_ble_eq_true rfl) ?_
  intro p e s m below meth c0 C hr hlk
  refine iv_sub (lv' := [(0, .ref (G.2.1 84)), (1, .int p1)]) [0, 1] rfl ?_
  unfold f_X6_laysNode at h
  refine iv_aload_n (pc := 0) C 0 dX6_laysNode_0 rfl rfl ?_
  refine iv_getf (pc := 1) (T := TX6) (N := 16) (ci := 6) C 84 0 in_X6_laysNode_6 (iw_im hJ (by decide)) iw_Eo84 rfl (by decide) lk_X6_laysNode_7 rfl rfl dX6_laysNode_1 ?_
  refine iv_bipush (pc := 4) C (12 : Int32) dX6_laysNode_4 (by decide) ?_
  refine iv_aload_n (pc := 6) C 0 dX6_laysNode_6 rfl rfl ?_
  refine iv_getf (pc := 7) (T := TX6) (N := 16) (ci := 6) C 84 0 in_X6_laysNode_6 (iw_im hJ (by decide)) iw_Eo84 rfl (by decide) lk_X6_laysNode_7 rfl rfl dX6_laysNode_7 ?_
  refine iv_iconst (pc := 10) C (0 : Int32) dX6_laysNode_10 (by decide) ?_
  obtain ⟨v1, ev1, h⟩ := iw_be h
  refine iv_rd (pc := 11) C 85 (iw_lm hJ rfl (by decide)) ev1 dX6_laysNode_11 ?_
  refine iv_iadd (pc := 12) C dX6_laysNode_12 ?_
  refine iv_iload_n (pc := 13) C 1 dX6_laysNode_13 rfl rfl ?_
  obtain ⟨m2, em2, h⟩ := iw_be h
  refine iv_wr (pc := 14) C 85 (iw_lm hJ rfl (by decide)) em2 dX6_laysNode_14 ?_
  refine iv_aload_n (pc := 15) C 0 dX6_laysNode_15 rfl rfl ?_
  refine iv_getf (pc := 16) (T := TX6) (N := 16) (ci := 6) C 84 0 in_X6_laysNode_6 (iw_im hJ (by decide)) iw_Eo84 rfl (by decide) lk_X6_laysNode_7 rfl rfl dX6_laysNode_16 ?_
  refine iv_iconst (pc := 19) C (0 : Int32) dX6_laysNode_19 (by decide) ?_
  refine iv_dup2 (pc := 20) C rfl rfl dX6_laysNode_20 ?_
  obtain ⟨v3, ev3, h⟩ := iw_be h
  refine iv_rd (pc := 21) C 85 (iw_lm hJ rfl (by decide)) ev3 dX6_laysNode_21 ?_
  refine iv_iconst (pc := 22) C (1 : Int32) dX6_laysNode_22 (by decide) ?_
  refine iv_iadd (pc := 23) C dX6_laysNode_23 ?_
  obtain ⟨m4, em4, h⟩ := iw_be h
  refine iv_wr (pc := 24) C 85 (iw_lm hJ rfl (by decide)) em4 dX6_laysNode_24 ?_
  cases h
  exact iv_vret C hr hlk rfl rfl dX6_laysNode_25
theorem qd_X6_laysNode : yX6_laysNode.cls = RX6 ∧ yX6_laysNode.cls ≠ "java/lang/invoke/MethodHandle" ∧ yX6_laysNode.cls ≠ "java/lang/invoke/VarHandle" ∧ (parseMethodDescriptor yX6_laysNode.desc).map (fun d => d.parameters.length) = some 1 := by decide +kernel
def f_X6_laysLink (p1 : Int32) (p2 : Int32) (p3 : Int32) (σ : iw_M) : Option (iw_M) :=
(iw_rd σ 85 (1 : Int32)).bind fun v1 =>
iw_let ((22 : Int32) + ((3 : Int32) * v1)) fun v2 =>
(iw_wr σ 85 v2 p1).bind fun m3 =>
(iw_wr m3 85 (v2 + (1 : Int32)) p2).bind fun m4 =>
(iw_wr m4 85 (v2 + (2 : Int32)) p3).bind fun m5 =>
(iw_rd m5 85 (1 : Int32)).bind fun v6 =>
(iw_wr m5 85 (1 : Int32) (v6 + (1 : Int32))).bind fun m7 =>
some m7
abbrev rm_X6_laysLink : Room := { frames := 0, cells := 0, slots := 0, locals := 0 }
theorem lk_X6_laysLink_7 : Cond.fieldLink RX6 7 RX6 (TX6 0).2.1 (TX6 0).2.2.1 ∈ wsX6_laysLink := by decide +kernel
theorem in_X6_laysLink_6 : ∀ w ∈ u_ws RX6 TX6 16, w ∈ wsX6_laysLink := by decide +kernel
set_option maxHeartbeats 4000000 in
set_option maxRecDepth 100000 in
theorem k_X6_laysLink (l : Launch) (G : iw_G) (hJ : iw_JM G) (p1 : Int32) (p2 : Int32) (p3 : Int32) (σ : iw_M) {σ' : iw_M} (h : f_X6_laysLink p1 p2 p3 σ = some σ') : iw_Ct l yX6_laysLink wsX6_laysLink rm_X6_laysLink G ([.ref (G.2.1 84), .int p1, .int p2, .int p3] : List Value) σ none σ' := by
  refine iv_start (nL := 5) (own := RX6) (ret := none) (cc := cX6_laysLink) (by decide +kernel) rfl rfl hJ.1 (Nat.le_of_ble_eq_true rfl) ?_
  intro p e s m below meth c0 C hr hlk
  refine iv_sub (lv' := [(0, .ref (G.2.1 84)), (1, .int p1), (2, .int p2), (3, .int p3)]) [0, 1, 2, 3] rfl ?_
  unfold f_X6_laysLink at h
  refine iv_bipush (pc := 0) C (22 : Int32) dX6_laysLink_0 (by decide) ?_
  refine iv_iconst (pc := 2) C (3 : Int32) dX6_laysLink_2 (by decide) ?_
  refine iv_aload_n (pc := 3) C 0 dX6_laysLink_3 rfl rfl ?_
  refine iv_getf (pc := 4) (T := TX6) (N := 16) (ci := 6) C 84 0 in_X6_laysLink_6 (iw_im hJ (by decide)) iw_Eo84 rfl (by decide) lk_X6_laysLink_7 rfl rfl dX6_laysLink_4 ?_
  refine iv_iconst (pc := 7) C (1 : Int32) dX6_laysLink_7 (by decide) ?_
  obtain ⟨v1, ev1, h⟩ := iw_be h
  refine iv_rd (pc := 8) C 85 (iw_lm hJ rfl (by decide)) ev1 dX6_laysLink_8 ?_
  refine iv_imul (pc := 9) C dX6_laysLink_9 ?_
  refine iv_iadd (pc := 10) C dX6_laysLink_10 ?_
  refine iv_topi (fun v2 ev2 => ?_)
  replace h := iw_lete ev2 h
  refine iv_istore (pc := 11) C [(4, .int v2), (0, .ref (G.2.1 84)), (1, .int p1), (2, .int p2), (3, .int p3)] dX6_laysLink_11 (by decide) rfl ?_
  refine iv_aload_n (pc := 13) C 1 dX6_laysLink_13 rfl rfl ?_
  refine iv_getf (pc := 14) (T := TX6) (N := 16) (ci := 6) C 84 0 in_X6_laysLink_6 (iw_im hJ (by decide)) iw_Eo84 rfl (by decide) lk_X6_laysLink_7 rfl rfl dX6_laysLink_14 ?_
  refine iv_iload (pc := 17) C 0 dX6_laysLink_17 rfl ?_
  refine iv_iload_n (pc := 19) C 2 dX6_laysLink_19 rfl rfl ?_
  obtain ⟨m3, em3, h⟩ := iw_be h
  refine iv_wr (pc := 20) C 85 (iw_lm hJ rfl (by decide)) em3 dX6_laysLink_20 ?_
  refine iv_aload_n (pc := 21) C 1 dX6_laysLink_21 rfl rfl ?_
  refine iv_getf (pc := 22) (T := TX6) (N := 16) (ci := 6) C 84 0 in_X6_laysLink_6 (iw_im hJ (by decide)) iw_Eo84 rfl (by decide) lk_X6_laysLink_7 rfl rfl dX6_laysLink_22 ?_
  refine iv_iload (pc := 25) C 0 dX6_laysLink_25 rfl ?_
  refine iv_iconst (pc := 27) C (1 : Int32) dX6_laysLink_27 (by decide) ?_
  refine iv_iadd (pc := 28) C dX6_laysLink_28 ?_
  refine iv_iload_n (pc := 29) C 3 dX6_laysLink_29 rfl rfl ?_
  obtain ⟨m4, em4, h⟩ := iw_be h
  refine iv_wr (pc := 30) C 85 (iw_lm hJ rfl (by decide)) em4 dX6_laysLink_30 ?_
  refine iv_aload_n (pc := 31) C 1 dX6_laysLink_31 rfl rfl ?_
  refine iv_getf (pc := 32) (T := TX6) (N := 16) (ci := 6) C 84 0 in_X6_laysLink_6 (iw_im hJ (by decide)) iw_Eo84 rfl (by decide) lk_X6_laysLink_7 rfl rfl dX6_laysLink_32 ?_
  refine iv_iload (pc := 35) C 0 dX6_laysLink_35 rfl ?_
  refine iv_iconst (pc := 37) C (2 : Int32) dX6_laysLink_37 (by decide) ?_
  refine iv_iadd (pc := 38) C dX6_laysLink_38 ?_
  refine iv_iload_n (pc := 39) C 4 dX6_laysLink_39 rfl rfl ?_
  obtain ⟨m5, em5, h⟩ := iw_be h
  refine iv_wr (pc := 40) C 85 (iw_lm hJ rfl (by decide)) em5 dX6_laysLink_40 ?_
  refine iv_aload_n (pc := 41) C 1 dX6_laysLink_41 rfl rfl ?_
  refine iv_getf (pc := 42) (T := TX6) (N := 16) (ci := 6) C 84 0 in_X6_laysLink_6 (iw_im hJ (by decide)) iw_Eo84 rfl (by decide) lk_X6_laysLink_7 rfl rfl dX6_laysLink_42 ?_
  refine iv_iconst (pc := 45) C (1 : Int32) dX6_laysLink_45 (by decide) ?_
  refine iv_dup2 (pc := 46) C rfl rfl dX6_laysLink_46 ?_
  obtain ⟨v6, ev6, h⟩ := iw_be h
  refine iv_rd (pc := 47) C 85 (iw_lm hJ rfl (by decide)) ev6 dX6_laysLink_47 ?_
  refine iv_iconst (pc := 48) C (1 : Int32) dX6_laysLink_48 (by decide) ?_
  refine iv_iadd (pc := 49) C dX6_laysLink_49 ?_
  obtain ⟨m7, em7, h⟩ := iw_be h
  refine iv_wr (pc := 50) C 85 (iw_lm hJ rfl (by decide)) em7 dX6_laysLink_50 ?_
  cases h
  exact iv_vret C hr hlk rfl rfl dX6_laysLink_51
theorem qd_X6_laysLink : yX6_laysLink.cls = RX6 ∧ yX6_laysLink.cls ≠ "java/lang/invoke/MethodHandle" ∧ yX6_laysLink.cls ≠ "java/lang/invoke/VarHandle" ∧ (parseMethodDescriptor yX6_laysLink.desc).map (fun d => d.parameters.length) = some 3 := by decide +kernel
def f_X6_laysSensor_X74_44 (m6 : iw_M) : Option (iw_M) :=
(iw_rd m6 85 (2 : Int32)).bind fun v7 =>
(iw_wr m6 85 (2 : Int32) (v7 + (1 : Int32))).bind fun m8 =>
some m8
def f_X6_laysSensor_B44 (k44 : iw_M → Option (iw_M)) (r44 : Int32 → iw_M → Option (iw_M)) (v9 : Int32) (m10 : iw_M) : Option (iw_M) :=
if (5 : Int32) ≤ v9 then
(k44 m10)
else
((iw_rd m10 85 (2 : Int32)).bind fun v12 =>
(iw_wr m10 85 (f_X6_wayAt v9 v12) (0 : Int32)).bind fun m13 =>
iw_let (v9 + (1 : Int32)) fun v14 =>
r44 v14 m13)
def f_X6_laysSensor_L44 (k44 : iw_M → Option (iw_M)) (nn : Nat) : Int32 → iw_M → Option (iw_M) :=
iw_it (fun r44 => f_X6_laysSensor_B44 k44 r44) (fun _ _ => none) nn
def f_X6_laysSensor (n : Nat) (p1 : Int32) (p2 : Int32) (p3 : Int32) (σ : iw_M) : Option (iw_M) :=
(iw_rd σ 85 (2 : Int32)).bind fun v1 =>
iw_let ((82 : Int32) + ((3 : Int32) * v1)) fun v2 =>
(iw_wr σ 85 v2 p1).bind fun m3 =>
(iw_wr m3 85 (v2 + (1 : Int32)) p2).bind fun m4 =>
(iw_wr m4 85 (v2 + (2 : Int32)) p3).bind fun m5 =>
f_X6_laysSensor_L44 (f_X6_laysSensor_X74_44) n (0 : Int32) m5
abbrev rm_X6_laysSensor : Room := { frames := 1, cells := 0, slots := 0, locals := 22 }
theorem lk_X6_laysSensor_7 : Cond.fieldLink RX6 7 RX6 (TX6 0).2.1 (TX6 0).2.2.1 ∈ wsX6_laysSensor := by decide +kernel
theorem in_X6_laysSensor_6 : ∀ w ∈ u_ws RX6 TX6 16, w ∈ wsX6_laysSensor := by decide +kernel
set_option maxHeartbeats 4000000 in
set_option maxRecDepth 100000 in
theorem k_X6_laysSensor (l : Launch) (G : iw_G) (hJ : iw_JM G) (n : Nat) (p1 : Int32) (p2 : Int32) (p3 : Int32) (σ : iw_M) {σ' : iw_M} (h : f_X6_laysSensor n p1 p2 p3 σ = some σ') : iw_Ct l yX6_laysSensor wsX6_laysSensor rm_X6_laysSensor G ([.ref (G.2.1 84), .int p1, .int p2, .int p3] : List Value) σ none σ' := by
  refine iv_start (nL := 6) (own := RX6) (ret := none) (cc := cX6_laysSensor) (by decide +kernel) rfl rfl hJ.1 (Nat.le_of_ble_eq_true rfl) ?_
  intro p e s m below meth c0 C hr hlk
  refine iv_sub (lv' := [(0, .ref (G.2.1 84)), (1, .int p1), (2, .int p2), (3, .int p3)]) [0, 1, 2, 3] rfl ?_
  unfold f_X6_laysSensor at h
  refine iv_bipush (pc := 0) C (82 : Int32) dX6_laysSensor_0 (by decide) ?_
  refine iv_iconst (pc := 2) C (3 : Int32) dX6_laysSensor_2 (by decide) ?_
  refine iv_aload_n (pc := 3) C 0 dX6_laysSensor_3 rfl rfl ?_
  refine iv_getf (pc := 4) (T := TX6) (N := 16) (ci := 6) C 84 0 in_X6_laysSensor_6 (iw_im hJ (by decide)) iw_Eo84 rfl (by decide) lk_X6_laysSensor_7 rfl rfl dX6_laysSensor_4 ?_
  refine iv_iconst (pc := 7) C (2 : Int32) dX6_laysSensor_7 (by decide) ?_
  obtain ⟨v1, ev1, h⟩ := iw_be h
  refine iv_rd (pc := 8) C 85 (iw_lm hJ rfl (by decide)) ev1 dX6_laysSensor_8 ?_
  refine iv_imul (pc := 9) C dX6_laysSensor_9 ?_
  refine iv_iadd (pc := 10) C dX6_laysSensor_10 ?_
  refine iv_topi (fun v2 ev2 => ?_)
  replace h := iw_lete ev2 h
  refine iv_istore (pc := 11) C [(4, .int v2), (0, .ref (G.2.1 84)), (1, .int p1), (2, .int p2), (3, .int p3)] dX6_laysSensor_11 (by decide) rfl ?_
  refine iv_aload_n (pc := 13) C 1 dX6_laysSensor_13 rfl rfl ?_
  refine iv_getf (pc := 14) (T := TX6) (N := 16) (ci := 6) C 84 0 in_X6_laysSensor_6 (iw_im hJ (by decide)) iw_Eo84 rfl (by decide) lk_X6_laysSensor_7 rfl rfl dX6_laysSensor_14 ?_
  refine iv_iload (pc := 17) C 0 dX6_laysSensor_17 rfl ?_
  refine iv_iload_n (pc := 19) C 2 dX6_laysSensor_19 rfl rfl ?_
  obtain ⟨m3, em3, h⟩ := iw_be h
  refine iv_wr (pc := 20) C 85 (iw_lm hJ rfl (by decide)) em3 dX6_laysSensor_20 ?_
  refine iv_aload_n (pc := 21) C 1 dX6_laysSensor_21 rfl rfl ?_
  refine iv_getf (pc := 22) (T := TX6) (N := 16) (ci := 6) C 84 0 in_X6_laysSensor_6 (iw_im hJ (by decide)) iw_Eo84 rfl (by decide) lk_X6_laysSensor_7 rfl rfl dX6_laysSensor_22 ?_
  refine iv_iload (pc := 25) C 0 dX6_laysSensor_25 rfl ?_
  refine iv_iconst (pc := 27) C (1 : Int32) dX6_laysSensor_27 (by decide) ?_
  refine iv_iadd (pc := 28) C dX6_laysSensor_28 ?_
  refine iv_iload_n (pc := 29) C 3 dX6_laysSensor_29 rfl rfl ?_
  obtain ⟨m4, em4, h⟩ := iw_be h
  refine iv_wr (pc := 30) C 85 (iw_lm hJ rfl (by decide)) em4 dX6_laysSensor_30 ?_
  refine iv_aload_n (pc := 31) C 1 dX6_laysSensor_31 rfl rfl ?_
  refine iv_getf (pc := 32) (T := TX6) (N := 16) (ci := 6) C 84 0 in_X6_laysSensor_6 (iw_im hJ (by decide)) iw_Eo84 rfl (by decide) lk_X6_laysSensor_7 rfl rfl dX6_laysSensor_32 ?_
  refine iv_iload (pc := 35) C 0 dX6_laysSensor_35 rfl ?_
  refine iv_iconst (pc := 37) C (2 : Int32) dX6_laysSensor_37 (by decide) ?_
  refine iv_iadd (pc := 38) C dX6_laysSensor_38 ?_
  refine iv_iload_n (pc := 39) C 4 dX6_laysSensor_39 rfl rfl ?_
  obtain ⟨m5, em5, h⟩ := iw_be h
  refine iv_wr (pc := 40) C 85 (iw_lm hJ rfl (by decide)) em5 dX6_laysSensor_40 ?_
  refine iv_iconst (pc := 41) C (0 : Int32) dX6_laysSensor_41 (by decide) ?_
  refine iv_istore (pc := 42) C [(5, .int (0 : Int32)), (4, .int v2), (0, .ref (G.2.1 84)), (1, .int p1), (2, .int p2), (3, .int p3)] dX6_laysSensor_42 (by decide) rfl ?_
  have vX44 : ∀ (m6 : iw_M), f_X6_laysSensor_X74_44 m6 = some σ' → iw_V p l e rm_X6_laysSensor s m ([.ref (G.2.1 84), .int p1, .int p2, .int p3] : List Value).toArray below meth c0 0 0 (MQ below (iw_Q none G σ') ([.ref (G.2.1 84), .int p1, .int p2, .int p3] : List Value).toArray s 0 0 (iw_A G)) 6 G (iw_A G) m6 74 [(0, .ref (G.2.1 84))] [] := by
    intro m6 h
    unfold f_X6_laysSensor_X74_44 at h
    refine iv_aload_n (pc := 74) C 0 dX6_laysSensor_74 rfl rfl ?_
    refine iv_getf (pc := 75) (T := TX6) (N := 16) (ci := 6) C 84 0 in_X6_laysSensor_6 (iw_im hJ (by decide)) iw_Eo84 rfl (by decide) lk_X6_laysSensor_7 rfl rfl dX6_laysSensor_75 ?_
    refine iv_iconst (pc := 78) C (2 : Int32) dX6_laysSensor_78 (by decide) ?_
    refine iv_dup2 (pc := 79) C rfl rfl dX6_laysSensor_79 ?_
    obtain ⟨v7, ev7, h⟩ := iw_be h
    refine iv_rd (pc := 80) C 85 (iw_lm hJ rfl (by decide)) ev7 dX6_laysSensor_80 ?_
    refine iv_iconst (pc := 81) C (1 : Int32) dX6_laysSensor_81 (by decide) ?_
    refine iv_iadd (pc := 82) C dX6_laysSensor_82 ?_
    obtain ⟨m8, em8, h⟩ := iw_be h
    refine iv_wr (pc := 83) C 85 (iw_lm hJ rfl (by decide)) em8 dX6_laysSensor_83 ?_
    cases h
    exact iv_vret C hr hlk rfl rfl dX6_laysSensor_84
  have vB44 : ∀ (k44 : iw_M → Option (iw_M)) (r44 : Int32 → iw_M → Option (iw_M)), (∀ (m6 : iw_M), k44 m6 = some σ' → iw_V p l e rm_X6_laysSensor s m ([.ref (G.2.1 84), .int p1, .int p2, .int p3] : List Value).toArray below meth c0 0 0 (MQ below (iw_Q none G σ') ([.ref (G.2.1 84), .int p1, .int p2, .int p3] : List Value).toArray s 0 0 (iw_A G)) 6 G (iw_A G) m6 74 [(0, .ref (G.2.1 84))] []) → (∀ (v9 : Int32) (m10 : iw_M), r44 v9 m10 = some σ' → iw_V p l e rm_X6_laysSensor s m ([.ref (G.2.1 84), .int p1, .int p2, .int p3] : List Value).toArray below meth c0 0 0 (MQ below (iw_Q none G σ') ([.ref (G.2.1 84), .int p1, .int p2, .int p3] : List Value).toArray s 0 0 (iw_A G)) 6 G (iw_A G) m10 44 [(0, .ref (G.2.1 84)), (5, .int v9)] []) → ∀ (v9 : Int32) (m10 : iw_M), f_X6_laysSensor_B44  k44 r44 v9 m10 = some σ' → iw_V p l e rm_X6_laysSensor s m ([.ref (G.2.1 84), .int p1, .int p2, .int p3] : List Value).toArray below meth c0 0 0 (MQ below (iw_Q none G σ') ([.ref (G.2.1 84), .int p1, .int p2, .int p3] : List Value).toArray s 0 0 (iw_A G)) 6 G (iw_A G) m10 44 [(0, .ref (G.2.1 84)), (5, .int v9)] [] := by
    intro k44 r44 hk44 hr44 v9 m10 h
    unfold f_X6_laysSensor_B44 at h
    refine iv_iload (pc := 44) C 1 dX6_laysSensor_44 rfl ?_
    refine iv_iconst (pc := 46) C (5 : Int32) dX6_laysSensor_46 (by decide) ?_
    refine iv_icmp_ge (pc := 47) C 74 dX6_laysSensor_47 (by decide) (fun h11 => ?_) (fun h11 => ?_)
    · replace h := iw_ift h11 h
      exact iv_sub [0] rfl (hk44 m10 h)
    · replace h := iw_iff h11 h
      refine iv_aload_n (pc := 50) C 0 dX6_laysSensor_50 rfl rfl ?_
      refine iv_getf (pc := 51) (T := TX6) (N := 16) (ci := 6) C 84 0 in_X6_laysSensor_6 (iw_im hJ (by decide)) iw_Eo84 rfl (by decide) lk_X6_laysSensor_7 rfl rfl dX6_laysSensor_51 ?_
      refine iv_aload_n (pc := 54) C 0 dX6_laysSensor_54 rfl rfl ?_
      refine iv_iload (pc := 55) C 1 dX6_laysSensor_55 rfl ?_
      refine iv_aload_n (pc := 57) C 0 dX6_laysSensor_57 rfl rfl ?_
      refine iv_getf (pc := 58) (T := TX6) (N := 16) (ci := 6) C 84 0 in_X6_laysSensor_6 (iw_im hJ (by decide)) iw_Eo84 rfl (by decide) lk_X6_laysSensor_7 rfl rfl dX6_laysSensor_58 ?_
      refine iv_iconst (pc := 61) C (2 : Int32) dX6_laysSensor_61 (by decide) ?_
      obtain ⟨v12, ev12, h⟩ := iw_be h
      refine iv_rd (pc := 62) C 85 (iw_lm hJ rfl (by decide)) ev12 dX6_laysSensor_62 ?_
      refine iv_callV (pc := 63) (b := 84) (ci := 6) C [.int v9, .int v12] (k_X6_wayAt l G hJ v9 v12 m10 rfl) gX6_laysSensor_X6_wayAt rfl qd_X6_wayAt ⟨rfl, rfl, Nat.le_of_ble_eq_true rfl, Nat.le_of_ble_eq_true rfl⟩ (iw_im hJ (by decide)) iw_Eo84 rfl rfl rfl (Nat.le_of_ble_eq_true rfl) dX6_laysSensor_63 ?_
      refine iv_iconst (pc := 66) C (0 : Int32) dX6_laysSensor_66 (by decide) ?_
      obtain ⟨m13, em13, h⟩ := iw_be h
      refine iv_wr (pc := 67) C 85 (iw_lm hJ rfl (by decide)) em13 dX6_laysSensor_67 ?_
      obtain ⟨v14, ev14⟩ : ∃ y : Int32, y = v9 + (1 : Int32) := ⟨_, rfl⟩
      replace h := iw_lete ev14 h
      refine iv_iinc (pc := 68) C 1 v14 [(5, .int v14), (0, .ref (G.2.1 84))] dX6_laysSensor_68 rfl (by rw [ev14]; rfl) (by decide) rfl ?_
      refine iv_goto (pc := 71) C 44 dX6_laysSensor_71 (by decide) ?_
      exact iv_sub [1, 0] rfl (hr44 v14 m13 h)
  have vL44 : ∀ (nn : Nat) (v9 : Int32) (m10 : iw_M), f_X6_laysSensor_L44  (f_X6_laysSensor_X74_44) nn v9 m10 = some σ' → iw_V p l e rm_X6_laysSensor s m ([.ref (G.2.1 84), .int p1, .int p2, .int p3] : List Value).toArray below meth c0 0 0 (MQ below (iw_Q none G σ') ([.ref (G.2.1 84), .int p1, .int p2, .int p3] : List Value).toArray s 0 0 (iw_A G)) 6 G (iw_A G) m10 44 [(0, .ref (G.2.1 84)), (5, .int v9)] [] := by
    intro nn
    induction nn with
    | zero => intro v9 m10 h; exact absurd h (fun q => by cases q)
    | succ nn ih => intro v9 m10 h; exact vB44 (f_X6_laysSensor_X74_44) (f_X6_laysSensor_L44  (f_X6_laysSensor_X74_44) nn) vX44 ih v9 m10 h
  exact iv_sub [2, 0] rfl (vL44 n (0 : Int32) m5 h)
theorem qd_X6_laysSensor : yX6_laysSensor.cls = RX6 ∧ yX6_laysSensor.cls ≠ "java/lang/invoke/MethodHandle" ∧ yX6_laysSensor.cls ≠ "java/lang/invoke/VarHandle" ∧ (parseMethodDescriptor yX6_laysSensor.desc).map (fun d => d.parameters.length) = some 3 := by decide +kernel
def f_X6_addNode (n : Nat) (p1 : Int32) (σ : iw_M) : Option (Int32 × iw_M) :=
if (f_X6_in p1 (1 : Int32) (10000 : Int32)) = (0 : Int32) then
(some ((-1002 : Int32), σ))
else
((iw_rd σ 85 (0 : Int32)).bind fun v2 =>
if v2 = (10 : Int32) then
(some ((-1004 : Int32), σ))
else
((f_X6_saves n σ).bind fun m4 =>
(f_X6_laysNode p1 m4).bind fun m5 =>
(iw_rd m5 85 (0 : Int32)).bind fun v6 =>
some ((v6 - (1 : Int32)), m5)))
abbrev rm_X6_addNode : Room := { frames := 2, cells := 0, slots := 0, locals := 44 }
theorem lk_X6_addNode_7 : Cond.fieldLink RX6 7 RX6 (TX6 0).2.1 (TX6 0).2.2.1 ∈ wsX6_addNode := by decide +kernel
theorem in_X6_addNode_6 : ∀ w ∈ u_ws RX6 TX6 16, w ∈ wsX6_addNode := by decide +kernel
set_option maxHeartbeats 4000000 in
set_option maxRecDepth 100000 in
theorem k_X6_addNode (l : Launch) (G : iw_G) (hJ : iw_JM G) (n : Nat) (p1 : Int32) (σ : iw_M) {r : Int32} {σ' : iw_M} (h : f_X6_addNode n p1 σ = some (r, σ')) : iw_Ct l yX6_addNode wsX6_addNode rm_X6_addNode G ([.ref (G.2.1 84), .int p1] : List Value) σ (some (.int r)) σ' := by
  refine iv_start (nL := 2) (own := RX6) (ret := (some .int)) (cc := cX6_addNode) (by decide +kernel) rfl rfl hJ.1 (Nat.le_of_ble_eq_true rfl) ?_
  intro p e s m below meth c0 C hr hlk
  refine iv_sub (lv' := [(0, .ref (G.2.1 84)), (1, .int p1)]) [0, 1] rfl ?_
  unfold f_X6_addNode at h
  refine iv_iload_n (pc := 0) C 1 dX6_addNode_0 rfl rfl ?_
  refine iv_iconst (pc := 1) C (1 : Int32) dX6_addNode_1 (by decide) ?_
  refine iv_sipush (pc := 2) C (10000 : Int32) dX6_addNode_2 (by decide) ?_
  refine iv_callS (pc := 5) C [.int p1, .int (1 : Int32), .int (10000 : Int32)] (k_X6_in l G hJ p1 (1 : Int32) (10000 : Int32) σ rfl) gX6_addNode_X6_in rfl qd_X6_in ⟨rfl, rfl, Nat.le_of_ble_eq_true rfl, Nat.le_of_ble_eq_true rfl⟩ rfl rfl (Nat.le_of_ble_eq_true rfl) dX6_addNode_5 ?_
  refine iv_if_ne (pc := 8) C 15 dX6_addNode_8 (by decide) (fun h1 => ?_) (fun h1 => ?_)
  · replace h := iw_iff h1 h
    refine iv_aload_n (pc := 15) C 0 dX6_addNode_15 rfl rfl ?_
    refine iv_getf (pc := 16) (T := TX6) (N := 16) (ci := 6) C 84 0 in_X6_addNode_6 (iw_im hJ (by decide)) iw_Eo84 rfl (by decide) lk_X6_addNode_7 rfl rfl dX6_addNode_16 ?_
    refine iv_iconst (pc := 19) C (0 : Int32) dX6_addNode_19 (by decide) ?_
    obtain ⟨v2, ev2, h⟩ := iw_be h
    refine iv_rd (pc := 20) C 85 (iw_lm hJ rfl (by decide)) ev2 dX6_addNode_20 ?_
    refine iv_bipush (pc := 21) C (10 : Int32) dX6_addNode_21 (by decide) ?_
    refine iv_icmp_ne (pc := 23) C 30 dX6_addNode_23 (by decide) (fun h3 => ?_) (fun h3 => ?_)
    · replace h := iw_iff h3 h
      refine iv_aload_n (pc := 30) C 0 dX6_addNode_30 rfl rfl ?_
      obtain ⟨m4, em4, h⟩ := iw_be h
      refine iv_callV (pc := 31) (b := 84) (ci := 6) C [] (k_X6_saves l G hJ n σ em4) gX6_addNode_X6_saves rfl qd_X6_saves ⟨rfl, rfl, Nat.le_of_ble_eq_true rfl, Nat.le_of_ble_eq_true rfl⟩ (iw_im hJ (by decide)) iw_Eo84 rfl rfl rfl (Nat.le_of_ble_eq_true rfl) dX6_addNode_31 ?_
      refine iv_aload_n (pc := 34) C 0 dX6_addNode_34 rfl rfl ?_
      refine iv_iload_n (pc := 35) C 1 dX6_addNode_35 rfl rfl ?_
      obtain ⟨m5, em5, h⟩ := iw_be h
      refine iv_callV (pc := 36) (b := 84) (ci := 6) C [.int p1] (k_X6_laysNode l G hJ p1 m4 em5) gX6_addNode_X6_laysNode rfl qd_X6_laysNode ⟨rfl, rfl, Nat.le_of_ble_eq_true rfl, Nat.le_of_ble_eq_true rfl⟩ (iw_im hJ (by decide)) iw_Eo84 rfl rfl rfl (Nat.le_of_ble_eq_true rfl) dX6_addNode_36 ?_
      refine iv_aload_n (pc := 39) C 0 dX6_addNode_39 rfl rfl ?_
      refine iv_getf (pc := 40) (T := TX6) (N := 16) (ci := 6) C 84 0 in_X6_addNode_6 (iw_im hJ (by decide)) iw_Eo84 rfl (by decide) lk_X6_addNode_7 rfl rfl dX6_addNode_40 ?_
      refine iv_iconst (pc := 43) C (0 : Int32) dX6_addNode_43 (by decide) ?_
      obtain ⟨v6, ev6, h⟩ := iw_be h
      refine iv_rd (pc := 44) C 85 (iw_lm hJ rfl (by decide)) ev6 dX6_addNode_44 ?_
      refine iv_iconst (pc := 45) C (1 : Int32) dX6_addNode_45 (by decide) ?_
      refine iv_isub (pc := 46) C dX6_addNode_46 ?_
      cases h
      exact iv_iret C hr hlk rfl rfl dX6_addNode_47
    · replace h := iw_ift h3 h
      refine iv_sipush (pc := 26) C (-1004 : Int32) dX6_addNode_26 (by decide) ?_
      cases h
      exact iv_iret C hr hlk rfl rfl dX6_addNode_29
  · replace h := iw_ift h1 h
    refine iv_sipush (pc := 11) C (-1002 : Int32) dX6_addNode_11 (by decide) ?_
    cases h
    exact iv_iret C hr hlk rfl rfl dX6_addNode_14
theorem qd_X6_addNode : yX6_addNode.cls = RX6 ∧ yX6_addNode.cls ≠ "java/lang/invoke/MethodHandle" ∧ yX6_addNode.cls ≠ "java/lang/invoke/VarHandle" ∧ (parseMethodDescriptor yX6_addNode.desc).map (fun d => d.parameters.length) = some 1 := by decide +kernel
def f_X6_charge (n : Nat) (p1 : Int32) (p2 : Int32) (σ : iw_M) : Option (Int32 × iw_M) :=
(f_X6_isNode p1 σ).bind fun v1 =>
if v1 = (0 : Int32) then
(some ((-1001 : Int32), σ))
else
(if (f_X6_in p2 (0 : Int32) (10000 : Int32)) = (0 : Int32) then
(some ((-1002 : Int32), σ))
else
((f_X6_saves n σ).bind fun m4 =>
(iw_rd m4 85 ((12 : Int32) + p1)).bind fun v5 =>
(iw_wr m4 85 ((12 : Int32) + p1) p2).bind fun m6 =>
some (v5, m6)))
abbrev rm_X6_charge : Room := { frames := 2, cells := 0, slots := 0, locals := 44 }
theorem lk_X6_charge_7 : Cond.fieldLink RX6 7 RX6 (TX6 0).2.1 (TX6 0).2.2.1 ∈ wsX6_charge := by decide +kernel
theorem in_X6_charge_6 : ∀ w ∈ u_ws RX6 TX6 16, w ∈ wsX6_charge := by decide +kernel
set_option maxHeartbeats 4000000 in
set_option maxRecDepth 100000 in
theorem k_X6_charge (l : Launch) (G : iw_G) (hJ : iw_JM G) (n : Nat) (p1 : Int32) (p2 : Int32) (σ : iw_M) {r : Int32} {σ' : iw_M} (h : f_X6_charge n p1 p2 σ = some (r, σ')) : iw_Ct l yX6_charge wsX6_charge rm_X6_charge G ([.ref (G.2.1 84), .int p1, .int p2] : List Value) σ (some (.int r)) σ' := by
  refine iv_start (nL := 4) (own := RX6) (ret := (some .int)) (cc := cX6_charge) (by decide +kernel) rfl rfl hJ.1 (Nat.le_of_ble_eq_true rfl) ?_
  intro p e s m below meth c0 C hr hlk
  refine iv_sub (lv' := [(0, .ref (G.2.1 84)), (1, .int p1), (2, .int p2)]) [0, 1, 2] rfl ?_
  unfold f_X6_charge at h
  refine iv_aload_n (pc := 0) C 0 dX6_charge_0 rfl rfl ?_
  refine iv_iload_n (pc := 1) C 1 dX6_charge_1 rfl rfl ?_
  obtain ⟨v1, ev1, h⟩ := iw_be h
  refine iv_callV (pc := 2) (b := 84) (ci := 6) C [.int p1] (k_X6_isNode l G hJ p1 σ ev1) gX6_charge_X6_isNode rfl qd_X6_isNode ⟨rfl, rfl, Nat.le_of_ble_eq_true rfl, Nat.le_of_ble_eq_true rfl⟩ (iw_im hJ (by decide)) iw_Eo84 rfl rfl rfl (Nat.le_of_ble_eq_true rfl) dX6_charge_2 ?_
  refine iv_if_ne (pc := 5) C 12 dX6_charge_5 (by decide) (fun h2 => ?_) (fun h2 => ?_)
  · replace h := iw_iff h2 h
    refine iv_iload_n (pc := 12) C 2 dX6_charge_12 rfl rfl ?_
    refine iv_iconst (pc := 13) C (0 : Int32) dX6_charge_13 (by decide) ?_
    refine iv_sipush (pc := 14) C (10000 : Int32) dX6_charge_14 (by decide) ?_
    refine iv_callS (pc := 17) C [.int p2, .int (0 : Int32), .int (10000 : Int32)] (k_X6_in l G hJ p2 (0 : Int32) (10000 : Int32) σ rfl) gX6_charge_X6_in rfl qd_X6_in ⟨rfl, rfl, Nat.le_of_ble_eq_true rfl, Nat.le_of_ble_eq_true rfl⟩ rfl rfl (Nat.le_of_ble_eq_true rfl) dX6_charge_17 ?_
    refine iv_if_ne (pc := 20) C 27 dX6_charge_20 (by decide) (fun h3 => ?_) (fun h3 => ?_)
    · replace h := iw_iff h3 h
      refine iv_aload_n (pc := 27) C 0 dX6_charge_27 rfl rfl ?_
      obtain ⟨m4, em4, h⟩ := iw_be h
      refine iv_callV (pc := 28) (b := 84) (ci := 6) C [] (k_X6_saves l G hJ n σ em4) gX6_charge_X6_saves rfl qd_X6_saves ⟨rfl, rfl, Nat.le_of_ble_eq_true rfl, Nat.le_of_ble_eq_true rfl⟩ (iw_im hJ (by decide)) iw_Eo84 rfl rfl rfl (Nat.le_of_ble_eq_true rfl) dX6_charge_28 ?_
      refine iv_aload_n (pc := 31) C 0 dX6_charge_31 rfl rfl ?_
      refine iv_getf (pc := 32) (T := TX6) (N := 16) (ci := 6) C 84 0 in_X6_charge_6 (iw_im hJ (by decide)) iw_Eo84 rfl (by decide) lk_X6_charge_7 rfl rfl dX6_charge_32 ?_
      refine iv_bipush (pc := 35) C (12 : Int32) dX6_charge_35 (by decide) ?_
      refine iv_iload_n (pc := 37) C 1 dX6_charge_37 rfl rfl ?_
      refine iv_iadd (pc := 38) C dX6_charge_38 ?_
      obtain ⟨v5, ev5, h⟩ := iw_be h
      refine iv_rd (pc := 39) C 85 (iw_lm hJ rfl (by decide)) ev5 dX6_charge_39 ?_
      refine iv_istore_n (pc := 40) C [(3, .int v5), (0, .ref (G.2.1 84)), (1, .int p1), (2, .int p2)] dX6_charge_40 rfl (by decide) rfl ?_
      refine iv_aload_n (pc := 41) C 1 dX6_charge_41 rfl rfl ?_
      refine iv_getf (pc := 42) (T := TX6) (N := 16) (ci := 6) C 84 0 in_X6_charge_6 (iw_im hJ (by decide)) iw_Eo84 rfl (by decide) lk_X6_charge_7 rfl rfl dX6_charge_42 ?_
      refine iv_bipush (pc := 45) C (12 : Int32) dX6_charge_45 (by decide) ?_
      refine iv_iload_n (pc := 47) C 2 dX6_charge_47 rfl rfl ?_
      refine iv_iadd (pc := 48) C dX6_charge_48 ?_
      refine iv_iload_n (pc := 49) C 3 dX6_charge_49 rfl rfl ?_
      obtain ⟨m6, em6, h⟩ := iw_be h
      refine iv_wr (pc := 50) C 85 (iw_lm hJ rfl (by decide)) em6 dX6_charge_50 ?_
      refine iv_iload_n (pc := 51) C 0 dX6_charge_51 rfl rfl ?_
      cases h
      exact iv_iret C hr hlk rfl rfl dX6_charge_52
    · replace h := iw_ift h3 h
      refine iv_sipush (pc := 23) C (-1002 : Int32) dX6_charge_23 (by decide) ?_
      cases h
      exact iv_iret C hr hlk rfl rfl dX6_charge_26
  · replace h := iw_ift h2 h
    refine iv_sipush (pc := 8) C (-1001 : Int32) dX6_charge_8 (by decide) ?_
    cases h
    exact iv_iret C hr hlk rfl rfl dX6_charge_11
theorem qd_X6_charge : yX6_charge.cls = RX6 ∧ yX6_charge.cls ≠ "java/lang/invoke/MethodHandle" ∧ yX6_charge.cls ≠ "java/lang/invoke/VarHandle" ∧ (parseMethodDescriptor yX6_charge.desc).map (fun d => d.parameters.length) = some 2 := by decide +kernel
def f_X6_link (n : Nat) (p1 : Int32) (p2 : Int32) (p3 : Int32) (σ : iw_M) : Option (Int32 × iw_M) :=
(f_X6_isNode p1 σ).bind fun v1 =>
if v1 = (0 : Int32) then
(some ((-1001 : Int32), σ))
else
((f_X6_isNode p2 σ).bind fun v3 =>
if v3 = (0 : Int32) then
(some ((-1001 : Int32), σ))
else
(if (f_X6_in p3 (1 : Int32) (20 : Int32)) = (0 : Int32) then
(some ((-1002 : Int32), σ))
else
(if p1 = p2 then
(some ((-1003 : Int32), σ))
else
((f_X6_linkOf n p1 p2 σ).bind fun v7 =>
if v7 = (-1000 : Int32) then
((iw_rd σ 85 (1 : Int32)).bind fun v9 =>
if v9 = (20 : Int32) then
(some ((-1004 : Int32), σ))
else
((f_X6_saves n σ).bind fun m11 =>
(f_X6_laysLink p1 p2 p3 m11).bind fun m12 =>
(iw_rd m12 85 (1 : Int32)).bind fun v13 =>
some ((v13 - (1 : Int32)), m12)))
else
(some ((-1003 : Int32), σ))))))
abbrev rm_X6_link : Room := { frames := 2, cells := 0, slots := 0, locals := 48 }
theorem lk_X6_link_7 : Cond.fieldLink RX6 7 RX6 (TX6 0).2.1 (TX6 0).2.2.1 ∈ wsX6_link := by decide +kernel
theorem in_X6_link_6 : ∀ w ∈ u_ws RX6 TX6 16, w ∈ wsX6_link := by decide +kernel
set_option maxHeartbeats 4000000 in
set_option maxRecDepth 100000 in
theorem k_X6_link (l : Launch) (G : iw_G) (hJ : iw_JM G) (n : Nat) (p1 : Int32) (p2 : Int32) (p3 : Int32) (σ : iw_M) {r : Int32} {σ' : iw_M} (h : f_X6_link n p1 p2 p3 σ = some (r, σ')) : iw_Ct l yX6_link wsX6_link rm_X6_link G ([.ref (G.2.1 84), .int p1, .int p2, .int p3] : List Value) σ (some (.int r)) σ' := by
  refine iv_start (nL := 4) (own := RX6) (ret := (some .int)) (cc := cX6_link) (by decide +kernel) rfl rfl hJ.1 (Nat.le_of_ble_eq_true rfl) ?_
  intro p e s m below meth c0 C hr hlk
  refine iv_sub (lv' := [(0, .ref (G.2.1 84)), (1, .int p1), (2, .int p2), (3, .int p3)]) [0, 1, 2, 3] rfl ?_
  unfold f_X6_link at h
  refine iv_aload_n (pc := 0) C 0 dX6_link_0 rfl rfl ?_
  refine iv_iload_n (pc := 1) C 1 dX6_link_1 rfl rfl ?_
  obtain ⟨v1, ev1, h⟩ := iw_be h
  refine iv_callV (pc := 2) (b := 84) (ci := 6) C [.int p1] (k_X6_isNode l G hJ p1 σ ev1) gX6_link_X6_isNode rfl qd_X6_isNode ⟨rfl, rfl, Nat.le_of_ble_eq_true rfl, Nat.le_of_ble_eq_true rfl⟩ (iw_im hJ (by decide)) iw_Eo84 rfl rfl rfl (Nat.le_of_ble_eq_true rfl) dX6_link_2 ?_
  refine iv_if_eq (pc := 5) C 16 dX6_link_5 (by decide) (fun h2 => ?_) (fun h2 => ?_)
  · replace h := iw_ift h2 h
    refine iv_sipush (pc := 16) C (-1001 : Int32) dX6_link_16 (by decide) ?_
    cases h
    exact iv_iret C hr hlk rfl rfl dX6_link_19
  · replace h := iw_iff h2 h
    refine iv_aload_n (pc := 8) C 0 dX6_link_8 rfl rfl ?_
    refine iv_iload_n (pc := 9) C 2 dX6_link_9 rfl rfl ?_
    obtain ⟨v3, ev3, h⟩ := iw_be h
    refine iv_callV (pc := 10) (b := 84) (ci := 6) C [.int p2] (k_X6_isNode l G hJ p2 σ ev3) gX6_link_X6_isNode rfl qd_X6_isNode ⟨rfl, rfl, Nat.le_of_ble_eq_true rfl, Nat.le_of_ble_eq_true rfl⟩ (iw_im hJ (by decide)) iw_Eo84 rfl rfl rfl (Nat.le_of_ble_eq_true rfl) dX6_link_10 ?_
    refine iv_if_ne (pc := 13) C 20 dX6_link_13 (by decide) (fun h4 => ?_) (fun h4 => ?_)
    · replace h := iw_iff h4 h
      refine iv_iload_n (pc := 20) C 3 dX6_link_20 rfl rfl ?_
      refine iv_iconst (pc := 21) C (1 : Int32) dX6_link_21 (by decide) ?_
      refine iv_bipush (pc := 22) C (20 : Int32) dX6_link_22 (by decide) ?_
      refine iv_callS (pc := 24) C [.int p3, .int (1 : Int32), .int (20 : Int32)] (k_X6_in l G hJ p3 (1 : Int32) (20 : Int32) σ rfl) gX6_link_X6_in rfl qd_X6_in ⟨rfl, rfl, Nat.le_of_ble_eq_true rfl, Nat.le_of_ble_eq_true rfl⟩ rfl rfl (Nat.le_of_ble_eq_true rfl) dX6_link_24 ?_
      refine iv_if_ne (pc := 27) C 34 dX6_link_27 (by decide) (fun h5 => ?_) (fun h5 => ?_)
      · replace h := iw_iff h5 h
        refine iv_iload_n (pc := 34) C 1 dX6_link_34 rfl rfl ?_
        refine iv_iload_n (pc := 35) C 2 dX6_link_35 rfl rfl ?_
        refine iv_icmp_eq (pc := 36) C 51 dX6_link_36 (by decide) (fun h6 => ?_) (fun h6 => ?_)
        · replace h := iw_ift h6 h
          refine iv_sipush (pc := 51) C (-1003 : Int32) dX6_link_51 (by decide) ?_
          cases h
          exact iv_iret C hr hlk rfl rfl dX6_link_54
        · replace h := iw_iff h6 h
          refine iv_aload_n (pc := 39) C 0 dX6_link_39 rfl rfl ?_
          refine iv_iload_n (pc := 40) C 1 dX6_link_40 rfl rfl ?_
          refine iv_iload_n (pc := 41) C 2 dX6_link_41 rfl rfl ?_
          obtain ⟨v7, ev7, h⟩ := iw_be h
          refine iv_callV (pc := 42) (b := 84) (ci := 6) C [.int p1, .int p2] (k_X6_linkOf l G hJ n p1 p2 σ ev7) gX6_link_X6_linkOf rfl qd_X6_linkOf ⟨rfl, rfl, Nat.le_of_ble_eq_true rfl, Nat.le_of_ble_eq_true rfl⟩ (iw_im hJ (by decide)) iw_Eo84 rfl rfl rfl (Nat.le_of_ble_eq_true rfl) dX6_link_42 ?_
          refine iv_sipush (pc := 45) C (-1000 : Int32) dX6_link_45 (by decide) ?_
          refine iv_icmp_eq (pc := 48) C 55 dX6_link_48 (by decide) (fun h8 => ?_) (fun h8 => ?_)
          · replace h := iw_ift h8 h
            refine iv_aload_n (pc := 55) C 0 dX6_link_55 rfl rfl ?_
            refine iv_getf (pc := 56) (T := TX6) (N := 16) (ci := 6) C 84 0 in_X6_link_6 (iw_im hJ (by decide)) iw_Eo84 rfl (by decide) lk_X6_link_7 rfl rfl dX6_link_56 ?_
            refine iv_iconst (pc := 59) C (1 : Int32) dX6_link_59 (by decide) ?_
            obtain ⟨v9, ev9, h⟩ := iw_be h
            refine iv_rd (pc := 60) C 85 (iw_lm hJ rfl (by decide)) ev9 dX6_link_60 ?_
            refine iv_bipush (pc := 61) C (20 : Int32) dX6_link_61 (by decide) ?_
            refine iv_icmp_ne (pc := 63) C 70 dX6_link_63 (by decide) (fun h10 => ?_) (fun h10 => ?_)
            · replace h := iw_iff h10 h
              refine iv_aload_n (pc := 70) C 0 dX6_link_70 rfl rfl ?_
              obtain ⟨m11, em11, h⟩ := iw_be h
              refine iv_callV (pc := 71) (b := 84) (ci := 6) C [] (k_X6_saves l G hJ n σ em11) gX6_link_X6_saves rfl qd_X6_saves ⟨rfl, rfl, Nat.le_of_ble_eq_true rfl, Nat.le_of_ble_eq_true rfl⟩ (iw_im hJ (by decide)) iw_Eo84 rfl rfl rfl (Nat.le_of_ble_eq_true rfl) dX6_link_71 ?_
              refine iv_aload_n (pc := 74) C 0 dX6_link_74 rfl rfl ?_
              refine iv_iload_n (pc := 75) C 1 dX6_link_75 rfl rfl ?_
              refine iv_iload_n (pc := 76) C 2 dX6_link_76 rfl rfl ?_
              refine iv_iload_n (pc := 77) C 3 dX6_link_77 rfl rfl ?_
              obtain ⟨m12, em12, h⟩ := iw_be h
              refine iv_callV (pc := 78) (b := 84) (ci := 6) C [.int p1, .int p2, .int p3] (k_X6_laysLink l G hJ p1 p2 p3 m11 em12) gX6_link_X6_laysLink rfl qd_X6_laysLink ⟨rfl, rfl, Nat.le_of_ble_eq_true rfl, Nat.le_of_ble_eq_true rfl⟩ (iw_im hJ (by decide)) iw_Eo84 rfl rfl rfl (Nat.le_of_ble_eq_true rfl) dX6_link_78 ?_
              refine iv_aload_n (pc := 81) C 0 dX6_link_81 rfl rfl ?_
              refine iv_getf (pc := 82) (T := TX6) (N := 16) (ci := 6) C 84 0 in_X6_link_6 (iw_im hJ (by decide)) iw_Eo84 rfl (by decide) lk_X6_link_7 rfl rfl dX6_link_82 ?_
              refine iv_iconst (pc := 85) C (1 : Int32) dX6_link_85 (by decide) ?_
              obtain ⟨v13, ev13, h⟩ := iw_be h
              refine iv_rd (pc := 86) C 85 (iw_lm hJ rfl (by decide)) ev13 dX6_link_86 ?_
              refine iv_iconst (pc := 87) C (1 : Int32) dX6_link_87 (by decide) ?_
              refine iv_isub (pc := 88) C dX6_link_88 ?_
              cases h
              exact iv_iret C hr hlk rfl rfl dX6_link_89
            · replace h := iw_ift h10 h
              refine iv_sipush (pc := 66) C (-1004 : Int32) dX6_link_66 (by decide) ?_
              cases h
              exact iv_iret C hr hlk rfl rfl dX6_link_69
          · replace h := iw_iff h8 h
            refine iv_sipush (pc := 51) C (-1003 : Int32) dX6_link_51 (by decide) ?_
            cases h
            exact iv_iret C hr hlk rfl rfl dX6_link_54
      · replace h := iw_ift h5 h
        refine iv_sipush (pc := 30) C (-1002 : Int32) dX6_link_30 (by decide) ?_
        cases h
        exact iv_iret C hr hlk rfl rfl dX6_link_33
    · replace h := iw_ift h4 h
      refine iv_sipush (pc := 16) C (-1001 : Int32) dX6_link_16 (by decide) ?_
      cases h
      exact iv_iret C hr hlk rfl rfl dX6_link_19
theorem qd_X6_link : yX6_link.cls = RX6 ∧ yX6_link.cls ≠ "java/lang/invoke/MethodHandle" ∧ yX6_link.cls ≠ "java/lang/invoke/VarHandle" ∧ (parseMethodDescriptor yX6_link.desc).map (fun d => d.parameters.length) = some 3 := by decide +kernel
def f_X6_cut_X68_30 (m7 : iw_M) : Option (Int32 × iw_M) :=
(iw_rd m7 85 (1 : Int32)).bind fun v8 =>
some (v8, m7)
def f_X6_cut_B30 (k30 : iw_M → Option (Int32 × iw_M)) (r30 : Int32 → iw_M → Option (Int32 × iw_M)) (v9 : Int32) (m10 : iw_M) : Option (Int32 × iw_M) :=
(iw_rd m10 85 (1 : Int32)).bind fun v11 =>
if ((3 : Int32) * v11) ≤ v9 then
(k30 m10)
else
((iw_rd m10 85 (((22 : Int32) + v9) + (3 : Int32))).bind fun v13 =>
(iw_wr m10 85 ((22 : Int32) + v9) v13).bind fun m14 =>
iw_let (v9 + (1 : Int32)) fun v15 =>
r30 v15 m14)
def f_X6_cut_L30 (k30 : iw_M → Option (Int32 × iw_M)) (nn : Nat) : Int32 → iw_M → Option (Int32 × iw_M) :=
iw_it (fun r30 => f_X6_cut_B30 k30 r30) (fun _ _ => none) nn
def f_X6_cut (n : Nat) (p1 : Int32) (σ : iw_M) : Option (Int32 × iw_M) :=
(f_X6_isLink p1 σ).bind fun v1 =>
if v1 = (0 : Int32) then
(some ((-1001 : Int32), σ))
else
((f_X6_saves n σ).bind fun m3 =>
(iw_rd m3 85 (1 : Int32)).bind fun v4 =>
(iw_wr m3 85 (1 : Int32) (v4 - (1 : Int32))).bind fun m5 =>
iw_let ((3 : Int32) * p1) fun v6 =>
f_X6_cut_L30 (f_X6_cut_X68_30) n v6 m5)
abbrev rm_X6_cut : Room := { frames := 2, cells := 0, slots := 0, locals := 44 }
theorem lk_X6_cut_7 : Cond.fieldLink RX6 7 RX6 (TX6 0).2.1 (TX6 0).2.2.1 ∈ wsX6_cut := by decide +kernel
theorem in_X6_cut_6 : ∀ w ∈ u_ws RX6 TX6 16, w ∈ wsX6_cut := by decide +kernel
set_option maxHeartbeats 4000000 in
set_option maxRecDepth 100000 in
theorem k_X6_cut (l : Launch) (G : iw_G) (hJ : iw_JM G) (n : Nat) (p1 : Int32) (σ : iw_M) {r : Int32} {σ' : iw_M} (h : f_X6_cut n p1 σ = some (r, σ')) : iw_Ct l yX6_cut wsX6_cut rm_X6_cut G ([.ref (G.2.1 84), .int p1] : List Value) σ (some (.int r)) σ' := by
  refine iv_start (nL := 3) (own := RX6) (ret := (some .int)) (cc := cX6_cut) (by decide +kernel) rfl rfl hJ.1 (Nat.le_of_ble_eq_true rfl) ?_
  intro p e s m below meth c0 C hr hlk
  refine iv_sub (lv' := [(0, .ref (G.2.1 84)), (1, .int p1)]) [0, 1] rfl ?_
  unfold f_X6_cut at h
  refine iv_aload_n (pc := 0) C 0 dX6_cut_0 rfl rfl ?_
  refine iv_iload_n (pc := 1) C 1 dX6_cut_1 rfl rfl ?_
  obtain ⟨v1, ev1, h⟩ := iw_be h
  refine iv_callV (pc := 2) (b := 84) (ci := 6) C [.int p1] (k_X6_isLink l G hJ p1 σ ev1) gX6_cut_X6_isLink rfl qd_X6_isLink ⟨rfl, rfl, Nat.le_of_ble_eq_true rfl, Nat.le_of_ble_eq_true rfl⟩ (iw_im hJ (by decide)) iw_Eo84 rfl rfl rfl (Nat.le_of_ble_eq_true rfl) dX6_cut_2 ?_
  refine iv_if_ne (pc := 5) C 12 dX6_cut_5 (by decide) (fun h2 => ?_) (fun h2 => ?_)
  · replace h := iw_iff h2 h
    refine iv_aload_n (pc := 12) C 0 dX6_cut_12 rfl rfl ?_
    obtain ⟨m3, em3, h⟩ := iw_be h
    refine iv_callV (pc := 13) (b := 84) (ci := 6) C [] (k_X6_saves l G hJ n σ em3) gX6_cut_X6_saves rfl qd_X6_saves ⟨rfl, rfl, Nat.le_of_ble_eq_true rfl, Nat.le_of_ble_eq_true rfl⟩ (iw_im hJ (by decide)) iw_Eo84 rfl rfl rfl (Nat.le_of_ble_eq_true rfl) dX6_cut_13 ?_
    refine iv_aload_n (pc := 16) C 0 dX6_cut_16 rfl rfl ?_
    refine iv_getf (pc := 17) (T := TX6) (N := 16) (ci := 6) C 84 0 in_X6_cut_6 (iw_im hJ (by decide)) iw_Eo84 rfl (by decide) lk_X6_cut_7 rfl rfl dX6_cut_17 ?_
    refine iv_iconst (pc := 20) C (1 : Int32) dX6_cut_20 (by decide) ?_
    refine iv_dup2 (pc := 21) C rfl rfl dX6_cut_21 ?_
    obtain ⟨v4, ev4, h⟩ := iw_be h
    refine iv_rd (pc := 22) C 85 (iw_lm hJ rfl (by decide)) ev4 dX6_cut_22 ?_
    refine iv_iconst (pc := 23) C (1 : Int32) dX6_cut_23 (by decide) ?_
    refine iv_isub (pc := 24) C dX6_cut_24 ?_
    obtain ⟨m5, em5, h⟩ := iw_be h
    refine iv_wr (pc := 25) C 85 (iw_lm hJ rfl (by decide)) em5 dX6_cut_25 ?_
    refine iv_iconst (pc := 26) C (3 : Int32) dX6_cut_26 (by decide) ?_
    refine iv_iload_n (pc := 27) C 1 dX6_cut_27 rfl rfl ?_
    refine iv_imul (pc := 28) C dX6_cut_28 ?_
    refine iv_topi (fun v6 ev6 => ?_)
    replace h := iw_lete ev6 h
    refine iv_istore_n (pc := 29) C [(2, .int v6), (0, .ref (G.2.1 84)), (1, .int p1)] dX6_cut_29 rfl (by decide) rfl ?_
    have vX30 : ∀ (m7 : iw_M), f_X6_cut_X68_30 m7 = some (r, σ') → iw_V p l e rm_X6_cut s m ([.ref (G.2.1 84), .int p1] : List Value).toArray below meth c0 0 0 (MQ below (iw_Q (some (.int r)) G σ') ([.ref (G.2.1 84), .int p1] : List Value).toArray s 0 0 (iw_A G)) 3 G (iw_A G) m7 68 [(0, .ref (G.2.1 84))] [] := by
      intro m7 h
      unfold f_X6_cut_X68_30 at h
      refine iv_aload_n (pc := 68) C 0 dX6_cut_68 rfl rfl ?_
      refine iv_getf (pc := 69) (T := TX6) (N := 16) (ci := 6) C 84 0 in_X6_cut_6 (iw_im hJ (by decide)) iw_Eo84 rfl (by decide) lk_X6_cut_7 rfl rfl dX6_cut_69 ?_
      refine iv_iconst (pc := 72) C (1 : Int32) dX6_cut_72 (by decide) ?_
      obtain ⟨v8, ev8, h⟩ := iw_be h
      refine iv_rd (pc := 73) C 85 (iw_lm hJ rfl (by decide)) ev8 dX6_cut_73 ?_
      cases h
      exact iv_iret C hr hlk rfl rfl dX6_cut_74
    have vB30 : ∀ (k30 : iw_M → Option (Int32 × iw_M)) (r30 : Int32 → iw_M → Option (Int32 × iw_M)), (∀ (m7 : iw_M), k30 m7 = some (r, σ') → iw_V p l e rm_X6_cut s m ([.ref (G.2.1 84), .int p1] : List Value).toArray below meth c0 0 0 (MQ below (iw_Q (some (.int r)) G σ') ([.ref (G.2.1 84), .int p1] : List Value).toArray s 0 0 (iw_A G)) 3 G (iw_A G) m7 68 [(0, .ref (G.2.1 84))] []) → (∀ (v9 : Int32) (m10 : iw_M), r30 v9 m10 = some (r, σ') → iw_V p l e rm_X6_cut s m ([.ref (G.2.1 84), .int p1] : List Value).toArray below meth c0 0 0 (MQ below (iw_Q (some (.int r)) G σ') ([.ref (G.2.1 84), .int p1] : List Value).toArray s 0 0 (iw_A G)) 3 G (iw_A G) m10 30 [(0, .ref (G.2.1 84)), (2, .int v9)] []) → ∀ (v9 : Int32) (m10 : iw_M), f_X6_cut_B30  k30 r30 v9 m10 = some (r, σ') → iw_V p l e rm_X6_cut s m ([.ref (G.2.1 84), .int p1] : List Value).toArray below meth c0 0 0 (MQ below (iw_Q (some (.int r)) G σ') ([.ref (G.2.1 84), .int p1] : List Value).toArray s 0 0 (iw_A G)) 3 G (iw_A G) m10 30 [(0, .ref (G.2.1 84)), (2, .int v9)] [] := by
      intro k30 r30 hk30 hr30 v9 m10 h
      unfold f_X6_cut_B30 at h
      refine iv_iload_n (pc := 30) C 1 dX6_cut_30 rfl rfl ?_
      refine iv_iconst (pc := 31) C (3 : Int32) dX6_cut_31 (by decide) ?_
      refine iv_aload_n (pc := 32) C 0 dX6_cut_32 rfl rfl ?_
      refine iv_getf (pc := 33) (T := TX6) (N := 16) (ci := 6) C 84 0 in_X6_cut_6 (iw_im hJ (by decide)) iw_Eo84 rfl (by decide) lk_X6_cut_7 rfl rfl dX6_cut_33 ?_
      refine iv_iconst (pc := 36) C (1 : Int32) dX6_cut_36 (by decide) ?_
      obtain ⟨v11, ev11, h⟩ := iw_be h
      refine iv_rd (pc := 37) C 85 (iw_lm hJ rfl (by decide)) ev11 dX6_cut_37 ?_
      refine iv_imul (pc := 38) C dX6_cut_38 ?_
      refine iv_icmp_ge (pc := 39) C 68 dX6_cut_39 (by decide) (fun h12 => ?_) (fun h12 => ?_)
      · replace h := iw_ift h12 h
        exact iv_sub [0] rfl (hk30 m10 h)
      · replace h := iw_iff h12 h
        refine iv_aload_n (pc := 42) C 0 dX6_cut_42 rfl rfl ?_
        refine iv_getf (pc := 43) (T := TX6) (N := 16) (ci := 6) C 84 0 in_X6_cut_6 (iw_im hJ (by decide)) iw_Eo84 rfl (by decide) lk_X6_cut_7 rfl rfl dX6_cut_43 ?_
        refine iv_bipush (pc := 46) C (22 : Int32) dX6_cut_46 (by decide) ?_
        refine iv_iload_n (pc := 48) C 1 dX6_cut_48 rfl rfl ?_
        refine iv_iadd (pc := 49) C dX6_cut_49 ?_
        refine iv_aload_n (pc := 50) C 0 dX6_cut_50 rfl rfl ?_
        refine iv_getf (pc := 51) (T := TX6) (N := 16) (ci := 6) C 84 0 in_X6_cut_6 (iw_im hJ (by decide)) iw_Eo84 rfl (by decide) lk_X6_cut_7 rfl rfl dX6_cut_51 ?_
        refine iv_bipush (pc := 54) C (22 : Int32) dX6_cut_54 (by decide) ?_
        refine iv_iload_n (pc := 56) C 1 dX6_cut_56 rfl rfl ?_
        refine iv_iadd (pc := 57) C dX6_cut_57 ?_
        refine iv_iconst (pc := 58) C (3 : Int32) dX6_cut_58 (by decide) ?_
        refine iv_iadd (pc := 59) C dX6_cut_59 ?_
        obtain ⟨v13, ev13, h⟩ := iw_be h
        refine iv_rd (pc := 60) C 85 (iw_lm hJ rfl (by decide)) ev13 dX6_cut_60 ?_
        obtain ⟨m14, em14, h⟩ := iw_be h
        refine iv_wr (pc := 61) C 85 (iw_lm hJ rfl (by decide)) em14 dX6_cut_61 ?_
        obtain ⟨v15, ev15⟩ : ∃ y : Int32, y = v9 + (1 : Int32) := ⟨_, rfl⟩
        replace h := iw_lete ev15 h
        refine iv_iinc (pc := 62) C 1 v15 [(2, .int v15), (0, .ref (G.2.1 84))] dX6_cut_62 rfl (by rw [ev15]; rfl) (by decide) rfl ?_
        refine iv_goto (pc := 65) C 30 dX6_cut_65 (by decide) ?_
        exact iv_sub [1, 0] rfl (hr30 v15 m14 h)
    have vL30 : ∀ (nn : Nat) (v9 : Int32) (m10 : iw_M), f_X6_cut_L30  (f_X6_cut_X68_30) nn v9 m10 = some (r, σ') → iw_V p l e rm_X6_cut s m ([.ref (G.2.1 84), .int p1] : List Value).toArray below meth c0 0 0 (MQ below (iw_Q (some (.int r)) G σ') ([.ref (G.2.1 84), .int p1] : List Value).toArray s 0 0 (iw_A G)) 3 G (iw_A G) m10 30 [(0, .ref (G.2.1 84)), (2, .int v9)] [] := by
      intro nn
      induction nn with
      | zero => intro v9 m10 h; exact absurd h (fun q => by cases q)
      | succ nn ih => intro v9 m10 h; exact vB30 (f_X6_cut_X68_30) (f_X6_cut_L30  (f_X6_cut_X68_30) nn) vX30 ih v9 m10 h
    exact iv_sub [1, 0] rfl (vL30 n v6 m5 h)
  · replace h := iw_ift h2 h
    refine iv_sipush (pc := 8) C (-1001 : Int32) dX6_cut_8 (by decide) ?_
    cases h
    exact iv_iret C hr hlk rfl rfl dX6_cut_11
theorem qd_X6_cut : yX6_cut.cls = RX6 ∧ yX6_cut.cls ≠ "java/lang/invoke/MethodHandle" ∧ yX6_cut.cls ≠ "java/lang/invoke/VarHandle" ∧ (parseMethodDescriptor yX6_cut.desc).map (fun d => d.parameters.length) = some 1 := by decide +kernel
def f_X6_isKind (p1 : Int32) : Int32 :=
((f_X6_in p1 (0 : Int32) (7 : Int32)) &&& 1)
abbrev rm_X6_isKind : Room := { frames := 1, cells := 0, slots := 0, locals := 22 }
set_option maxHeartbeats 4000000 in
set_option maxRecDepth 100000 in
theorem k_X6_isKind (l : Launch) (G : iw_G) (hJ : iw_JM G) (p1 : Int32) (σ : iw_M) {r : Int32} (h : f_X6_isKind p1 = r) : iw_Ct l yX6_isKind wsX6_isKind rm_X6_isKind G ([.int p1] : List Value) σ (some (.int r)) σ := by
  refine iv_start (nL := 1) (own := RX6) (ret := (some .boolean)) (cc := cX6_isKind) (by decide +kernel) rfl rfl hJ.1 (Nat.le_of_ble_eq_true rfl) ?_
  intro p e s m below meth c0 C hr hlk
  refine iv_sub (lv' := [(0, .int p1)]) [0] rfl ?_
  unfold f_X6_isKind at h
  refine iv_iload_n (pc := 0) C 0 dX6_isKind_0 rfl rfl ?_
  refine iv_iconst (pc := 1) C (0 : Int32) dX6_isKind_1 (by decide) ?_
  refine iv_bipush (pc := 2) C (7 : Int32) dX6_isKind_2 (by decide) ?_
  refine iv_callS (pc := 4) C [.int p1, .int (0 : Int32), .int (7 : Int32)] (k_X6_in l G hJ p1 (0 : Int32) (7 : Int32) σ rfl) gX6_isKind_X6_in rfl qd_X6_in ⟨rfl, rfl, Nat.le_of_ble_eq_true rfl, Nat.le_of_ble_eq_true rfl⟩ rfl rfl (Nat.le_of_ble_eq_true rfl) dX6_isKind_4 ?_
  cases h
  exact iv_zret C hr hlk rfl rfl dX6_isKind_7
theorem qd_X6_isKind : yX6_isKind.cls ≠ "java/lang/invoke/MethodHandle" ∧ yX6_isKind.cls ≠ "java/lang/invoke/VarHandle" ∧ (parseMethodDescriptor yX6_isKind.desc).map (fun d => d.parameters.length) = some 1 := by decide +kernel
def f_X6_isMeasure (p1 : Int32) : Int32 :=
((f_X6_in p1 (-100 : Int32) (100 : Int32)) &&& 1)
abbrev rm_X6_isMeasure : Room := { frames := 1, cells := 0, slots := 0, locals := 22 }
set_option maxHeartbeats 4000000 in
set_option maxRecDepth 100000 in
theorem k_X6_isMeasure (l : Launch) (G : iw_G) (hJ : iw_JM G) (p1 : Int32) (σ : iw_M) {r : Int32} (h : f_X6_isMeasure p1 = r) : iw_Ct l yX6_isMeasure wsX6_isMeasure rm_X6_isMeasure G ([.int p1] : List Value) σ (some (.int r)) σ := by
  refine iv_start (nL := 1) (own := RX6) (ret := (some .boolean)) (cc := cX6_isMeasure) (by decide +kernel) rfl rfl hJ.1 (Nat.le_of_ble_eq_true rfl) ?_
  intro p e s m below meth c0 C hr hlk
  refine iv_sub (lv' := [(0, .int p1)]) [0] rfl ?_
  unfold f_X6_isMeasure at h
  refine iv_iload_n (pc := 0) C 0 dX6_isMeasure_0 rfl rfl ?_
  refine iv_bipush (pc := 1) C (-100 : Int32) dX6_isMeasure_1 (by decide) ?_
  refine iv_bipush (pc := 3) C (100 : Int32) dX6_isMeasure_3 (by decide) ?_
  refine iv_callS (pc := 5) C [.int p1, .int (-100 : Int32), .int (100 : Int32)] (k_X6_in l G hJ p1 (-100 : Int32) (100 : Int32) σ rfl) gX6_isMeasure_X6_in rfl qd_X6_in ⟨rfl, rfl, Nat.le_of_ble_eq_true rfl, Nat.le_of_ble_eq_true rfl⟩ rfl rfl (Nat.le_of_ble_eq_true rfl) dX6_isMeasure_5 ?_
  cases h
  exact iv_zret C hr hlk rfl rfl dX6_isMeasure_8
theorem qd_X6_isMeasure : yX6_isMeasure.cls ≠ "java/lang/invoke/MethodHandle" ∧ yX6_isMeasure.cls ≠ "java/lang/invoke/VarHandle" ∧ (parseMethodDescriptor yX6_isMeasure.desc).map (fun d => d.parameters.length) = some 1 := by decide +kernel
def f_X6_addSensor (n : Nat) (p1 : Int32) (p2 : Int32) (p3 : Int32) (σ : iw_M) : Option (Int32 × iw_M) :=
(f_X6_isNode p1 σ).bind fun v1 =>
if v1 = (0 : Int32) then
(some ((-1001 : Int32), σ))
else
(if (f_X6_isKind p2) = (0 : Int32) then
(some ((-1002 : Int32), σ))
else
(if (f_X6_isMeasure p3) = (0 : Int32) then
(some ((-1002 : Int32), σ))
else
((iw_rd σ 85 (2 : Int32)).bind fun v5 =>
if v5 = (6 : Int32) then
(some ((-1004 : Int32), σ))
else
((f_X6_saves n σ).bind fun m7 =>
(f_X6_laysSensor n p1 p2 p3 m7).bind fun m8 =>
(iw_rd m8 85 (2 : Int32)).bind fun v9 =>
some ((v9 - (1 : Int32)), m8)))))
abbrev rm_X6_addSensor : Room := { frames := 2, cells := 0, slots := 0, locals := 47 }
theorem lk_X6_addSensor_7 : Cond.fieldLink RX6 7 RX6 (TX6 0).2.1 (TX6 0).2.2.1 ∈ wsX6_addSensor := by decide +kernel
theorem in_X6_addSensor_6 : ∀ w ∈ u_ws RX6 TX6 16, w ∈ wsX6_addSensor := by decide +kernel
set_option maxHeartbeats 4000000 in
set_option maxRecDepth 100000 in
theorem k_X6_addSensor (l : Launch) (G : iw_G) (hJ : iw_JM G) (n : Nat) (p1 : Int32) (p2 : Int32) (p3 : Int32) (σ : iw_M) {r : Int32} {σ' : iw_M} (h : f_X6_addSensor n p1 p2 p3 σ = some (r, σ')) : iw_Ct l yX6_addSensor wsX6_addSensor rm_X6_addSensor G ([.ref (G.2.1 84), .int p1, .int p2, .int p3] : List Value) σ (some (.int r)) σ' := by
  refine iv_start (nL := 4) (own := RX6) (ret := (some .int)) (cc := cX6_addSensor) (by decide +kernel) rfl rfl hJ.1 (Nat.le_of_ble_eq_true rfl) ?_
  intro p e s m below meth c0 C hr hlk
  refine iv_sub (lv' := [(0, .ref (G.2.1 84)), (1, .int p1), (2, .int p2), (3, .int p3)]) [0, 1, 2, 3] rfl ?_
  unfold f_X6_addSensor at h
  refine iv_aload_n (pc := 0) C 0 dX6_addSensor_0 rfl rfl ?_
  refine iv_iload_n (pc := 1) C 1 dX6_addSensor_1 rfl rfl ?_
  obtain ⟨v1, ev1, h⟩ := iw_be h
  refine iv_callV (pc := 2) (b := 84) (ci := 6) C [.int p1] (k_X6_isNode l G hJ p1 σ ev1) gX6_addSensor_X6_isNode rfl qd_X6_isNode ⟨rfl, rfl, Nat.le_of_ble_eq_true rfl, Nat.le_of_ble_eq_true rfl⟩ (iw_im hJ (by decide)) iw_Eo84 rfl rfl rfl (Nat.le_of_ble_eq_true rfl) dX6_addSensor_2 ?_
  refine iv_if_ne (pc := 5) C 12 dX6_addSensor_5 (by decide) (fun h2 => ?_) (fun h2 => ?_)
  · replace h := iw_iff h2 h
    refine iv_iload_n (pc := 12) C 2 dX6_addSensor_12 rfl rfl ?_
    refine iv_callS (pc := 13) C [.int p2] (k_X6_isKind l G hJ p2 σ rfl) gX6_addSensor_X6_isKind rfl qd_X6_isKind ⟨rfl, rfl, Nat.le_of_ble_eq_true rfl, Nat.le_of_ble_eq_true rfl⟩ rfl rfl (Nat.le_of_ble_eq_true rfl) dX6_addSensor_13 ?_
    refine iv_if_eq (pc := 16) C 26 dX6_addSensor_16 (by decide) (fun h3 => ?_) (fun h3 => ?_)
    · replace h := iw_ift h3 h
      refine iv_sipush (pc := 26) C (-1002 : Int32) dX6_addSensor_26 (by decide) ?_
      cases h
      exact iv_iret C hr hlk rfl rfl dX6_addSensor_29
    · replace h := iw_iff h3 h
      refine iv_iload_n (pc := 19) C 3 dX6_addSensor_19 rfl rfl ?_
      refine iv_callS (pc := 20) C [.int p3] (k_X6_isMeasure l G hJ p3 σ rfl) gX6_addSensor_X6_isMeasure rfl qd_X6_isMeasure ⟨rfl, rfl, Nat.le_of_ble_eq_true rfl, Nat.le_of_ble_eq_true rfl⟩ rfl rfl (Nat.le_of_ble_eq_true rfl) dX6_addSensor_20 ?_
      refine iv_if_ne (pc := 23) C 30 dX6_addSensor_23 (by decide) (fun h4 => ?_) (fun h4 => ?_)
      · replace h := iw_iff h4 h
        refine iv_aload_n (pc := 30) C 0 dX6_addSensor_30 rfl rfl ?_
        refine iv_getf (pc := 31) (T := TX6) (N := 16) (ci := 6) C 84 0 in_X6_addSensor_6 (iw_im hJ (by decide)) iw_Eo84 rfl (by decide) lk_X6_addSensor_7 rfl rfl dX6_addSensor_31 ?_
        refine iv_iconst (pc := 34) C (2 : Int32) dX6_addSensor_34 (by decide) ?_
        obtain ⟨v5, ev5, h⟩ := iw_be h
        refine iv_rd (pc := 35) C 85 (iw_lm hJ rfl (by decide)) ev5 dX6_addSensor_35 ?_
        refine iv_bipush (pc := 36) C (6 : Int32) dX6_addSensor_36 (by decide) ?_
        refine iv_icmp_ne (pc := 38) C 45 dX6_addSensor_38 (by decide) (fun h6 => ?_) (fun h6 => ?_)
        · replace h := iw_iff h6 h
          refine iv_aload_n (pc := 45) C 0 dX6_addSensor_45 rfl rfl ?_
          obtain ⟨m7, em7, h⟩ := iw_be h
          refine iv_callV (pc := 46) (b := 84) (ci := 6) C [] (k_X6_saves l G hJ n σ em7) gX6_addSensor_X6_saves rfl qd_X6_saves ⟨rfl, rfl, Nat.le_of_ble_eq_true rfl, Nat.le_of_ble_eq_true rfl⟩ (iw_im hJ (by decide)) iw_Eo84 rfl rfl rfl (Nat.le_of_ble_eq_true rfl) dX6_addSensor_46 ?_
          refine iv_aload_n (pc := 49) C 0 dX6_addSensor_49 rfl rfl ?_
          refine iv_iload_n (pc := 50) C 1 dX6_addSensor_50 rfl rfl ?_
          refine iv_iload_n (pc := 51) C 2 dX6_addSensor_51 rfl rfl ?_
          refine iv_iload_n (pc := 52) C 3 dX6_addSensor_52 rfl rfl ?_
          obtain ⟨m8, em8, h⟩ := iw_be h
          refine iv_callV (pc := 53) (b := 84) (ci := 6) C [.int p1, .int p2, .int p3] (k_X6_laysSensor l G hJ n p1 p2 p3 m7 em8) gX6_addSensor_X6_laysSensor rfl qd_X6_laysSensor ⟨rfl, rfl, Nat.le_of_ble_eq_true rfl, Nat.le_of_ble_eq_true rfl⟩ (iw_im hJ (by decide)) iw_Eo84 rfl rfl rfl (Nat.le_of_ble_eq_true rfl) dX6_addSensor_53 ?_
          refine iv_aload_n (pc := 56) C 0 dX6_addSensor_56 rfl rfl ?_
          refine iv_getf (pc := 57) (T := TX6) (N := 16) (ci := 6) C 84 0 in_X6_addSensor_6 (iw_im hJ (by decide)) iw_Eo84 rfl (by decide) lk_X6_addSensor_7 rfl rfl dX6_addSensor_57 ?_
          refine iv_iconst (pc := 60) C (2 : Int32) dX6_addSensor_60 (by decide) ?_
          obtain ⟨v9, ev9, h⟩ := iw_be h
          refine iv_rd (pc := 61) C 85 (iw_lm hJ rfl (by decide)) ev9 dX6_addSensor_61 ?_
          refine iv_iconst (pc := 62) C (1 : Int32) dX6_addSensor_62 (by decide) ?_
          refine iv_isub (pc := 63) C dX6_addSensor_63 ?_
          cases h
          exact iv_iret C hr hlk rfl rfl dX6_addSensor_64
        · replace h := iw_ift h6 h
          refine iv_sipush (pc := 41) C (-1004 : Int32) dX6_addSensor_41 (by decide) ?_
          cases h
          exact iv_iret C hr hlk rfl rfl dX6_addSensor_44
      · replace h := iw_ift h4 h
        refine iv_sipush (pc := 26) C (-1002 : Int32) dX6_addSensor_26 (by decide) ?_
        cases h
        exact iv_iret C hr hlk rfl rfl dX6_addSensor_29
  · replace h := iw_ift h2 h
    refine iv_sipush (pc := 8) C (-1001 : Int32) dX6_addSensor_8 (by decide) ?_
    cases h
    exact iv_iret C hr hlk rfl rfl dX6_addSensor_11
theorem qd_X6_addSensor : yX6_addSensor.cls = RX6 ∧ yX6_addSensor.cls ≠ "java/lang/invoke/MethodHandle" ∧ yX6_addSensor.cls ≠ "java/lang/invoke/VarHandle" ∧ (parseMethodDescriptor yX6_addSensor.desc).map (fun d => d.parameters.length) = some 3 := by decide +kernel
def f_X6_measure (n : Nat) (p1 : Int32) (p2 : Int32) (σ : iw_M) : Option (Int32 × iw_M) :=
(f_X6_isSensor p1 σ).bind fun v1 =>
if v1 = (0 : Int32) then
(some ((-1001 : Int32), σ))
else
(if (f_X6_isMeasure p2) = (0 : Int32) then
(some ((-1002 : Int32), σ))
else
((f_X6_saves n σ).bind fun m4 =>
(f_X6_ofSensor p1 (2 : Int32) m4).bind fun v5 =>
(iw_wr m4 85 (((82 : Int32) + ((3 : Int32) * p1)) + (2 : Int32)) p2).bind fun m6 =>
some (v5, m6)))
abbrev rm_X6_measure : Room := { frames := 2, cells := 0, slots := 0, locals := 44 }
theorem lk_X6_measure_7 : Cond.fieldLink RX6 7 RX6 (TX6 0).2.1 (TX6 0).2.2.1 ∈ wsX6_measure := by decide +kernel
theorem in_X6_measure_6 : ∀ w ∈ u_ws RX6 TX6 16, w ∈ wsX6_measure := by decide +kernel
set_option maxHeartbeats 4000000 in
set_option maxRecDepth 100000 in
theorem k_X6_measure (l : Launch) (G : iw_G) (hJ : iw_JM G) (n : Nat) (p1 : Int32) (p2 : Int32) (σ : iw_M) {r : Int32} {σ' : iw_M} (h : f_X6_measure n p1 p2 σ = some (r, σ')) : iw_Ct l yX6_measure wsX6_measure rm_X6_measure G ([.ref (G.2.1 84), .int p1, .int p2] : List Value) σ (some (.int r)) σ' := by
  refine iv_start (nL := 4) (own := RX6) (ret := (some .int)) (cc := cX6_measure) (by decide +kernel) rfl rfl hJ.1 (Nat.le_of_ble_eq_true rfl) ?_
  intro p e s m below meth c0 C hr hlk
  refine iv_sub (lv' := [(0, .ref (G.2.1 84)), (1, .int p1), (2, .int p2)]) [0, 1, 2] rfl ?_
  unfold f_X6_measure at h
  refine iv_aload_n (pc := 0) C 0 dX6_measure_0 rfl rfl ?_
  refine iv_iload_n (pc := 1) C 1 dX6_measure_1 rfl rfl ?_
  obtain ⟨v1, ev1, h⟩ := iw_be h
  refine iv_callV (pc := 2) (b := 84) (ci := 6) C [.int p1] (k_X6_isSensor l G hJ p1 σ ev1) gX6_measure_X6_isSensor rfl qd_X6_isSensor ⟨rfl, rfl, Nat.le_of_ble_eq_true rfl, Nat.le_of_ble_eq_true rfl⟩ (iw_im hJ (by decide)) iw_Eo84 rfl rfl rfl (Nat.le_of_ble_eq_true rfl) dX6_measure_2 ?_
  refine iv_if_ne (pc := 5) C 12 dX6_measure_5 (by decide) (fun h2 => ?_) (fun h2 => ?_)
  · replace h := iw_iff h2 h
    refine iv_iload_n (pc := 12) C 2 dX6_measure_12 rfl rfl ?_
    refine iv_callS (pc := 13) C [.int p2] (k_X6_isMeasure l G hJ p2 σ rfl) gX6_measure_X6_isMeasure rfl qd_X6_isMeasure ⟨rfl, rfl, Nat.le_of_ble_eq_true rfl, Nat.le_of_ble_eq_true rfl⟩ rfl rfl (Nat.le_of_ble_eq_true rfl) dX6_measure_13 ?_
    refine iv_if_ne (pc := 16) C 23 dX6_measure_16 (by decide) (fun h3 => ?_) (fun h3 => ?_)
    · replace h := iw_iff h3 h
      refine iv_aload_n (pc := 23) C 0 dX6_measure_23 rfl rfl ?_
      obtain ⟨m4, em4, h⟩ := iw_be h
      refine iv_callV (pc := 24) (b := 84) (ci := 6) C [] (k_X6_saves l G hJ n σ em4) gX6_measure_X6_saves rfl qd_X6_saves ⟨rfl, rfl, Nat.le_of_ble_eq_true rfl, Nat.le_of_ble_eq_true rfl⟩ (iw_im hJ (by decide)) iw_Eo84 rfl rfl rfl (Nat.le_of_ble_eq_true rfl) dX6_measure_24 ?_
      refine iv_aload_n (pc := 27) C 0 dX6_measure_27 rfl rfl ?_
      refine iv_iload_n (pc := 28) C 1 dX6_measure_28 rfl rfl ?_
      refine iv_iconst (pc := 29) C (2 : Int32) dX6_measure_29 (by decide) ?_
      obtain ⟨v5, ev5, h⟩ := iw_be h
      refine iv_callV (pc := 30) (b := 84) (ci := 6) C [.int p1, .int (2 : Int32)] (k_X6_ofSensor l G hJ p1 (2 : Int32) m4 ev5) gX6_measure_X6_ofSensor rfl qd_X6_ofSensor ⟨rfl, rfl, Nat.le_of_ble_eq_true rfl, Nat.le_of_ble_eq_true rfl⟩ (iw_im hJ (by decide)) iw_Eo84 rfl rfl rfl (Nat.le_of_ble_eq_true rfl) dX6_measure_30 ?_
      refine iv_istore_n (pc := 33) C [(3, .int v5), (0, .ref (G.2.1 84)), (1, .int p1), (2, .int p2)] dX6_measure_33 rfl (by decide) rfl ?_
      refine iv_aload_n (pc := 34) C 1 dX6_measure_34 rfl rfl ?_
      refine iv_getf (pc := 35) (T := TX6) (N := 16) (ci := 6) C 84 0 in_X6_measure_6 (iw_im hJ (by decide)) iw_Eo84 rfl (by decide) lk_X6_measure_7 rfl rfl dX6_measure_35 ?_
      refine iv_bipush (pc := 38) C (82 : Int32) dX6_measure_38 (by decide) ?_
      refine iv_iconst (pc := 40) C (3 : Int32) dX6_measure_40 (by decide) ?_
      refine iv_iload_n (pc := 41) C 2 dX6_measure_41 rfl rfl ?_
      refine iv_imul (pc := 42) C dX6_measure_42 ?_
      refine iv_iadd (pc := 43) C dX6_measure_43 ?_
      refine iv_iconst (pc := 44) C (2 : Int32) dX6_measure_44 (by decide) ?_
      refine iv_iadd (pc := 45) C dX6_measure_45 ?_
      refine iv_iload_n (pc := 46) C 3 dX6_measure_46 rfl rfl ?_
      obtain ⟨m6, em6, h⟩ := iw_be h
      refine iv_wr (pc := 47) C 85 (iw_lm hJ rfl (by decide)) em6 dX6_measure_47 ?_
      refine iv_iload_n (pc := 48) C 0 dX6_measure_48 rfl rfl ?_
      cases h
      exact iv_iret C hr hlk rfl rfl dX6_measure_49
    · replace h := iw_ift h3 h
      refine iv_sipush (pc := 19) C (-1002 : Int32) dX6_measure_19 (by decide) ?_
      cases h
      exact iv_iret C hr hlk rfl rfl dX6_measure_22
  · replace h := iw_ift h2 h
    refine iv_sipush (pc := 8) C (-1001 : Int32) dX6_measure_8 (by decide) ?_
    cases h
    exact iv_iret C hr hlk rfl rfl dX6_measure_11
theorem qd_X6_measure : yX6_measure.cls = RX6 ∧ yX6_measure.cls ≠ "java/lang/invoke/MethodHandle" ∧ yX6_measure.cls ≠ "java/lang/invoke/VarHandle" ∧ (parseMethodDescriptor yX6_measure.desc).map (fun d => d.parameters.length) = some 2 := by decide +kernel
def f_X6_ask_X194_167 (v11 : Int32) (m20 : iw_M) : Option (Int32 × iw_M) :=
(iw_rd m20 85 (3 : Int32)).bind fun v21 =>
(iw_wr m20 85 (3 : Int32) (v21 + (1 : Int32))).bind fun m22 =>
some (v11, m22)
def f_X6_ask_B167 (v11 : Int32) (k167 : iw_M → Option (Int32 × iw_M)) (r167 : Int32 → iw_M → Option (Int32 × iw_M)) (v23 : Int32) (m24 : iw_M) : Option (Int32 × iw_M) :=
if (6 : Int32) ≤ v23 then
(k167 m24)
else
((iw_wr m24 85 (f_X6_wayAt v11 v23) (0 : Int32)).bind fun m26 =>
iw_let (v23 + (1 : Int32)) fun v27 =>
r167 v27 m26)
def f_X6_ask_L167 (v11 : Int32) (k167 : iw_M → Option (Int32 × iw_M)) (nn : Nat) : Int32 → iw_M → Option (Int32 × iw_M) :=
iw_it (fun r167 => f_X6_ask_B167 v11 k167 r167) (fun _ _ => none) nn
def f_X6_ask (n : Nat) (p1 : Int32) (p2 : Int32) (p3 : Int32) (p4 : Int32) (p5 : Int32) (σ : iw_M) : Option (Int32 × iw_M) :=
(f_X6_isNode p1 σ).bind fun v1 =>
if v1 = (0 : Int32) then
(some ((-1001 : Int32), σ))
else
(if (f_X6_isKind p2) = (0 : Int32) then
(some ((-1002 : Int32), σ))
else
(if (f_X6_isMeasure p3) = (0 : Int32) then
(some ((-1002 : Int32), σ))
else
(if (f_X6_in p4 p3 (100 : Int32)) = (0 : Int32) then
(some ((-1002 : Int32), σ))
else
((iw_rd σ 85 (5 : Int32)).bind fun v6 =>
if (f_X6_in p5 v6 (100000 : Int32)) = (0 : Int32) then
(some ((-1002 : Int32), σ))
else
((iw_rd σ 85 (3 : Int32)).bind fun v8 =>
if v8 = (5 : Int32) then
(some ((-1004 : Int32), σ))
else
((f_X6_saves n σ).bind fun m10 =>
(iw_rd m10 85 (3 : Int32)).bind fun v11 =>
iw_let ((100 : Int32) + ((7 : Int32) * v11)) fun v12 =>
(iw_wr m10 85 v12 p1).bind fun m13 =>
(iw_wr m13 85 (v12 + (1 : Int32)) p2).bind fun m14 =>
(iw_wr m14 85 (v12 + (2 : Int32)) p3).bind fun m15 =>
(iw_wr m15 85 (v12 + (3 : Int32)) p4).bind fun m16 =>
(iw_wr m16 85 (v12 + (4 : Int32)) p5).bind fun m17 =>
(iw_wr m17 85 (v12 + (5 : Int32)) (0 : Int32)).bind fun m18 =>
(iw_wr m18 85 (v12 + (6 : Int32)) (0 : Int32)).bind fun m19 =>
f_X6_ask_L167 v11 (f_X6_ask_X194_167 v11) n (0 : Int32) m19))))))
abbrev rm_X6_ask : Room := { frames := 2, cells := 0, slots := 0, locals := 44 }
theorem lk_X6_ask_7 : Cond.fieldLink RX6 7 RX6 (TX6 0).2.1 (TX6 0).2.2.1 ∈ wsX6_ask := by decide +kernel
theorem in_X6_ask_6 : ∀ w ∈ u_ws RX6 TX6 16, w ∈ wsX6_ask := by decide +kernel
set_option maxHeartbeats 4000000 in
set_option maxRecDepth 100000 in
theorem k_X6_ask (l : Launch) (G : iw_G) (hJ : iw_JM G) (n : Nat) (p1 : Int32) (p2 : Int32) (p3 : Int32) (p4 : Int32) (p5 : Int32) (σ : iw_M) {r : Int32} {σ' : iw_M} (h : f_X6_ask n p1 p2 p3 p4 p5 σ = some (r, σ')) : iw_Ct l yX6_ask wsX6_ask rm_X6_ask G ([.ref (G.2.1 84), .int p1, .int p2, .int p3, .int p4, .int p5] : List Value) σ (some (.int r)) σ' := by
  refine iv_start (nL := 9) (own := RX6) (ret := (some .int)) (cc := cX6_ask) (by decide +kernel) rfl rfl hJ.1 (Nat.le_of_ble_eq_true rfl) ?_
  intro p e s m below meth c0 C hr hlk
  refine iv_sub (lv' := [(0, .ref (G.2.1 84)), (1, .int p1), (2, .int p2), (3, .int p3), (4, .int p4), (5, .int p5)]) [0, 1, 2, 3, 4, 5] rfl ?_
  unfold f_X6_ask at h
  refine iv_aload_n (pc := 0) C 0 dX6_ask_0 rfl rfl ?_
  refine iv_iload_n (pc := 1) C 1 dX6_ask_1 rfl rfl ?_
  obtain ⟨v1, ev1, h⟩ := iw_be h
  refine iv_callV (pc := 2) (b := 84) (ci := 6) C [.int p1] (k_X6_isNode l G hJ p1 σ ev1) gX6_ask_X6_isNode rfl qd_X6_isNode ⟨rfl, rfl, Nat.le_of_ble_eq_true rfl, Nat.le_of_ble_eq_true rfl⟩ (iw_im hJ (by decide)) iw_Eo84 rfl rfl rfl (Nat.le_of_ble_eq_true rfl) dX6_ask_2 ?_
  refine iv_if_ne (pc := 5) C 12 dX6_ask_5 (by decide) (fun h2 => ?_) (fun h2 => ?_)
  · replace h := iw_iff h2 h
    refine iv_iload_n (pc := 12) C 2 dX6_ask_12 rfl rfl ?_
    refine iv_callS (pc := 13) C [.int p2] (k_X6_isKind l G hJ p2 σ rfl) gX6_ask_X6_isKind rfl qd_X6_isKind ⟨rfl, rfl, Nat.le_of_ble_eq_true rfl, Nat.le_of_ble_eq_true rfl⟩ rfl rfl (Nat.le_of_ble_eq_true rfl) dX6_ask_13 ?_
    refine iv_if_eq (pc := 16) C 53 dX6_ask_16 (by decide) (fun h3 => ?_) (fun h3 => ?_)
    · replace h := iw_ift h3 h
      refine iv_sipush (pc := 53) C (-1002 : Int32) dX6_ask_53 (by decide) ?_
      cases h
      exact iv_iret C hr hlk rfl rfl dX6_ask_56
    · replace h := iw_iff h3 h
      refine iv_iload_n (pc := 19) C 3 dX6_ask_19 rfl rfl ?_
      refine iv_callS (pc := 20) C [.int p3] (k_X6_isMeasure l G hJ p3 σ rfl) gX6_ask_X6_isMeasure rfl qd_X6_isMeasure ⟨rfl, rfl, Nat.le_of_ble_eq_true rfl, Nat.le_of_ble_eq_true rfl⟩ rfl rfl (Nat.le_of_ble_eq_true rfl) dX6_ask_20 ?_
      refine iv_if_eq (pc := 23) C 53 dX6_ask_23 (by decide) (fun h4 => ?_) (fun h4 => ?_)
      · replace h := iw_ift h4 h
        refine iv_sipush (pc := 53) C (-1002 : Int32) dX6_ask_53 (by decide) ?_
        cases h
        exact iv_iret C hr hlk rfl rfl dX6_ask_56
      · replace h := iw_iff h4 h
        refine iv_iload (pc := 26) C 4 dX6_ask_26 rfl ?_
        refine iv_iload_n (pc := 28) C 3 dX6_ask_28 rfl rfl ?_
        refine iv_bipush (pc := 29) C (100 : Int32) dX6_ask_29 (by decide) ?_
        refine iv_callS (pc := 31) C [.int p4, .int p3, .int (100 : Int32)] (k_X6_in l G hJ p4 p3 (100 : Int32) σ rfl) gX6_ask_X6_in rfl qd_X6_in ⟨rfl, rfl, Nat.le_of_ble_eq_true rfl, Nat.le_of_ble_eq_true rfl⟩ rfl rfl (Nat.le_of_ble_eq_true rfl) dX6_ask_31 ?_
        refine iv_if_eq (pc := 34) C 53 dX6_ask_34 (by decide) (fun h5 => ?_) (fun h5 => ?_)
        · replace h := iw_ift h5 h
          refine iv_sipush (pc := 53) C (-1002 : Int32) dX6_ask_53 (by decide) ?_
          cases h
          exact iv_iret C hr hlk rfl rfl dX6_ask_56
        · replace h := iw_iff h5 h
          refine iv_iload (pc := 37) C 5 dX6_ask_37 rfl ?_
          refine iv_aload_n (pc := 39) C 0 dX6_ask_39 rfl rfl ?_
          refine iv_getf (pc := 40) (T := TX6) (N := 16) (ci := 6) C 84 0 in_X6_ask_6 (iw_im hJ (by decide)) iw_Eo84 rfl (by decide) lk_X6_ask_7 rfl rfl dX6_ask_40 ?_
          refine iv_iconst (pc := 43) C (5 : Int32) dX6_ask_43 (by decide) ?_
          obtain ⟨v6, ev6, h⟩ := iw_be h
          refine iv_rd (pc := 44) C 85 (iw_lm hJ rfl (by decide)) ev6 dX6_ask_44 ?_
          refine iv_ldc (pc := 45) C (100000 : Int32) (by decide +kernel) dX6_ask_45 ?_
          refine iv_callS (pc := 47) C [.int p5, .int v6, .int (100000 : Int32)] (k_X6_in l G hJ p5 v6 (100000 : Int32) σ rfl) gX6_ask_X6_in rfl qd_X6_in ⟨rfl, rfl, Nat.le_of_ble_eq_true rfl, Nat.le_of_ble_eq_true rfl⟩ rfl rfl (Nat.le_of_ble_eq_true rfl) dX6_ask_47 ?_
          refine iv_if_ne (pc := 50) C 57 dX6_ask_50 (by decide) (fun h7 => ?_) (fun h7 => ?_)
          · replace h := iw_iff h7 h
            refine iv_aload_n (pc := 57) C 0 dX6_ask_57 rfl rfl ?_
            refine iv_getf (pc := 58) (T := TX6) (N := 16) (ci := 6) C 84 0 in_X6_ask_6 (iw_im hJ (by decide)) iw_Eo84 rfl (by decide) lk_X6_ask_7 rfl rfl dX6_ask_58 ?_
            refine iv_iconst (pc := 61) C (3 : Int32) dX6_ask_61 (by decide) ?_
            obtain ⟨v8, ev8, h⟩ := iw_be h
            refine iv_rd (pc := 62) C 85 (iw_lm hJ rfl (by decide)) ev8 dX6_ask_62 ?_
            refine iv_iconst (pc := 63) C (5 : Int32) dX6_ask_63 (by decide) ?_
            refine iv_icmp_ne (pc := 64) C 71 dX6_ask_64 (by decide) (fun h9 => ?_) (fun h9 => ?_)
            · replace h := iw_iff h9 h
              refine iv_aload_n (pc := 71) C 0 dX6_ask_71 rfl rfl ?_
              obtain ⟨m10, em10, h⟩ := iw_be h
              refine iv_callV (pc := 72) (b := 84) (ci := 6) C [] (k_X6_saves l G hJ n σ em10) gX6_ask_X6_saves rfl qd_X6_saves ⟨rfl, rfl, Nat.le_of_ble_eq_true rfl, Nat.le_of_ble_eq_true rfl⟩ (iw_im hJ (by decide)) iw_Eo84 rfl rfl rfl (Nat.le_of_ble_eq_true rfl) dX6_ask_72 ?_
              refine iv_aload_n (pc := 75) C 0 dX6_ask_75 rfl rfl ?_
              refine iv_getf (pc := 76) (T := TX6) (N := 16) (ci := 6) C 84 0 in_X6_ask_6 (iw_im hJ (by decide)) iw_Eo84 rfl (by decide) lk_X6_ask_7 rfl rfl dX6_ask_76 ?_
              refine iv_iconst (pc := 79) C (3 : Int32) dX6_ask_79 (by decide) ?_
              obtain ⟨v11, ev11, h⟩ := iw_be h
              refine iv_rd (pc := 80) C 85 (iw_lm hJ rfl (by decide)) ev11 dX6_ask_80 ?_
              refine iv_istore (pc := 81) C [(6, .int v11), (0, .ref (G.2.1 84)), (1, .int p1), (2, .int p2), (3, .int p3), (4, .int p4), (5, .int p5)] dX6_ask_81 (by decide) rfl ?_
              refine iv_bipush (pc := 83) C (100 : Int32) dX6_ask_83 (by decide) ?_
              refine iv_bipush (pc := 85) C (7 : Int32) dX6_ask_85 (by decide) ?_
              refine iv_iload (pc := 87) C 0 dX6_ask_87 rfl ?_
              refine iv_imul (pc := 89) C dX6_ask_89 ?_
              refine iv_iadd (pc := 90) C dX6_ask_90 ?_
              refine iv_topi (fun v12 ev12 => ?_)
              replace h := iw_lete ev12 h
              refine iv_istore (pc := 91) C [(7, .int v12), (6, .int v11), (0, .ref (G.2.1 84)), (1, .int p1), (2, .int p2), (3, .int p3), (4, .int p4), (5, .int p5)] dX6_ask_91 (by decide) rfl ?_
              refine iv_aload_n (pc := 93) C 2 dX6_ask_93 rfl rfl ?_
              refine iv_getf (pc := 94) (T := TX6) (N := 16) (ci := 6) C 84 0 in_X6_ask_6 (iw_im hJ (by decide)) iw_Eo84 rfl (by decide) lk_X6_ask_7 rfl rfl dX6_ask_94 ?_
              refine iv_iload (pc := 97) C 0 dX6_ask_97 rfl ?_
              refine iv_iload_n (pc := 99) C 3 dX6_ask_99 rfl rfl ?_
              obtain ⟨m13, em13, h⟩ := iw_be h
              refine iv_wr (pc := 100) C 85 (iw_lm hJ rfl (by decide)) em13 dX6_ask_100 ?_
              refine iv_aload_n (pc := 101) C 2 dX6_ask_101 rfl rfl ?_
              refine iv_getf (pc := 102) (T := TX6) (N := 16) (ci := 6) C 84 0 in_X6_ask_6 (iw_im hJ (by decide)) iw_Eo84 rfl (by decide) lk_X6_ask_7 rfl rfl dX6_ask_102 ?_
              refine iv_iload (pc := 105) C 0 dX6_ask_105 rfl ?_
              refine iv_iconst (pc := 107) C (1 : Int32) dX6_ask_107 (by decide) ?_
              refine iv_iadd (pc := 108) C dX6_ask_108 ?_
              refine iv_iload_n (pc := 109) C 4 dX6_ask_109 rfl rfl ?_
              obtain ⟨m14, em14, h⟩ := iw_be h
              refine iv_wr (pc := 110) C 85 (iw_lm hJ rfl (by decide)) em14 dX6_ask_110 ?_
              refine iv_aload_n (pc := 111) C 2 dX6_ask_111 rfl rfl ?_
              refine iv_getf (pc := 112) (T := TX6) (N := 16) (ci := 6) C 84 0 in_X6_ask_6 (iw_im hJ (by decide)) iw_Eo84 rfl (by decide) lk_X6_ask_7 rfl rfl dX6_ask_112 ?_
              refine iv_iload (pc := 115) C 0 dX6_ask_115 rfl ?_
              refine iv_iconst (pc := 117) C (2 : Int32) dX6_ask_117 (by decide) ?_
              refine iv_iadd (pc := 118) C dX6_ask_118 ?_
              refine iv_iload_n (pc := 119) C 5 dX6_ask_119 rfl rfl ?_
              obtain ⟨m15, em15, h⟩ := iw_be h
              refine iv_wr (pc := 120) C 85 (iw_lm hJ rfl (by decide)) em15 dX6_ask_120 ?_
              refine iv_aload_n (pc := 121) C 2 dX6_ask_121 rfl rfl ?_
              refine iv_getf (pc := 122) (T := TX6) (N := 16) (ci := 6) C 84 0 in_X6_ask_6 (iw_im hJ (by decide)) iw_Eo84 rfl (by decide) lk_X6_ask_7 rfl rfl dX6_ask_122 ?_
              refine iv_iload (pc := 125) C 0 dX6_ask_125 rfl ?_
              refine iv_iconst (pc := 127) C (3 : Int32) dX6_ask_127 (by decide) ?_
              refine iv_iadd (pc := 128) C dX6_ask_128 ?_
              refine iv_iload (pc := 129) C 6 dX6_ask_129 rfl ?_
              obtain ⟨m16, em16, h⟩ := iw_be h
              refine iv_wr (pc := 131) C 85 (iw_lm hJ rfl (by decide)) em16 dX6_ask_131 ?_
              refine iv_aload_n (pc := 132) C 2 dX6_ask_132 rfl rfl ?_
              refine iv_getf (pc := 133) (T := TX6) (N := 16) (ci := 6) C 84 0 in_X6_ask_6 (iw_im hJ (by decide)) iw_Eo84 rfl (by decide) lk_X6_ask_7 rfl rfl dX6_ask_133 ?_
              refine iv_iload (pc := 136) C 0 dX6_ask_136 rfl ?_
              refine iv_iconst (pc := 138) C (4 : Int32) dX6_ask_138 (by decide) ?_
              refine iv_iadd (pc := 139) C dX6_ask_139 ?_
              refine iv_iload (pc := 140) C 7 dX6_ask_140 rfl ?_
              obtain ⟨m17, em17, h⟩ := iw_be h
              refine iv_wr (pc := 142) C 85 (iw_lm hJ rfl (by decide)) em17 dX6_ask_142 ?_
              refine iv_aload_n (pc := 143) C 2 dX6_ask_143 rfl rfl ?_
              refine iv_getf (pc := 144) (T := TX6) (N := 16) (ci := 6) C 84 0 in_X6_ask_6 (iw_im hJ (by decide)) iw_Eo84 rfl (by decide) lk_X6_ask_7 rfl rfl dX6_ask_144 ?_
              refine iv_iload (pc := 147) C 0 dX6_ask_147 rfl ?_
              refine iv_iconst (pc := 149) C (5 : Int32) dX6_ask_149 (by decide) ?_
              refine iv_iadd (pc := 150) C dX6_ask_150 ?_
              refine iv_iconst (pc := 151) C (0 : Int32) dX6_ask_151 (by decide) ?_
              obtain ⟨m18, em18, h⟩ := iw_be h
              refine iv_wr (pc := 152) C 85 (iw_lm hJ rfl (by decide)) em18 dX6_ask_152 ?_
              refine iv_aload_n (pc := 153) C 2 dX6_ask_153 rfl rfl ?_
              refine iv_getf (pc := 154) (T := TX6) (N := 16) (ci := 6) C 84 0 in_X6_ask_6 (iw_im hJ (by decide)) iw_Eo84 rfl (by decide) lk_X6_ask_7 rfl rfl dX6_ask_154 ?_
              refine iv_iload (pc := 157) C 0 dX6_ask_157 rfl ?_
              refine iv_bipush (pc := 159) C (6 : Int32) dX6_ask_159 (by decide) ?_
              refine iv_iadd (pc := 161) C dX6_ask_161 ?_
              refine iv_iconst (pc := 162) C (0 : Int32) dX6_ask_162 (by decide) ?_
              obtain ⟨m19, em19, h⟩ := iw_be h
              refine iv_wr (pc := 163) C 85 (iw_lm hJ rfl (by decide)) em19 dX6_ask_163 ?_
              refine iv_iconst (pc := 164) C (0 : Int32) dX6_ask_164 (by decide) ?_
              refine iv_istore (pc := 165) C [(8, .int (0 : Int32)), (7, .int v12), (6, .int v11), (0, .ref (G.2.1 84)), (1, .int p1), (2, .int p2), (3, .int p3), (4, .int p4), (5, .int p5)] dX6_ask_165 (by decide) rfl ?_
              have vX167 : ∀ (m20 : iw_M), f_X6_ask_X194_167 v11 m20 = some (r, σ') → iw_V p l e rm_X6_ask s m ([.ref (G.2.1 84), .int p1, .int p2, .int p3, .int p4, .int p5] : List Value).toArray below meth c0 0 0 (MQ below (iw_Q (some (.int r)) G σ') ([.ref (G.2.1 84), .int p1, .int p2, .int p3, .int p4, .int p5] : List Value).toArray s 0 0 (iw_A G)) 9 G (iw_A G) m20 194 [(0, .ref (G.2.1 84)), (6, .int v11)] [] := by
                intro m20 h
                unfold f_X6_ask_X194_167 at h
                refine iv_aload_n (pc := 194) C 0 dX6_ask_194 rfl rfl ?_
                refine iv_getf (pc := 195) (T := TX6) (N := 16) (ci := 6) C 84 0 in_X6_ask_6 (iw_im hJ (by decide)) iw_Eo84 rfl (by decide) lk_X6_ask_7 rfl rfl dX6_ask_195 ?_
                refine iv_iconst (pc := 198) C (3 : Int32) dX6_ask_198 (by decide) ?_
                refine iv_dup2 (pc := 199) C rfl rfl dX6_ask_199 ?_
                obtain ⟨v21, ev21, h⟩ := iw_be h
                refine iv_rd (pc := 200) C 85 (iw_lm hJ rfl (by decide)) ev21 dX6_ask_200 ?_
                refine iv_iconst (pc := 201) C (1 : Int32) dX6_ask_201 (by decide) ?_
                refine iv_iadd (pc := 202) C dX6_ask_202 ?_
                obtain ⟨m22, em22, h⟩ := iw_be h
                refine iv_wr (pc := 203) C 85 (iw_lm hJ rfl (by decide)) em22 dX6_ask_203 ?_
                refine iv_iload (pc := 204) C 1 dX6_ask_204 rfl ?_
                cases h
                exact iv_iret C hr hlk rfl rfl dX6_ask_206
              have vB167 : ∀ (k167 : iw_M → Option (Int32 × iw_M)) (r167 : Int32 → iw_M → Option (Int32 × iw_M)), (∀ (m20 : iw_M), k167 m20 = some (r, σ') → iw_V p l e rm_X6_ask s m ([.ref (G.2.1 84), .int p1, .int p2, .int p3, .int p4, .int p5] : List Value).toArray below meth c0 0 0 (MQ below (iw_Q (some (.int r)) G σ') ([.ref (G.2.1 84), .int p1, .int p2, .int p3, .int p4, .int p5] : List Value).toArray s 0 0 (iw_A G)) 9 G (iw_A G) m20 194 [(0, .ref (G.2.1 84)), (6, .int v11)] []) → (∀ (v23 : Int32) (m24 : iw_M), r167 v23 m24 = some (r, σ') → iw_V p l e rm_X6_ask s m ([.ref (G.2.1 84), .int p1, .int p2, .int p3, .int p4, .int p5] : List Value).toArray below meth c0 0 0 (MQ below (iw_Q (some (.int r)) G σ') ([.ref (G.2.1 84), .int p1, .int p2, .int p3, .int p4, .int p5] : List Value).toArray s 0 0 (iw_A G)) 9 G (iw_A G) m24 167 [(0, .ref (G.2.1 84)), (6, .int v11), (8, .int v23)] []) → ∀ (v23 : Int32) (m24 : iw_M), f_X6_ask_B167 v11 k167 r167 v23 m24 = some (r, σ') → iw_V p l e rm_X6_ask s m ([.ref (G.2.1 84), .int p1, .int p2, .int p3, .int p4, .int p5] : List Value).toArray below meth c0 0 0 (MQ below (iw_Q (some (.int r)) G σ') ([.ref (G.2.1 84), .int p1, .int p2, .int p3, .int p4, .int p5] : List Value).toArray s 0 0 (iw_A G)) 9 G (iw_A G) m24 167 [(0, .ref (G.2.1 84)), (6, .int v11), (8, .int v23)] [] := by
                intro k167 r167 hk167 hr167 v23 m24 h
                unfold f_X6_ask_B167 at h
                refine iv_iload (pc := 167) C 2 dX6_ask_167 rfl ?_
                refine iv_bipush (pc := 169) C (6 : Int32) dX6_ask_169 (by decide) ?_
                refine iv_icmp_ge (pc := 171) C 194 dX6_ask_171 (by decide) (fun h25 => ?_) (fun h25 => ?_)
                · replace h := iw_ift h25 h
                  exact iv_sub [0, 1] rfl (hk167 m24 h)
                · replace h := iw_iff h25 h
                  refine iv_aload_n (pc := 174) C 0 dX6_ask_174 rfl rfl ?_
                  refine iv_getf (pc := 175) (T := TX6) (N := 16) (ci := 6) C 84 0 in_X6_ask_6 (iw_im hJ (by decide)) iw_Eo84 rfl (by decide) lk_X6_ask_7 rfl rfl dX6_ask_175 ?_
                  refine iv_aload_n (pc := 178) C 0 dX6_ask_178 rfl rfl ?_
                  refine iv_iload (pc := 179) C 1 dX6_ask_179 rfl ?_
                  refine iv_iload (pc := 181) C 2 dX6_ask_181 rfl ?_
                  refine iv_callV (pc := 183) (b := 84) (ci := 6) C [.int v11, .int v23] (k_X6_wayAt l G hJ v11 v23 m24 rfl) gX6_ask_X6_wayAt rfl qd_X6_wayAt ⟨rfl, rfl, Nat.le_of_ble_eq_true rfl, Nat.le_of_ble_eq_true rfl⟩ (iw_im hJ (by decide)) iw_Eo84 rfl rfl rfl (Nat.le_of_ble_eq_true rfl) dX6_ask_183 ?_
                  refine iv_iconst (pc := 186) C (0 : Int32) dX6_ask_186 (by decide) ?_
                  obtain ⟨m26, em26, h⟩ := iw_be h
                  refine iv_wr (pc := 187) C 85 (iw_lm hJ rfl (by decide)) em26 dX6_ask_187 ?_
                  obtain ⟨v27, ev27⟩ : ∃ y : Int32, y = v23 + (1 : Int32) := ⟨_, rfl⟩
                  replace h := iw_lete ev27 h
                  refine iv_iinc (pc := 188) C 2 v27 [(8, .int v27), (0, .ref (G.2.1 84)), (6, .int v11)] dX6_ask_188 rfl (by rw [ev27]; rfl) (by decide) rfl ?_
                  refine iv_goto (pc := 191) C 167 dX6_ask_191 (by decide) ?_
                  exact iv_sub [1, 2, 0] rfl (hr167 v27 m26 h)
              have vL167 : ∀ (nn : Nat) (v23 : Int32) (m24 : iw_M), f_X6_ask_L167 v11 (f_X6_ask_X194_167 v11) nn v23 m24 = some (r, σ') → iw_V p l e rm_X6_ask s m ([.ref (G.2.1 84), .int p1, .int p2, .int p3, .int p4, .int p5] : List Value).toArray below meth c0 0 0 (MQ below (iw_Q (some (.int r)) G σ') ([.ref (G.2.1 84), .int p1, .int p2, .int p3, .int p4, .int p5] : List Value).toArray s 0 0 (iw_A G)) 9 G (iw_A G) m24 167 [(0, .ref (G.2.1 84)), (6, .int v11), (8, .int v23)] [] := by
                intro nn
                induction nn with
                | zero => intro v23 m24 h; exact absurd h (fun q => by cases q)
                | succ nn ih => intro v23 m24 h; exact vB167 (f_X6_ask_X194_167 v11) (f_X6_ask_L167 v11 (f_X6_ask_X194_167 v11) nn) vX167 ih v23 m24 h
              exact iv_sub [3, 2, 0] rfl (vL167 n (0 : Int32) m19 h)
            · replace h := iw_ift h9 h
              refine iv_sipush (pc := 67) C (-1004 : Int32) dX6_ask_67 (by decide) ?_
              cases h
              exact iv_iret C hr hlk rfl rfl dX6_ask_70
          · replace h := iw_ift h7 h
            refine iv_sipush (pc := 53) C (-1002 : Int32) dX6_ask_53 (by decide) ?_
            cases h
            exact iv_iret C hr hlk rfl rfl dX6_ask_56
  · replace h := iw_ift h2 h
    refine iv_sipush (pc := 8) C (-1001 : Int32) dX6_ask_8 (by decide) ?_
    cases h
    exact iv_iret C hr hlk rfl rfl dX6_ask_11
theorem qd_X6_ask : yX6_ask.cls = RX6 ∧ yX6_ask.cls ≠ "java/lang/invoke/MethodHandle" ∧ yX6_ask.cls ≠ "java/lang/invoke/VarHandle" ∧ (parseMethodDescriptor yX6_ask.desc).map (fun d => d.parameters.length) = some 5 := by decide +kernel
def f_X6_removes_X98_62 (m6 : iw_M) : Option (iw_M) :=
some m6
def f_X6_removes_B62 (k62 : iw_M → Option (iw_M)) (r62 : Int32 → iw_M → Option (iw_M)) (v7 : Int32) (m8 : iw_M) : Option (iw_M) :=
(iw_rd m8 85 (3 : Int32)).bind fun v9 =>
if (f_X6_wayAt v9 (0 : Int32)) ≤ v7 then
(k62 m8)
else
((iw_rd m8 85 (v7 + (66 : Int32))).bind fun v11 =>
(iw_wr m8 85 v7 v11).bind fun m12 =>
iw_let (v7 + (1 : Int32)) fun v13 =>
r62 v13 m12)
def f_X6_removes_L62 (k62 : iw_M → Option (iw_M)) (nn : Nat) : Int32 → iw_M → Option (iw_M) :=
iw_it (fun r62 => f_X6_removes_B62 k62 r62) (fun _ _ => none) nn
def f_X6_removes_X55_15 (n : Nat) (p1 : Int32) (m4 : iw_M) : Option (iw_M) :=
iw_let (f_X6_wayAt p1 (0 : Int32)) fun v5 =>
f_X6_removes_L62 (f_X6_removes_X98_62) n v5 m4
def f_X6_removes_B15 (k15 : iw_M → Option (iw_M)) (r15 : Int32 → iw_M → Option (iw_M)) (v14 : Int32) (m15 : iw_M) : Option (iw_M) :=
(iw_rd m15 85 (3 : Int32)).bind fun v16 =>
if ((7 : Int32) * v16) ≤ v14 then
(k15 m15)
else
((iw_rd m15 85 (((100 : Int32) + v14) + (7 : Int32))).bind fun v18 =>
(iw_wr m15 85 ((100 : Int32) + v14) v18).bind fun m19 =>
iw_let (v14 + (1 : Int32)) fun v20 =>
r15 v20 m19)
def f_X6_removes_L15 (k15 : iw_M → Option (iw_M)) (nn : Nat) : Int32 → iw_M → Option (iw_M) :=
iw_it (fun r15 => f_X6_removes_B15 k15 r15) (fun _ _ => none) nn
def f_X6_removes (n : Nat) (p1 : Int32) (σ : iw_M) : Option (iw_M) :=
(iw_rd σ 85 (3 : Int32)).bind fun v1 =>
(iw_wr σ 85 (3 : Int32) (v1 - (1 : Int32))).bind fun m2 =>
iw_let ((7 : Int32) * p1) fun v3 =>
f_X6_removes_L15 (f_X6_removes_X55_15 n p1) n v3 m2
abbrev rm_X6_removes : Room := { frames := 1, cells := 0, slots := 0, locals := 22 }
theorem lk_X6_removes_7 : Cond.fieldLink RX6 7 RX6 (TX6 0).2.1 (TX6 0).2.2.1 ∈ wsX6_removes := by decide +kernel
theorem in_X6_removes_6 : ∀ w ∈ u_ws RX6 TX6 16, w ∈ wsX6_removes := by decide +kernel
set_option maxHeartbeats 4000000 in
set_option maxRecDepth 100000 in
theorem k_X6_removes (l : Launch) (G : iw_G) (hJ : iw_JM G) (n : Nat) (p1 : Int32) (σ : iw_M) {σ' : iw_M} (h : f_X6_removes n p1 σ = some σ') : iw_Ct l yX6_removes wsX6_removes rm_X6_removes G ([.ref (G.2.1 84), .int p1] : List Value) σ none σ' := by
  refine iv_start (nL := 3) (own := RX6) (ret := none) (cc := cX6_removes) (by decide +kernel) rfl rfl hJ.1 (Nat.le_of_ble_eq_true rfl) ?_
  intro p e s m below meth c0 C hr hlk
  refine iv_sub (lv' := [(0, .ref (G.2.1 84)), (1, .int p1)]) [0, 1] rfl ?_
  unfold f_X6_removes at h
  refine iv_aload_n (pc := 0) C 0 dX6_removes_0 rfl rfl ?_
  refine iv_getf (pc := 1) (T := TX6) (N := 16) (ci := 6) C 84 0 in_X6_removes_6 (iw_im hJ (by decide)) iw_Eo84 rfl (by decide) lk_X6_removes_7 rfl rfl dX6_removes_1 ?_
  refine iv_iconst (pc := 4) C (3 : Int32) dX6_removes_4 (by decide) ?_
  refine iv_dup2 (pc := 5) C rfl rfl dX6_removes_5 ?_
  obtain ⟨v1, ev1, h⟩ := iw_be h
  refine iv_rd (pc := 6) C 85 (iw_lm hJ rfl (by decide)) ev1 dX6_removes_6 ?_
  refine iv_iconst (pc := 7) C (1 : Int32) dX6_removes_7 (by decide) ?_
  refine iv_isub (pc := 8) C dX6_removes_8 ?_
  obtain ⟨m2, em2, h⟩ := iw_be h
  refine iv_wr (pc := 9) C 85 (iw_lm hJ rfl (by decide)) em2 dX6_removes_9 ?_
  refine iv_bipush (pc := 10) C (7 : Int32) dX6_removes_10 (by decide) ?_
  refine iv_iload_n (pc := 12) C 1 dX6_removes_12 rfl rfl ?_
  refine iv_imul (pc := 13) C dX6_removes_13 ?_
  refine iv_topi (fun v3 ev3 => ?_)
  replace h := iw_lete ev3 h
  refine iv_istore_n (pc := 14) C [(2, .int v3), (0, .ref (G.2.1 84)), (1, .int p1)] dX6_removes_14 rfl (by decide) rfl ?_
  have vX15 : ∀ (m4 : iw_M), f_X6_removes_X55_15 n p1 m4 = some σ' → iw_V p l e rm_X6_removes s m ([.ref (G.2.1 84), .int p1] : List Value).toArray below meth c0 0 0 (MQ below (iw_Q none G σ') ([.ref (G.2.1 84), .int p1] : List Value).toArray s 0 0 (iw_A G)) 3 G (iw_A G) m4 55 [(0, .ref (G.2.1 84)), (1, .int p1)] [] := by
    intro m4 h
    unfold f_X6_removes_X55_15 at h
    refine iv_aload_n (pc := 55) C 0 dX6_removes_55 rfl rfl ?_
    refine iv_iload_n (pc := 56) C 1 dX6_removes_56 rfl rfl ?_
    refine iv_iconst (pc := 57) C (0 : Int32) dX6_removes_57 (by decide) ?_
    refine iv_callV (pc := 58) (b := 84) (ci := 6) C [.int p1, .int (0 : Int32)] (k_X6_wayAt l G hJ p1 (0 : Int32) m4 rfl) gX6_removes_X6_wayAt rfl qd_X6_wayAt ⟨rfl, rfl, Nat.le_of_ble_eq_true rfl, Nat.le_of_ble_eq_true rfl⟩ (iw_im hJ (by decide)) iw_Eo84 rfl rfl rfl (Nat.le_of_ble_eq_true rfl) dX6_removes_58 ?_
    refine iv_topi (fun v5 ev5 => ?_)
    replace h := iw_lete ev5 h
    refine iv_istore_n (pc := 61) C [(2, .int v5), (0, .ref (G.2.1 84)), (1, .int p1)] dX6_removes_61 rfl (by decide) rfl ?_
    have vX62 : ∀ (m6 : iw_M), f_X6_removes_X98_62 m6 = some σ' → iw_V p l e rm_X6_removes s m ([.ref (G.2.1 84), .int p1] : List Value).toArray below meth c0 0 0 (MQ below (iw_Q none G σ') ([.ref (G.2.1 84), .int p1] : List Value).toArray s 0 0 (iw_A G)) 3 G (iw_A G) m6 98 [] [] := by
      intro m6 h
      unfold f_X6_removes_X98_62 at h
      cases h
      exact iv_vret C hr hlk rfl rfl dX6_removes_98
    have vB62 : ∀ (k62 : iw_M → Option (iw_M)) (r62 : Int32 → iw_M → Option (iw_M)), (∀ (m6 : iw_M), k62 m6 = some σ' → iw_V p l e rm_X6_removes s m ([.ref (G.2.1 84), .int p1] : List Value).toArray below meth c0 0 0 (MQ below (iw_Q none G σ') ([.ref (G.2.1 84), .int p1] : List Value).toArray s 0 0 (iw_A G)) 3 G (iw_A G) m6 98 [] []) → (∀ (v7 : Int32) (m8 : iw_M), r62 v7 m8 = some σ' → iw_V p l e rm_X6_removes s m ([.ref (G.2.1 84), .int p1] : List Value).toArray below meth c0 0 0 (MQ below (iw_Q none G σ') ([.ref (G.2.1 84), .int p1] : List Value).toArray s 0 0 (iw_A G)) 3 G (iw_A G) m8 62 [(0, .ref (G.2.1 84)), (2, .int v7)] []) → ∀ (v7 : Int32) (m8 : iw_M), f_X6_removes_B62  k62 r62 v7 m8 = some σ' → iw_V p l e rm_X6_removes s m ([.ref (G.2.1 84), .int p1] : List Value).toArray below meth c0 0 0 (MQ below (iw_Q none G σ') ([.ref (G.2.1 84), .int p1] : List Value).toArray s 0 0 (iw_A G)) 3 G (iw_A G) m8 62 [(0, .ref (G.2.1 84)), (2, .int v7)] [] := by
      intro k62 r62 hk62 hr62 v7 m8 h
      unfold f_X6_removes_B62 at h
      refine iv_iload_n (pc := 62) C 1 dX6_removes_62 rfl rfl ?_
      refine iv_aload_n (pc := 63) C 0 dX6_removes_63 rfl rfl ?_
      refine iv_aload_n (pc := 64) C 0 dX6_removes_64 rfl rfl ?_
      refine iv_getf (pc := 65) (T := TX6) (N := 16) (ci := 6) C 84 0 in_X6_removes_6 (iw_im hJ (by decide)) iw_Eo84 rfl (by decide) lk_X6_removes_7 rfl rfl dX6_removes_65 ?_
      refine iv_iconst (pc := 68) C (3 : Int32) dX6_removes_68 (by decide) ?_
      obtain ⟨v9, ev9, h⟩ := iw_be h
      refine iv_rd (pc := 69) C 85 (iw_lm hJ rfl (by decide)) ev9 dX6_removes_69 ?_
      refine iv_iconst (pc := 70) C (0 : Int32) dX6_removes_70 (by decide) ?_
      refine iv_callV (pc := 71) (b := 84) (ci := 6) C [.int v9, .int (0 : Int32)] (k_X6_wayAt l G hJ v9 (0 : Int32) m8 rfl) gX6_removes_X6_wayAt rfl qd_X6_wayAt ⟨rfl, rfl, Nat.le_of_ble_eq_true rfl, Nat.le_of_ble_eq_true rfl⟩ (iw_im hJ (by decide)) iw_Eo84 rfl rfl rfl (Nat.le_of_ble_eq_true rfl) dX6_removes_71 ?_
      refine iv_icmp_ge (pc := 74) C 98 dX6_removes_74 (by decide) (fun h10 => ?_) (fun h10 => ?_)
      · replace h := iw_ift h10 h
        exact iv_sub [] rfl (hk62 m8 h)
      · replace h := iw_iff h10 h
        refine iv_aload_n (pc := 77) C 0 dX6_removes_77 rfl rfl ?_
        refine iv_getf (pc := 78) (T := TX6) (N := 16) (ci := 6) C 84 0 in_X6_removes_6 (iw_im hJ (by decide)) iw_Eo84 rfl (by decide) lk_X6_removes_7 rfl rfl dX6_removes_78 ?_
        refine iv_iload_n (pc := 81) C 1 dX6_removes_81 rfl rfl ?_
        refine iv_aload_n (pc := 82) C 0 dX6_removes_82 rfl rfl ?_
        refine iv_getf (pc := 83) (T := TX6) (N := 16) (ci := 6) C 84 0 in_X6_removes_6 (iw_im hJ (by decide)) iw_Eo84 rfl (by decide) lk_X6_removes_7 rfl rfl dX6_removes_83 ?_
        refine iv_iload_n (pc := 86) C 1 dX6_removes_86 rfl rfl ?_
        refine iv_bipush (pc := 87) C (66 : Int32) dX6_removes_87 (by decide) ?_
        refine iv_iadd (pc := 89) C dX6_removes_89 ?_
        obtain ⟨v11, ev11, h⟩ := iw_be h
        refine iv_rd (pc := 90) C 85 (iw_lm hJ rfl (by decide)) ev11 dX6_removes_90 ?_
        obtain ⟨m12, em12, h⟩ := iw_be h
        refine iv_wr (pc := 91) C 85 (iw_lm hJ rfl (by decide)) em12 dX6_removes_91 ?_
        obtain ⟨v13, ev13⟩ : ∃ y : Int32, y = v7 + (1 : Int32) := ⟨_, rfl⟩
        replace h := iw_lete ev13 h
        refine iv_iinc (pc := 92) C 1 v13 [(2, .int v13), (0, .ref (G.2.1 84))] dX6_removes_92 rfl (by rw [ev13]; rfl) (by decide) rfl ?_
        refine iv_goto (pc := 95) C 62 dX6_removes_95 (by decide) ?_
        exact iv_sub [1, 0] rfl (hr62 v13 m12 h)
    have vL62 : ∀ (nn : Nat) (v7 : Int32) (m8 : iw_M), f_X6_removes_L62  (f_X6_removes_X98_62) nn v7 m8 = some σ' → iw_V p l e rm_X6_removes s m ([.ref (G.2.1 84), .int p1] : List Value).toArray below meth c0 0 0 (MQ below (iw_Q none G σ') ([.ref (G.2.1 84), .int p1] : List Value).toArray s 0 0 (iw_A G)) 3 G (iw_A G) m8 62 [(0, .ref (G.2.1 84)), (2, .int v7)] [] := by
      intro nn
      induction nn with
      | zero => intro v7 m8 h; exact absurd h (fun q => by cases q)
      | succ nn ih => intro v7 m8 h; exact vB62 (f_X6_removes_X98_62) (f_X6_removes_L62  (f_X6_removes_X98_62) nn) vX62 ih v7 m8 h
    exact iv_sub [1, 0] rfl (vL62 n v5 m4 h)
  have vB15 : ∀ (k15 : iw_M → Option (iw_M)) (r15 : Int32 → iw_M → Option (iw_M)), (∀ (m4 : iw_M), k15 m4 = some σ' → iw_V p l e rm_X6_removes s m ([.ref (G.2.1 84), .int p1] : List Value).toArray below meth c0 0 0 (MQ below (iw_Q none G σ') ([.ref (G.2.1 84), .int p1] : List Value).toArray s 0 0 (iw_A G)) 3 G (iw_A G) m4 55 [(0, .ref (G.2.1 84)), (1, .int p1)] []) → (∀ (v14 : Int32) (m15 : iw_M), r15 v14 m15 = some σ' → iw_V p l e rm_X6_removes s m ([.ref (G.2.1 84), .int p1] : List Value).toArray below meth c0 0 0 (MQ below (iw_Q none G σ') ([.ref (G.2.1 84), .int p1] : List Value).toArray s 0 0 (iw_A G)) 3 G (iw_A G) m15 15 [(0, .ref (G.2.1 84)), (1, .int p1), (2, .int v14)] []) → ∀ (v14 : Int32) (m15 : iw_M), f_X6_removes_B15  k15 r15 v14 m15 = some σ' → iw_V p l e rm_X6_removes s m ([.ref (G.2.1 84), .int p1] : List Value).toArray below meth c0 0 0 (MQ below (iw_Q none G σ') ([.ref (G.2.1 84), .int p1] : List Value).toArray s 0 0 (iw_A G)) 3 G (iw_A G) m15 15 [(0, .ref (G.2.1 84)), (1, .int p1), (2, .int v14)] [] := by
    intro k15 r15 hk15 hr15 v14 m15 h
    unfold f_X6_removes_B15 at h
    refine iv_iload_n (pc := 15) C 2 dX6_removes_15 rfl rfl ?_
    refine iv_bipush (pc := 16) C (7 : Int32) dX6_removes_16 (by decide) ?_
    refine iv_aload_n (pc := 18) C 0 dX6_removes_18 rfl rfl ?_
    refine iv_getf (pc := 19) (T := TX6) (N := 16) (ci := 6) C 84 0 in_X6_removes_6 (iw_im hJ (by decide)) iw_Eo84 rfl (by decide) lk_X6_removes_7 rfl rfl dX6_removes_19 ?_
    refine iv_iconst (pc := 22) C (3 : Int32) dX6_removes_22 (by decide) ?_
    obtain ⟨v16, ev16, h⟩ := iw_be h
    refine iv_rd (pc := 23) C 85 (iw_lm hJ rfl (by decide)) ev16 dX6_removes_23 ?_
    refine iv_imul (pc := 24) C dX6_removes_24 ?_
    refine iv_icmp_ge (pc := 25) C 55 dX6_removes_25 (by decide) (fun h17 => ?_) (fun h17 => ?_)
    · replace h := iw_ift h17 h
      exact iv_sub [0, 1] rfl (hk15 m15 h)
    · replace h := iw_iff h17 h
      refine iv_aload_n (pc := 28) C 0 dX6_removes_28 rfl rfl ?_
      refine iv_getf (pc := 29) (T := TX6) (N := 16) (ci := 6) C 84 0 in_X6_removes_6 (iw_im hJ (by decide)) iw_Eo84 rfl (by decide) lk_X6_removes_7 rfl rfl dX6_removes_29 ?_
      refine iv_bipush (pc := 32) C (100 : Int32) dX6_removes_32 (by decide) ?_
      refine iv_iload_n (pc := 34) C 2 dX6_removes_34 rfl rfl ?_
      refine iv_iadd (pc := 35) C dX6_removes_35 ?_
      refine iv_aload_n (pc := 36) C 0 dX6_removes_36 rfl rfl ?_
      refine iv_getf (pc := 37) (T := TX6) (N := 16) (ci := 6) C 84 0 in_X6_removes_6 (iw_im hJ (by decide)) iw_Eo84 rfl (by decide) lk_X6_removes_7 rfl rfl dX6_removes_37 ?_
      refine iv_bipush (pc := 40) C (100 : Int32) dX6_removes_40 (by decide) ?_
      refine iv_iload_n (pc := 42) C 2 dX6_removes_42 rfl rfl ?_
      refine iv_iadd (pc := 43) C dX6_removes_43 ?_
      refine iv_bipush (pc := 44) C (7 : Int32) dX6_removes_44 (by decide) ?_
      refine iv_iadd (pc := 46) C dX6_removes_46 ?_
      obtain ⟨v18, ev18, h⟩ := iw_be h
      refine iv_rd (pc := 47) C 85 (iw_lm hJ rfl (by decide)) ev18 dX6_removes_47 ?_
      obtain ⟨m19, em19, h⟩ := iw_be h
      refine iv_wr (pc := 48) C 85 (iw_lm hJ rfl (by decide)) em19 dX6_removes_48 ?_
      obtain ⟨v20, ev20⟩ : ∃ y : Int32, y = v14 + (1 : Int32) := ⟨_, rfl⟩
      replace h := iw_lete ev20 h
      refine iv_iinc (pc := 49) C 2 v20 [(2, .int v20), (0, .ref (G.2.1 84)), (1, .int p1)] dX6_removes_49 rfl (by rw [ev20]; rfl) (by decide) rfl ?_
      refine iv_goto (pc := 52) C 15 dX6_removes_52 (by decide) ?_
      exact iv_sub [1, 2, 0] rfl (hr15 v20 m19 h)
  have vL15 : ∀ (nn : Nat) (v14 : Int32) (m15 : iw_M), f_X6_removes_L15  (f_X6_removes_X55_15 n p1) nn v14 m15 = some σ' → iw_V p l e rm_X6_removes s m ([.ref (G.2.1 84), .int p1] : List Value).toArray below meth c0 0 0 (MQ below (iw_Q none G σ') ([.ref (G.2.1 84), .int p1] : List Value).toArray s 0 0 (iw_A G)) 3 G (iw_A G) m15 15 [(0, .ref (G.2.1 84)), (1, .int p1), (2, .int v14)] [] := by
    intro nn
    induction nn with
    | zero => intro v14 m15 h; exact absurd h (fun q => by cases q)
    | succ nn ih => intro v14 m15 h; exact vB15 (f_X6_removes_X55_15 n p1) (f_X6_removes_L15  (f_X6_removes_X55_15 n p1) nn) vX15 ih v14 m15 h
  exact iv_sub [1, 2, 0] rfl (vL15 n v3 m2 h)
theorem qd_X6_removes : yX6_removes.cls = RX6 ∧ yX6_removes.cls ≠ "java/lang/invoke/MethodHandle" ∧ yX6_removes.cls ≠ "java/lang/invoke/VarHandle" ∧ (parseMethodDescriptor yX6_removes.desc).map (fun d => d.parameters.length) = some 1 := by decide +kernel
def f_X6_withdraw (n : Nat) (p1 : Int32) (σ : iw_M) : Option (Int32 × iw_M) :=
(f_X6_isInterest p1 σ).bind fun v1 =>
if v1 = (0 : Int32) then
(some ((-1001 : Int32), σ))
else
((f_X6_saves n σ).bind fun m3 =>
(f_X6_removes n p1 m3).bind fun m4 =>
(iw_rd m4 85 (3 : Int32)).bind fun v5 =>
some (v5, m4))
abbrev rm_X6_withdraw : Room := { frames := 2, cells := 0, slots := 0, locals := 44 }
theorem lk_X6_withdraw_7 : Cond.fieldLink RX6 7 RX6 (TX6 0).2.1 (TX6 0).2.2.1 ∈ wsX6_withdraw := by decide +kernel
theorem in_X6_withdraw_6 : ∀ w ∈ u_ws RX6 TX6 16, w ∈ wsX6_withdraw := by decide +kernel
set_option maxHeartbeats 4000000 in
set_option maxRecDepth 100000 in
theorem k_X6_withdraw (l : Launch) (G : iw_G) (hJ : iw_JM G) (n : Nat) (p1 : Int32) (σ : iw_M) {r : Int32} {σ' : iw_M} (h : f_X6_withdraw n p1 σ = some (r, σ')) : iw_Ct l yX6_withdraw wsX6_withdraw rm_X6_withdraw G ([.ref (G.2.1 84), .int p1] : List Value) σ (some (.int r)) σ' := by
  refine iv_start (nL := 2) (own := RX6) (ret := (some .int)) (cc := cX6_withdraw) (by decide +kernel) rfl rfl hJ.1 (Nat.le_of_ble_eq_true rfl) ?_
  intro p e s m below meth c0 C hr hlk
  refine iv_sub (lv' := [(0, .ref (G.2.1 84)), (1, .int p1)]) [0, 1] rfl ?_
  unfold f_X6_withdraw at h
  refine iv_aload_n (pc := 0) C 0 dX6_withdraw_0 rfl rfl ?_
  refine iv_iload_n (pc := 1) C 1 dX6_withdraw_1 rfl rfl ?_
  obtain ⟨v1, ev1, h⟩ := iw_be h
  refine iv_callV (pc := 2) (b := 84) (ci := 6) C [.int p1] (k_X6_isInterest l G hJ p1 σ ev1) gX6_withdraw_X6_isInterest rfl qd_X6_isInterest ⟨rfl, rfl, Nat.le_of_ble_eq_true rfl, Nat.le_of_ble_eq_true rfl⟩ (iw_im hJ (by decide)) iw_Eo84 rfl rfl rfl (Nat.le_of_ble_eq_true rfl) dX6_withdraw_2 ?_
  refine iv_if_ne (pc := 5) C 12 dX6_withdraw_5 (by decide) (fun h2 => ?_) (fun h2 => ?_)
  · replace h := iw_iff h2 h
    refine iv_aload_n (pc := 12) C 0 dX6_withdraw_12 rfl rfl ?_
    obtain ⟨m3, em3, h⟩ := iw_be h
    refine iv_callV (pc := 13) (b := 84) (ci := 6) C [] (k_X6_saves l G hJ n σ em3) gX6_withdraw_X6_saves rfl qd_X6_saves ⟨rfl, rfl, Nat.le_of_ble_eq_true rfl, Nat.le_of_ble_eq_true rfl⟩ (iw_im hJ (by decide)) iw_Eo84 rfl rfl rfl (Nat.le_of_ble_eq_true rfl) dX6_withdraw_13 ?_
    refine iv_aload_n (pc := 16) C 0 dX6_withdraw_16 rfl rfl ?_
    refine iv_iload_n (pc := 17) C 1 dX6_withdraw_17 rfl rfl ?_
    obtain ⟨m4, em4, h⟩ := iw_be h
    refine iv_callV (pc := 18) (b := 84) (ci := 6) C [.int p1] (k_X6_removes l G hJ n p1 m3 em4) gX6_withdraw_X6_removes rfl qd_X6_removes ⟨rfl, rfl, Nat.le_of_ble_eq_true rfl, Nat.le_of_ble_eq_true rfl⟩ (iw_im hJ (by decide)) iw_Eo84 rfl rfl rfl (Nat.le_of_ble_eq_true rfl) dX6_withdraw_18 ?_
    refine iv_aload_n (pc := 21) C 0 dX6_withdraw_21 rfl rfl ?_
    refine iv_getf (pc := 22) (T := TX6) (N := 16) (ci := 6) C 84 0 in_X6_withdraw_6 (iw_im hJ (by decide)) iw_Eo84 rfl (by decide) lk_X6_withdraw_7 rfl rfl dX6_withdraw_22 ?_
    refine iv_iconst (pc := 25) C (3 : Int32) dX6_withdraw_25 (by decide) ?_
    obtain ⟨v5, ev5, h⟩ := iw_be h
    refine iv_rd (pc := 26) C 85 (iw_lm hJ rfl (by decide)) ev5 dX6_withdraw_26 ?_
    cases h
    exact iv_iret C hr hlk rfl rfl dX6_withdraw_27
  · replace h := iw_ift h2 h
    refine iv_sipush (pc := 8) C (-1001 : Int32) dX6_withdraw_8 (by decide) ?_
    cases h
    exact iv_iret C hr hlk rfl rfl dX6_withdraw_11
theorem qd_X6_withdraw : yX6_withdraw.cls = RX6 ∧ yX6_withdraw.cls ≠ "java/lang/invoke/MethodHandle" ∧ yX6_withdraw.cls ≠ "java/lang/invoke/VarHandle" ∧ (parseMethodDescriptor yX6_withdraw.desc).map (fun d => d.parameters.length) = some 1 := by decide +kernel
def f_X6_setPeriod (n : Nat) (p1 : Int32) (σ : iw_M) : Option (Int32 × iw_M) :=
if (f_X6_in p1 (1 : Int32) (50 : Int32)) = (0 : Int32) then
(some ((-1002 : Int32), σ))
else
((f_X6_saves n σ).bind fun m2 =>
(iw_rd m2 85 (4 : Int32)).bind fun v3 =>
(iw_wr m2 85 (4 : Int32) p1).bind fun m4 =>
some (v3, m4))
abbrev rm_X6_setPeriod : Room := { frames := 2, cells := 0, slots := 0, locals := 44 }
theorem lk_X6_setPeriod_7 : Cond.fieldLink RX6 7 RX6 (TX6 0).2.1 (TX6 0).2.2.1 ∈ wsX6_setPeriod := by decide +kernel
theorem in_X6_setPeriod_6 : ∀ w ∈ u_ws RX6 TX6 16, w ∈ wsX6_setPeriod := by decide +kernel
set_option maxHeartbeats 4000000 in
set_option maxRecDepth 100000 in
theorem k_X6_setPeriod (l : Launch) (G : iw_G) (hJ : iw_JM G) (n : Nat) (p1 : Int32) (σ : iw_M) {r : Int32} {σ' : iw_M} (h : f_X6_setPeriod n p1 σ = some (r, σ')) : iw_Ct l yX6_setPeriod wsX6_setPeriod rm_X6_setPeriod G ([.ref (G.2.1 84), .int p1] : List Value) σ (some (.int r)) σ' := by
  refine iv_start (nL := 3) (own := RX6) (ret := (some .int)) (cc := cX6_setPeriod) (by decide +kernel) rfl rfl hJ.1 (Nat.le_of_ble_eq_true rfl) ?_
  intro p e s m below meth c0 C hr hlk
  refine iv_sub (lv' := [(0, .ref (G.2.1 84)), (1, .int p1)]) [0, 1] rfl ?_
  unfold f_X6_setPeriod at h
  refine iv_iload_n (pc := 0) C 1 dX6_setPeriod_0 rfl rfl ?_
  refine iv_iconst (pc := 1) C (1 : Int32) dX6_setPeriod_1 (by decide) ?_
  refine iv_bipush (pc := 2) C (50 : Int32) dX6_setPeriod_2 (by decide) ?_
  refine iv_callS (pc := 4) C [.int p1, .int (1 : Int32), .int (50 : Int32)] (k_X6_in l G hJ p1 (1 : Int32) (50 : Int32) σ rfl) gX6_setPeriod_X6_in rfl qd_X6_in ⟨rfl, rfl, Nat.le_of_ble_eq_true rfl, Nat.le_of_ble_eq_true rfl⟩ rfl rfl (Nat.le_of_ble_eq_true rfl) dX6_setPeriod_4 ?_
  refine iv_if_ne (pc := 7) C 14 dX6_setPeriod_7 (by decide) (fun h1 => ?_) (fun h1 => ?_)
  · replace h := iw_iff h1 h
    refine iv_aload_n (pc := 14) C 0 dX6_setPeriod_14 rfl rfl ?_
    obtain ⟨m2, em2, h⟩ := iw_be h
    refine iv_callV (pc := 15) (b := 84) (ci := 6) C [] (k_X6_saves l G hJ n σ em2) gX6_setPeriod_X6_saves rfl qd_X6_saves ⟨rfl, rfl, Nat.le_of_ble_eq_true rfl, Nat.le_of_ble_eq_true rfl⟩ (iw_im hJ (by decide)) iw_Eo84 rfl rfl rfl (Nat.le_of_ble_eq_true rfl) dX6_setPeriod_15 ?_
    refine iv_aload_n (pc := 18) C 0 dX6_setPeriod_18 rfl rfl ?_
    refine iv_getf (pc := 19) (T := TX6) (N := 16) (ci := 6) C 84 0 in_X6_setPeriod_6 (iw_im hJ (by decide)) iw_Eo84 rfl (by decide) lk_X6_setPeriod_7 rfl rfl dX6_setPeriod_19 ?_
    refine iv_iconst (pc := 22) C (4 : Int32) dX6_setPeriod_22 (by decide) ?_
    obtain ⟨v3, ev3, h⟩ := iw_be h
    refine iv_rd (pc := 23) C 85 (iw_lm hJ rfl (by decide)) ev3 dX6_setPeriod_23 ?_
    refine iv_istore_n (pc := 24) C [(2, .int v3), (0, .ref (G.2.1 84)), (1, .int p1)] dX6_setPeriod_24 rfl (by decide) rfl ?_
    refine iv_aload_n (pc := 25) C 1 dX6_setPeriod_25 rfl rfl ?_
    refine iv_getf (pc := 26) (T := TX6) (N := 16) (ci := 6) C 84 0 in_X6_setPeriod_6 (iw_im hJ (by decide)) iw_Eo84 rfl (by decide) lk_X6_setPeriod_7 rfl rfl dX6_setPeriod_26 ?_
    refine iv_iconst (pc := 29) C (4 : Int32) dX6_setPeriod_29 (by decide) ?_
    refine iv_iload_n (pc := 30) C 2 dX6_setPeriod_30 rfl rfl ?_
    obtain ⟨m4, em4, h⟩ := iw_be h
    refine iv_wr (pc := 31) C 85 (iw_lm hJ rfl (by decide)) em4 dX6_setPeriod_31 ?_
    refine iv_iload_n (pc := 32) C 0 dX6_setPeriod_32 rfl rfl ?_
    cases h
    exact iv_iret C hr hlk rfl rfl dX6_setPeriod_33
  · replace h := iw_ift h1 h
    refine iv_sipush (pc := 10) C (-1002 : Int32) dX6_setPeriod_10 (by decide) ?_
    cases h
    exact iv_iret C hr hlk rfl rfl dX6_setPeriod_13
theorem qd_X6_setPeriod : yX6_setPeriod.cls = RX6 ∧ yX6_setPeriod.cls ≠ "java/lang/invoke/MethodHandle" ∧ yX6_setPeriod.cls ≠ "java/lang/invoke/VarHandle" ∧ (parseMethodDescriptor yX6_setPeriod.desc).map (fun d => d.parameters.length) = some 1 := by decide +kernel
def f_X6_living_X36_4 (v1 : Int32) : Option (Int32) :=
some v1
def f_X6_living_J28 (r4 : Int32 → Int32 → Option (Int32)) (v2 : Int32) (v3 : Int32) (v7 : Int32) : Option (Int32) :=
iw_let (v2 + v7) fun v8 =>
iw_let (v3 + (1 : Int32)) fun v9 =>
r4 v8 v9
def f_X6_living_B4 (σ : iw_M) (k4 : Int32 → Option (Int32)) (r4 : Int32 → Int32 → Option (Int32)) (v2 : Int32) (v3 : Int32) : Option (Int32) :=
(iw_rd σ 85 (0 : Int32)).bind fun v4 =>
if v4 ≤ v3 then
(k4 v2)
else
((f_X6_isAlive v3 σ).bind fun v6 =>
if v6 = (0 : Int32) then
(f_X6_living_J28 r4 v2 v3 (0 : Int32))
else
(f_X6_living_J28 r4 v2 v3 (1 : Int32)))
def f_X6_living_L4 (σ : iw_M) (k4 : Int32 → Option (Int32)) (nn : Nat) : Int32 → Int32 → Option (Int32) :=
iw_it (fun r4 => f_X6_living_B4 σ k4 r4) (fun _ _ => none) nn
def f_X6_living (n : Nat) (σ : iw_M) : Option (Int32) :=
f_X6_living_L4 σ (f_X6_living_X36_4) n (0 : Int32) (0 : Int32)
abbrev rm_X6_living : Room := { frames := 1, cells := 0, slots := 0, locals := 21 }
theorem lk_X6_living_7 : Cond.fieldLink RX6 7 RX6 (TX6 0).2.1 (TX6 0).2.2.1 ∈ wsX6_living := by decide +kernel
theorem in_X6_living_6 : ∀ w ∈ u_ws RX6 TX6 16, w ∈ wsX6_living := by decide +kernel
set_option maxHeartbeats 4000000 in
set_option maxRecDepth 100000 in
theorem k_X6_living (l : Launch) (G : iw_G) (hJ : iw_JM G) (n : Nat) (σ : iw_M) {r : Int32} (h : f_X6_living n σ = some r) : iw_Ct l yX6_living wsX6_living rm_X6_living G ([.ref (G.2.1 84)] : List Value) σ (some (.int r)) σ := by
  refine iv_start (nL := 3) (own := RX6) (ret := (some .int)) (cc := cX6_living) (by decide +kernel) rfl rfl hJ.1 (Nat.le_of_ble_eq_true rfl) ?_
  intro p e s m below meth c0 C hr hlk
  refine iv_sub (lv' := [(0, .ref (G.2.1 84))]) [0] rfl ?_
  unfold f_X6_living at h
  refine iv_iconst (pc := 0) C (0 : Int32) dX6_living_0 (by decide) ?_
  refine iv_istore_n (pc := 1) C [(1, .int (0 : Int32)), (0, .ref (G.2.1 84))] dX6_living_1 rfl (by decide) rfl ?_
  refine iv_iconst (pc := 2) C (0 : Int32) dX6_living_2 (by decide) ?_
  refine iv_istore_n (pc := 3) C [(2, .int (0 : Int32)), (1, .int (0 : Int32)), (0, .ref (G.2.1 84))] dX6_living_3 rfl (by decide) rfl ?_
  have vX4 : ∀ (v1 : Int32), f_X6_living_X36_4 v1 = some r → iw_V p l e rm_X6_living s m ([.ref (G.2.1 84)] : List Value).toArray below meth c0 0 0 (MQ below (iw_Q (some (.int r)) G σ) ([.ref (G.2.1 84)] : List Value).toArray s 0 0 (iw_A G)) 3 G (iw_A G) σ 36 [(1, .int v1)] [] := by
    intro v1 h
    unfold f_X6_living_X36_4 at h
    refine iv_iload_n (pc := 36) C 0 dX6_living_36 rfl rfl ?_
    cases h
    exact iv_iret C hr hlk rfl rfl dX6_living_37
  have vB4 : ∀ (k4 : Int32 → Option (Int32)) (r4 : Int32 → Int32 → Option (Int32)), (∀ (v1 : Int32), k4 v1 = some r → iw_V p l e rm_X6_living s m ([.ref (G.2.1 84)] : List Value).toArray below meth c0 0 0 (MQ below (iw_Q (some (.int r)) G σ) ([.ref (G.2.1 84)] : List Value).toArray s 0 0 (iw_A G)) 3 G (iw_A G) σ 36 [(1, .int v1)] []) → (∀ (v2 : Int32) (v3 : Int32), r4 v2 v3 = some r → iw_V p l e rm_X6_living s m ([.ref (G.2.1 84)] : List Value).toArray below meth c0 0 0 (MQ below (iw_Q (some (.int r)) G σ) ([.ref (G.2.1 84)] : List Value).toArray s 0 0 (iw_A G)) 3 G (iw_A G) σ 4 [(0, .ref (G.2.1 84)), (1, .int v2), (2, .int v3)] []) → ∀ (v2 : Int32) (v3 : Int32), f_X6_living_B4 σ k4 r4 v2 v3 = some r → iw_V p l e rm_X6_living s m ([.ref (G.2.1 84)] : List Value).toArray below meth c0 0 0 (MQ below (iw_Q (some (.int r)) G σ) ([.ref (G.2.1 84)] : List Value).toArray s 0 0 (iw_A G)) 3 G (iw_A G) σ 4 [(0, .ref (G.2.1 84)), (1, .int v2), (2, .int v3)] [] := by
    intro k4 r4 hk4 hr4 v2 v3 h
    unfold f_X6_living_B4 at h
    refine iv_iload_n (pc := 4) C 2 dX6_living_4 rfl rfl ?_
    refine iv_aload_n (pc := 5) C 0 dX6_living_5 rfl rfl ?_
    refine iv_getf (pc := 6) (T := TX6) (N := 16) (ci := 6) C 84 0 in_X6_living_6 (iw_im hJ (by decide)) iw_Eo84 rfl (by decide) lk_X6_living_7 rfl rfl dX6_living_6 ?_
    refine iv_iconst (pc := 9) C (0 : Int32) dX6_living_9 (by decide) ?_
    obtain ⟨v4, ev4, h⟩ := iw_be h
    refine iv_rd (pc := 10) C 85 (iw_lm hJ rfl (by decide)) ev4 dX6_living_10 ?_
    refine iv_icmp_ge (pc := 11) C 36 dX6_living_11 (by decide) (fun h5 => ?_) (fun h5 => ?_)
    · replace h := iw_ift h5 h
      exact iv_sub [1] rfl (hk4 v2 h)
    · replace h := iw_iff h5 h
      refine iv_iload_n (pc := 14) C 1 dX6_living_14 rfl rfl ?_
      refine iv_aload_n (pc := 15) C 0 dX6_living_15 rfl rfl ?_
      refine iv_iload_n (pc := 16) C 2 dX6_living_16 rfl rfl ?_
      obtain ⟨v6, ev6, h⟩ := iw_be h
      refine iv_callV (pc := 17) (b := 84) (ci := 6) C [.int v3] (k_X6_isAlive l G hJ v3 σ ev6) gX6_living_X6_isAlive rfl qd_X6_isAlive ⟨rfl, rfl, Nat.le_of_ble_eq_true rfl, Nat.le_of_ble_eq_true rfl⟩ (iw_im hJ (by decide)) iw_Eo84 rfl rfl rfl (Nat.le_of_ble_eq_true rfl) dX6_living_17 ?_
      have vJ28 : ∀ (v7 : Int32), f_X6_living_J28 r4 v2 v3 v7 = some r → iw_V p l e rm_X6_living s m ([.ref (G.2.1 84)] : List Value).toArray below meth c0 0 0 (MQ below (iw_Q (some (.int r)) G σ) ([.ref (G.2.1 84)] : List Value).toArray s 0 0 (iw_A G)) 3 G (iw_A G) σ 28 [(0, .ref (G.2.1 84)), (2, .int v3)] [.int v7, .int v2] := by
        intro v7 h
        unfold f_X6_living_J28 at h
        refine iv_iadd (pc := 28) C dX6_living_28 ?_
        refine iv_topi (fun v8 ev8 => ?_)
        replace h := iw_lete ev8 h
        refine iv_istore_n (pc := 29) C [(1, .int v8), (0, .ref (G.2.1 84)), (2, .int v3)] dX6_living_29 rfl (by decide) rfl ?_
        obtain ⟨v9, ev9⟩ : ∃ y : Int32, y = v3 + (1 : Int32) := ⟨_, rfl⟩
        replace h := iw_lete ev9 h
        refine iv_iinc (pc := 30) C 2 v9 [(2, .int v9), (1, .int v8), (0, .ref (G.2.1 84))] dX6_living_30 rfl (by rw [ev9]; rfl) (by decide) rfl ?_
        refine iv_goto (pc := 33) C 4 dX6_living_33 (by decide) ?_
        exact iv_sub [2, 1, 0] rfl (hr4 v8 v9 h)
      refine iv_if_eq (pc := 20) C 27 dX6_living_20 (by decide) (fun h10 => ?_) (fun h10 => ?_)
      · replace h := iw_ift h10 h
        refine iv_iconst (pc := 27) C (0 : Int32) dX6_living_27 (by decide) ?_
        exact iv_sub [0, 2] rfl (vJ28 (0 : Int32) h)
      · replace h := iw_iff h10 h
        refine iv_iconst (pc := 23) C (1 : Int32) dX6_living_23 (by decide) ?_
        refine iv_goto (pc := 24) C 28 dX6_living_24 (by decide) ?_
        exact iv_sub [0, 2] rfl (vJ28 (1 : Int32) h)
  have vL4 : ∀ (nn : Nat) (v2 : Int32) (v3 : Int32), f_X6_living_L4 σ (f_X6_living_X36_4) nn v2 v3 = some r → iw_V p l e rm_X6_living s m ([.ref (G.2.1 84)] : List Value).toArray below meth c0 0 0 (MQ below (iw_Q (some (.int r)) G σ) ([.ref (G.2.1 84)] : List Value).toArray s 0 0 (iw_A G)) 3 G (iw_A G) σ 4 [(0, .ref (G.2.1 84)), (1, .int v2), (2, .int v3)] [] := by
    intro nn
    induction nn with
    | zero => intro v2 v3 h; exact absurd h (fun q => by cases q)
    | succ nn ih => intro v2 v3 h; exact vB4 (f_X6_living_X36_4) (f_X6_living_L4 σ (f_X6_living_X36_4) nn) vX4 ih v2 v3 h
  exact iv_sub [2, 1, 0] rfl (vL4 n (0 : Int32) (0 : Int32) h)
theorem qd_X6_living : yX6_living.cls = RX6 ∧ yX6_living.cls ≠ "java/lang/invoke/MethodHandle" ∧ yX6_living.cls ≠ "java/lang/invoke/VarHandle" ∧ (parseMethodDescriptor yX6_living.desc).map (fun d => d.parameters.length) = some 0 := by decide +kernel
def f_X6_count (n : Nat) (p1 : Int32) (σ : iw_M) : Option (Int32) :=
if (f_X6_in p1 (0 : Int32) (11 : Int32)) = (0 : Int32) then
(some (-1002 : Int32))
else
(if p1 = (6 : Int32) then
((f_X6_living n σ).bind fun v4 =>
some v4)
else
((iw_rd σ 85 p1).bind fun v3 =>
some v3))
abbrev rm_X6_count : Room := { frames := 2, cells := 0, slots := 0, locals := 43 }
theorem lk_X6_count_7 : Cond.fieldLink RX6 7 RX6 (TX6 0).2.1 (TX6 0).2.2.1 ∈ wsX6_count := by decide +kernel
theorem in_X6_count_6 : ∀ w ∈ u_ws RX6 TX6 16, w ∈ wsX6_count := by decide +kernel
set_option maxHeartbeats 4000000 in
set_option maxRecDepth 100000 in
theorem k_X6_count (l : Launch) (G : iw_G) (hJ : iw_JM G) (n : Nat) (p1 : Int32) (σ : iw_M) {r : Int32} (h : f_X6_count n p1 σ = some r) : iw_Ct l yX6_count wsX6_count rm_X6_count G ([.ref (G.2.1 84), .int p1] : List Value) σ (some (.int r)) σ := by
  refine iv_start (nL := 2) (own := RX6) (ret := (some .int)) (cc := cX6_count) (by decide +kernel) rfl rfl hJ.1 (Nat.le_of_ble_eq_true rfl) ?_
  intro p e s m below meth c0 C hr hlk
  refine iv_sub (lv' := [(0, .ref (G.2.1 84)), (1, .int p1)]) [0, 1] rfl ?_
  unfold f_X6_count at h
  refine iv_iload_n (pc := 0) C 1 dX6_count_0 rfl rfl ?_
  refine iv_iconst (pc := 1) C (0 : Int32) dX6_count_1 (by decide) ?_
  refine iv_bipush (pc := 2) C (11 : Int32) dX6_count_2 (by decide) ?_
  refine iv_callS (pc := 4) C [.int p1, .int (0 : Int32), .int (11 : Int32)] (k_X6_in l G hJ p1 (0 : Int32) (11 : Int32) σ rfl) gX6_count_X6_in rfl qd_X6_in ⟨rfl, rfl, Nat.le_of_ble_eq_true rfl, Nat.le_of_ble_eq_true rfl⟩ rfl rfl (Nat.le_of_ble_eq_true rfl) dX6_count_4 ?_
  refine iv_if_ne (pc := 7) C 16 dX6_count_7 (by decide) (fun h1 => ?_) (fun h1 => ?_)
  · replace h := iw_iff h1 h
    refine iv_iload_n (pc := 16) C 1 dX6_count_16 rfl rfl ?_
    refine iv_bipush (pc := 17) C (6 : Int32) dX6_count_17 (by decide) ?_
    refine iv_icmp_ne (pc := 19) C 29 dX6_count_19 (by decide) (fun h2 => ?_) (fun h2 => ?_)
    · replace h := iw_iff h2 h
      refine iv_aload_n (pc := 29) C 0 dX6_count_29 rfl rfl ?_
      refine iv_getf (pc := 30) (T := TX6) (N := 16) (ci := 6) C 84 0 in_X6_count_6 (iw_im hJ (by decide)) iw_Eo84 rfl (by decide) lk_X6_count_7 rfl rfl dX6_count_30 ?_
      refine iv_iload_n (pc := 33) C 1 dX6_count_33 rfl rfl ?_
      obtain ⟨v3, ev3, h⟩ := iw_be h
      refine iv_rd (pc := 34) C 85 (iw_lm hJ rfl (by decide)) ev3 dX6_count_34 ?_
      cases h
      exact iv_iret C hr hlk rfl rfl dX6_count_35
    · replace h := iw_ift h2 h
      refine iv_aload_n (pc := 22) C 0 dX6_count_22 rfl rfl ?_
      obtain ⟨v4, ev4, h⟩ := iw_be h
      refine iv_callV (pc := 23) (b := 84) (ci := 6) C [] (k_X6_living l G hJ n σ ev4) gX6_count_X6_living rfl qd_X6_living ⟨rfl, rfl, Nat.le_of_ble_eq_true rfl, Nat.le_of_ble_eq_true rfl⟩ (iw_im hJ (by decide)) iw_Eo84 rfl rfl rfl (Nat.le_of_ble_eq_true rfl) dX6_count_23 ?_
      refine iv_goto (pc := 26) C 35 dX6_count_26 (by decide) ?_
      cases h
      exact iv_iret C hr hlk rfl rfl dX6_count_35
  · replace h := iw_ift h1 h
    refine iv_sipush (pc := 10) C (-1002 : Int32) dX6_count_10 (by decide) ?_
    refine iv_goto (pc := 13) C 35 dX6_count_13 (by decide) ?_
    cases h
    exact iv_iret C hr hlk rfl rfl dX6_count_35
theorem qd_X6_count : yX6_count.cls = RX6 ∧ yX6_count.cls ≠ "java/lang/invoke/MethodHandle" ∧ yX6_count.cls ≠ "java/lang/invoke/VarHandle" ∧ (parseMethodDescriptor yX6_count.desc).map (fun d => d.parameters.length) = some 1 := by decide +kernel
def f_X6_energy (p1 : Int32) (σ : iw_M) : Option (Int32) :=
(f_X6_isNode p1 σ).bind fun v1 =>
if v1 = (0 : Int32) then
(some (-1001 : Int32))
else
((iw_rd σ 85 ((12 : Int32) + p1)).bind fun v3 =>
some v3)
abbrev rm_X6_energy : Room := { frames := 2, cells := 0, slots := 0, locals := 43 }
theorem lk_X6_energy_7 : Cond.fieldLink RX6 7 RX6 (TX6 0).2.1 (TX6 0).2.2.1 ∈ wsX6_energy := by decide +kernel
theorem in_X6_energy_6 : ∀ w ∈ u_ws RX6 TX6 16, w ∈ wsX6_energy := by decide +kernel
set_option maxHeartbeats 4000000 in
set_option maxRecDepth 100000 in
theorem k_X6_energy (l : Launch) (G : iw_G) (hJ : iw_JM G) (p1 : Int32) (σ : iw_M) {r : Int32} (h : f_X6_energy p1 σ = some r) : iw_Ct l yX6_energy wsX6_energy rm_X6_energy G ([.ref (G.2.1 84), .int p1] : List Value) σ (some (.int r)) σ := by
  refine iv_start (nL := 2) (own := RX6) (ret := (some .int)) (cc := cX6_energy) (by decide +kernel) rfl rfl hJ.1 (Nat.le_of_ble_eq_true rfl) ?_
  intro p e s m below meth c0 C hr hlk
  refine iv_sub (lv' := [(0, .ref (G.2.1 84)), (1, .int p1)]) [0, 1] rfl ?_
  unfold f_X6_energy at h
  refine iv_aload_n (pc := 0) C 0 dX6_energy_0 rfl rfl ?_
  refine iv_iload_n (pc := 1) C 1 dX6_energy_1 rfl rfl ?_
  obtain ⟨v1, ev1, h⟩ := iw_be h
  refine iv_callV (pc := 2) (b := 84) (ci := 6) C [.int p1] (k_X6_isNode l G hJ p1 σ ev1) gX6_energy_X6_isNode rfl qd_X6_isNode ⟨rfl, rfl, Nat.le_of_ble_eq_true rfl, Nat.le_of_ble_eq_true rfl⟩ (iw_im hJ (by decide)) iw_Eo84 rfl rfl rfl (Nat.le_of_ble_eq_true rfl) dX6_energy_2 ?_
  refine iv_if_eq (pc := 5) C 20 dX6_energy_5 (by decide) (fun h2 => ?_) (fun h2 => ?_)
  · replace h := iw_ift h2 h
    refine iv_sipush (pc := 20) C (-1001 : Int32) dX6_energy_20 (by decide) ?_
    cases h
    exact iv_iret C hr hlk rfl rfl dX6_energy_23
  · replace h := iw_iff h2 h
    refine iv_aload_n (pc := 8) C 0 dX6_energy_8 rfl rfl ?_
    refine iv_getf (pc := 9) (T := TX6) (N := 16) (ci := 6) C 84 0 in_X6_energy_6 (iw_im hJ (by decide)) iw_Eo84 rfl (by decide) lk_X6_energy_7 rfl rfl dX6_energy_9 ?_
    refine iv_bipush (pc := 12) C (12 : Int32) dX6_energy_12 (by decide) ?_
    refine iv_iload_n (pc := 14) C 1 dX6_energy_14 rfl rfl ?_
    refine iv_iadd (pc := 15) C dX6_energy_15 ?_
    obtain ⟨v3, ev3, h⟩ := iw_be h
    refine iv_rd (pc := 16) C 85 (iw_lm hJ rfl (by decide)) ev3 dX6_energy_16 ?_
    refine iv_goto (pc := 17) C 23 dX6_energy_17 (by decide) ?_
    cases h
    exact iv_iret C hr hlk rfl rfl dX6_energy_23
theorem qd_X6_energy : yX6_energy.cls = RX6 ∧ yX6_energy.cls ≠ "java/lang/invoke/MethodHandle" ∧ yX6_energy.cls ≠ "java/lang/invoke/VarHandle" ∧ (parseMethodDescriptor yX6_energy.desc).map (fun d => d.parameters.length) = some 1 := by decide +kernel
def f_X6_linkPart (p1 : Int32) (p2 : Int32) (σ : iw_M) : Option (Int32) :=
(f_X6_isLink p1 σ).bind fun v1 =>
if v1 = (0 : Int32) then
(some (-1001 : Int32))
else
(if (f_X6_in p2 (0 : Int32) (2 : Int32)) = (0 : Int32) then
(some (-1002 : Int32))
else
((f_X6_ofLink p1 p2 σ).bind fun v4 =>
some v4))
abbrev rm_X6_linkPart : Room := { frames := 2, cells := 0, slots := 0, locals := 43 }
set_option maxHeartbeats 4000000 in
set_option maxRecDepth 100000 in
theorem k_X6_linkPart (l : Launch) (G : iw_G) (hJ : iw_JM G) (p1 : Int32) (p2 : Int32) (σ : iw_M) {r : Int32} (h : f_X6_linkPart p1 p2 σ = some r) : iw_Ct l yX6_linkPart wsX6_linkPart rm_X6_linkPart G ([.ref (G.2.1 84), .int p1, .int p2] : List Value) σ (some (.int r)) σ := by
  refine iv_start (nL := 3) (own := RX6) (ret := (some .int)) (cc := cX6_linkPart) (by decide +kernel) rfl rfl hJ.1 (Nat.le_of_ble_eq_true rfl) ?_
  intro p e s m below meth c0 C hr hlk
  refine iv_sub (lv' := [(0, .ref (G.2.1 84)), (1, .int p1), (2, .int p2)]) [0, 1, 2] rfl ?_
  unfold f_X6_linkPart at h
  refine iv_aload_n (pc := 0) C 0 dX6_linkPart_0 rfl rfl ?_
  refine iv_iload_n (pc := 1) C 1 dX6_linkPart_1 rfl rfl ?_
  obtain ⟨v1, ev1, h⟩ := iw_be h
  refine iv_callV (pc := 2) (b := 84) (ci := 6) C [.int p1] (k_X6_isLink l G hJ p1 σ ev1) gX6_linkPart_X6_isLink rfl qd_X6_isLink ⟨rfl, rfl, Nat.le_of_ble_eq_true rfl, Nat.le_of_ble_eq_true rfl⟩ (iw_im hJ (by decide)) iw_Eo84 rfl rfl rfl (Nat.le_of_ble_eq_true rfl) dX6_linkPart_2 ?_
  refine iv_if_ne (pc := 5) C 12 dX6_linkPart_5 (by decide) (fun h2 => ?_) (fun h2 => ?_)
  · replace h := iw_iff h2 h
    refine iv_iload_n (pc := 12) C 2 dX6_linkPart_12 rfl rfl ?_
    refine iv_iconst (pc := 13) C (0 : Int32) dX6_linkPart_13 (by decide) ?_
    refine iv_iconst (pc := 14) C (2 : Int32) dX6_linkPart_14 (by decide) ?_
    refine iv_callS (pc := 15) C [.int p2, .int (0 : Int32), .int (2 : Int32)] (k_X6_in l G hJ p2 (0 : Int32) (2 : Int32) σ rfl) gX6_linkPart_X6_in rfl qd_X6_in ⟨rfl, rfl, Nat.le_of_ble_eq_true rfl, Nat.le_of_ble_eq_true rfl⟩ rfl rfl (Nat.le_of_ble_eq_true rfl) dX6_linkPart_15 ?_
    refine iv_if_eq (pc := 18) C 30 dX6_linkPart_18 (by decide) (fun h3 => ?_) (fun h3 => ?_)
    · replace h := iw_ift h3 h
      refine iv_sipush (pc := 30) C (-1002 : Int32) dX6_linkPart_30 (by decide) ?_
      cases h
      exact iv_iret C hr hlk rfl rfl dX6_linkPart_33
    · replace h := iw_iff h3 h
      refine iv_aload_n (pc := 21) C 0 dX6_linkPart_21 rfl rfl ?_
      refine iv_iload_n (pc := 22) C 1 dX6_linkPart_22 rfl rfl ?_
      refine iv_iload_n (pc := 23) C 2 dX6_linkPart_23 rfl rfl ?_
      obtain ⟨v4, ev4, h⟩ := iw_be h
      refine iv_callV (pc := 24) (b := 84) (ci := 6) C [.int p1, .int p2] (k_X6_ofLink l G hJ p1 p2 σ ev4) gX6_linkPart_X6_ofLink rfl qd_X6_ofLink ⟨rfl, rfl, Nat.le_of_ble_eq_true rfl, Nat.le_of_ble_eq_true rfl⟩ (iw_im hJ (by decide)) iw_Eo84 rfl rfl rfl (Nat.le_of_ble_eq_true rfl) dX6_linkPart_24 ?_
      refine iv_goto (pc := 27) C 33 dX6_linkPart_27 (by decide) ?_
      cases h
      exact iv_iret C hr hlk rfl rfl dX6_linkPart_33
  · replace h := iw_ift h2 h
    refine iv_sipush (pc := 8) C (-1001 : Int32) dX6_linkPart_8 (by decide) ?_
    cases h
    exact iv_iret C hr hlk rfl rfl dX6_linkPart_11
theorem qd_X6_linkPart : yX6_linkPart.cls = RX6 ∧ yX6_linkPart.cls ≠ "java/lang/invoke/MethodHandle" ∧ yX6_linkPart.cls ≠ "java/lang/invoke/VarHandle" ∧ (parseMethodDescriptor yX6_linkPart.desc).map (fun d => d.parameters.length) = some 2 := by decide +kernel
def f_X6_sensor (p1 : Int32) (p2 : Int32) (σ : iw_M) : Option (Int32) :=
(f_X6_isSensor p1 σ).bind fun v1 =>
if v1 = (0 : Int32) then
(some (-1001 : Int32))
else
(if (f_X6_in p2 (0 : Int32) (2 : Int32)) = (0 : Int32) then
(some (-1002 : Int32))
else
((f_X6_ofSensor p1 p2 σ).bind fun v4 =>
some v4))
abbrev rm_X6_sensor : Room := { frames := 2, cells := 0, slots := 0, locals := 43 }
set_option maxHeartbeats 4000000 in
set_option maxRecDepth 100000 in
theorem k_X6_sensor (l : Launch) (G : iw_G) (hJ : iw_JM G) (p1 : Int32) (p2 : Int32) (σ : iw_M) {r : Int32} (h : f_X6_sensor p1 p2 σ = some r) : iw_Ct l yX6_sensor wsX6_sensor rm_X6_sensor G ([.ref (G.2.1 84), .int p1, .int p2] : List Value) σ (some (.int r)) σ := by
  refine iv_start (nL := 3) (own := RX6) (ret := (some .int)) (cc := cX6_sensor) (by decide +kernel) rfl rfl hJ.1 (Nat.le_of_ble_eq_true rfl) ?_
  intro p e s m below meth c0 C hr hlk
  refine iv_sub (lv' := [(0, .ref (G.2.1 84)), (1, .int p1), (2, .int p2)]) [0, 1, 2] rfl ?_
  unfold f_X6_sensor at h
  refine iv_aload_n (pc := 0) C 0 dX6_sensor_0 rfl rfl ?_
  refine iv_iload_n (pc := 1) C 1 dX6_sensor_1 rfl rfl ?_
  obtain ⟨v1, ev1, h⟩ := iw_be h
  refine iv_callV (pc := 2) (b := 84) (ci := 6) C [.int p1] (k_X6_isSensor l G hJ p1 σ ev1) gX6_sensor_X6_isSensor rfl qd_X6_isSensor ⟨rfl, rfl, Nat.le_of_ble_eq_true rfl, Nat.le_of_ble_eq_true rfl⟩ (iw_im hJ (by decide)) iw_Eo84 rfl rfl rfl (Nat.le_of_ble_eq_true rfl) dX6_sensor_2 ?_
  refine iv_if_ne (pc := 5) C 12 dX6_sensor_5 (by decide) (fun h2 => ?_) (fun h2 => ?_)
  · replace h := iw_iff h2 h
    refine iv_iload_n (pc := 12) C 2 dX6_sensor_12 rfl rfl ?_
    refine iv_iconst (pc := 13) C (0 : Int32) dX6_sensor_13 (by decide) ?_
    refine iv_iconst (pc := 14) C (2 : Int32) dX6_sensor_14 (by decide) ?_
    refine iv_callS (pc := 15) C [.int p2, .int (0 : Int32), .int (2 : Int32)] (k_X6_in l G hJ p2 (0 : Int32) (2 : Int32) σ rfl) gX6_sensor_X6_in rfl qd_X6_in ⟨rfl, rfl, Nat.le_of_ble_eq_true rfl, Nat.le_of_ble_eq_true rfl⟩ rfl rfl (Nat.le_of_ble_eq_true rfl) dX6_sensor_15 ?_
    refine iv_if_eq (pc := 18) C 30 dX6_sensor_18 (by decide) (fun h3 => ?_) (fun h3 => ?_)
    · replace h := iw_ift h3 h
      refine iv_sipush (pc := 30) C (-1002 : Int32) dX6_sensor_30 (by decide) ?_
      cases h
      exact iv_iret C hr hlk rfl rfl dX6_sensor_33
    · replace h := iw_iff h3 h
      refine iv_aload_n (pc := 21) C 0 dX6_sensor_21 rfl rfl ?_
      refine iv_iload_n (pc := 22) C 1 dX6_sensor_22 rfl rfl ?_
      refine iv_iload_n (pc := 23) C 2 dX6_sensor_23 rfl rfl ?_
      obtain ⟨v4, ev4, h⟩ := iw_be h
      refine iv_callV (pc := 24) (b := 84) (ci := 6) C [.int p1, .int p2] (k_X6_ofSensor l G hJ p1 p2 σ ev4) gX6_sensor_X6_ofSensor rfl qd_X6_ofSensor ⟨rfl, rfl, Nat.le_of_ble_eq_true rfl, Nat.le_of_ble_eq_true rfl⟩ (iw_im hJ (by decide)) iw_Eo84 rfl rfl rfl (Nat.le_of_ble_eq_true rfl) dX6_sensor_24 ?_
      refine iv_goto (pc := 27) C 33 dX6_sensor_27 (by decide) ?_
      cases h
      exact iv_iret C hr hlk rfl rfl dX6_sensor_33
  · replace h := iw_ift h2 h
    refine iv_sipush (pc := 8) C (-1001 : Int32) dX6_sensor_8 (by decide) ?_
    cases h
    exact iv_iret C hr hlk rfl rfl dX6_sensor_11
theorem qd_X6_sensor : yX6_sensor.cls = RX6 ∧ yX6_sensor.cls ≠ "java/lang/invoke/MethodHandle" ∧ yX6_sensor.cls ≠ "java/lang/invoke/VarHandle" ∧ (parseMethodDescriptor yX6_sensor.desc).map (fun d => d.parameters.length) = some 2 := by decide +kernel
def f_X6_part_X53_18 (v2 : Int32) : Option (Int32) :=
some v2
def f_X6_part_J45 (r18 : Int32 → Int32 → Option (Int32)) (v3 : Int32) (v4 : Int32) (v8 : Int32) : Option (Int32) :=
iw_let (v3 + v8) fun v9 =>
iw_let (v4 + (1 : Int32)) fun v10 =>
r18 v9 v10
def f_X6_part_B18 (p1 : Int32) (σ : iw_M) (k18 : Int32 → Option (Int32)) (r18 : Int32 → Int32 → Option (Int32)) (v3 : Int32) (v4 : Int32) : Option (Int32) :=
(iw_rd σ 85 (2 : Int32)).bind fun v5 =>
if v5 ≤ v4 then
(k18 v3)
else
((f_X6_lengthOf p1 v4 σ).bind fun v7 =>
if v7 ≤ (0 : Int32) then
(f_X6_part_J45 r18 v3 v4 (0 : Int32))
else
(f_X6_part_J45 r18 v3 v4 (1 : Int32)))
def f_X6_part_L18 (p1 : Int32) (σ : iw_M) (k18 : Int32 → Option (Int32)) (nn : Nat) : Int32 → Int32 → Option (Int32) :=
iw_it (fun r18 => f_X6_part_B18 p1 σ k18 r18) (fun _ _ => none) nn
def f_X6_part (n : Nat) (p1 : Int32) (p2 : Int32) (σ : iw_M) : Option (Int32) :=
if (7 : Int32) ≤ p2 then
(f_X6_part_L18 p1 σ (f_X6_part_X53_18) n (0 : Int32) (0 : Int32))
else
((f_X6_ofInterest p1 p2 σ).bind fun v12 =>
some v12)
abbrev rm_X6_part : Room := { frames := 2, cells := 0, slots := 0, locals := 44 }
theorem lk_X6_part_7 : Cond.fieldLink RX6 7 RX6 (TX6 0).2.1 (TX6 0).2.2.1 ∈ wsX6_part := by decide +kernel
theorem in_X6_part_6 : ∀ w ∈ u_ws RX6 TX6 16, w ∈ wsX6_part := by decide +kernel
set_option maxHeartbeats 4000000 in
set_option maxRecDepth 100000 in
theorem k_X6_part (l : Launch) (G : iw_G) (hJ : iw_JM G) (n : Nat) (p1 : Int32) (p2 : Int32) (σ : iw_M) {r : Int32} (h : f_X6_part n p1 p2 σ = some r) : iw_Ct l yX6_part wsX6_part rm_X6_part G ([.ref (G.2.1 84), .int p1, .int p2] : List Value) σ (some (.int r)) σ := by
  refine iv_start (nL := 5) (own := RX6) (ret := (some .int)) (cc := cX6_part) (by decide +kernel) rfl rfl hJ.1 (Nat.le_of_ble_eq_true rfl) ?_
  intro p e s m below meth c0 C hr hlk
  refine iv_sub (lv' := [(0, .ref (G.2.1 84)), (1, .int p1), (2, .int p2)]) [0, 1, 2] rfl ?_
  unfold f_X6_part at h
  refine iv_iload_n (pc := 0) C 2 dX6_part_0 rfl rfl ?_
  refine iv_bipush (pc := 1) C (7 : Int32) dX6_part_1 (by decide) ?_
  refine iv_icmp_ge (pc := 3) C 13 dX6_part_3 (by decide) (fun h1 => ?_) (fun h1 => ?_)
  · replace h := iw_ift h1 h
    refine iv_iconst (pc := 13) C (0 : Int32) dX6_part_13 (by decide) ?_
    refine iv_istore_n (pc := 14) C [(3, .int (0 : Int32)), (0, .ref (G.2.1 84)), (1, .int p1), (2, .int p2)] dX6_part_14 rfl (by decide) rfl ?_
    refine iv_iconst (pc := 15) C (0 : Int32) dX6_part_15 (by decide) ?_
    refine iv_istore (pc := 16) C [(4, .int (0 : Int32)), (3, .int (0 : Int32)), (0, .ref (G.2.1 84)), (1, .int p1), (2, .int p2)] dX6_part_16 (by decide) rfl ?_
    have vX18 : ∀ (v2 : Int32), f_X6_part_X53_18 v2 = some r → iw_V p l e rm_X6_part s m ([.ref (G.2.1 84), .int p1, .int p2] : List Value).toArray below meth c0 0 0 (MQ below (iw_Q (some (.int r)) G σ) ([.ref (G.2.1 84), .int p1, .int p2] : List Value).toArray s 0 0 (iw_A G)) 5 G (iw_A G) σ 53 [(3, .int v2)] [] := by
      intro v2 h
      unfold f_X6_part_X53_18 at h
      refine iv_iload_n (pc := 53) C 0 dX6_part_53 rfl rfl ?_
      cases h
      exact iv_iret C hr hlk rfl rfl dX6_part_54
    have vB18 : ∀ (k18 : Int32 → Option (Int32)) (r18 : Int32 → Int32 → Option (Int32)), (∀ (v2 : Int32), k18 v2 = some r → iw_V p l e rm_X6_part s m ([.ref (G.2.1 84), .int p1, .int p2] : List Value).toArray below meth c0 0 0 (MQ below (iw_Q (some (.int r)) G σ) ([.ref (G.2.1 84), .int p1, .int p2] : List Value).toArray s 0 0 (iw_A G)) 5 G (iw_A G) σ 53 [(3, .int v2)] []) → (∀ (v3 : Int32) (v4 : Int32), r18 v3 v4 = some r → iw_V p l e rm_X6_part s m ([.ref (G.2.1 84), .int p1, .int p2] : List Value).toArray below meth c0 0 0 (MQ below (iw_Q (some (.int r)) G σ) ([.ref (G.2.1 84), .int p1, .int p2] : List Value).toArray s 0 0 (iw_A G)) 5 G (iw_A G) σ 18 [(0, .ref (G.2.1 84)), (1, .int p1), (3, .int v3), (4, .int v4)] []) → ∀ (v3 : Int32) (v4 : Int32), f_X6_part_B18 p1 σ k18 r18 v3 v4 = some r → iw_V p l e rm_X6_part s m ([.ref (G.2.1 84), .int p1, .int p2] : List Value).toArray below meth c0 0 0 (MQ below (iw_Q (some (.int r)) G σ) ([.ref (G.2.1 84), .int p1, .int p2] : List Value).toArray s 0 0 (iw_A G)) 5 G (iw_A G) σ 18 [(0, .ref (G.2.1 84)), (1, .int p1), (3, .int v3), (4, .int v4)] [] := by
      intro k18 r18 hk18 hr18 v3 v4 h
      unfold f_X6_part_B18 at h
      refine iv_iload (pc := 18) C 3 dX6_part_18 rfl ?_
      refine iv_aload_n (pc := 20) C 0 dX6_part_20 rfl rfl ?_
      refine iv_getf (pc := 21) (T := TX6) (N := 16) (ci := 6) C 84 0 in_X6_part_6 (iw_im hJ (by decide)) iw_Eo84 rfl (by decide) lk_X6_part_7 rfl rfl dX6_part_21 ?_
      refine iv_iconst (pc := 24) C (2 : Int32) dX6_part_24 (by decide) ?_
      obtain ⟨v5, ev5, h⟩ := iw_be h
      refine iv_rd (pc := 25) C 85 (iw_lm hJ rfl (by decide)) ev5 dX6_part_25 ?_
      refine iv_icmp_ge (pc := 26) C 53 dX6_part_26 (by decide) (fun h6 => ?_) (fun h6 => ?_)
      · replace h := iw_ift h6 h
        exact iv_sub [2] rfl (hk18 v3 h)
      · replace h := iw_iff h6 h
        refine iv_iload_n (pc := 29) C 2 dX6_part_29 rfl rfl ?_
        refine iv_aload_n (pc := 30) C 0 dX6_part_30 rfl rfl ?_
        refine iv_iload_n (pc := 31) C 1 dX6_part_31 rfl rfl ?_
        refine iv_iload (pc := 32) C 3 dX6_part_32 rfl ?_
        obtain ⟨v7, ev7, h⟩ := iw_be h
        refine iv_callV (pc := 34) (b := 84) (ci := 6) C [.int p1, .int v4] (k_X6_lengthOf l G hJ p1 v4 σ ev7) gX6_part_X6_lengthOf rfl qd_X6_lengthOf ⟨rfl, rfl, Nat.le_of_ble_eq_true rfl, Nat.le_of_ble_eq_true rfl⟩ (iw_im hJ (by decide)) iw_Eo84 rfl rfl rfl (Nat.le_of_ble_eq_true rfl) dX6_part_34 ?_
        have vJ45 : ∀ (v8 : Int32), f_X6_part_J45 r18 v3 v4 v8 = some r → iw_V p l e rm_X6_part s m ([.ref (G.2.1 84), .int p1, .int p2] : List Value).toArray below meth c0 0 0 (MQ below (iw_Q (some (.int r)) G σ) ([.ref (G.2.1 84), .int p1, .int p2] : List Value).toArray s 0 0 (iw_A G)) 5 G (iw_A G) σ 45 [(0, .ref (G.2.1 84)), (1, .int p1), (4, .int v4)] [.int v8, .int v3] := by
          intro v8 h
          unfold f_X6_part_J45 at h
          refine iv_iadd (pc := 45) C dX6_part_45 ?_
          refine iv_topi (fun v9 ev9 => ?_)
          replace h := iw_lete ev9 h
          refine iv_istore_n (pc := 46) C [(3, .int v9), (0, .ref (G.2.1 84)), (1, .int p1), (4, .int v4)] dX6_part_46 rfl (by decide) rfl ?_
          obtain ⟨v10, ev10⟩ : ∃ y : Int32, y = v4 + (1 : Int32) := ⟨_, rfl⟩
          replace h := iw_lete ev10 h
          refine iv_iinc (pc := 47) C 3 v10 [(4, .int v10), (3, .int v9), (0, .ref (G.2.1 84)), (1, .int p1)] dX6_part_47 rfl (by rw [ev10]; rfl) (by decide) rfl ?_
          refine iv_goto (pc := 50) C 18 dX6_part_50 (by decide) ?_
          exact iv_sub [2, 3, 1, 0] rfl (hr18 v9 v10 h)
        refine iv_if_le (pc := 37) C 44 dX6_part_37 (by decide) (fun h11 => ?_) (fun h11 => ?_)
        · replace h := iw_ift h11 h
          refine iv_iconst (pc := 44) C (0 : Int32) dX6_part_44 (by decide) ?_
          exact iv_sub [0, 1, 3] rfl (vJ45 (0 : Int32) h)
        · replace h := iw_iff h11 h
          refine iv_iconst (pc := 40) C (1 : Int32) dX6_part_40 (by decide) ?_
          refine iv_goto (pc := 41) C 45 dX6_part_41 (by decide) ?_
          exact iv_sub [0, 1, 3] rfl (vJ45 (1 : Int32) h)
    have vL18 : ∀ (nn : Nat) (v3 : Int32) (v4 : Int32), f_X6_part_L18 p1 σ (f_X6_part_X53_18) nn v3 v4 = some r → iw_V p l e rm_X6_part s m ([.ref (G.2.1 84), .int p1, .int p2] : List Value).toArray below meth c0 0 0 (MQ below (iw_Q (some (.int r)) G σ) ([.ref (G.2.1 84), .int p1, .int p2] : List Value).toArray s 0 0 (iw_A G)) 5 G (iw_A G) σ 18 [(0, .ref (G.2.1 84)), (1, .int p1), (3, .int v3), (4, .int v4)] [] := by
      intro nn
      induction nn with
      | zero => intro v3 v4 h; exact absurd h (fun q => by cases q)
      | succ nn ih => intro v3 v4 h; exact vB18 (f_X6_part_X53_18) (f_X6_part_L18 p1 σ (f_X6_part_X53_18) nn) vX18 ih v3 v4 h
    exact iv_sub [2, 3, 1, 0] rfl (vL18 n (0 : Int32) (0 : Int32) h)
  · replace h := iw_iff h1 h
    refine iv_aload_n (pc := 6) C 0 dX6_part_6 rfl rfl ?_
    refine iv_iload_n (pc := 7) C 1 dX6_part_7 rfl rfl ?_
    refine iv_iload_n (pc := 8) C 2 dX6_part_8 rfl rfl ?_
    obtain ⟨v12, ev12, h⟩ := iw_be h
    refine iv_callV (pc := 9) (b := 84) (ci := 6) C [.int p1, .int p2] (k_X6_ofInterest l G hJ p1 p2 σ ev12) gX6_part_X6_ofInterest rfl qd_X6_ofInterest ⟨rfl, rfl, Nat.le_of_ble_eq_true rfl, Nat.le_of_ble_eq_true rfl⟩ (iw_im hJ (by decide)) iw_Eo84 rfl rfl rfl (Nat.le_of_ble_eq_true rfl) dX6_part_9 ?_
    cases h
    exact iv_iret C hr hlk rfl rfl dX6_part_12
theorem qd_X6_part : yX6_part.cls = RX6 ∧ yX6_part.cls ≠ "java/lang/invoke/MethodHandle" ∧ yX6_part.cls ≠ "java/lang/invoke/VarHandle" ∧ (parseMethodDescriptor yX6_part.desc).map (fun d => d.parameters.length) = some 2 := by decide +kernel
def f_X6_interest (n : Nat) (p1 : Int32) (p2 : Int32) (σ : iw_M) : Option (Int32) :=
(f_X6_isInterest p1 σ).bind fun v1 =>
if v1 = (0 : Int32) then
(some (-1001 : Int32))
else
(if (f_X6_in p2 (0 : Int32) (7 : Int32)) = (0 : Int32) then
(some (-1002 : Int32))
else
((f_X6_part n p1 p2 σ).bind fun v4 =>
some v4))
abbrev rm_X6_interest : Room := { frames := 3, cells := 0, slots := 0, locals := 68 }
set_option maxHeartbeats 4000000 in
set_option maxRecDepth 100000 in
theorem k_X6_interest (l : Launch) (G : iw_G) (hJ : iw_JM G) (n : Nat) (p1 : Int32) (p2 : Int32) (σ : iw_M) {r : Int32} (h : f_X6_interest n p1 p2 σ = some r) : iw_Ct l yX6_interest wsX6_interest rm_X6_interest G ([.ref (G.2.1 84), .int p1, .int p2] : List Value) σ (some (.int r)) σ := by
  refine iv_start (nL := 3) (own := RX6) (ret := (some .int)) (cc := cX6_interest) (by decide +kernel) rfl rfl hJ.1 (Nat.le_of_ble_eq_true rfl) ?_
  intro p e s m below meth c0 C hr hlk
  refine iv_sub (lv' := [(0, .ref (G.2.1 84)), (1, .int p1), (2, .int p2)]) [0, 1, 2] rfl ?_
  unfold f_X6_interest at h
  refine iv_aload_n (pc := 0) C 0 dX6_interest_0 rfl rfl ?_
  refine iv_iload_n (pc := 1) C 1 dX6_interest_1 rfl rfl ?_
  obtain ⟨v1, ev1, h⟩ := iw_be h
  refine iv_callV (pc := 2) (b := 84) (ci := 6) C [.int p1] (k_X6_isInterest l G hJ p1 σ ev1) gX6_interest_X6_isInterest rfl qd_X6_isInterest ⟨rfl, rfl, Nat.le_of_ble_eq_true rfl, Nat.le_of_ble_eq_true rfl⟩ (iw_im hJ (by decide)) iw_Eo84 rfl rfl rfl (Nat.le_of_ble_eq_true rfl) dX6_interest_2 ?_
  refine iv_if_ne (pc := 5) C 12 dX6_interest_5 (by decide) (fun h2 => ?_) (fun h2 => ?_)
  · replace h := iw_iff h2 h
    refine iv_iload_n (pc := 12) C 2 dX6_interest_12 rfl rfl ?_
    refine iv_iconst (pc := 13) C (0 : Int32) dX6_interest_13 (by decide) ?_
    refine iv_bipush (pc := 14) C (7 : Int32) dX6_interest_14 (by decide) ?_
    refine iv_callS (pc := 16) C [.int p2, .int (0 : Int32), .int (7 : Int32)] (k_X6_in l G hJ p2 (0 : Int32) (7 : Int32) σ rfl) gX6_interest_X6_in rfl qd_X6_in ⟨rfl, rfl, Nat.le_of_ble_eq_true rfl, Nat.le_of_ble_eq_true rfl⟩ rfl rfl (Nat.le_of_ble_eq_true rfl) dX6_interest_16 ?_
    refine iv_if_eq (pc := 19) C 31 dX6_interest_19 (by decide) (fun h3 => ?_) (fun h3 => ?_)
    · replace h := iw_ift h3 h
      refine iv_sipush (pc := 31) C (-1002 : Int32) dX6_interest_31 (by decide) ?_
      cases h
      exact iv_iret C hr hlk rfl rfl dX6_interest_34
    · replace h := iw_iff h3 h
      refine iv_aload_n (pc := 22) C 0 dX6_interest_22 rfl rfl ?_
      refine iv_iload_n (pc := 23) C 1 dX6_interest_23 rfl rfl ?_
      refine iv_iload_n (pc := 24) C 2 dX6_interest_24 rfl rfl ?_
      obtain ⟨v4, ev4, h⟩ := iw_be h
      refine iv_callV (pc := 25) (b := 84) (ci := 6) C [.int p1, .int p2] (k_X6_part l G hJ n p1 p2 σ ev4) gX6_interest_X6_part rfl qd_X6_part ⟨rfl, rfl, Nat.le_of_ble_eq_true rfl, Nat.le_of_ble_eq_true rfl⟩ (iw_im hJ (by decide)) iw_Eo84 rfl rfl rfl (Nat.le_of_ble_eq_true rfl) dX6_interest_25 ?_
      refine iv_goto (pc := 28) C 34 dX6_interest_28 (by decide) ?_
      cases h
      exact iv_iret C hr hlk rfl rfl dX6_interest_34
  · replace h := iw_ift h2 h
    refine iv_sipush (pc := 8) C (-1001 : Int32) dX6_interest_8 (by decide) ?_
    cases h
    exact iv_iret C hr hlk rfl rfl dX6_interest_11
theorem qd_X6_interest : yX6_interest.cls = RX6 ∧ yX6_interest.cls ≠ "java/lang/invoke/MethodHandle" ∧ yX6_interest.cls ≠ "java/lang/invoke/VarHandle" ∧ (parseMethodDescriptor yX6_interest.desc).map (fun d => d.parameters.length) = some 2 := by decide +kernel
def f_X6_looksAlive_X43_2 (m1 : iw_M) : Option (iw_M) :=
some m1
def f_X6_looksAlive_J36 (r2 : Int32 → iw_M → Option (iw_M)) (v2 : Int32) (m3 : iw_M) (v6 : Int32) : Option (iw_M) :=
(iw_wr m3 87 v2 (v6 &&& 1)).bind fun m7 =>
iw_let (v2 + (1 : Int32)) fun v8 =>
r2 v8 m7
def f_X6_looksAlive_J35 (r2 : Int32 → iw_M → Option (iw_M)) (v2 : Int32) (m3 : iw_M) : Option (iw_M) :=
f_X6_looksAlive_J36 r2 v2 m3 (0 : Int32)
def f_X6_looksAlive_B2 (k2 : iw_M → Option (iw_M)) (r2 : Int32 → iw_M → Option (iw_M)) (v2 : Int32) (m3 : iw_M) : Option (iw_M) :=
if (10 : Int32) ≤ v2 then
(k2 m3)
else
((iw_rd m3 85 (0 : Int32)).bind fun v5 =>
if v5 ≤ v2 then
(f_X6_looksAlive_J35 r2 v2 m3)
else
((f_X6_isAlive v2 m3).bind fun v10 =>
if v10 = (0 : Int32) then
(f_X6_looksAlive_J35 r2 v2 m3)
else
(f_X6_looksAlive_J36 r2 v2 m3 (1 : Int32))))
def f_X6_looksAlive_L2 (k2 : iw_M → Option (iw_M)) (nn : Nat) : Int32 → iw_M → Option (iw_M) :=
iw_it (fun r2 => f_X6_looksAlive_B2 k2 r2) (fun _ _ => none) nn
def f_X6_looksAlive (n : Nat) (σ : iw_M) : Option (iw_M) :=
f_X6_looksAlive_L2 (f_X6_looksAlive_X43_2) n (0 : Int32) σ
abbrev rm_X6_looksAlive : Room := { frames := 1, cells := 0, slots := 0, locals := 21 }
theorem lk_X6_looksAlive_16 : Cond.fieldLink RX6 16 RX6 (TX6 3).2.1 (TX6 3).2.2.1 ∈ wsX6_looksAlive := by decide +kernel
theorem lk_X6_looksAlive_7 : Cond.fieldLink RX6 7 RX6 (TX6 0).2.1 (TX6 0).2.2.1 ∈ wsX6_looksAlive := by decide +kernel
theorem in_X6_looksAlive_6 : ∀ w ∈ u_ws RX6 TX6 16, w ∈ wsX6_looksAlive := by decide +kernel
set_option maxHeartbeats 4000000 in
set_option maxRecDepth 100000 in
theorem k_X6_looksAlive (l : Launch) (G : iw_G) (hJ : iw_JM G) (n : Nat) (σ : iw_M) {σ' : iw_M} (h : f_X6_looksAlive n σ = some σ') : iw_Ct l yX6_looksAlive wsX6_looksAlive rm_X6_looksAlive G ([.ref (G.2.1 84)] : List Value) σ none σ' := by
  refine iv_start (nL := 2) (own := RX6) (ret := none) (cc := cX6_looksAlive) (by decide +kernel) rfl rfl hJ.1 (Nat.le_of_ble_eq_true rfl) ?_
  intro p e s m below meth c0 C hr hlk
  refine iv_sub (lv' := [(0, .ref (G.2.1 84))]) [0] rfl ?_
  unfold f_X6_looksAlive at h
  refine iv_iconst (pc := 0) C (0 : Int32) dX6_looksAlive_0 (by decide) ?_
  refine iv_istore_n (pc := 1) C [(1, .int (0 : Int32)), (0, .ref (G.2.1 84))] dX6_looksAlive_1 rfl (by decide) rfl ?_
  have vX2 : ∀ (m1 : iw_M), f_X6_looksAlive_X43_2 m1 = some σ' → iw_V p l e rm_X6_looksAlive s m ([.ref (G.2.1 84)] : List Value).toArray below meth c0 0 0 (MQ below (iw_Q none G σ') ([.ref (G.2.1 84)] : List Value).toArray s 0 0 (iw_A G)) 2 G (iw_A G) m1 43 [] [] := by
    intro m1 h
    unfold f_X6_looksAlive_X43_2 at h
    cases h
    exact iv_vret C hr hlk rfl rfl dX6_looksAlive_43
  have vB2 : ∀ (k2 : iw_M → Option (iw_M)) (r2 : Int32 → iw_M → Option (iw_M)), (∀ (m1 : iw_M), k2 m1 = some σ' → iw_V p l e rm_X6_looksAlive s m ([.ref (G.2.1 84)] : List Value).toArray below meth c0 0 0 (MQ below (iw_Q none G σ') ([.ref (G.2.1 84)] : List Value).toArray s 0 0 (iw_A G)) 2 G (iw_A G) m1 43 [] []) → (∀ (v2 : Int32) (m3 : iw_M), r2 v2 m3 = some σ' → iw_V p l e rm_X6_looksAlive s m ([.ref (G.2.1 84)] : List Value).toArray below meth c0 0 0 (MQ below (iw_Q none G σ') ([.ref (G.2.1 84)] : List Value).toArray s 0 0 (iw_A G)) 2 G (iw_A G) m3 2 [(0, .ref (G.2.1 84)), (1, .int v2)] []) → ∀ (v2 : Int32) (m3 : iw_M), f_X6_looksAlive_B2  k2 r2 v2 m3 = some σ' → iw_V p l e rm_X6_looksAlive s m ([.ref (G.2.1 84)] : List Value).toArray below meth c0 0 0 (MQ below (iw_Q none G σ') ([.ref (G.2.1 84)] : List Value).toArray s 0 0 (iw_A G)) 2 G (iw_A G) m3 2 [(0, .ref (G.2.1 84)), (1, .int v2)] [] := by
    intro k2 r2 hk2 hr2 v2 m3 h
    unfold f_X6_looksAlive_B2 at h
    refine iv_iload_n (pc := 2) C 1 dX6_looksAlive_2 rfl rfl ?_
    refine iv_bipush (pc := 3) C (10 : Int32) dX6_looksAlive_3 (by decide) ?_
    refine iv_icmp_ge (pc := 5) C 43 dX6_looksAlive_5 (by decide) (fun h4 => ?_) (fun h4 => ?_)
    · replace h := iw_ift h4 h
      exact iv_sub [] rfl (hk2 m3 h)
    · replace h := iw_iff h4 h
      refine iv_aload_n (pc := 8) C 0 dX6_looksAlive_8 rfl rfl ?_
      refine iv_getf (pc := 9) (T := TX6) (N := 16) (ci := 6) C 84 3 in_X6_looksAlive_6 (iw_im hJ (by decide)) iw_Eo84 rfl (by decide) lk_X6_looksAlive_16 rfl rfl dX6_looksAlive_9 ?_
      refine iv_iload_n (pc := 12) C 1 dX6_looksAlive_12 rfl rfl ?_
      refine iv_iload_n (pc := 13) C 1 dX6_looksAlive_13 rfl rfl ?_
      refine iv_aload_n (pc := 14) C 0 dX6_looksAlive_14 rfl rfl ?_
      refine iv_getf (pc := 15) (T := TX6) (N := 16) (ci := 6) C 84 0 in_X6_looksAlive_6 (iw_im hJ (by decide)) iw_Eo84 rfl (by decide) lk_X6_looksAlive_7 rfl rfl dX6_looksAlive_15 ?_
      refine iv_iconst (pc := 18) C (0 : Int32) dX6_looksAlive_18 (by decide) ?_
      obtain ⟨v5, ev5, h⟩ := iw_be h
      refine iv_rd (pc := 19) C 85 (iw_lm hJ rfl (by decide)) ev5 dX6_looksAlive_19 ?_
      have vJ36 : ∀ (v6 : Int32), f_X6_looksAlive_J36 r2 v2 m3 v6 = some σ' → iw_V p l e rm_X6_looksAlive s m ([.ref (G.2.1 84)] : List Value).toArray below meth c0 0 0 (MQ below (iw_Q none G σ') ([.ref (G.2.1 84)] : List Value).toArray s 0 0 (iw_A G)) 2 G (iw_A G) m3 36 [(0, .ref (G.2.1 84)), (1, .int v2)] [.int v6, .int v2, .ref (G.2.1 87)] := by
        intro v6 h
        unfold f_X6_looksAlive_J36 at h
        obtain ⟨m7, em7, h⟩ := iw_be h
        refine iv_wrz (pc := 36) C 87 (iw_zm hJ rfl (by decide)) em7 dX6_looksAlive_36 ?_
        obtain ⟨v8, ev8⟩ : ∃ y : Int32, y = v2 + (1 : Int32) := ⟨_, rfl⟩
        replace h := iw_lete ev8 h
        refine iv_iinc (pc := 37) C 1 v8 [(1, .int v8), (0, .ref (G.2.1 84))] dX6_looksAlive_37 rfl (by rw [ev8]; rfl) (by decide) rfl ?_
        refine iv_goto (pc := 40) C 2 dX6_looksAlive_40 (by decide) ?_
        exact iv_sub [1, 0] rfl (hr2 v8 m7 h)
      have vJ35 : f_X6_looksAlive_J35 r2 v2 m3  = some σ' → iw_V p l e rm_X6_looksAlive s m ([.ref (G.2.1 84)] : List Value).toArray below meth c0 0 0 (MQ below (iw_Q none G σ') ([.ref (G.2.1 84)] : List Value).toArray s 0 0 (iw_A G)) 2 G (iw_A G) m3 35 [(0, .ref (G.2.1 84)), (1, .int v2)] [.int v2, .ref (G.2.1 87)] := by
        intro h
        unfold f_X6_looksAlive_J35 at h
        refine iv_iconst (pc := 35) C (0 : Int32) dX6_looksAlive_35 (by decide) ?_
        exact iv_sub [0, 1] rfl (vJ36 (0 : Int32) h)
      refine iv_icmp_ge (pc := 20) C 35 dX6_looksAlive_20 (by decide) (fun h9 => ?_) (fun h9 => ?_)
      · replace h := iw_ift h9 h
        exact iv_sub [0, 1] rfl (vJ35 h)
      · replace h := iw_iff h9 h
        refine iv_aload_n (pc := 23) C 0 dX6_looksAlive_23 rfl rfl ?_
        refine iv_iload_n (pc := 24) C 1 dX6_looksAlive_24 rfl rfl ?_
        obtain ⟨v10, ev10, h⟩ := iw_be h
        refine iv_callV (pc := 25) (b := 84) (ci := 6) C [.int v2] (k_X6_isAlive l G hJ v2 m3 ev10) gX6_looksAlive_X6_isAlive rfl qd_X6_isAlive ⟨rfl, rfl, Nat.le_of_ble_eq_true rfl, Nat.le_of_ble_eq_true rfl⟩ (iw_im hJ (by decide)) iw_Eo84 rfl rfl rfl (Nat.le_of_ble_eq_true rfl) dX6_looksAlive_25 ?_
        refine iv_if_eq (pc := 28) C 35 dX6_looksAlive_28 (by decide) (fun h11 => ?_) (fun h11 => ?_)
        · replace h := iw_ift h11 h
          exact iv_sub [0, 1] rfl (vJ35 h)
        · replace h := iw_iff h11 h
          refine iv_iconst (pc := 31) C (1 : Int32) dX6_looksAlive_31 (by decide) ?_
          refine iv_goto (pc := 32) C 36 dX6_looksAlive_32 (by decide) ?_
          exact iv_sub [0, 1] rfl (vJ36 (1 : Int32) h)
  have vL2 : ∀ (nn : Nat) (v2 : Int32) (m3 : iw_M), f_X6_looksAlive_L2  (f_X6_looksAlive_X43_2) nn v2 m3 = some σ' → iw_V p l e rm_X6_looksAlive s m ([.ref (G.2.1 84)] : List Value).toArray below meth c0 0 0 (MQ below (iw_Q none G σ') ([.ref (G.2.1 84)] : List Value).toArray s 0 0 (iw_A G)) 2 G (iw_A G) m3 2 [(0, .ref (G.2.1 84)), (1, .int v2)] [] := by
    intro nn
    induction nn with
    | zero => intro v2 m3 h; exact absurd h (fun q => by cases q)
    | succ nn ih => intro v2 m3 h; exact vB2 (f_X6_looksAlive_X43_2) (f_X6_looksAlive_L2  (f_X6_looksAlive_X43_2) nn) vX2 ih v2 m3 h
  exact iv_sub [1, 0] rfl (vL2 n (0 : Int32) σ h)
theorem qd_X6_looksAlive : yX6_looksAlive.cls = RX6 ∧ yX6_looksAlive.cls ≠ "java/lang/invoke/MethodHandle" ∧ yX6_looksAlive.cls ≠ "java/lang/invoke/VarHandle" ∧ (parseMethodDescriptor yX6_looksAlive.desc).map (fun d => d.parameters.length) = some 0 := by decide +kernel
def f_X6_reaches_X287_65 (m4 : iw_M) : Option (iw_M) :=
some m4
def f_X6_reaches_X284_219 (r65 : Int32 → iw_M → Option (iw_M)) (m9 : iw_M) (v10 : Int32) : Option (iw_M) :=
r65 v10 m9
def f_X6_reaches_J277 (r219 : Int32 → Int32 → Option (iw_M)) (v12 : Int32) (v16 : Int32) : Option (iw_M) :=
iw_let (v12 + (1 : Int32)) fun v17 =>
r219 v16 v17
def f_X6_reaches_J276 (r219 : Int32 → Int32 → Option (iw_M)) (v11 : Int32) (v12 : Int32) : Option (iw_M) :=
f_X6_reaches_J277 r219 v12 v11
def f_X6_reaches_J272 (r219 : Int32 → Int32 → Option (iw_M)) (v12 : Int32) : Option (iw_M) :=
f_X6_reaches_J277 r219 v12 v12
def f_X6_reaches_B219 (m9 : iw_M) (k219 : Int32 → Option (iw_M)) (r219 : Int32 → Int32 → Option (iw_M)) (v11 : Int32) (v12 : Int32) : Option (iw_M) :=
(iw_rd m9 85 (0 : Int32)).bind fun v13 =>
if v13 ≤ v12 then
(k219 v11)
else
((iw_rd m9 88 v12).bind fun v15 =>
if v15 = (0 : Int32) then
((iw_rd m9 86 v12).bind fun v19 =>
if v19 = (-1000 : Int32) then
(f_X6_reaches_J276 r219 v11 v12)
else
(if v11 = (-1000 : Int32) then
(f_X6_reaches_J272 r219 v12)
else
((iw_rd m9 86 v12).bind fun v22 =>
(iw_rd m9 86 v11).bind fun v23 =>
if v23 ≤ v22 then
(f_X6_reaches_J276 r219 v11 v12)
else
(f_X6_reaches_J272 r219 v12))))
else
(f_X6_reaches_J276 r219 v11 v12))
def f_X6_reaches_L219 (m9 : iw_M) (k219 : Int32 → Option (iw_M)) (nn : Nat) : Int32 → Int32 → Option (iw_M) :=
iw_it (fun r219 => f_X6_reaches_B219 m9 k219 r219) (fun _ _ => none) nn
def f_X6_reaches_X213_81 (n : Nat) (r65 : Int32 → iw_M → Option (iw_M)) (m9 : iw_M) : Option (iw_M) :=
f_X6_reaches_L219 m9 (f_X6_reaches_X284_219 r65 m9) n (-1000 : Int32) (0 : Int32)
def f_X6_reaches_J206 (r81 : Int32 → iw_M → Option (iw_M)) (v25 : Int32) (m26 : iw_M) (v30 : Int32) (v34 : Int32) : Option (iw_M) :=
(iw_wr m26 86 v30 v34).bind fun m35 =>
iw_let (v25 + (1 : Int32)) fun v36 =>
r81 v36 m35
def f_X6_reaches_J199 (r81 : Int32 → iw_M → Option (iw_M)) (v25 : Int32) (m26 : iw_M) (v30 : Int32) : Option (iw_M) :=
(iw_rd m26 86 v30).bind fun v37 =>
f_X6_reaches_J206 r81 v25 m26 v30 v37
def f_X6_reaches_J194 (r81 : Int32 → iw_M → Option (iw_M)) (v25 : Int32) (m26 : iw_M) (v30 : Int32) (v33 : Int32) : Option (iw_M) :=
f_X6_reaches_J206 r81 v25 m26 v30 v33
def f_X6_reaches_J130 (v5 : Int32) (r81 : Int32 → iw_M → Option (iw_M)) (v25 : Int32) (m26 : iw_M) (v30 : Int32) : Option (iw_M) :=
(iw_rd m26 86 v5).bind fun v31 =>
(f_X6_ofLink v25 (2 : Int32) m26).bind fun v32 =>
iw_let (v31 + v32) fun v33 =>
if v30 = v5 then
(f_X6_reaches_J199 r81 v25 m26 v30)
else
((iw_rd m26 87 v30).bind fun v39 =>
if v39 = (0 : Int32) then
(f_X6_reaches_J199 r81 v25 m26 v30)
else
((iw_rd m26 86 v30).bind fun v41 =>
if v41 = (-1000 : Int32) then
(f_X6_reaches_J194 r81 v25 m26 v30 v33)
else
((iw_rd m26 86 v30).bind fun v43 =>
if v43 ≤ v33 then
(f_X6_reaches_J199 r81 v25 m26 v30)
else
(f_X6_reaches_J194 r81 v25 m26 v30 v33))))
def f_X6_reaches_B81 (v5 : Int32) (k81 : iw_M → Option (iw_M)) (r81 : Int32 → iw_M → Option (iw_M)) (v25 : Int32) (m26 : iw_M) : Option (iw_M) :=
(iw_rd m26 85 (1 : Int32)).bind fun v27 =>
if v27 ≤ v25 then
(k81 m26)
else
((f_X6_ofLink v25 (0 : Int32) m26).bind fun v29 =>
if v29 = v5 then
((f_X6_ofLink v25 (1 : Int32) m26).bind fun v49 =>
f_X6_reaches_J130 v5 r81 v25 m26 v49)
else
((f_X6_ofLink v25 (1 : Int32) m26).bind fun v46 =>
if v46 = v5 then
((f_X6_ofLink v25 (0 : Int32) m26).bind fun v48 =>
f_X6_reaches_J130 v5 r81 v25 m26 v48)
else
(f_X6_reaches_J130 v5 r81 v25 m26 v5)))
def f_X6_reaches_L81 (v5 : Int32) (k81 : iw_M → Option (iw_M)) (nn : Nat) : Int32 → iw_M → Option (iw_M) :=
iw_it (fun r81 => f_X6_reaches_B81 v5 k81 r81) (fun _ _ => none) nn
def f_X6_reaches_B65 (n : Nat) (k65 : iw_M → Option (iw_M)) (r65 : Int32 → iw_M → Option (iw_M)) (v5 : Int32) (m6 : iw_M) : Option (iw_M) :=
if v5 = (-1000 : Int32) then
(k65 m6)
else
((iw_wr m6 88 v5 ((1 : Int32) &&& 1)).bind fun m8 =>
f_X6_reaches_L81 v5 (f_X6_reaches_X213_81 n r65) n (0 : Int32) m8)
def f_X6_reaches_L65 (n : Nat) (k65 : iw_M → Option (iw_M)) (nn : Nat) : Int32 → iw_M → Option (iw_M) :=
iw_it (fun r65 => f_X6_reaches_B65 n k65 r65) (fun _ _ => none) nn
def f_X6_reaches_J64 (n : Nat) (m1 : iw_M) (v3 : Int32) : Option (iw_M) :=
f_X6_reaches_L65 n (f_X6_reaches_X287_65) n v3 m1
def f_X6_reaches_X48_2 (n : Nat) (p1 : Int32) (m1 : iw_M) : Option (iw_M) :=
(iw_rd m1 87 p1).bind fun v2 =>
if v2 = (0 : Int32) then
(f_X6_reaches_J64 n m1 (-1000 : Int32))
else
(f_X6_reaches_J64 n m1 p1)
def f_X6_reaches_J34 (r2 : Int32 → iw_M → Option (iw_M)) (v51 : Int32) (m52 : iw_M) (v54 : Int32) : Option (iw_M) :=
(iw_wr m52 86 v51 v54).bind fun m55 =>
(iw_wr m55 88 v51 ((0 : Int32) &&& 1)).bind fun m56 =>
iw_let (v51 + (1 : Int32)) fun v57 =>
r2 v57 m56
def f_X6_reaches_J31 (r2 : Int32 → iw_M → Option (iw_M)) (v51 : Int32) (m52 : iw_M) : Option (iw_M) :=
f_X6_reaches_J34 r2 v51 m52 (-1000 : Int32)
def f_X6_reaches_B2 (p1 : Int32) (k2 : iw_M → Option (iw_M)) (r2 : Int32 → iw_M → Option (iw_M)) (v51 : Int32) (m52 : iw_M) : Option (iw_M) :=
if (10 : Int32) ≤ v51 then
(k2 m52)
else
(if v51 = p1 then
((iw_rd m52 87 v51).bind fun v59 =>
if v59 = (0 : Int32) then
(f_X6_reaches_J31 r2 v51 m52)
else
(f_X6_reaches_J34 r2 v51 m52 (0 : Int32)))
else
(f_X6_reaches_J31 r2 v51 m52))
def f_X6_reaches_L2 (p1 : Int32) (k2 : iw_M → Option (iw_M)) (nn : Nat) : Int32 → iw_M → Option (iw_M) :=
iw_it (fun r2 => f_X6_reaches_B2 p1 k2 r2) (fun _ _ => none) nn
def f_X6_reaches (n : Nat) (p1 : Int32) (σ : iw_M) : Option (iw_M) :=
f_X6_reaches_L2 p1 (f_X6_reaches_X48_2 n p1) n (0 : Int32) σ
abbrev rm_X6_reaches : Room := { frames := 1, cells := 0, slots := 0, locals := 22 }
theorem lk_X6_reaches_16 : Cond.fieldLink RX6 16 RX6 (TX6 3).2.1 (TX6 3).2.2.1 ∈ wsX6_reaches := by decide +kernel
theorem lk_X6_reaches_20 : Cond.fieldLink RX6 20 RX6 (TX6 4).2.1 (TX6 4).2.2.1 ∈ wsX6_reaches := by decide +kernel
theorem lk_X6_reaches_7 : Cond.fieldLink RX6 7 RX6 (TX6 0).2.1 (TX6 0).2.2.1 ∈ wsX6_reaches := by decide +kernel
theorem lk_X6_reaches_13 : Cond.fieldLink RX6 13 RX6 (TX6 2).2.1 (TX6 2).2.2.1 ∈ wsX6_reaches := by decide +kernel
theorem in_X6_reaches_6 : ∀ w ∈ u_ws RX6 TX6 16, w ∈ wsX6_reaches := by decide +kernel
set_option maxHeartbeats 4000000 in
set_option maxRecDepth 100000 in
theorem k_X6_reaches (l : Launch) (G : iw_G) (hJ : iw_JM G) (n : Nat) (p1 : Int32) (σ : iw_M) {σ' : iw_M} (h : f_X6_reaches n p1 σ = some σ') : iw_Ct l yX6_reaches wsX6_reaches rm_X6_reaches G ([.ref (G.2.1 84), .int p1] : List Value) σ none σ' := by
  refine iv_start (nL := 6) (own := RX6) (ret := none) (cc := cX6_reaches) (by decide +kernel) rfl rfl hJ.1 (Nat.le_of_ble_eq_true rfl) ?_
  intro p e s m below meth c0 C hr hlk
  refine iv_sub (lv' := [(0, .ref (G.2.1 84)), (1, .int p1)]) [0, 1] rfl ?_
  unfold f_X6_reaches at h
  refine iv_iconst (pc := 0) C (0 : Int32) dX6_reaches_0 (by decide) ?_
  refine iv_istore_n (pc := 1) C [(2, .int (0 : Int32)), (0, .ref (G.2.1 84)), (1, .int p1)] dX6_reaches_1 rfl (by decide) rfl ?_
  have vX2 : ∀ (m1 : iw_M), f_X6_reaches_X48_2 n p1 m1 = some σ' → iw_V p l e rm_X6_reaches s m ([.ref (G.2.1 84), .int p1] : List Value).toArray below meth c0 0 0 (MQ below (iw_Q none G σ') ([.ref (G.2.1 84), .int p1] : List Value).toArray s 0 0 (iw_A G)) 6 G (iw_A G) m1 48 [(0, .ref (G.2.1 84)), (1, .int p1)] [] := by
    intro m1 h
    unfold f_X6_reaches_X48_2 at h
    refine iv_aload_n (pc := 48) C 0 dX6_reaches_48 rfl rfl ?_
    refine iv_getf (pc := 49) (T := TX6) (N := 16) (ci := 6) C 84 3 in_X6_reaches_6 (iw_im hJ (by decide)) iw_Eo84 rfl (by decide) lk_X6_reaches_16 rfl rfl dX6_reaches_49 ?_
    refine iv_iload_n (pc := 52) C 1 dX6_reaches_52 rfl rfl ?_
    obtain ⟨v2, ev2, h⟩ := iw_be h
    refine iv_rdz (pc := 53) C 87 (iw_zm hJ rfl (by decide)) ev2 dX6_reaches_53 ?_
    have vJ64 : ∀ (v3 : Int32), f_X6_reaches_J64 n m1 v3 = some σ' → iw_V p l e rm_X6_reaches s m ([.ref (G.2.1 84), .int p1] : List Value).toArray below meth c0 0 0 (MQ below (iw_Q none G σ') ([.ref (G.2.1 84), .int p1] : List Value).toArray s 0 0 (iw_A G)) 6 G (iw_A G) m1 64 [(0, .ref (G.2.1 84))] [.int v3] := by
      intro v3 h
      unfold f_X6_reaches_J64 at h
      refine iv_istore_n (pc := 64) C [(2, .int v3), (0, .ref (G.2.1 84))] dX6_reaches_64 rfl (by decide) rfl ?_
      have vX65 : ∀ (m4 : iw_M), f_X6_reaches_X287_65 m4 = some σ' → iw_V p l e rm_X6_reaches s m ([.ref (G.2.1 84), .int p1] : List Value).toArray below meth c0 0 0 (MQ below (iw_Q none G σ') ([.ref (G.2.1 84), .int p1] : List Value).toArray s 0 0 (iw_A G)) 6 G (iw_A G) m4 287 [] [] := by
        intro m4 h
        unfold f_X6_reaches_X287_65 at h
        cases h
        exact iv_vret C hr hlk rfl rfl dX6_reaches_287
      have vB65 : ∀ (k65 : iw_M → Option (iw_M)) (r65 : Int32 → iw_M → Option (iw_M)), (∀ (m4 : iw_M), k65 m4 = some σ' → iw_V p l e rm_X6_reaches s m ([.ref (G.2.1 84), .int p1] : List Value).toArray below meth c0 0 0 (MQ below (iw_Q none G σ') ([.ref (G.2.1 84), .int p1] : List Value).toArray s 0 0 (iw_A G)) 6 G (iw_A G) m4 287 [] []) → (∀ (v5 : Int32) (m6 : iw_M), r65 v5 m6 = some σ' → iw_V p l e rm_X6_reaches s m ([.ref (G.2.1 84), .int p1] : List Value).toArray below meth c0 0 0 (MQ below (iw_Q none G σ') ([.ref (G.2.1 84), .int p1] : List Value).toArray s 0 0 (iw_A G)) 6 G (iw_A G) m6 65 [(0, .ref (G.2.1 84)), (2, .int v5)] []) → ∀ (v5 : Int32) (m6 : iw_M), f_X6_reaches_B65 n k65 r65 v5 m6 = some σ' → iw_V p l e rm_X6_reaches s m ([.ref (G.2.1 84), .int p1] : List Value).toArray below meth c0 0 0 (MQ below (iw_Q none G σ') ([.ref (G.2.1 84), .int p1] : List Value).toArray s 0 0 (iw_A G)) 6 G (iw_A G) m6 65 [(0, .ref (G.2.1 84)), (2, .int v5)] [] := by
        intro k65 r65 hk65 hr65 v5 m6 h
        unfold f_X6_reaches_B65 at h
        refine iv_iload_n (pc := 65) C 1 dX6_reaches_65 rfl rfl ?_
        refine iv_sipush (pc := 66) C (-1000 : Int32) dX6_reaches_66 (by decide) ?_
        refine iv_icmp_eq (pc := 69) C 287 dX6_reaches_69 (by decide) (fun h7 => ?_) (fun h7 => ?_)
        · replace h := iw_ift h7 h
          exact iv_sub [] rfl (hk65 m6 h)
        · replace h := iw_iff h7 h
          refine iv_aload_n (pc := 72) C 0 dX6_reaches_72 rfl rfl ?_
          refine iv_getf (pc := 73) (T := TX6) (N := 16) (ci := 6) C 84 4 in_X6_reaches_6 (iw_im hJ (by decide)) iw_Eo84 rfl (by decide) lk_X6_reaches_20 rfl rfl dX6_reaches_73 ?_
          refine iv_iload_n (pc := 76) C 1 dX6_reaches_76 rfl rfl ?_
          refine iv_iconst (pc := 77) C (1 : Int32) dX6_reaches_77 (by decide) ?_
          obtain ⟨m8, em8, h⟩ := iw_be h
          refine iv_wrz (pc := 78) C 88 (iw_zm hJ rfl (by decide)) em8 dX6_reaches_78 ?_
          refine iv_iconst (pc := 79) C (0 : Int32) dX6_reaches_79 (by decide) ?_
          refine iv_istore_n (pc := 80) C [(3, .int (0 : Int32)), (0, .ref (G.2.1 84)), (2, .int v5)] dX6_reaches_80 rfl (by decide) rfl ?_
          have vX81 : ∀ (m9 : iw_M), f_X6_reaches_X213_81 n r65 m9 = some σ' → iw_V p l e rm_X6_reaches s m ([.ref (G.2.1 84), .int p1] : List Value).toArray below meth c0 0 0 (MQ below (iw_Q none G σ') ([.ref (G.2.1 84), .int p1] : List Value).toArray s 0 0 (iw_A G)) 6 G (iw_A G) m9 213 [(0, .ref (G.2.1 84))] [] := by
            intro m9 h
            unfold f_X6_reaches_X213_81 at h
            refine iv_sipush (pc := 213) C (-1000 : Int32) dX6_reaches_213 (by decide) ?_
            refine iv_istore_n (pc := 216) C [(2, .int (-1000 : Int32)), (0, .ref (G.2.1 84))] dX6_reaches_216 rfl (by decide) rfl ?_
            refine iv_iconst (pc := 217) C (0 : Int32) dX6_reaches_217 (by decide) ?_
            refine iv_istore_n (pc := 218) C [(3, .int (0 : Int32)), (2, .int (-1000 : Int32)), (0, .ref (G.2.1 84))] dX6_reaches_218 rfl (by decide) rfl ?_
            have vX219 : ∀ (v10 : Int32), f_X6_reaches_X284_219 r65 m9 v10 = some σ' → iw_V p l e rm_X6_reaches s m ([.ref (G.2.1 84), .int p1] : List Value).toArray below meth c0 0 0 (MQ below (iw_Q none G σ') ([.ref (G.2.1 84), .int p1] : List Value).toArray s 0 0 (iw_A G)) 6 G (iw_A G) m9 284 [(0, .ref (G.2.1 84)), (2, .int v10)] [] := by
              intro v10 h
              unfold f_X6_reaches_X284_219 at h
              refine iv_goto (pc := 284) C 65 dX6_reaches_284 (by decide) ?_
              exact iv_sub [0, 1] rfl (hr65 v10 m9 h)
            have vB219 : ∀ (k219 : Int32 → Option (iw_M)) (r219 : Int32 → Int32 → Option (iw_M)), (∀ (v10 : Int32), k219 v10 = some σ' → iw_V p l e rm_X6_reaches s m ([.ref (G.2.1 84), .int p1] : List Value).toArray below meth c0 0 0 (MQ below (iw_Q none G σ') ([.ref (G.2.1 84), .int p1] : List Value).toArray s 0 0 (iw_A G)) 6 G (iw_A G) m9 284 [(0, .ref (G.2.1 84)), (2, .int v10)] []) → (∀ (v11 : Int32) (v12 : Int32), r219 v11 v12 = some σ' → iw_V p l e rm_X6_reaches s m ([.ref (G.2.1 84), .int p1] : List Value).toArray below meth c0 0 0 (MQ below (iw_Q none G σ') ([.ref (G.2.1 84), .int p1] : List Value).toArray s 0 0 (iw_A G)) 6 G (iw_A G) m9 219 [(0, .ref (G.2.1 84)), (2, .int v11), (3, .int v12)] []) → ∀ (v11 : Int32) (v12 : Int32), f_X6_reaches_B219 m9 k219 r219 v11 v12 = some σ' → iw_V p l e rm_X6_reaches s m ([.ref (G.2.1 84), .int p1] : List Value).toArray below meth c0 0 0 (MQ below (iw_Q none G σ') ([.ref (G.2.1 84), .int p1] : List Value).toArray s 0 0 (iw_A G)) 6 G (iw_A G) m9 219 [(0, .ref (G.2.1 84)), (2, .int v11), (3, .int v12)] [] := by
              intro k219 r219 hk219 hr219 v11 v12 h
              unfold f_X6_reaches_B219 at h
              refine iv_iload_n (pc := 219) C 2 dX6_reaches_219 rfl rfl ?_
              refine iv_aload_n (pc := 220) C 0 dX6_reaches_220 rfl rfl ?_
              refine iv_getf (pc := 221) (T := TX6) (N := 16) (ci := 6) C 84 0 in_X6_reaches_6 (iw_im hJ (by decide)) iw_Eo84 rfl (by decide) lk_X6_reaches_7 rfl rfl dX6_reaches_221 ?_
              refine iv_iconst (pc := 224) C (0 : Int32) dX6_reaches_224 (by decide) ?_
              obtain ⟨v13, ev13, h⟩ := iw_be h
              refine iv_rd (pc := 225) C 85 (iw_lm hJ rfl (by decide)) ev13 dX6_reaches_225 ?_
              refine iv_icmp_ge (pc := 226) C 284 dX6_reaches_226 (by decide) (fun h14 => ?_) (fun h14 => ?_)
              · replace h := iw_ift h14 h
                exact iv_sub [0, 1] rfl (hk219 v11 h)
              · replace h := iw_iff h14 h
                refine iv_aload_n (pc := 229) C 0 dX6_reaches_229 rfl rfl ?_
                refine iv_getf (pc := 230) (T := TX6) (N := 16) (ci := 6) C 84 4 in_X6_reaches_6 (iw_im hJ (by decide)) iw_Eo84 rfl (by decide) lk_X6_reaches_20 rfl rfl dX6_reaches_230 ?_
                refine iv_iload_n (pc := 233) C 2 dX6_reaches_233 rfl rfl ?_
                obtain ⟨v15, ev15, h⟩ := iw_be h
                refine iv_rdz (pc := 234) C 88 (iw_zm hJ rfl (by decide)) ev15 dX6_reaches_234 ?_
                have vJ277 : ∀ (v16 : Int32), f_X6_reaches_J277 r219 v12 v16 = some σ' → iw_V p l e rm_X6_reaches s m ([.ref (G.2.1 84), .int p1] : List Value).toArray below meth c0 0 0 (MQ below (iw_Q none G σ') ([.ref (G.2.1 84), .int p1] : List Value).toArray s 0 0 (iw_A G)) 6 G (iw_A G) m9 277 [(0, .ref (G.2.1 84)), (3, .int v12)] [.int v16] := by
                  intro v16 h
                  unfold f_X6_reaches_J277 at h
                  refine iv_istore_n (pc := 277) C [(2, .int v16), (0, .ref (G.2.1 84)), (3, .int v12)] dX6_reaches_277 rfl (by decide) rfl ?_
                  obtain ⟨v17, ev17⟩ : ∃ y : Int32, y = v12 + (1 : Int32) := ⟨_, rfl⟩
                  replace h := iw_lete ev17 h
                  refine iv_iinc (pc := 278) C 2 v17 [(3, .int v17), (2, .int v16), (0, .ref (G.2.1 84))] dX6_reaches_278 rfl (by rw [ev17]; rfl) (by decide) rfl ?_
                  refine iv_goto (pc := 281) C 219 dX6_reaches_281 (by decide) ?_
                  exact iv_sub [2, 1, 0] rfl (hr219 v16 v17 h)
                have vJ276 : f_X6_reaches_J276 r219 v11 v12  = some σ' → iw_V p l e rm_X6_reaches s m ([.ref (G.2.1 84), .int p1] : List Value).toArray below meth c0 0 0 (MQ below (iw_Q none G σ') ([.ref (G.2.1 84), .int p1] : List Value).toArray s 0 0 (iw_A G)) 6 G (iw_A G) m9 276 [(0, .ref (G.2.1 84)), (2, .int v11), (3, .int v12)] [] := by
                  intro h
                  unfold f_X6_reaches_J276 at h
                  refine iv_iload_n (pc := 276) C 1 dX6_reaches_276 rfl rfl ?_
                  exact iv_sub [0, 2] rfl (vJ277 v11 h)
                refine iv_if_ne (pc := 235) C 276 dX6_reaches_235 (by decide) (fun h18 => ?_) (fun h18 => ?_)
                · replace h := iw_iff h18 h
                  exact iv_sub [0, 1, 2] rfl (vJ276 h)
                · replace h := iw_ift h18 h
                  refine iv_aload_n (pc := 238) C 0 dX6_reaches_238 rfl rfl ?_
                  refine iv_getf (pc := 239) (T := TX6) (N := 16) (ci := 6) C 84 2 in_X6_reaches_6 (iw_im hJ (by decide)) iw_Eo84 rfl (by decide) lk_X6_reaches_13 rfl rfl dX6_reaches_239 ?_
                  refine iv_iload_n (pc := 242) C 2 dX6_reaches_242 rfl rfl ?_
                  obtain ⟨v19, ev19, h⟩ := iw_be h
                  refine iv_rd (pc := 243) C 86 (iw_lm hJ rfl (by decide)) ev19 dX6_reaches_243 ?_
                  refine iv_sipush (pc := 244) C (-1000 : Int32) dX6_reaches_244 (by decide) ?_
                  refine iv_icmp_eq (pc := 247) C 276 dX6_reaches_247 (by decide) (fun h20 => ?_) (fun h20 => ?_)
                  · replace h := iw_ift h20 h
                    exact iv_sub [0, 1, 2] rfl (vJ276 h)
                  · replace h := iw_iff h20 h
                    refine iv_iload_n (pc := 250) C 1 dX6_reaches_250 rfl rfl ?_
                    refine iv_sipush (pc := 251) C (-1000 : Int32) dX6_reaches_251 (by decide) ?_
                    have vJ272 : f_X6_reaches_J272 r219 v12  = some σ' → iw_V p l e rm_X6_reaches s m ([.ref (G.2.1 84), .int p1] : List Value).toArray below meth c0 0 0 (MQ below (iw_Q none G σ') ([.ref (G.2.1 84), .int p1] : List Value).toArray s 0 0 (iw_A G)) 6 G (iw_A G) m9 272 [(0, .ref (G.2.1 84)), (3, .int v12)] [] := by
                      intro h
                      unfold f_X6_reaches_J272 at h
                      refine iv_iload_n (pc := 272) C 1 dX6_reaches_272 rfl rfl ?_
                      refine iv_goto (pc := 273) C 277 dX6_reaches_273 (by decide) ?_
                      exact iv_sub [0, 1] rfl (vJ277 v12 h)
                    refine iv_icmp_eq (pc := 254) C 272 dX6_reaches_254 (by decide) (fun h21 => ?_) (fun h21 => ?_)
                    · replace h := iw_ift h21 h
                      exact iv_sub [0, 2] rfl (vJ272 h)
                    · replace h := iw_iff h21 h
                      refine iv_aload_n (pc := 257) C 0 dX6_reaches_257 rfl rfl ?_
                      refine iv_getf (pc := 258) (T := TX6) (N := 16) (ci := 6) C 84 2 in_X6_reaches_6 (iw_im hJ (by decide)) iw_Eo84 rfl (by decide) lk_X6_reaches_13 rfl rfl dX6_reaches_258 ?_
                      refine iv_iload_n (pc := 261) C 2 dX6_reaches_261 rfl rfl ?_
                      obtain ⟨v22, ev22, h⟩ := iw_be h
                      refine iv_rd (pc := 262) C 86 (iw_lm hJ rfl (by decide)) ev22 dX6_reaches_262 ?_
                      refine iv_aload_n (pc := 263) C 0 dX6_reaches_263 rfl rfl ?_
                      refine iv_getf (pc := 264) (T := TX6) (N := 16) (ci := 6) C 84 2 in_X6_reaches_6 (iw_im hJ (by decide)) iw_Eo84 rfl (by decide) lk_X6_reaches_13 rfl rfl dX6_reaches_264 ?_
                      refine iv_iload_n (pc := 267) C 1 dX6_reaches_267 rfl rfl ?_
                      obtain ⟨v23, ev23, h⟩ := iw_be h
                      refine iv_rd (pc := 268) C 86 (iw_lm hJ rfl (by decide)) ev23 dX6_reaches_268 ?_
                      refine iv_icmp_ge (pc := 269) C 276 dX6_reaches_269 (by decide) (fun h24 => ?_) (fun h24 => ?_)
                      · replace h := iw_ift h24 h
                        exact iv_sub [0, 1, 2] rfl (vJ276 h)
                      · replace h := iw_iff h24 h
                        exact iv_sub [0, 2] rfl (vJ272 h)
            have vL219 : ∀ (nn : Nat) (v11 : Int32) (v12 : Int32), f_X6_reaches_L219 m9 (f_X6_reaches_X284_219 r65 m9) nn v11 v12 = some σ' → iw_V p l e rm_X6_reaches s m ([.ref (G.2.1 84), .int p1] : List Value).toArray below meth c0 0 0 (MQ below (iw_Q none G σ') ([.ref (G.2.1 84), .int p1] : List Value).toArray s 0 0 (iw_A G)) 6 G (iw_A G) m9 219 [(0, .ref (G.2.1 84)), (2, .int v11), (3, .int v12)] [] := by
              intro nn
              induction nn with
              | zero => intro v11 v12 h; exact absurd h (fun q => by cases q)
              | succ nn ih => intro v11 v12 h; exact vB219 (f_X6_reaches_X284_219 r65 m9) (f_X6_reaches_L219 m9 (f_X6_reaches_X284_219 r65 m9) nn) vX219 ih v11 v12 h
            exact iv_sub [2, 1, 0] rfl (vL219 n (-1000 : Int32) (0 : Int32) h)
          have vB81 : ∀ (k81 : iw_M → Option (iw_M)) (r81 : Int32 → iw_M → Option (iw_M)), (∀ (m9 : iw_M), k81 m9 = some σ' → iw_V p l e rm_X6_reaches s m ([.ref (G.2.1 84), .int p1] : List Value).toArray below meth c0 0 0 (MQ below (iw_Q none G σ') ([.ref (G.2.1 84), .int p1] : List Value).toArray s 0 0 (iw_A G)) 6 G (iw_A G) m9 213 [(0, .ref (G.2.1 84))] []) → (∀ (v25 : Int32) (m26 : iw_M), r81 v25 m26 = some σ' → iw_V p l e rm_X6_reaches s m ([.ref (G.2.1 84), .int p1] : List Value).toArray below meth c0 0 0 (MQ below (iw_Q none G σ') ([.ref (G.2.1 84), .int p1] : List Value).toArray s 0 0 (iw_A G)) 6 G (iw_A G) m26 81 [(0, .ref (G.2.1 84)), (2, .int v5), (3, .int v25)] []) → ∀ (v25 : Int32) (m26 : iw_M), f_X6_reaches_B81 v5 k81 r81 v25 m26 = some σ' → iw_V p l e rm_X6_reaches s m ([.ref (G.2.1 84), .int p1] : List Value).toArray below meth c0 0 0 (MQ below (iw_Q none G σ') ([.ref (G.2.1 84), .int p1] : List Value).toArray s 0 0 (iw_A G)) 6 G (iw_A G) m26 81 [(0, .ref (G.2.1 84)), (2, .int v5), (3, .int v25)] [] := by
            intro k81 r81 hk81 hr81 v25 m26 h
            unfold f_X6_reaches_B81 at h
            refine iv_iload_n (pc := 81) C 2 dX6_reaches_81 rfl rfl ?_
            refine iv_aload_n (pc := 82) C 0 dX6_reaches_82 rfl rfl ?_
            refine iv_getf (pc := 83) (T := TX6) (N := 16) (ci := 6) C 84 0 in_X6_reaches_6 (iw_im hJ (by decide)) iw_Eo84 rfl (by decide) lk_X6_reaches_7 rfl rfl dX6_reaches_83 ?_
            refine iv_iconst (pc := 86) C (1 : Int32) dX6_reaches_86 (by decide) ?_
            obtain ⟨v27, ev27, h⟩ := iw_be h
            refine iv_rd (pc := 87) C 85 (iw_lm hJ rfl (by decide)) ev27 dX6_reaches_87 ?_
            refine iv_icmp_ge (pc := 88) C 213 dX6_reaches_88 (by decide) (fun h28 => ?_) (fun h28 => ?_)
            · replace h := iw_ift h28 h
              exact iv_sub [0] rfl (hk81 m26 h)
            · replace h := iw_iff h28 h
              refine iv_aload_n (pc := 91) C 0 dX6_reaches_91 rfl rfl ?_
              refine iv_iload_n (pc := 92) C 2 dX6_reaches_92 rfl rfl ?_
              refine iv_iconst (pc := 93) C (0 : Int32) dX6_reaches_93 (by decide) ?_
              obtain ⟨v29, ev29, h⟩ := iw_be h
              refine iv_callV (pc := 94) (b := 84) (ci := 6) C [.int v25, .int (0 : Int32)] (k_X6_ofLink l G hJ v25 (0 : Int32) m26 ev29) gX6_reaches_X6_ofLink rfl qd_X6_ofLink ⟨rfl, rfl, Nat.le_of_ble_eq_true rfl, Nat.le_of_ble_eq_true rfl⟩ (iw_im hJ (by decide)) iw_Eo84 rfl rfl rfl (Nat.le_of_ble_eq_true rfl) dX6_reaches_94 ?_
              refine iv_iload_n (pc := 97) C 1 dX6_reaches_97 rfl rfl ?_
              have vJ130 : ∀ (v30 : Int32), f_X6_reaches_J130 v5 r81 v25 m26 v30 = some σ' → iw_V p l e rm_X6_reaches s m ([.ref (G.2.1 84), .int p1] : List Value).toArray below meth c0 0 0 (MQ below (iw_Q none G σ') ([.ref (G.2.1 84), .int p1] : List Value).toArray s 0 0 (iw_A G)) 6 G (iw_A G) m26 130 [(0, .ref (G.2.1 84)), (2, .int v5), (3, .int v25)] [.int v30] := by
                intro v30 h
                unfold f_X6_reaches_J130 at h
                refine iv_istore (pc := 130) C [(4, .int v30), (0, .ref (G.2.1 84)), (2, .int v5), (3, .int v25)] dX6_reaches_130 (by decide) rfl ?_
                refine iv_aload_n (pc := 132) C 1 dX6_reaches_132 rfl rfl ?_
                refine iv_getf (pc := 133) (T := TX6) (N := 16) (ci := 6) C 84 2 in_X6_reaches_6 (iw_im hJ (by decide)) iw_Eo84 rfl (by decide) lk_X6_reaches_13 rfl rfl dX6_reaches_133 ?_
                refine iv_iload_n (pc := 136) C 2 dX6_reaches_136 rfl rfl ?_
                obtain ⟨v31, ev31, h⟩ := iw_be h
                refine iv_rd (pc := 137) C 86 (iw_lm hJ rfl (by decide)) ev31 dX6_reaches_137 ?_
                refine iv_aload_n (pc := 138) C 1 dX6_reaches_138 rfl rfl ?_
                refine iv_iload_n (pc := 139) C 3 dX6_reaches_139 rfl rfl ?_
                refine iv_iconst (pc := 140) C (2 : Int32) dX6_reaches_140 (by decide) ?_
                obtain ⟨v32, ev32, h⟩ := iw_be h
                refine iv_callV (pc := 141) (b := 84) (ci := 6) C [.int v25, .int (2 : Int32)] (k_X6_ofLink l G hJ v25 (2 : Int32) m26 ev32) gX6_reaches_X6_ofLink rfl qd_X6_ofLink ⟨rfl, rfl, Nat.le_of_ble_eq_true rfl, Nat.le_of_ble_eq_true rfl⟩ (iw_im hJ (by decide)) iw_Eo84 rfl rfl rfl (Nat.le_of_ble_eq_true rfl) dX6_reaches_141 ?_
                refine iv_iadd (pc := 144) C dX6_reaches_144 ?_
                refine iv_topi (fun v33 ev33 => ?_)
                replace h := iw_lete ev33 h
                refine iv_istore (pc := 145) C [(5, .int v33), (4, .int v30), (0, .ref (G.2.1 84)), (2, .int v5), (3, .int v25)] dX6_reaches_145 (by decide) rfl ?_
                refine iv_aload_n (pc := 147) C 2 dX6_reaches_147 rfl rfl ?_
                refine iv_getf (pc := 148) (T := TX6) (N := 16) (ci := 6) C 84 2 in_X6_reaches_6 (iw_im hJ (by decide)) iw_Eo84 rfl (by decide) lk_X6_reaches_13 rfl rfl dX6_reaches_148 ?_
                refine iv_iload (pc := 151) C 1 dX6_reaches_151 rfl ?_
                refine iv_iload (pc := 153) C 1 dX6_reaches_153 rfl ?_
                refine iv_iload_n (pc := 155) C 3 dX6_reaches_155 rfl rfl ?_
                have vJ206 : ∀ (v34 : Int32), f_X6_reaches_J206 r81 v25 m26 v30 v34 = some σ' → iw_V p l e rm_X6_reaches s m ([.ref (G.2.1 84), .int p1] : List Value).toArray below meth c0 0 0 (MQ below (iw_Q none G σ') ([.ref (G.2.1 84), .int p1] : List Value).toArray s 0 0 (iw_A G)) 6 G (iw_A G) m26 206 [(0, .ref (G.2.1 84)), (2, .int v5), (3, .int v25)] [.int v34, .int v30, .ref (G.2.1 86)] := by
                  intro v34 h
                  unfold f_X6_reaches_J206 at h
                  obtain ⟨m35, em35, h⟩ := iw_be h
                  refine iv_wr (pc := 206) C 86 (iw_lm hJ rfl (by decide)) em35 dX6_reaches_206 ?_
                  obtain ⟨v36, ev36⟩ : ∃ y : Int32, y = v25 + (1 : Int32) := ⟨_, rfl⟩
                  replace h := iw_lete ev36 h
                  refine iv_iinc (pc := 207) C 2 v36 [(3, .int v36), (0, .ref (G.2.1 84)), (2, .int v5)] dX6_reaches_207 rfl (by rw [ev36]; rfl) (by decide) rfl ?_
                  refine iv_goto (pc := 210) C 81 dX6_reaches_210 (by decide) ?_
                  exact iv_sub [1, 2, 0] rfl (hr81 v36 m35 h)
                have vJ199 : f_X6_reaches_J199 r81 v25 m26 v30  = some σ' → iw_V p l e rm_X6_reaches s m ([.ref (G.2.1 84), .int p1] : List Value).toArray below meth c0 0 0 (MQ below (iw_Q none G σ') ([.ref (G.2.1 84), .int p1] : List Value).toArray s 0 0 (iw_A G)) 6 G (iw_A G) m26 199 [(0, .ref (G.2.1 84)), (2, .int v5), (3, .int v25), (4, .int v30)] [.int v30, .ref (G.2.1 86)] := by
                  intro h
                  unfold f_X6_reaches_J199 at h
                  refine iv_aload_n (pc := 199) C 0 dX6_reaches_199 rfl rfl ?_
                  refine iv_getf (pc := 200) (T := TX6) (N := 16) (ci := 6) C 84 2 in_X6_reaches_6 (iw_im hJ (by decide)) iw_Eo84 rfl (by decide) lk_X6_reaches_13 rfl rfl dX6_reaches_200 ?_
                  refine iv_iload (pc := 203) C 3 dX6_reaches_203 rfl ?_
                  obtain ⟨v37, ev37, h⟩ := iw_be h
                  refine iv_rd (pc := 205) C 86 (iw_lm hJ rfl (by decide)) ev37 dX6_reaches_205 ?_
                  exact iv_sub [0, 1, 2] rfl (vJ206 v37 h)
                refine iv_icmp_eq (pc := 156) C 199 dX6_reaches_156 (by decide) (fun h38 => ?_) (fun h38 => ?_)
                · replace h := iw_ift h38 h
                  exact iv_sub [2, 3, 4, 1] rfl (vJ199 h)
                · replace h := iw_iff h38 h
                  refine iv_aload_n (pc := 159) C 2 dX6_reaches_159 rfl rfl ?_
                  refine iv_getf (pc := 160) (T := TX6) (N := 16) (ci := 6) C 84 3 in_X6_reaches_6 (iw_im hJ (by decide)) iw_Eo84 rfl (by decide) lk_X6_reaches_16 rfl rfl dX6_reaches_160 ?_
                  refine iv_iload (pc := 163) C 1 dX6_reaches_163 rfl ?_
                  obtain ⟨v39, ev39, h⟩ := iw_be h
                  refine iv_rdz (pc := 165) C 87 (iw_zm hJ rfl (by decide)) ev39 dX6_reaches_165 ?_
                  refine iv_if_eq (pc := 166) C 199 dX6_reaches_166 (by decide) (fun h40 => ?_) (fun h40 => ?_)
                  · replace h := iw_ift h40 h
                    exact iv_sub [2, 3, 4, 1] rfl (vJ199 h)
                  · replace h := iw_iff h40 h
                    refine iv_aload_n (pc := 169) C 2 dX6_reaches_169 rfl rfl ?_
                    refine iv_getf (pc := 170) (T := TX6) (N := 16) (ci := 6) C 84 2 in_X6_reaches_6 (iw_im hJ (by decide)) iw_Eo84 rfl (by decide) lk_X6_reaches_13 rfl rfl dX6_reaches_170 ?_
                    refine iv_iload (pc := 173) C 1 dX6_reaches_173 rfl ?_
                    obtain ⟨v41, ev41, h⟩ := iw_be h
                    refine iv_rd (pc := 175) C 86 (iw_lm hJ rfl (by decide)) ev41 dX6_reaches_175 ?_
                    refine iv_sipush (pc := 176) C (-1000 : Int32) dX6_reaches_176 (by decide) ?_
                    have vJ194 : f_X6_reaches_J194 r81 v25 m26 v30 v33  = some σ' → iw_V p l e rm_X6_reaches s m ([.ref (G.2.1 84), .int p1] : List Value).toArray below meth c0 0 0 (MQ below (iw_Q none G σ') ([.ref (G.2.1 84), .int p1] : List Value).toArray s 0 0 (iw_A G)) 6 G (iw_A G) m26 194 [(0, .ref (G.2.1 84)), (2, .int v5), (3, .int v25), (5, .int v33)] [.int v30, .ref (G.2.1 86)] := by
                      intro h
                      unfold f_X6_reaches_J194 at h
                      refine iv_iload (pc := 194) C 3 dX6_reaches_194 rfl ?_
                      refine iv_goto (pc := 196) C 206 dX6_reaches_196 (by decide) ?_
                      exact iv_sub [0, 1, 2] rfl (vJ206 v33 h)
                    refine iv_icmp_eq (pc := 179) C 194 dX6_reaches_179 (by decide) (fun h42 => ?_) (fun h42 => ?_)
                    · replace h := iw_ift h42 h
                      exact iv_sub [2, 3, 4, 0] rfl (vJ194 h)
                    · replace h := iw_iff h42 h
                      refine iv_iload (pc := 182) C 0 dX6_reaches_182 rfl ?_
                      refine iv_aload_n (pc := 184) C 2 dX6_reaches_184 rfl rfl ?_
                      refine iv_getf (pc := 185) (T := TX6) (N := 16) (ci := 6) C 84 2 in_X6_reaches_6 (iw_im hJ (by decide)) iw_Eo84 rfl (by decide) lk_X6_reaches_13 rfl rfl dX6_reaches_185 ?_
                      refine iv_iload (pc := 188) C 1 dX6_reaches_188 rfl ?_
                      obtain ⟨v43, ev43, h⟩ := iw_be h
                      refine iv_rd (pc := 190) C 86 (iw_lm hJ rfl (by decide)) ev43 dX6_reaches_190 ?_
                      refine iv_icmp_ge (pc := 191) C 199 dX6_reaches_191 (by decide) (fun h44 => ?_) (fun h44 => ?_)
                      · replace h := iw_ift h44 h
                        exact iv_sub [2, 3, 4, 1] rfl (vJ199 h)
                      · replace h := iw_iff h44 h
                        exact iv_sub [2, 3, 4, 0] rfl (vJ194 h)
              refine iv_icmp_ne (pc := 98) C 110 dX6_reaches_98 (by decide) (fun h45 => ?_) (fun h45 => ?_)
              · replace h := iw_iff h45 h
                refine iv_aload_n (pc := 110) C 0 dX6_reaches_110 rfl rfl ?_
                refine iv_iload_n (pc := 111) C 2 dX6_reaches_111 rfl rfl ?_
                refine iv_iconst (pc := 112) C (1 : Int32) dX6_reaches_112 (by decide) ?_
                obtain ⟨v46, ev46, h⟩ := iw_be h
                refine iv_callV (pc := 113) (b := 84) (ci := 6) C [.int v25, .int (1 : Int32)] (k_X6_ofLink l G hJ v25 (1 : Int32) m26 ev46) gX6_reaches_X6_ofLink rfl qd_X6_ofLink ⟨rfl, rfl, Nat.le_of_ble_eq_true rfl, Nat.le_of_ble_eq_true rfl⟩ (iw_im hJ (by decide)) iw_Eo84 rfl rfl rfl (Nat.le_of_ble_eq_true rfl) dX6_reaches_113 ?_
                refine iv_iload_n (pc := 116) C 1 dX6_reaches_116 rfl rfl ?_
                refine iv_icmp_ne (pc := 117) C 129 dX6_reaches_117 (by decide) (fun h47 => ?_) (fun h47 => ?_)
                · replace h := iw_iff h47 h
                  refine iv_iload_n (pc := 129) C 1 dX6_reaches_129 rfl rfl ?_
                  exact iv_sub [0, 1, 2] rfl (vJ130 v5 h)
                · replace h := iw_ift h47 h
                  refine iv_aload_n (pc := 120) C 0 dX6_reaches_120 rfl rfl ?_
                  refine iv_iload_n (pc := 121) C 2 dX6_reaches_121 rfl rfl ?_
                  refine iv_iconst (pc := 122) C (0 : Int32) dX6_reaches_122 (by decide) ?_
                  obtain ⟨v48, ev48, h⟩ := iw_be h
                  refine iv_callV (pc := 123) (b := 84) (ci := 6) C [.int v25, .int (0 : Int32)] (k_X6_ofLink l G hJ v25 (0 : Int32) m26 ev48) gX6_reaches_X6_ofLink rfl qd_X6_ofLink ⟨rfl, rfl, Nat.le_of_ble_eq_true rfl, Nat.le_of_ble_eq_true rfl⟩ (iw_im hJ (by decide)) iw_Eo84 rfl rfl rfl (Nat.le_of_ble_eq_true rfl) dX6_reaches_123 ?_
                  refine iv_goto (pc := 126) C 130 dX6_reaches_126 (by decide) ?_
                  exact iv_sub [0, 1, 2] rfl (vJ130 v48 h)
              · replace h := iw_ift h45 h
                refine iv_aload_n (pc := 101) C 0 dX6_reaches_101 rfl rfl ?_
                refine iv_iload_n (pc := 102) C 2 dX6_reaches_102 rfl rfl ?_
                refine iv_iconst (pc := 103) C (1 : Int32) dX6_reaches_103 (by decide) ?_
                obtain ⟨v49, ev49, h⟩ := iw_be h
                refine iv_callV (pc := 104) (b := 84) (ci := 6) C [.int v25, .int (1 : Int32)] (k_X6_ofLink l G hJ v25 (1 : Int32) m26 ev49) gX6_reaches_X6_ofLink rfl qd_X6_ofLink ⟨rfl, rfl, Nat.le_of_ble_eq_true rfl, Nat.le_of_ble_eq_true rfl⟩ (iw_im hJ (by decide)) iw_Eo84 rfl rfl rfl (Nat.le_of_ble_eq_true rfl) dX6_reaches_104 ?_
                refine iv_goto (pc := 107) C 130 dX6_reaches_107 (by decide) ?_
                exact iv_sub [0, 1, 2] rfl (vJ130 v49 h)
          have vL81 : ∀ (nn : Nat) (v25 : Int32) (m26 : iw_M), f_X6_reaches_L81 v5 (f_X6_reaches_X213_81 n r65) nn v25 m26 = some σ' → iw_V p l e rm_X6_reaches s m ([.ref (G.2.1 84), .int p1] : List Value).toArray below meth c0 0 0 (MQ below (iw_Q none G σ') ([.ref (G.2.1 84), .int p1] : List Value).toArray s 0 0 (iw_A G)) 6 G (iw_A G) m26 81 [(0, .ref (G.2.1 84)), (2, .int v5), (3, .int v25)] [] := by
            intro nn
            induction nn with
            | zero => intro v25 m26 h; exact absurd h (fun q => by cases q)
            | succ nn ih => intro v25 m26 h; exact vB81 (f_X6_reaches_X213_81 n r65) (f_X6_reaches_L81 v5 (f_X6_reaches_X213_81 n r65) nn) vX81 ih v25 m26 h
          exact iv_sub [1, 2, 0] rfl (vL81 n (0 : Int32) m8 h)
      have vL65 : ∀ (nn : Nat) (v5 : Int32) (m6 : iw_M), f_X6_reaches_L65 n (f_X6_reaches_X287_65) nn v5 m6 = some σ' → iw_V p l e rm_X6_reaches s m ([.ref (G.2.1 84), .int p1] : List Value).toArray below meth c0 0 0 (MQ below (iw_Q none G σ') ([.ref (G.2.1 84), .int p1] : List Value).toArray s 0 0 (iw_A G)) 6 G (iw_A G) m6 65 [(0, .ref (G.2.1 84)), (2, .int v5)] [] := by
        intro nn
        induction nn with
        | zero => intro v5 m6 h; exact absurd h (fun q => by cases q)
        | succ nn ih => intro v5 m6 h; exact vB65 (f_X6_reaches_X287_65) (f_X6_reaches_L65 n (f_X6_reaches_X287_65) nn) vX65 ih v5 m6 h
      exact iv_sub [1, 0] rfl (vL65 n v3 m1 h)
    refine iv_if_eq (pc := 54) C 61 dX6_reaches_54 (by decide) (fun h50 => ?_) (fun h50 => ?_)
    · replace h := iw_ift h50 h
      refine iv_sipush (pc := 61) C (-1000 : Int32) dX6_reaches_61 (by decide) ?_
      exact iv_sub [0] rfl (vJ64 (-1000 : Int32) h)
    · replace h := iw_iff h50 h
      refine iv_iload_n (pc := 57) C 1 dX6_reaches_57 rfl rfl ?_
      refine iv_goto (pc := 58) C 64 dX6_reaches_58 (by decide) ?_
      exact iv_sub [0] rfl (vJ64 p1 h)
  have vB2 : ∀ (k2 : iw_M → Option (iw_M)) (r2 : Int32 → iw_M → Option (iw_M)), (∀ (m1 : iw_M), k2 m1 = some σ' → iw_V p l e rm_X6_reaches s m ([.ref (G.2.1 84), .int p1] : List Value).toArray below meth c0 0 0 (MQ below (iw_Q none G σ') ([.ref (G.2.1 84), .int p1] : List Value).toArray s 0 0 (iw_A G)) 6 G (iw_A G) m1 48 [(0, .ref (G.2.1 84)), (1, .int p1)] []) → (∀ (v51 : Int32) (m52 : iw_M), r2 v51 m52 = some σ' → iw_V p l e rm_X6_reaches s m ([.ref (G.2.1 84), .int p1] : List Value).toArray below meth c0 0 0 (MQ below (iw_Q none G σ') ([.ref (G.2.1 84), .int p1] : List Value).toArray s 0 0 (iw_A G)) 6 G (iw_A G) m52 2 [(0, .ref (G.2.1 84)), (1, .int p1), (2, .int v51)] []) → ∀ (v51 : Int32) (m52 : iw_M), f_X6_reaches_B2 p1 k2 r2 v51 m52 = some σ' → iw_V p l e rm_X6_reaches s m ([.ref (G.2.1 84), .int p1] : List Value).toArray below meth c0 0 0 (MQ below (iw_Q none G σ') ([.ref (G.2.1 84), .int p1] : List Value).toArray s 0 0 (iw_A G)) 6 G (iw_A G) m52 2 [(0, .ref (G.2.1 84)), (1, .int p1), (2, .int v51)] [] := by
    intro k2 r2 hk2 hr2 v51 m52 h
    unfold f_X6_reaches_B2 at h
    refine iv_iload_n (pc := 2) C 2 dX6_reaches_2 rfl rfl ?_
    refine iv_bipush (pc := 3) C (10 : Int32) dX6_reaches_3 (by decide) ?_
    refine iv_icmp_ge (pc := 5) C 48 dX6_reaches_5 (by decide) (fun h53 => ?_) (fun h53 => ?_)
    · replace h := iw_ift h53 h
      exact iv_sub [0, 1] rfl (hk2 m52 h)
    · replace h := iw_iff h53 h
      refine iv_aload_n (pc := 8) C 0 dX6_reaches_8 rfl rfl ?_
      refine iv_getf (pc := 9) (T := TX6) (N := 16) (ci := 6) C 84 2 in_X6_reaches_6 (iw_im hJ (by decide)) iw_Eo84 rfl (by decide) lk_X6_reaches_13 rfl rfl dX6_reaches_9 ?_
      refine iv_iload_n (pc := 12) C 2 dX6_reaches_12 rfl rfl ?_
      refine iv_iload_n (pc := 13) C 2 dX6_reaches_13 rfl rfl ?_
      refine iv_iload_n (pc := 14) C 1 dX6_reaches_14 rfl rfl ?_
      have vJ34 : ∀ (v54 : Int32), f_X6_reaches_J34 r2 v51 m52 v54 = some σ' → iw_V p l e rm_X6_reaches s m ([.ref (G.2.1 84), .int p1] : List Value).toArray below meth c0 0 0 (MQ below (iw_Q none G σ') ([.ref (G.2.1 84), .int p1] : List Value).toArray s 0 0 (iw_A G)) 6 G (iw_A G) m52 34 [(0, .ref (G.2.1 84)), (1, .int p1), (2, .int v51)] [.int v54, .int v51, .ref (G.2.1 86)] := by
        intro v54 h
        unfold f_X6_reaches_J34 at h
        obtain ⟨m55, em55, h⟩ := iw_be h
        refine iv_wr (pc := 34) C 86 (iw_lm hJ rfl (by decide)) em55 dX6_reaches_34 ?_
        refine iv_aload_n (pc := 35) C 0 dX6_reaches_35 rfl rfl ?_
        refine iv_getf (pc := 36) (T := TX6) (N := 16) (ci := 6) C 84 4 in_X6_reaches_6 (iw_im hJ (by decide)) iw_Eo84 rfl (by decide) lk_X6_reaches_20 rfl rfl dX6_reaches_36 ?_
        refine iv_iload_n (pc := 39) C 2 dX6_reaches_39 rfl rfl ?_
        refine iv_iconst (pc := 40) C (0 : Int32) dX6_reaches_40 (by decide) ?_
        obtain ⟨m56, em56, h⟩ := iw_be h
        refine iv_wrz (pc := 41) C 88 (iw_zm hJ rfl (by decide)) em56 dX6_reaches_41 ?_
        obtain ⟨v57, ev57⟩ : ∃ y : Int32, y = v51 + (1 : Int32) := ⟨_, rfl⟩
        replace h := iw_lete ev57 h
        refine iv_iinc (pc := 42) C 2 v57 [(2, .int v57), (0, .ref (G.2.1 84)), (1, .int p1)] dX6_reaches_42 rfl (by rw [ev57]; rfl) (by decide) rfl ?_
        refine iv_goto (pc := 45) C 2 dX6_reaches_45 (by decide) ?_
        exact iv_sub [1, 2, 0] rfl (hr2 v57 m56 h)
      have vJ31 : f_X6_reaches_J31 r2 v51 m52  = some σ' → iw_V p l e rm_X6_reaches s m ([.ref (G.2.1 84), .int p1] : List Value).toArray below meth c0 0 0 (MQ below (iw_Q none G σ') ([.ref (G.2.1 84), .int p1] : List Value).toArray s 0 0 (iw_A G)) 6 G (iw_A G) m52 31 [(0, .ref (G.2.1 84)), (1, .int p1), (2, .int v51)] [.int v51, .ref (G.2.1 86)] := by
        intro h
        unfold f_X6_reaches_J31 at h
        refine iv_sipush (pc := 31) C (-1000 : Int32) dX6_reaches_31 (by decide) ?_
        exact iv_sub [0, 1, 2] rfl (vJ34 (-1000 : Int32) h)
      refine iv_icmp_ne (pc := 15) C 31 dX6_reaches_15 (by decide) (fun h58 => ?_) (fun h58 => ?_)
      · replace h := iw_iff h58 h
        exact iv_sub [0, 1, 2] rfl (vJ31 h)
      · replace h := iw_ift h58 h
        refine iv_aload_n (pc := 18) C 0 dX6_reaches_18 rfl rfl ?_
        refine iv_getf (pc := 19) (T := TX6) (N := 16) (ci := 6) C 84 3 in_X6_reaches_6 (iw_im hJ (by decide)) iw_Eo84 rfl (by decide) lk_X6_reaches_16 rfl rfl dX6_reaches_19 ?_
        refine iv_iload_n (pc := 22) C 2 dX6_reaches_22 rfl rfl ?_
        obtain ⟨v59, ev59, h⟩ := iw_be h
        refine iv_rdz (pc := 23) C 87 (iw_zm hJ rfl (by decide)) ev59 dX6_reaches_23 ?_
        refine iv_if_eq (pc := 24) C 31 dX6_reaches_24 (by decide) (fun h60 => ?_) (fun h60 => ?_)
        · replace h := iw_ift h60 h
          exact iv_sub [0, 1, 2] rfl (vJ31 h)
        · replace h := iw_iff h60 h
          refine iv_iconst (pc := 27) C (0 : Int32) dX6_reaches_27 (by decide) ?_
          refine iv_goto (pc := 28) C 34 dX6_reaches_28 (by decide) ?_
          exact iv_sub [0, 1, 2] rfl (vJ34 (0 : Int32) h)
  have vL2 : ∀ (nn : Nat) (v51 : Int32) (m52 : iw_M), f_X6_reaches_L2 p1 (f_X6_reaches_X48_2 n p1) nn v51 m52 = some σ' → iw_V p l e rm_X6_reaches s m ([.ref (G.2.1 84), .int p1] : List Value).toArray below meth c0 0 0 (MQ below (iw_Q none G σ') ([.ref (G.2.1 84), .int p1] : List Value).toArray s 0 0 (iw_A G)) 6 G (iw_A G) m52 2 [(0, .ref (G.2.1 84)), (1, .int p1), (2, .int v51)] [] := by
    intro nn
    induction nn with
    | zero => intro v51 m52 h; exact absurd h (fun q => by cases q)
    | succ nn ih => intro v51 m52 h; exact vB2 (f_X6_reaches_X48_2 n p1) (f_X6_reaches_L2 p1 (f_X6_reaches_X48_2 n p1) nn) vX2 ih v51 m52 h
  exact iv_sub [1, 2, 0] rfl (vL2 n (0 : Int32) σ h)
theorem qd_X6_reaches : yX6_reaches.cls = RX6 ∧ yX6_reaches.cls ≠ "java/lang/invoke/MethodHandle" ∧ yX6_reaches.cls ≠ "java/lang/invoke/VarHandle" ∧ (parseMethodDescriptor yX6_reaches.desc).map (fun d => d.parameters.length) = some 1 := by decide +kernel
def f_X6_isWholeWay_X93_18 (v3 : Int32) : Option (Int32) :=
some (v3 &&& 1)
def f_X6_isWholeWay_J86 (r18 : Int32 → Int32 → Option (Int32)) (v5 : Int32) (v8 : Int32) : Option (Int32) :=
iw_let (v5 + (1 : Int32)) fun v9 =>
r18 v8 v9
def f_X6_isWholeWay_J85 (r18 : Int32 → Int32 → Option (Int32)) (v5 : Int32) : Option (Int32) :=
f_X6_isWholeWay_J86 r18 v5 (0 : Int32)
def f_X6_isWholeWay_J81 (r18 : Int32 → Int32 → Option (Int32)) (v5 : Int32) : Option (Int32) :=
f_X6_isWholeWay_J86 r18 v5 (1 : Int32)
def f_X6_isWholeWay_B18 (n : Nat) (p1 : Int32) (p2 : Int32) (σ : iw_M) (k18 : Int32 → Option (Int32)) (r18 : Int32 → Int32 → Option (Int32)) (v4 : Int32) (v5 : Int32) : Option (Int32) :=
(f_X6_lengthOf p1 p2 σ).bind fun v6 =>
if v6 ≤ v5 then
(k18 v4)
else
(if v4 = (0 : Int32) then
(f_X6_isWholeWay_J85 r18 v5)
else
((f_X6_nodeOf p1 p2 v5 σ).bind fun v11 =>
(f_X6_isAlive v11 σ).bind fun v12 =>
if v12 = (0 : Int32) then
(f_X6_isWholeWay_J85 r18 v5)
else
(if v5 = (0 : Int32) then
(f_X6_isWholeWay_J81 r18 v5)
else
((f_X6_nodeOf p1 p2 (v5 - (1 : Int32)) σ).bind fun v15 =>
(f_X6_nodeOf p1 p2 v5 σ).bind fun v16 =>
(f_X6_linkOf n v15 v16 σ).bind fun v17 =>
if v17 = (-1000 : Int32) then
(f_X6_isWholeWay_J85 r18 v5)
else
(f_X6_isWholeWay_J81 r18 v5)))))
def f_X6_isWholeWay_L18 (n : Nat) (p1 : Int32) (p2 : Int32) (σ : iw_M) (k18 : Int32 → Option (Int32)) (nn : Nat) : Int32 → Int32 → Option (Int32) :=
iw_it (fun r18 => f_X6_isWholeWay_B18 n p1 p2 σ k18 r18) (fun _ _ => none) nn
def f_X6_isWholeWay_J14 (n : Nat) (p1 : Int32) (p2 : Int32) (σ : iw_M) (v2 : Int32) : Option (Int32) :=
f_X6_isWholeWay_L18 n p1 p2 σ (f_X6_isWholeWay_X93_18) n v2 (0 : Int32)
def f_X6_isWholeWay (n : Nat) (p1 : Int32) (p2 : Int32) (σ : iw_M) : Option (Int32) :=
(f_X6_lengthOf p1 p2 σ).bind fun v1 =>
if v1 ≤ (0 : Int32) then
(f_X6_isWholeWay_J14 n p1 p2 σ (0 : Int32))
else
(f_X6_isWholeWay_J14 n p1 p2 σ (1 : Int32))
abbrev rm_X6_isWholeWay : Room := { frames := 2, cells := 0, slots := 0, locals := 48 }
set_option maxHeartbeats 4000000 in
set_option maxRecDepth 100000 in
theorem k_X6_isWholeWay (l : Launch) (G : iw_G) (hJ : iw_JM G) (n : Nat) (p1 : Int32) (p2 : Int32) (σ : iw_M) {r : Int32} (h : f_X6_isWholeWay n p1 p2 σ = some r) : iw_Ct l yX6_isWholeWay wsX6_isWholeWay rm_X6_isWholeWay G ([.ref (G.2.1 84), .int p1, .int p2] : List Value) σ (some (.int r)) σ := by
  refine iv_start (nL := 5) (own := RX6) (ret := (some .boolean)) (cc := cX6_isWholeWay) (by decide +kernel) rfl rfl hJ.1 (Nat.le_of_ble_eq_true rfl) ?_
  intro p e s m below meth c0 C hr hlk
  refine iv_sub (lv' := [(0, .ref (G.2.1 84)), (1, .int p1), (2, .int p2)]) [0, 1, 2] rfl ?_
  unfold f_X6_isWholeWay at h
  refine iv_aload_n (pc := 0) C 0 dX6_isWholeWay_0 rfl rfl ?_
  refine iv_iload_n (pc := 1) C 1 dX6_isWholeWay_1 rfl rfl ?_
  refine iv_iload_n (pc := 2) C 2 dX6_isWholeWay_2 rfl rfl ?_
  obtain ⟨v1, ev1, h⟩ := iw_be h
  refine iv_callV (pc := 3) (b := 84) (ci := 6) C [.int p1, .int p2] (k_X6_lengthOf l G hJ p1 p2 σ ev1) gX6_isWholeWay_X6_lengthOf rfl qd_X6_lengthOf ⟨rfl, rfl, Nat.le_of_ble_eq_true rfl, Nat.le_of_ble_eq_true rfl⟩ (iw_im hJ (by decide)) iw_Eo84 rfl rfl rfl (Nat.le_of_ble_eq_true rfl) dX6_isWholeWay_3 ?_
  have vJ14 : ∀ (v2 : Int32), f_X6_isWholeWay_J14 n p1 p2 σ v2 = some r → iw_V p l e rm_X6_isWholeWay s m ([.ref (G.2.1 84), .int p1, .int p2] : List Value).toArray below meth c0 0 0 (MQ below (iw_Q (some (.int r)) G σ) ([.ref (G.2.1 84), .int p1, .int p2] : List Value).toArray s 0 0 (iw_A G)) 5 G (iw_A G) σ 14 [(0, .ref (G.2.1 84)), (1, .int p1), (2, .int p2)] [.int v2] := by
    intro v2 h
    unfold f_X6_isWholeWay_J14 at h
    refine iv_istore_n (pc := 14) C [(3, .int v2), (0, .ref (G.2.1 84)), (1, .int p1), (2, .int p2)] dX6_isWholeWay_14 rfl (by decide) rfl ?_
    refine iv_iconst (pc := 15) C (0 : Int32) dX6_isWholeWay_15 (by decide) ?_
    refine iv_istore (pc := 16) C [(4, .int (0 : Int32)), (3, .int v2), (0, .ref (G.2.1 84)), (1, .int p1), (2, .int p2)] dX6_isWholeWay_16 (by decide) rfl ?_
    have vX18 : ∀ (v3 : Int32), f_X6_isWholeWay_X93_18 v3 = some r → iw_V p l e rm_X6_isWholeWay s m ([.ref (G.2.1 84), .int p1, .int p2] : List Value).toArray below meth c0 0 0 (MQ below (iw_Q (some (.int r)) G σ) ([.ref (G.2.1 84), .int p1, .int p2] : List Value).toArray s 0 0 (iw_A G)) 5 G (iw_A G) σ 93 [(3, .int v3)] [] := by
      intro v3 h
      unfold f_X6_isWholeWay_X93_18 at h
      refine iv_iload_n (pc := 93) C 0 dX6_isWholeWay_93 rfl rfl ?_
      cases h
      exact iv_zret C hr hlk rfl rfl dX6_isWholeWay_94
    have vB18 : ∀ (k18 : Int32 → Option (Int32)) (r18 : Int32 → Int32 → Option (Int32)), (∀ (v3 : Int32), k18 v3 = some r → iw_V p l e rm_X6_isWholeWay s m ([.ref (G.2.1 84), .int p1, .int p2] : List Value).toArray below meth c0 0 0 (MQ below (iw_Q (some (.int r)) G σ) ([.ref (G.2.1 84), .int p1, .int p2] : List Value).toArray s 0 0 (iw_A G)) 5 G (iw_A G) σ 93 [(3, .int v3)] []) → (∀ (v4 : Int32) (v5 : Int32), r18 v4 v5 = some r → iw_V p l e rm_X6_isWholeWay s m ([.ref (G.2.1 84), .int p1, .int p2] : List Value).toArray below meth c0 0 0 (MQ below (iw_Q (some (.int r)) G σ) ([.ref (G.2.1 84), .int p1, .int p2] : List Value).toArray s 0 0 (iw_A G)) 5 G (iw_A G) σ 18 [(0, .ref (G.2.1 84)), (1, .int p1), (2, .int p2), (3, .int v4), (4, .int v5)] []) → ∀ (v4 : Int32) (v5 : Int32), f_X6_isWholeWay_B18 n p1 p2 σ k18 r18 v4 v5 = some r → iw_V p l e rm_X6_isWholeWay s m ([.ref (G.2.1 84), .int p1, .int p2] : List Value).toArray below meth c0 0 0 (MQ below (iw_Q (some (.int r)) G σ) ([.ref (G.2.1 84), .int p1, .int p2] : List Value).toArray s 0 0 (iw_A G)) 5 G (iw_A G) σ 18 [(0, .ref (G.2.1 84)), (1, .int p1), (2, .int p2), (3, .int v4), (4, .int v5)] [] := by
      intro k18 r18 hk18 hr18 v4 v5 h
      unfold f_X6_isWholeWay_B18 at h
      refine iv_iload (pc := 18) C 4 dX6_isWholeWay_18 rfl ?_
      refine iv_aload_n (pc := 20) C 0 dX6_isWholeWay_20 rfl rfl ?_
      refine iv_iload_n (pc := 21) C 1 dX6_isWholeWay_21 rfl rfl ?_
      refine iv_iload_n (pc := 22) C 2 dX6_isWholeWay_22 rfl rfl ?_
      obtain ⟨v6, ev6, h⟩ := iw_be h
      refine iv_callV (pc := 23) (b := 84) (ci := 6) C [.int p1, .int p2] (k_X6_lengthOf l G hJ p1 p2 σ ev6) gX6_isWholeWay_X6_lengthOf rfl qd_X6_lengthOf ⟨rfl, rfl, Nat.le_of_ble_eq_true rfl, Nat.le_of_ble_eq_true rfl⟩ (iw_im hJ (by decide)) iw_Eo84 rfl rfl rfl (Nat.le_of_ble_eq_true rfl) dX6_isWholeWay_23 ?_
      refine iv_icmp_ge (pc := 26) C 93 dX6_isWholeWay_26 (by decide) (fun h7 => ?_) (fun h7 => ?_)
      · replace h := iw_ift h7 h
        exact iv_sub [3] rfl (hk18 v4 h)
      · replace h := iw_iff h7 h
        refine iv_iload_n (pc := 29) C 3 dX6_isWholeWay_29 rfl rfl ?_
        have vJ86 : ∀ (v8 : Int32), f_X6_isWholeWay_J86 r18 v5 v8 = some r → iw_V p l e rm_X6_isWholeWay s m ([.ref (G.2.1 84), .int p1, .int p2] : List Value).toArray below meth c0 0 0 (MQ below (iw_Q (some (.int r)) G σ) ([.ref (G.2.1 84), .int p1, .int p2] : List Value).toArray s 0 0 (iw_A G)) 5 G (iw_A G) σ 86 [(0, .ref (G.2.1 84)), (1, .int p1), (2, .int p2), (4, .int v5)] [.int v8] := by
          intro v8 h
          unfold f_X6_isWholeWay_J86 at h
          refine iv_istore_n (pc := 86) C [(3, .int v8), (0, .ref (G.2.1 84)), (1, .int p1), (2, .int p2), (4, .int v5)] dX6_isWholeWay_86 rfl (by decide) rfl ?_
          obtain ⟨v9, ev9⟩ : ∃ y : Int32, y = v5 + (1 : Int32) := ⟨_, rfl⟩
          replace h := iw_lete ev9 h
          refine iv_iinc (pc := 87) C 4 v9 [(4, .int v9), (3, .int v8), (0, .ref (G.2.1 84)), (1, .int p1), (2, .int p2)] dX6_isWholeWay_87 rfl (by rw [ev9]; rfl) (by decide) rfl ?_
          refine iv_goto (pc := 90) C 18 dX6_isWholeWay_90 (by decide) ?_
          exact iv_sub [2, 3, 4, 1, 0] rfl (hr18 v8 v9 h)
        have vJ85 : f_X6_isWholeWay_J85 r18 v5  = some r → iw_V p l e rm_X6_isWholeWay s m ([.ref (G.2.1 84), .int p1, .int p2] : List Value).toArray below meth c0 0 0 (MQ below (iw_Q (some (.int r)) G σ) ([.ref (G.2.1 84), .int p1, .int p2] : List Value).toArray s 0 0 (iw_A G)) 5 G (iw_A G) σ 85 [(0, .ref (G.2.1 84)), (1, .int p1), (2, .int p2), (4, .int v5)] [] := by
          intro h
          unfold f_X6_isWholeWay_J85 at h
          refine iv_iconst (pc := 85) C (0 : Int32) dX6_isWholeWay_85 (by decide) ?_
          exact iv_sub [0, 1, 2, 3] rfl (vJ86 (0 : Int32) h)
        refine iv_if_eq (pc := 30) C 85 dX6_isWholeWay_30 (by decide) (fun h10 => ?_) (fun h10 => ?_)
        · replace h := iw_ift h10 h
          exact iv_sub [0, 1, 2, 4] rfl (vJ85 h)
        · replace h := iw_iff h10 h
          refine iv_aload_n (pc := 33) C 0 dX6_isWholeWay_33 rfl rfl ?_
          refine iv_aload_n (pc := 34) C 0 dX6_isWholeWay_34 rfl rfl ?_
          refine iv_iload_n (pc := 35) C 1 dX6_isWholeWay_35 rfl rfl ?_
          refine iv_iload_n (pc := 36) C 2 dX6_isWholeWay_36 rfl rfl ?_
          refine iv_iload (pc := 37) C 4 dX6_isWholeWay_37 rfl ?_
          obtain ⟨v11, ev11, h⟩ := iw_be h
          refine iv_callV (pc := 39) (b := 84) (ci := 6) C [.int p1, .int p2, .int v5] (k_X6_nodeOf l G hJ p1 p2 v5 σ ev11) gX6_isWholeWay_X6_nodeOf rfl qd_X6_nodeOf ⟨rfl, rfl, Nat.le_of_ble_eq_true rfl, Nat.le_of_ble_eq_true rfl⟩ (iw_im hJ (by decide)) iw_Eo84 rfl rfl rfl (Nat.le_of_ble_eq_true rfl) dX6_isWholeWay_39 ?_
          obtain ⟨v12, ev12, h⟩ := iw_be h
          refine iv_callV (pc := 42) (b := 84) (ci := 6) C [.int v11] (k_X6_isAlive l G hJ v11 σ ev12) gX6_isWholeWay_X6_isAlive rfl qd_X6_isAlive ⟨rfl, rfl, Nat.le_of_ble_eq_true rfl, Nat.le_of_ble_eq_true rfl⟩ (iw_im hJ (by decide)) iw_Eo84 rfl rfl rfl (Nat.le_of_ble_eq_true rfl) dX6_isWholeWay_42 ?_
          refine iv_if_eq (pc := 45) C 85 dX6_isWholeWay_45 (by decide) (fun h13 => ?_) (fun h13 => ?_)
          · replace h := iw_ift h13 h
            exact iv_sub [0, 1, 2, 4] rfl (vJ85 h)
          · replace h := iw_iff h13 h
            refine iv_iload (pc := 48) C 4 dX6_isWholeWay_48 rfl ?_
            have vJ81 : f_X6_isWholeWay_J81 r18 v5  = some r → iw_V p l e rm_X6_isWholeWay s m ([.ref (G.2.1 84), .int p1, .int p2] : List Value).toArray below meth c0 0 0 (MQ below (iw_Q (some (.int r)) G σ) ([.ref (G.2.1 84), .int p1, .int p2] : List Value).toArray s 0 0 (iw_A G)) 5 G (iw_A G) σ 81 [(0, .ref (G.2.1 84)), (1, .int p1), (2, .int p2), (4, .int v5)] [] := by
              intro h
              unfold f_X6_isWholeWay_J81 at h
              refine iv_iconst (pc := 81) C (1 : Int32) dX6_isWholeWay_81 (by decide) ?_
              refine iv_goto (pc := 82) C 86 dX6_isWholeWay_82 (by decide) ?_
              exact iv_sub [0, 1, 2, 3] rfl (vJ86 (1 : Int32) h)
            refine iv_if_eq (pc := 50) C 81 dX6_isWholeWay_50 (by decide) (fun h14 => ?_) (fun h14 => ?_)
            · replace h := iw_ift h14 h
              exact iv_sub [0, 1, 2, 4] rfl (vJ81 h)
            · replace h := iw_iff h14 h
              refine iv_aload_n (pc := 53) C 0 dX6_isWholeWay_53 rfl rfl ?_
              refine iv_aload_n (pc := 54) C 0 dX6_isWholeWay_54 rfl rfl ?_
              refine iv_iload_n (pc := 55) C 1 dX6_isWholeWay_55 rfl rfl ?_
              refine iv_iload_n (pc := 56) C 2 dX6_isWholeWay_56 rfl rfl ?_
              refine iv_iload (pc := 57) C 4 dX6_isWholeWay_57 rfl ?_
              refine iv_iconst (pc := 59) C (1 : Int32) dX6_isWholeWay_59 (by decide) ?_
              refine iv_isub (pc := 60) C dX6_isWholeWay_60 ?_
              obtain ⟨v15, ev15, h⟩ := iw_be h
              refine iv_callV (pc := 61) (b := 84) (ci := 6) C [.int p1, .int p2, .int (v5 - (1 : Int32))] (k_X6_nodeOf l G hJ p1 p2 (v5 - (1 : Int32)) σ ev15) gX6_isWholeWay_X6_nodeOf rfl qd_X6_nodeOf ⟨rfl, rfl, Nat.le_of_ble_eq_true rfl, Nat.le_of_ble_eq_true rfl⟩ (iw_im hJ (by decide)) iw_Eo84 rfl rfl rfl (Nat.le_of_ble_eq_true rfl) dX6_isWholeWay_61 ?_
              refine iv_aload_n (pc := 64) C 0 dX6_isWholeWay_64 rfl rfl ?_
              refine iv_iload_n (pc := 65) C 1 dX6_isWholeWay_65 rfl rfl ?_
              refine iv_iload_n (pc := 66) C 2 dX6_isWholeWay_66 rfl rfl ?_
              refine iv_iload (pc := 67) C 4 dX6_isWholeWay_67 rfl ?_
              obtain ⟨v16, ev16, h⟩ := iw_be h
              refine iv_callV (pc := 69) (b := 84) (ci := 6) C [.int p1, .int p2, .int v5] (k_X6_nodeOf l G hJ p1 p2 v5 σ ev16) gX6_isWholeWay_X6_nodeOf rfl qd_X6_nodeOf ⟨rfl, rfl, Nat.le_of_ble_eq_true rfl, Nat.le_of_ble_eq_true rfl⟩ (iw_im hJ (by decide)) iw_Eo84 rfl rfl rfl (Nat.le_of_ble_eq_true rfl) dX6_isWholeWay_69 ?_
              obtain ⟨v17, ev17, h⟩ := iw_be h
              refine iv_callV (pc := 72) (b := 84) (ci := 6) C [.int v15, .int v16] (k_X6_linkOf l G hJ n v15 v16 σ ev17) gX6_isWholeWay_X6_linkOf rfl qd_X6_linkOf ⟨rfl, rfl, Nat.le_of_ble_eq_true rfl, Nat.le_of_ble_eq_true rfl⟩ (iw_im hJ (by decide)) iw_Eo84 rfl rfl rfl (Nat.le_of_ble_eq_true rfl) dX6_isWholeWay_72 ?_
              refine iv_sipush (pc := 75) C (-1000 : Int32) dX6_isWholeWay_75 (by decide) ?_
              refine iv_icmp_eq (pc := 78) C 85 dX6_isWholeWay_78 (by decide) (fun h18 => ?_) (fun h18 => ?_)
              · replace h := iw_ift h18 h
                exact iv_sub [0, 1, 2, 4] rfl (vJ85 h)
              · replace h := iw_iff h18 h
                exact iv_sub [0, 1, 2, 4] rfl (vJ81 h)
    have vL18 : ∀ (nn : Nat) (v4 : Int32) (v5 : Int32), f_X6_isWholeWay_L18 n p1 p2 σ (f_X6_isWholeWay_X93_18) nn v4 v5 = some r → iw_V p l e rm_X6_isWholeWay s m ([.ref (G.2.1 84), .int p1, .int p2] : List Value).toArray below meth c0 0 0 (MQ below (iw_Q (some (.int r)) G σ) ([.ref (G.2.1 84), .int p1, .int p2] : List Value).toArray s 0 0 (iw_A G)) 5 G (iw_A G) σ 18 [(0, .ref (G.2.1 84)), (1, .int p1), (2, .int p2), (3, .int v4), (4, .int v5)] [] := by
      intro nn
      induction nn with
      | zero => intro v4 v5 h; exact absurd h (fun q => by cases q)
      | succ nn ih => intro v4 v5 h; exact vB18 (f_X6_isWholeWay_X93_18) (f_X6_isWholeWay_L18 n p1 p2 σ (f_X6_isWholeWay_X93_18) nn) vX18 ih v4 v5 h
    exact iv_sub [2, 3, 4, 1, 0] rfl (vL18 n v2 (0 : Int32) h)
  refine iv_if_le (pc := 6) C 13 dX6_isWholeWay_6 (by decide) (fun h19 => ?_) (fun h19 => ?_)
  · replace h := iw_ift h19 h
    refine iv_iconst (pc := 13) C (0 : Int32) dX6_isWholeWay_13 (by decide) ?_
    exact iv_sub [0, 1, 2] rfl (vJ14 (0 : Int32) h)
  · replace h := iw_iff h19 h
    refine iv_iconst (pc := 9) C (1 : Int32) dX6_isWholeWay_9 (by decide) ?_
    refine iv_goto (pc := 10) C 14 dX6_isWholeWay_10 (by decide) ?_
    exact iv_sub [0, 1, 2] rfl (vJ14 (1 : Int32) h)
theorem qd_X6_isWholeWay : yX6_isWholeWay.cls = RX6 ∧ yX6_isWholeWay.cls ≠ "java/lang/invoke/MethodHandle" ∧ yX6_isWholeWay.cls ≠ "java/lang/invoke/VarHandle" ∧ (parseMethodDescriptor yX6_isWholeWay.desc).map (fun d => d.parameters.length) = some 2 := by decide +kernel
def f_X6_spends_J26 (p1 : Int32) (σ : iw_M) (v2 : Int32) : Option (iw_M) :=
(iw_rd σ 85 ((12 : Int32) + p1)).bind fun v3 =>
(iw_wr σ 85 ((12 : Int32) + p1) (v3 - v2)).bind fun m4 =>
(iw_rd m4 85 (10 : Int32)).bind fun v5 =>
(iw_wr m4 85 (10 : Int32) (v5 + v2)).bind fun m6 =>
some m6
def f_X6_spends (p1 : Int32) (p2 : Int32) (σ : iw_M) : Option (iw_M) :=
(iw_rd σ 85 ((12 : Int32) + p1)).bind fun v1 =>
if p2 ≤ v1 then
(f_X6_spends_J26 p1 σ p2)
else
((iw_rd σ 85 ((12 : Int32) + p1)).bind fun v8 =>
f_X6_spends_J26 p1 σ v8)
abbrev rm_X6_spends : Room := { frames := 0, cells := 0, slots := 0, locals := 0 }
theorem lk_X6_spends_7 : Cond.fieldLink RX6 7 RX6 (TX6 0).2.1 (TX6 0).2.2.1 ∈ wsX6_spends := by decide +kernel
theorem in_X6_spends_6 : ∀ w ∈ u_ws RX6 TX6 16, w ∈ wsX6_spends := by decide +kernel
set_option maxHeartbeats 4000000 in
set_option maxRecDepth 100000 in
theorem k_X6_spends (l : Launch) (G : iw_G) (hJ : iw_JM G) (p1 : Int32) (p2 : Int32) (σ : iw_M) {σ' : iw_M} (h : f_X6_spends p1 p2 σ = some σ') : iw_Ct l yX6_spends wsX6_spends rm_X6_spends G ([.ref (G.2.1 84), .int p1, .int p2] : List Value) σ none σ' := by
  refine iv_start (nL := 4) (own := RX6) (ret := none) (cc := cX6_spends) (by decide +kernel) rfl rfl hJ.1 (Nat.le_of_ble_eq_true rfl) ?_
  intro p e s m below meth c0 C hr hlk
  refine iv_sub (lv' := [(0, .ref (G.2.1 84)), (1, .int p1), (2, .int p2)]) [0, 1, 2] rfl ?_
  unfold f_X6_spends at h
  refine iv_aload_n (pc := 0) C 0 dX6_spends_0 rfl rfl ?_
  refine iv_getf (pc := 1) (T := TX6) (N := 16) (ci := 6) C 84 0 in_X6_spends_6 (iw_im hJ (by decide)) iw_Eo84 rfl (by decide) lk_X6_spends_7 rfl rfl dX6_spends_1 ?_
  refine iv_bipush (pc := 4) C (12 : Int32) dX6_spends_4 (by decide) ?_
  refine iv_iload_n (pc := 6) C 1 dX6_spends_6 rfl rfl ?_
  refine iv_iadd (pc := 7) C dX6_spends_7 ?_
  obtain ⟨v1, ev1, h⟩ := iw_be h
  refine iv_rd (pc := 8) C 85 (iw_lm hJ rfl (by decide)) ev1 dX6_spends_8 ?_
  refine iv_iload_n (pc := 9) C 2 dX6_spends_9 rfl rfl ?_
  have vJ26 : ∀ (v2 : Int32), f_X6_spends_J26 p1 σ v2 = some σ' → iw_V p l e rm_X6_spends s m ([.ref (G.2.1 84), .int p1, .int p2] : List Value).toArray below meth c0 0 0 (MQ below (iw_Q none G σ') ([.ref (G.2.1 84), .int p1, .int p2] : List Value).toArray s 0 0 (iw_A G)) 4 G (iw_A G) σ 26 [(0, .ref (G.2.1 84)), (1, .int p1)] [.int v2] := by
    intro v2 h
    unfold f_X6_spends_J26 at h
    refine iv_istore_n (pc := 26) C [(3, .int v2), (0, .ref (G.2.1 84)), (1, .int p1)] dX6_spends_26 rfl (by decide) rfl ?_
    refine iv_aload_n (pc := 27) C 1 dX6_spends_27 rfl rfl ?_
    refine iv_getf (pc := 28) (T := TX6) (N := 16) (ci := 6) C 84 0 in_X6_spends_6 (iw_im hJ (by decide)) iw_Eo84 rfl (by decide) lk_X6_spends_7 rfl rfl dX6_spends_28 ?_
    refine iv_bipush (pc := 31) C (12 : Int32) dX6_spends_31 (by decide) ?_
    refine iv_iload_n (pc := 33) C 2 dX6_spends_33 rfl rfl ?_
    refine iv_iadd (pc := 34) C dX6_spends_34 ?_
    refine iv_dup2 (pc := 35) C rfl rfl dX6_spends_35 ?_
    obtain ⟨v3, ev3, h⟩ := iw_be h
    refine iv_rd (pc := 36) C 85 (iw_lm hJ rfl (by decide)) ev3 dX6_spends_36 ?_
    refine iv_iload_n (pc := 37) C 0 dX6_spends_37 rfl rfl ?_
    refine iv_isub (pc := 38) C dX6_spends_38 ?_
    obtain ⟨m4, em4, h⟩ := iw_be h
    refine iv_wr (pc := 39) C 85 (iw_lm hJ rfl (by decide)) em4 dX6_spends_39 ?_
    refine iv_aload_n (pc := 40) C 1 dX6_spends_40 rfl rfl ?_
    refine iv_getf (pc := 41) (T := TX6) (N := 16) (ci := 6) C 84 0 in_X6_spends_6 (iw_im hJ (by decide)) iw_Eo84 rfl (by decide) lk_X6_spends_7 rfl rfl dX6_spends_41 ?_
    refine iv_bipush (pc := 44) C (10 : Int32) dX6_spends_44 (by decide) ?_
    refine iv_dup2 (pc := 46) C rfl rfl dX6_spends_46 ?_
    obtain ⟨v5, ev5, h⟩ := iw_be h
    refine iv_rd (pc := 47) C 85 (iw_lm hJ rfl (by decide)) ev5 dX6_spends_47 ?_
    refine iv_iload_n (pc := 48) C 0 dX6_spends_48 rfl rfl ?_
    refine iv_iadd (pc := 49) C dX6_spends_49 ?_
    obtain ⟨m6, em6, h⟩ := iw_be h
    refine iv_wr (pc := 50) C 85 (iw_lm hJ rfl (by decide)) em6 dX6_spends_50 ?_
    cases h
    exact iv_vret C hr hlk rfl rfl dX6_spends_51
  refine iv_icmp_ge (pc := 10) C 25 dX6_spends_10 (by decide) (fun h7 => ?_) (fun h7 => ?_)
  · replace h := iw_ift h7 h
    refine iv_iload_n (pc := 25) C 2 dX6_spends_25 rfl rfl ?_
    exact iv_sub [0, 1] rfl (vJ26 p2 h)
  · replace h := iw_iff h7 h
    refine iv_aload_n (pc := 13) C 0 dX6_spends_13 rfl rfl ?_
    refine iv_getf (pc := 14) (T := TX6) (N := 16) (ci := 6) C 84 0 in_X6_spends_6 (iw_im hJ (by decide)) iw_Eo84 rfl (by decide) lk_X6_spends_7 rfl rfl dX6_spends_14 ?_
    refine iv_bipush (pc := 17) C (12 : Int32) dX6_spends_17 (by decide) ?_
    refine iv_iload_n (pc := 19) C 1 dX6_spends_19 rfl rfl ?_
    refine iv_iadd (pc := 20) C dX6_spends_20 ?_
    obtain ⟨v8, ev8, h⟩ := iw_be h
    refine iv_rd (pc := 21) C 85 (iw_lm hJ rfl (by decide)) ev8 dX6_spends_21 ?_
    refine iv_goto (pc := 22) C 26 dX6_spends_22 (by decide) ?_
    exact iv_sub [0, 1] rfl (vJ26 v8 h)
theorem qd_X6_spends : yX6_spends.cls = RX6 ∧ yX6_spends.cls ≠ "java/lang/invoke/MethodHandle" ∧ yX6_spends.cls ≠ "java/lang/invoke/VarHandle" ∧ (parseMethodDescriptor yX6_spends.desc).map (fun d => d.parameters.length) = some 2 := by decide +kernel
def f_X6_traces_X143_25 (m4 : iw_M) : Option (iw_M) :=
some m4
def f_X6_traces_X138_66 (r25 : Int32 → iw_M → Option (iw_M)) (m9 : iw_M) (v12 : Int32) : Option (iw_M) :=
r25 v12 m9
def f_X6_traces_J131 (r66 : Int32 → Int32 → Option (iw_M)) (v14 : Int32) (v17 : Int32) : Option (iw_M) :=
iw_let (v14 + (-1 : Int32)) fun v18 =>
r66 v17 v18
def f_X6_traces_J130 (r66 : Int32 → Int32 → Option (iw_M)) (v13 : Int32) (v14 : Int32) : Option (iw_M) :=
f_X6_traces_J131 r66 v14 v13
def f_X6_traces_B66 (n : Nat) (v5 : Int32) (m9 : iw_M) (k66 : Int32 → Option (iw_M)) (r66 : Int32 → Int32 → Option (iw_M)) (v13 : Int32) (v14 : Int32) : Option (iw_M) :=
if v14 < (0 : Int32) then
(k66 v13)
else
((f_X6_linkOf n v14 v5 m9).bind fun v16 =>
if v16 = (-1000 : Int32) then
(f_X6_traces_J130 r66 v13 v14)
else
((iw_rd m9 86 v14).bind fun v20 =>
if v20 = (-1000 : Int32) then
(f_X6_traces_J130 r66 v13 v14)
else
((iw_rd m9 86 v14).bind fun v22 =>
(f_X6_ofLink v16 (2 : Int32) m9).bind fun v23 =>
(iw_rd m9 86 v5).bind fun v24 =>
if (v22 + v23) = v24 then
(f_X6_traces_J131 r66 v14 v14)
else
(f_X6_traces_J130 r66 v13 v14))))
def f_X6_traces_L66 (n : Nat) (v5 : Int32) (m9 : iw_M) (k66 : Int32 → Option (iw_M)) (nn : Nat) : Int32 → Int32 → Option (iw_M) :=
iw_it (fun r66 => f_X6_traces_B66 n v5 m9 k66 r66) (fun _ _ => none) nn
def f_X6_traces_B25 (n : Nat) (k25 : iw_M → Option (iw_M)) (r25 : Int32 → iw_M → Option (iw_M)) (v5 : Int32) (m6 : iw_M) : Option (iw_M) :=
if v5 = (-1000 : Int32) then
(k25 m6)
else
((iw_wr m6 89 (m6 84 6) v5).bind fun m8 =>
iw_let (iw_up m8 84 6 ((m8 84 6) + (1 : Int32))) fun m9 =>
(iw_rd m9 85 (0 : Int32)).bind fun v10 =>
iw_let (v10 - (1 : Int32)) fun v11 =>
f_X6_traces_L66 n v5 m9 (f_X6_traces_X138_66 r25 m9) n (-1000 : Int32) v11)
def f_X6_traces_L25 (n : Nat) (k25 : iw_M → Option (iw_M)) (nn : Nat) : Int32 → iw_M → Option (iw_M) :=
iw_it (fun r25 => f_X6_traces_B25 n k25 r25) (fun _ _ => none) nn
def f_X6_traces_J24 (n : Nat) (m1 : iw_M) (v3 : Int32) : Option (iw_M) :=
f_X6_traces_L25 n (f_X6_traces_X143_25) n v3 m1
def f_X6_traces (n : Nat) (p1 : Int32) (σ : iw_M) : Option (iw_M) :=
iw_let (iw_up σ 84 6 (0 : Int32)) fun m1 =>
(iw_rd m1 86 p1).bind fun v2 =>
if v2 = (-1000 : Int32) then
(f_X6_traces_J24 n m1 (-1000 : Int32))
else
(f_X6_traces_J24 n m1 p1)
abbrev rm_X6_traces : Room := { frames := 2, cells := 0, slots := 0, locals := 48 }
theorem lk_X6_traces_117 : Cond.fieldLink RX6 117 RX6 (TX6 6).2.1 (TX6 6).2.2.1 ∈ wsX6_traces := by decide +kernel
theorem lk_X6_traces_13 : Cond.fieldLink RX6 13 RX6 (TX6 2).2.1 (TX6 2).2.2.1 ∈ wsX6_traces := by decide +kernel
theorem lk_X6_traces_23 : Cond.fieldLink RX6 23 RX6 (TX6 5).2.1 (TX6 5).2.2.1 ∈ wsX6_traces := by decide +kernel
theorem lk_X6_traces_7 : Cond.fieldLink RX6 7 RX6 (TX6 0).2.1 (TX6 0).2.2.1 ∈ wsX6_traces := by decide +kernel
theorem in_X6_traces_6 : ∀ w ∈ u_ws RX6 TX6 16, w ∈ wsX6_traces := by decide +kernel
set_option maxHeartbeats 4000000 in
set_option maxRecDepth 100000 in
theorem k_X6_traces (l : Launch) (G : iw_G) (hJ : iw_JM G) (n : Nat) (p1 : Int32) (σ : iw_M) {σ' : iw_M} (h : f_X6_traces n p1 σ = some σ') : iw_Ct l yX6_traces wsX6_traces rm_X6_traces G ([.ref (G.2.1 84), .int p1] : List Value) σ none σ' := by
  refine iv_start (nL := 6) (own := RX6) (ret := none) (cc := cX6_traces) (by decide +kernel) rfl rfl hJ.1 (Nat.le_of_ble_eq_true rfl) ?_
  intro p e s m below meth c0 C hr hlk
  refine iv_sub (lv' := [(0, .ref (G.2.1 84)), (1, .int p1)]) [0, 1] rfl ?_
  unfold f_X6_traces at h
  refine iv_aload_n (pc := 0) C 0 dX6_traces_0 rfl rfl ?_
  refine iv_iconst (pc := 1) C (0 : Int32) dX6_traces_1 (by decide) ?_
  refine iv_putf (pc := 2) (T := TX6) (N := 16) (ci := 6) C 84 6 (iw_up σ 84 6 (0 : Int32)) in_X6_traces_6 (iw_im hJ (by decide)) iw_Eo84 tyX6_ok nmX6 rfl (by decide) lk_X6_traces_117 rfl rfl (tyX6_ok 6 (by decide)) rfl rfl (Nat.le_of_ble_eq_true rfl) rfl (fun b hb => iw_up_ne hb) dX6_traces_2 ?_
  refine iv_topm (fun m1 em1 => ?_)
  replace h := iw_lete em1 h
  refine iv_aload_n (pc := 5) C 0 dX6_traces_5 rfl rfl ?_
  refine iv_getf (pc := 6) (T := TX6) (N := 16) (ci := 6) C 84 2 in_X6_traces_6 (iw_im hJ (by decide)) iw_Eo84 rfl (by decide) lk_X6_traces_13 rfl rfl dX6_traces_6 ?_
  refine iv_iload_n (pc := 9) C 1 dX6_traces_9 rfl rfl ?_
  obtain ⟨v2, ev2, h⟩ := iw_be h
  refine iv_rd (pc := 10) C 86 (iw_lm hJ rfl (by decide)) ev2 dX6_traces_10 ?_
  refine iv_sipush (pc := 11) C (-1000 : Int32) dX6_traces_11 (by decide) ?_
  have vJ24 : ∀ (v3 : Int32), f_X6_traces_J24 n m1 v3 = some σ' → iw_V p l e rm_X6_traces s m ([.ref (G.2.1 84), .int p1] : List Value).toArray below meth c0 0 0 (MQ below (iw_Q none G σ') ([.ref (G.2.1 84), .int p1] : List Value).toArray s 0 0 (iw_A G)) 6 G (iw_A G) m1 24 [(0, .ref (G.2.1 84))] [.int v3] := by
    intro v3 h
    unfold f_X6_traces_J24 at h
    refine iv_istore_n (pc := 24) C [(2, .int v3), (0, .ref (G.2.1 84))] dX6_traces_24 rfl (by decide) rfl ?_
    have vX25 : ∀ (m4 : iw_M), f_X6_traces_X143_25 m4 = some σ' → iw_V p l e rm_X6_traces s m ([.ref (G.2.1 84), .int p1] : List Value).toArray below meth c0 0 0 (MQ below (iw_Q none G σ') ([.ref (G.2.1 84), .int p1] : List Value).toArray s 0 0 (iw_A G)) 6 G (iw_A G) m4 143 [] [] := by
      intro m4 h
      unfold f_X6_traces_X143_25 at h
      cases h
      exact iv_vret C hr hlk rfl rfl dX6_traces_143
    have vB25 : ∀ (k25 : iw_M → Option (iw_M)) (r25 : Int32 → iw_M → Option (iw_M)), (∀ (m4 : iw_M), k25 m4 = some σ' → iw_V p l e rm_X6_traces s m ([.ref (G.2.1 84), .int p1] : List Value).toArray below meth c0 0 0 (MQ below (iw_Q none G σ') ([.ref (G.2.1 84), .int p1] : List Value).toArray s 0 0 (iw_A G)) 6 G (iw_A G) m4 143 [] []) → (∀ (v5 : Int32) (m6 : iw_M), r25 v5 m6 = some σ' → iw_V p l e rm_X6_traces s m ([.ref (G.2.1 84), .int p1] : List Value).toArray below meth c0 0 0 (MQ below (iw_Q none G σ') ([.ref (G.2.1 84), .int p1] : List Value).toArray s 0 0 (iw_A G)) 6 G (iw_A G) m6 25 [(0, .ref (G.2.1 84)), (2, .int v5)] []) → ∀ (v5 : Int32) (m6 : iw_M), f_X6_traces_B25 n k25 r25 v5 m6 = some σ' → iw_V p l e rm_X6_traces s m ([.ref (G.2.1 84), .int p1] : List Value).toArray below meth c0 0 0 (MQ below (iw_Q none G σ') ([.ref (G.2.1 84), .int p1] : List Value).toArray s 0 0 (iw_A G)) 6 G (iw_A G) m6 25 [(0, .ref (G.2.1 84)), (2, .int v5)] [] := by
      intro k25 r25 hk25 hr25 v5 m6 h
      unfold f_X6_traces_B25 at h
      refine iv_iload_n (pc := 25) C 1 dX6_traces_25 rfl rfl ?_
      refine iv_sipush (pc := 26) C (-1000 : Int32) dX6_traces_26 (by decide) ?_
      refine iv_icmp_eq (pc := 29) C 143 dX6_traces_29 (by decide) (fun h7 => ?_) (fun h7 => ?_)
      · replace h := iw_ift h7 h
        exact iv_sub [] rfl (hk25 m6 h)
      · replace h := iw_iff h7 h
        refine iv_aload_n (pc := 32) C 0 dX6_traces_32 rfl rfl ?_
        refine iv_getf (pc := 33) (T := TX6) (N := 16) (ci := 6) C 84 5 in_X6_traces_6 (iw_im hJ (by decide)) iw_Eo84 rfl (by decide) lk_X6_traces_23 rfl rfl dX6_traces_33 ?_
        refine iv_aload_n (pc := 36) C 0 dX6_traces_36 rfl rfl ?_
        refine iv_getf (pc := 37) (T := TX6) (N := 16) (ci := 6) C 84 6 in_X6_traces_6 (iw_im hJ (by decide)) iw_Eo84 rfl (by decide) lk_X6_traces_117 rfl rfl dX6_traces_37 ?_
        refine iv_iload_n (pc := 40) C 1 dX6_traces_40 rfl rfl ?_
        obtain ⟨m8, em8, h⟩ := iw_be h
        refine iv_wr (pc := 41) C 89 (iw_lm hJ rfl (by decide)) em8 dX6_traces_41 ?_
        refine iv_aload_n (pc := 42) C 0 dX6_traces_42 rfl rfl ?_
        refine iv_dup (pc := 43) C rfl dX6_traces_43 ?_
        refine iv_getf (pc := 44) (T := TX6) (N := 16) (ci := 6) C 84 6 in_X6_traces_6 (iw_im hJ (by decide)) iw_Eo84 rfl (by decide) lk_X6_traces_117 rfl rfl dX6_traces_44 ?_
        refine iv_iconst (pc := 47) C (1 : Int32) dX6_traces_47 (by decide) ?_
        refine iv_iadd (pc := 48) C dX6_traces_48 ?_
        refine iv_putf (pc := 49) (T := TX6) (N := 16) (ci := 6) C 84 6 (iw_up m8 84 6 ((m8 84 6) + (1 : Int32))) in_X6_traces_6 (iw_im hJ (by decide)) iw_Eo84 tyX6_ok nmX6 rfl (by decide) lk_X6_traces_117 rfl rfl (tyX6_ok 6 (by decide)) rfl rfl (Nat.le_of_ble_eq_true rfl) rfl (fun b hb => iw_up_ne hb) dX6_traces_49 ?_
        refine iv_topm (fun m9 em9 => ?_)
        replace h := iw_lete em9 h
        refine iv_sipush (pc := 52) C (-1000 : Int32) dX6_traces_52 (by decide) ?_
        refine iv_istore_n (pc := 55) C [(3, .int (-1000 : Int32)), (0, .ref (G.2.1 84)), (2, .int v5)] dX6_traces_55 rfl (by decide) rfl ?_
        refine iv_aload_n (pc := 56) C 1 dX6_traces_56 rfl rfl ?_
        refine iv_getf (pc := 57) (T := TX6) (N := 16) (ci := 6) C 84 0 in_X6_traces_6 (iw_im hJ (by decide)) iw_Eo84 rfl (by decide) lk_X6_traces_7 rfl rfl dX6_traces_57 ?_
        refine iv_iconst (pc := 60) C (0 : Int32) dX6_traces_60 (by decide) ?_
        obtain ⟨v10, ev10, h⟩ := iw_be h
        refine iv_rd (pc := 61) C 85 (iw_lm hJ rfl (by decide)) ev10 dX6_traces_61 ?_
        refine iv_iconst (pc := 62) C (1 : Int32) dX6_traces_62 (by decide) ?_
        refine iv_isub (pc := 63) C dX6_traces_63 ?_
        refine iv_topi (fun v11 ev11 => ?_)
        replace h := iw_lete ev11 h
        refine iv_istore (pc := 64) C [(4, .int v11), (3, .int (-1000 : Int32)), (0, .ref (G.2.1 84)), (2, .int v5)] dX6_traces_64 (by decide) rfl ?_
        have vX66 : ∀ (v12 : Int32), f_X6_traces_X138_66 r25 m9 v12 = some σ' → iw_V p l e rm_X6_traces s m ([.ref (G.2.1 84), .int p1] : List Value).toArray below meth c0 0 0 (MQ below (iw_Q none G σ') ([.ref (G.2.1 84), .int p1] : List Value).toArray s 0 0 (iw_A G)) 6 G (iw_A G) m9 138 [(0, .ref (G.2.1 84)), (3, .int v12)] [] := by
          intro v12 h
          unfold f_X6_traces_X138_66 at h
          refine iv_iload_n (pc := 138) C 1 dX6_traces_138 rfl rfl ?_
          refine iv_istore_n (pc := 139) C [(2, .int v12), (0, .ref (G.2.1 84)), (3, .int v12)] dX6_traces_139 rfl (by decide) rfl ?_
          refine iv_goto (pc := 140) C 25 dX6_traces_140 (by decide) ?_
          exact iv_sub [1, 0] rfl (hr25 v12 m9 h)
        have vB66 : ∀ (k66 : Int32 → Option (iw_M)) (r66 : Int32 → Int32 → Option (iw_M)), (∀ (v12 : Int32), k66 v12 = some σ' → iw_V p l e rm_X6_traces s m ([.ref (G.2.1 84), .int p1] : List Value).toArray below meth c0 0 0 (MQ below (iw_Q none G σ') ([.ref (G.2.1 84), .int p1] : List Value).toArray s 0 0 (iw_A G)) 6 G (iw_A G) m9 138 [(0, .ref (G.2.1 84)), (3, .int v12)] []) → (∀ (v13 : Int32) (v14 : Int32), r66 v13 v14 = some σ' → iw_V p l e rm_X6_traces s m ([.ref (G.2.1 84), .int p1] : List Value).toArray below meth c0 0 0 (MQ below (iw_Q none G σ') ([.ref (G.2.1 84), .int p1] : List Value).toArray s 0 0 (iw_A G)) 6 G (iw_A G) m9 66 [(0, .ref (G.2.1 84)), (2, .int v5), (3, .int v13), (4, .int v14)] []) → ∀ (v13 : Int32) (v14 : Int32), f_X6_traces_B66 n v5 m9 k66 r66 v13 v14 = some σ' → iw_V p l e rm_X6_traces s m ([.ref (G.2.1 84), .int p1] : List Value).toArray below meth c0 0 0 (MQ below (iw_Q none G σ') ([.ref (G.2.1 84), .int p1] : List Value).toArray s 0 0 (iw_A G)) 6 G (iw_A G) m9 66 [(0, .ref (G.2.1 84)), (2, .int v5), (3, .int v13), (4, .int v14)] [] := by
          intro k66 r66 hk66 hr66 v13 v14 h
          unfold f_X6_traces_B66 at h
          refine iv_iload (pc := 66) C 3 dX6_traces_66 rfl ?_
          refine iv_if_lt (pc := 68) C 138 dX6_traces_68 (by decide) (fun h15 => ?_) (fun h15 => ?_)
          · replace h := iw_ift h15 h
            exact iv_sub [0, 2] rfl (hk66 v13 h)
          · replace h := iw_iff h15 h
            refine iv_aload_n (pc := 71) C 0 dX6_traces_71 rfl rfl ?_
            refine iv_iload (pc := 72) C 3 dX6_traces_72 rfl ?_
            refine iv_iload_n (pc := 74) C 1 dX6_traces_74 rfl rfl ?_
            obtain ⟨v16, ev16, h⟩ := iw_be h
            refine iv_callV (pc := 75) (b := 84) (ci := 6) C [.int v14, .int v5] (k_X6_linkOf l G hJ n v14 v5 m9 ev16) gX6_traces_X6_linkOf rfl qd_X6_linkOf ⟨rfl, rfl, Nat.le_of_ble_eq_true rfl, Nat.le_of_ble_eq_true rfl⟩ (iw_im hJ (by decide)) iw_Eo84 rfl rfl rfl (Nat.le_of_ble_eq_true rfl) dX6_traces_75 ?_
            refine iv_istore (pc := 78) C [(5, .int v16), (0, .ref (G.2.1 84)), (2, .int v5), (3, .int v13), (4, .int v14)] dX6_traces_78 (by decide) rfl ?_
            refine iv_iload (pc := 80) C 0 dX6_traces_80 rfl ?_
            refine iv_sipush (pc := 82) C (-1000 : Int32) dX6_traces_82 (by decide) ?_
            have vJ131 : ∀ (v17 : Int32), f_X6_traces_J131 r66 v14 v17 = some σ' → iw_V p l e rm_X6_traces s m ([.ref (G.2.1 84), .int p1] : List Value).toArray below meth c0 0 0 (MQ below (iw_Q none G σ') ([.ref (G.2.1 84), .int p1] : List Value).toArray s 0 0 (iw_A G)) 6 G (iw_A G) m9 131 [(0, .ref (G.2.1 84)), (2, .int v5), (4, .int v14)] [.int v17] := by
              intro v17 h
              unfold f_X6_traces_J131 at h
              refine iv_istore_n (pc := 131) C [(3, .int v17), (0, .ref (G.2.1 84)), (2, .int v5), (4, .int v14)] dX6_traces_131 rfl (by decide) rfl ?_
              obtain ⟨v18, ev18⟩ : ∃ y : Int32, y = v14 + (-1 : Int32) := ⟨_, rfl⟩
              replace h := iw_lete ev18 h
              refine iv_iinc (pc := 132) C 3 v18 [(4, .int v18), (3, .int v17), (0, .ref (G.2.1 84)), (2, .int v5)] dX6_traces_132 rfl (by rw [ev18]; rfl) (by decide) rfl ?_
              refine iv_goto (pc := 135) C 66 dX6_traces_135 (by decide) ?_
              exact iv_sub [2, 3, 1, 0] rfl (hr66 v17 v18 h)
            have vJ130 : f_X6_traces_J130 r66 v13 v14  = some σ' → iw_V p l e rm_X6_traces s m ([.ref (G.2.1 84), .int p1] : List Value).toArray below meth c0 0 0 (MQ below (iw_Q none G σ') ([.ref (G.2.1 84), .int p1] : List Value).toArray s 0 0 (iw_A G)) 6 G (iw_A G) m9 130 [(0, .ref (G.2.1 84)), (2, .int v5), (3, .int v13), (4, .int v14)] [] := by
              intro h
              unfold f_X6_traces_J130 at h
              refine iv_iload_n (pc := 130) C 2 dX6_traces_130 rfl rfl ?_
              exact iv_sub [0, 1, 3] rfl (vJ131 v13 h)
            refine iv_icmp_eq (pc := 85) C 130 dX6_traces_85 (by decide) (fun h19 => ?_) (fun h19 => ?_)
            · replace h := iw_ift h19 h
              exact iv_sub [1, 2, 3, 4] rfl (vJ130 h)
            · replace h := iw_iff h19 h
              refine iv_aload_n (pc := 88) C 1 dX6_traces_88 rfl rfl ?_
              refine iv_getf (pc := 89) (T := TX6) (N := 16) (ci := 6) C 84 2 in_X6_traces_6 (iw_im hJ (by decide)) iw_Eo84 rfl (by decide) lk_X6_traces_13 rfl rfl dX6_traces_89 ?_
              refine iv_iload (pc := 92) C 4 dX6_traces_92 rfl ?_
              obtain ⟨v20, ev20, h⟩ := iw_be h
              refine iv_rd (pc := 94) C 86 (iw_lm hJ rfl (by decide)) ev20 dX6_traces_94 ?_
              refine iv_sipush (pc := 95) C (-1000 : Int32) dX6_traces_95 (by decide) ?_
              refine iv_icmp_eq (pc := 98) C 130 dX6_traces_98 (by decide) (fun h21 => ?_) (fun h21 => ?_)
              · replace h := iw_ift h21 h
                exact iv_sub [1, 2, 3, 4] rfl (vJ130 h)
              · replace h := iw_iff h21 h
                refine iv_aload_n (pc := 101) C 1 dX6_traces_101 rfl rfl ?_
                refine iv_getf (pc := 102) (T := TX6) (N := 16) (ci := 6) C 84 2 in_X6_traces_6 (iw_im hJ (by decide)) iw_Eo84 rfl (by decide) lk_X6_traces_13 rfl rfl dX6_traces_102 ?_
                refine iv_iload (pc := 105) C 4 dX6_traces_105 rfl ?_
                obtain ⟨v22, ev22, h⟩ := iw_be h
                refine iv_rd (pc := 107) C 86 (iw_lm hJ rfl (by decide)) ev22 dX6_traces_107 ?_
                refine iv_aload_n (pc := 108) C 1 dX6_traces_108 rfl rfl ?_
                refine iv_iload (pc := 109) C 0 dX6_traces_109 rfl ?_
                refine iv_iconst (pc := 111) C (2 : Int32) dX6_traces_111 (by decide) ?_
                obtain ⟨v23, ev23, h⟩ := iw_be h
                refine iv_callV (pc := 112) (b := 84) (ci := 6) C [.int v16, .int (2 : Int32)] (k_X6_ofLink l G hJ v16 (2 : Int32) m9 ev23) gX6_traces_X6_ofLink rfl qd_X6_ofLink ⟨rfl, rfl, Nat.le_of_ble_eq_true rfl, Nat.le_of_ble_eq_true rfl⟩ (iw_im hJ (by decide)) iw_Eo84 rfl rfl rfl (Nat.le_of_ble_eq_true rfl) dX6_traces_112 ?_
                refine iv_iadd (pc := 115) C dX6_traces_115 ?_
                refine iv_aload_n (pc := 116) C 1 dX6_traces_116 rfl rfl ?_
                refine iv_getf (pc := 117) (T := TX6) (N := 16) (ci := 6) C 84 2 in_X6_traces_6 (iw_im hJ (by decide)) iw_Eo84 rfl (by decide) lk_X6_traces_13 rfl rfl dX6_traces_117 ?_
                refine iv_iload_n (pc := 120) C 2 dX6_traces_120 rfl rfl ?_
                obtain ⟨v24, ev24, h⟩ := iw_be h
                refine iv_rd (pc := 121) C 86 (iw_lm hJ rfl (by decide)) ev24 dX6_traces_121 ?_
                refine iv_icmp_ne (pc := 122) C 130 dX6_traces_122 (by decide) (fun h25 => ?_) (fun h25 => ?_)
                · replace h := iw_iff h25 h
                  exact iv_sub [1, 2, 3, 4] rfl (vJ130 h)
                · replace h := iw_ift h25 h
                  refine iv_iload (pc := 125) C 4 dX6_traces_125 rfl ?_
                  refine iv_goto (pc := 127) C 131 dX6_traces_127 (by decide) ?_
                  exact iv_sub [1, 2, 4] rfl (vJ131 v14 h)
        have vL66 : ∀ (nn : Nat) (v13 : Int32) (v14 : Int32), f_X6_traces_L66 n v5 m9 (f_X6_traces_X138_66 r25 m9) nn v13 v14 = some σ' → iw_V p l e rm_X6_traces s m ([.ref (G.2.1 84), .int p1] : List Value).toArray below meth c0 0 0 (MQ below (iw_Q none G σ') ([.ref (G.2.1 84), .int p1] : List Value).toArray s 0 0 (iw_A G)) 6 G (iw_A G) m9 66 [(0, .ref (G.2.1 84)), (2, .int v5), (3, .int v13), (4, .int v14)] [] := by
          intro nn
          induction nn with
          | zero => intro v13 v14 h; exact absurd h (fun q => by cases q)
          | succ nn ih => intro v13 v14 h; exact vB66 (f_X6_traces_X138_66 r25 m9) (f_X6_traces_L66 n v5 m9 (f_X6_traces_X138_66 r25 m9) nn) vX66 ih v13 v14 h
        exact iv_sub [2, 3, 1, 0] rfl (vL66 n (-1000 : Int32) v11 h)
    have vL25 : ∀ (nn : Nat) (v5 : Int32) (m6 : iw_M), f_X6_traces_L25 n (f_X6_traces_X143_25) nn v5 m6 = some σ' → iw_V p l e rm_X6_traces s m ([.ref (G.2.1 84), .int p1] : List Value).toArray below meth c0 0 0 (MQ below (iw_Q none G σ') ([.ref (G.2.1 84), .int p1] : List Value).toArray s 0 0 (iw_A G)) 6 G (iw_A G) m6 25 [(0, .ref (G.2.1 84)), (2, .int v5)] [] := by
      intro nn
      induction nn with
      | zero => intro v5 m6 h; exact absurd h (fun q => by cases q)
      | succ nn ih => intro v5 m6 h; exact vB25 (f_X6_traces_X143_25) (f_X6_traces_L25 n (f_X6_traces_X143_25) nn) vX25 ih v5 m6 h
    exact iv_sub [1, 0] rfl (vL25 n v3 m1 h)
  refine iv_icmp_ne (pc := 14) C 23 dX6_traces_14 (by decide) (fun h26 => ?_) (fun h26 => ?_)
  · replace h := iw_iff h26 h
    refine iv_iload_n (pc := 23) C 1 dX6_traces_23 rfl rfl ?_
    exact iv_sub [0] rfl (vJ24 p1 h)
  · replace h := iw_ift h26 h
    refine iv_sipush (pc := 17) C (-1000 : Int32) dX6_traces_17 (by decide) ?_
    refine iv_goto (pc := 20) C 24 dX6_traces_20 (by decide) ?_
    exact iv_sub [0] rfl (vJ24 (-1000 : Int32) h)
theorem qd_X6_traces : yX6_traces.cls = RX6 ∧ yX6_traces.cls ≠ "java/lang/invoke/MethodHandle" ∧ yX6_traces.cls ≠ "java/lang/invoke/VarHandle" ∧ (parseMethodDescriptor yX6_traces.desc).map (fun d => d.parameters.length) = some 1 := by decide +kernel
def f_X6_goesOver_X66_6 (v1 : Int32) : Option (Int32) :=
some (v1 &&& 1)
def f_X6_goesOver_J58 (r6 : Int32 → Int32 → Option (Int32)) (v3 : Int32) (v5 : Int32) : Option (Int32) :=
iw_let (v3 + (1 : Int32)) fun v6 =>
r6 v5 v6
def f_X6_goesOver_J53 (r6 : Int32 → Int32 → Option (Int32)) (v3 : Int32) : Option (Int32) :=
f_X6_goesOver_J58 r6 v3 (1 : Int32)
def f_X6_goesOver_J57 (r6 : Int32 → Int32 → Option (Int32)) (v3 : Int32) : Option (Int32) :=
f_X6_goesOver_J58 r6 v3 (0 : Int32)
def f_X6_goesOver_J35 (a1 : Nat) (p3 : Int32) (p4 : Int32) (σ : iw_M) (r6 : Int32 → Int32 → Option (Int32)) (v3 : Int32) : Option (Int32) :=
(iw_rd σ a1 (v3 - (1 : Int32))).bind fun v9 =>
if v9 = p4 then
((iw_rd σ a1 v3).bind fun v11 =>
if v11 = p3 then
(f_X6_goesOver_J53 r6 v3)
else
(f_X6_goesOver_J57 r6 v3))
else
(f_X6_goesOver_J57 r6 v3)
def f_X6_goesOver_B6 (a1 : Nat) (p2 : Int32) (p3 : Int32) (p4 : Int32) (σ : iw_M) (k6 : Int32 → Option (Int32)) (r6 : Int32 → Int32 → Option (Int32)) (v2 : Int32) (v3 : Int32) : Option (Int32) :=
if p2 ≤ v3 then
(k6 v2)
else
(if v2 = (0 : Int32) then
((iw_rd σ a1 (v3 - (1 : Int32))).bind fun v8 =>
if v8 = p3 then
((iw_rd σ a1 v3).bind fun v14 =>
if v14 = p4 then
(f_X6_goesOver_J53 r6 v3)
else
(f_X6_goesOver_J35 a1 p3 p4 σ r6 v3))
else
(f_X6_goesOver_J35 a1 p3 p4 σ r6 v3))
else
(f_X6_goesOver_J53 r6 v3))
def f_X6_goesOver_L6 (a1 : Nat) (p2 : Int32) (p3 : Int32) (p4 : Int32) (σ : iw_M) (k6 : Int32 → Option (Int32)) (nn : Nat) : Int32 → Int32 → Option (Int32) :=
iw_it (fun r6 => f_X6_goesOver_B6 a1 p2 p3 p4 σ k6 r6) (fun _ _ => none) nn
def f_X6_goesOver (n : Nat) (a1 : Nat) (p2 : Int32) (p3 : Int32) (p4 : Int32) (σ : iw_M) : Option (Int32) :=
f_X6_goesOver_L6 a1 p2 p3 p4 σ (f_X6_goesOver_X66_6) n (0 : Int32) (1 : Int32)
abbrev rm_X6_goesOver : Room := { frames := 0, cells := 0, slots := 0, locals := 0 }
set_option maxHeartbeats 4000000 in
set_option maxRecDepth 100000 in
theorem k_X6_goesOver (l : Launch) (G : iw_G) (hJ : iw_JM G) (n : Nat) (a1 : Nat) (ha1 : iw_ia G a1) (p2 : Int32) (p3 : Int32) (p4 : Int32) (σ : iw_M) {r : Int32} (h : f_X6_goesOver n a1 p2 p3 p4 σ = some r) : iw_Ct l yX6_goesOver wsX6_goesOver rm_X6_goesOver G ([.ref (G.2.1 a1), .int p2, .int p3, .int p4] : List Value) σ (some (.int r)) σ := by
  refine iv_start (nL := 6) (own := RX6) (ret := (some .boolean)) (cc := cX6_goesOver) (by decide +kernel) rfl rfl hJ.1 (Nat.le_of_ble_eq_true rfl) ?_
  intro p e s m below meth c0 C hr hlk
  refine iv_sub (lv' := [(0, .ref (G.2.1 a1)), (1, .int p2), (2, .int p3), (3, .int p4)]) [0, 1, 2, 3] rfl ?_
  unfold f_X6_goesOver at h
  refine iv_iconst (pc := 0) C (0 : Int32) dX6_goesOver_0 (by decide) ?_
  refine iv_istore (pc := 1) C [(4, .int (0 : Int32)), (0, .ref (G.2.1 a1)), (1, .int p2), (2, .int p3), (3, .int p4)] dX6_goesOver_1 (by decide) rfl ?_
  refine iv_iconst (pc := 3) C (1 : Int32) dX6_goesOver_3 (by decide) ?_
  refine iv_istore (pc := 4) C [(5, .int (1 : Int32)), (4, .int (0 : Int32)), (0, .ref (G.2.1 a1)), (1, .int p2), (2, .int p3), (3, .int p4)] dX6_goesOver_4 (by decide) rfl ?_
  have vX6 : ∀ (v1 : Int32), f_X6_goesOver_X66_6 v1 = some r → iw_V p l e rm_X6_goesOver s m ([.ref (G.2.1 a1), .int p2, .int p3, .int p4] : List Value).toArray below meth c0 0 0 (MQ below (iw_Q (some (.int r)) G σ) ([.ref (G.2.1 a1), .int p2, .int p3, .int p4] : List Value).toArray s 0 0 (iw_A G)) 6 G (iw_A G) σ 66 [(4, .int v1)] [] := by
    intro v1 h
    unfold f_X6_goesOver_X66_6 at h
    refine iv_iload (pc := 66) C 0 dX6_goesOver_66 rfl ?_
    cases h
    exact iv_zret C hr hlk rfl rfl dX6_goesOver_68
  have vB6 : ∀ (k6 : Int32 → Option (Int32)) (r6 : Int32 → Int32 → Option (Int32)), (∀ (v1 : Int32), k6 v1 = some r → iw_V p l e rm_X6_goesOver s m ([.ref (G.2.1 a1), .int p2, .int p3, .int p4] : List Value).toArray below meth c0 0 0 (MQ below (iw_Q (some (.int r)) G σ) ([.ref (G.2.1 a1), .int p2, .int p3, .int p4] : List Value).toArray s 0 0 (iw_A G)) 6 G (iw_A G) σ 66 [(4, .int v1)] []) → (∀ (v2 : Int32) (v3 : Int32), r6 v2 v3 = some r → iw_V p l e rm_X6_goesOver s m ([.ref (G.2.1 a1), .int p2, .int p3, .int p4] : List Value).toArray below meth c0 0 0 (MQ below (iw_Q (some (.int r)) G σ) ([.ref (G.2.1 a1), .int p2, .int p3, .int p4] : List Value).toArray s 0 0 (iw_A G)) 6 G (iw_A G) σ 6 [(0, .ref (G.2.1 a1)), (1, .int p2), (2, .int p3), (3, .int p4), (4, .int v2), (5, .int v3)] []) → ∀ (v2 : Int32) (v3 : Int32), f_X6_goesOver_B6 a1 p2 p3 p4 σ k6 r6 v2 v3 = some r → iw_V p l e rm_X6_goesOver s m ([.ref (G.2.1 a1), .int p2, .int p3, .int p4] : List Value).toArray below meth c0 0 0 (MQ below (iw_Q (some (.int r)) G σ) ([.ref (G.2.1 a1), .int p2, .int p3, .int p4] : List Value).toArray s 0 0 (iw_A G)) 6 G (iw_A G) σ 6 [(0, .ref (G.2.1 a1)), (1, .int p2), (2, .int p3), (3, .int p4), (4, .int v2), (5, .int v3)] [] := by
    intro k6 r6 hk6 hr6 v2 v3 h
    unfold f_X6_goesOver_B6 at h
    refine iv_iload (pc := 6) C 5 dX6_goesOver_6 rfl ?_
    refine iv_iload_n (pc := 8) C 1 dX6_goesOver_8 rfl rfl ?_
    refine iv_icmp_ge (pc := 9) C 66 dX6_goesOver_9 (by decide) (fun h4 => ?_) (fun h4 => ?_)
    · replace h := iw_ift h4 h
      exact iv_sub [4] rfl (hk6 v2 h)
    · replace h := iw_iff h4 h
      refine iv_iload (pc := 12) C 4 dX6_goesOver_12 rfl ?_
      have vJ58 : ∀ (v5 : Int32), f_X6_goesOver_J58 r6 v3 v5 = some r → iw_V p l e rm_X6_goesOver s m ([.ref (G.2.1 a1), .int p2, .int p3, .int p4] : List Value).toArray below meth c0 0 0 (MQ below (iw_Q (some (.int r)) G σ) ([.ref (G.2.1 a1), .int p2, .int p3, .int p4] : List Value).toArray s 0 0 (iw_A G)) 6 G (iw_A G) σ 58 [(0, .ref (G.2.1 a1)), (1, .int p2), (2, .int p3), (3, .int p4), (5, .int v3)] [.int v5] := by
        intro v5 h
        unfold f_X6_goesOver_J58 at h
        refine iv_istore (pc := 58) C [(4, .int v5), (0, .ref (G.2.1 a1)), (1, .int p2), (2, .int p3), (3, .int p4), (5, .int v3)] dX6_goesOver_58 (by decide) rfl ?_
        obtain ⟨v6, ev6⟩ : ∃ y : Int32, y = v3 + (1 : Int32) := ⟨_, rfl⟩
        replace h := iw_lete ev6 h
        refine iv_iinc (pc := 60) C 5 v6 [(5, .int v6), (4, .int v5), (0, .ref (G.2.1 a1)), (1, .int p2), (2, .int p3), (3, .int p4)] dX6_goesOver_60 rfl (by rw [ev6]; rfl) (by decide) rfl ?_
        refine iv_goto (pc := 63) C 6 dX6_goesOver_63 (by decide) ?_
        exact iv_sub [2, 3, 4, 5, 1, 0] rfl (hr6 v5 v6 h)
      have vJ53 : f_X6_goesOver_J53 r6 v3  = some r → iw_V p l e rm_X6_goesOver s m ([.ref (G.2.1 a1), .int p2, .int p3, .int p4] : List Value).toArray below meth c0 0 0 (MQ below (iw_Q (some (.int r)) G σ) ([.ref (G.2.1 a1), .int p2, .int p3, .int p4] : List Value).toArray s 0 0 (iw_A G)) 6 G (iw_A G) σ 53 [(0, .ref (G.2.1 a1)), (1, .int p2), (2, .int p3), (3, .int p4), (5, .int v3)] [] := by
        intro h
        unfold f_X6_goesOver_J53 at h
        refine iv_iconst (pc := 53) C (1 : Int32) dX6_goesOver_53 (by decide) ?_
        refine iv_goto (pc := 54) C 58 dX6_goesOver_54 (by decide) ?_
        exact iv_sub [0, 1, 2, 3, 4] rfl (vJ58 (1 : Int32) h)
      refine iv_if_ne (pc := 14) C 53 dX6_goesOver_14 (by decide) (fun h7 => ?_) (fun h7 => ?_)
      · replace h := iw_iff h7 h
        exact iv_sub [0, 1, 2, 3, 5] rfl (vJ53 h)
      · replace h := iw_ift h7 h
        refine iv_aload_n (pc := 17) C 0 dX6_goesOver_17 rfl rfl ?_
        refine iv_iload (pc := 18) C 5 dX6_goesOver_18 rfl ?_
        refine iv_iconst (pc := 20) C (1 : Int32) dX6_goesOver_20 (by decide) ?_
        refine iv_isub (pc := 21) C dX6_goesOver_21 ?_
        obtain ⟨v8, ev8, h⟩ := iw_be h
        refine iv_rd (pc := 22) C a1 ha1 ev8 dX6_goesOver_22 ?_
        refine iv_iload_n (pc := 23) C 2 dX6_goesOver_23 rfl rfl ?_
        have vJ35 : f_X6_goesOver_J35 a1 p3 p4 σ r6 v3  = some r → iw_V p l e rm_X6_goesOver s m ([.ref (G.2.1 a1), .int p2, .int p3, .int p4] : List Value).toArray below meth c0 0 0 (MQ below (iw_Q (some (.int r)) G σ) ([.ref (G.2.1 a1), .int p2, .int p3, .int p4] : List Value).toArray s 0 0 (iw_A G)) 6 G (iw_A G) σ 35 [(0, .ref (G.2.1 a1)), (1, .int p2), (2, .int p3), (3, .int p4), (5, .int v3)] [] := by
          intro h
          unfold f_X6_goesOver_J35 at h
          refine iv_aload_n (pc := 35) C 0 dX6_goesOver_35 rfl rfl ?_
          refine iv_iload (pc := 36) C 4 dX6_goesOver_36 rfl ?_
          refine iv_iconst (pc := 38) C (1 : Int32) dX6_goesOver_38 (by decide) ?_
          refine iv_isub (pc := 39) C dX6_goesOver_39 ?_
          obtain ⟨v9, ev9, h⟩ := iw_be h
          refine iv_rd (pc := 40) C a1 ha1 ev9 dX6_goesOver_40 ?_
          refine iv_iload_n (pc := 41) C 3 dX6_goesOver_41 rfl rfl ?_
          have vJ57 : f_X6_goesOver_J57 r6 v3  = some r → iw_V p l e rm_X6_goesOver s m ([.ref (G.2.1 a1), .int p2, .int p3, .int p4] : List Value).toArray below meth c0 0 0 (MQ below (iw_Q (some (.int r)) G σ) ([.ref (G.2.1 a1), .int p2, .int p3, .int p4] : List Value).toArray s 0 0 (iw_A G)) 6 G (iw_A G) σ 57 [(0, .ref (G.2.1 a1)), (1, .int p2), (2, .int p3), (3, .int p4), (5, .int v3)] [] := by
            intro h
            unfold f_X6_goesOver_J57 at h
            refine iv_iconst (pc := 57) C (0 : Int32) dX6_goesOver_57 (by decide) ?_
            exact iv_sub [0, 1, 2, 3, 4] rfl (vJ58 (0 : Int32) h)
          refine iv_icmp_ne (pc := 42) C 57 dX6_goesOver_42 (by decide) (fun h10 => ?_) (fun h10 => ?_)
          · replace h := iw_iff h10 h
            exact iv_sub [0, 1, 2, 3, 4] rfl (vJ57 h)
          · replace h := iw_ift h10 h
            refine iv_aload_n (pc := 45) C 0 dX6_goesOver_45 rfl rfl ?_
            refine iv_iload (pc := 46) C 4 dX6_goesOver_46 rfl ?_
            obtain ⟨v11, ev11, h⟩ := iw_be h
            refine iv_rd (pc := 48) C a1 ha1 ev11 dX6_goesOver_48 ?_
            refine iv_iload_n (pc := 49) C 2 dX6_goesOver_49 rfl rfl ?_
            refine iv_icmp_ne (pc := 50) C 57 dX6_goesOver_50 (by decide) (fun h12 => ?_) (fun h12 => ?_)
            · replace h := iw_iff h12 h
              exact iv_sub [0, 1, 2, 3, 4] rfl (vJ57 h)
            · replace h := iw_ift h12 h
              exact iv_sub [0, 1, 2, 3, 4] rfl (vJ53 h)
        refine iv_icmp_ne (pc := 24) C 35 dX6_goesOver_24 (by decide) (fun h13 => ?_) (fun h13 => ?_)
        · replace h := iw_iff h13 h
          exact iv_sub [0, 1, 2, 3, 5] rfl (vJ35 h)
        · replace h := iw_ift h13 h
          refine iv_aload_n (pc := 27) C 0 dX6_goesOver_27 rfl rfl ?_
          refine iv_iload (pc := 28) C 5 dX6_goesOver_28 rfl ?_
          obtain ⟨v14, ev14, h⟩ := iw_be h
          refine iv_rd (pc := 30) C a1 ha1 ev14 dX6_goesOver_30 ?_
          refine iv_iload_n (pc := 31) C 3 dX6_goesOver_31 rfl rfl ?_
          refine iv_icmp_eq (pc := 32) C 53 dX6_goesOver_32 (by decide) (fun h15 => ?_) (fun h15 => ?_)
          · replace h := iw_ift h15 h
            exact iv_sub [0, 1, 2, 3, 5] rfl (vJ53 h)
          · replace h := iw_iff h15 h
            exact iv_sub [0, 1, 2, 3, 5] rfl (vJ35 h)
  have vL6 : ∀ (nn : Nat) (v2 : Int32) (v3 : Int32), f_X6_goesOver_L6 a1 p2 p3 p4 σ (f_X6_goesOver_X66_6) nn v2 v3 = some r → iw_V p l e rm_X6_goesOver s m ([.ref (G.2.1 a1), .int p2, .int p3, .int p4] : List Value).toArray below meth c0 0 0 (MQ below (iw_Q (some (.int r)) G σ) ([.ref (G.2.1 a1), .int p2, .int p3, .int p4] : List Value).toArray s 0 0 (iw_A G)) 6 G (iw_A G) σ 6 [(0, .ref (G.2.1 a1)), (1, .int p2), (2, .int p3), (3, .int p4), (4, .int v2), (5, .int v3)] [] := by
    intro nn
    induction nn with
    | zero => intro v2 v3 h; exact absurd h (fun q => by cases q)
    | succ nn ih => intro v2 v3 h; exact vB6 (f_X6_goesOver_X66_6) (f_X6_goesOver_L6 a1 p2 p3 p4 σ (f_X6_goesOver_X66_6) nn) vX6 ih v2 v3 h
  exact iv_sub [2, 3, 4, 5, 1, 0] rfl (vL6 n (0 : Int32) (1 : Int32) h)
theorem qd_X6_goesOver : yX6_goesOver.cls ≠ "java/lang/invoke/MethodHandle" ∧ yX6_goesOver.cls ≠ "java/lang/invoke/VarHandle" ∧ (parseMethodDescriptor yX6_goesOver.desc).map (fun d => d.parameters.length) = some 4 := by decide +kernel
def f_X6_explores_X283_241 (m14 : iw_M) : Option (iw_M) :=
some m14
def f_X6_explores_B241 (p1 : Int32) (p2 : Int32) (k241 : iw_M → Option (iw_M)) (r241 : Int32 → iw_M → Option (iw_M)) (v15 : Int32) (m16 : iw_M) : Option (iw_M) :=
if (m16 84 6) ≤ v15 then
(k241 m16)
else
((iw_rd m16 89 (((m16 84 6) - (1 : Int32)) - v15)).bind fun v18 =>
(iw_wr m16 85 (((f_X6_wayAt p1 p2) + (1 : Int32)) + v15) v18).bind fun m19 =>
iw_let (v15 + (1 : Int32)) fun v20 =>
r241 v20 m19)
def f_X6_explores_L241 (p1 : Int32) (p2 : Int32) (k241 : iw_M → Option (iw_M)) (nn : Nat) : Int32 → iw_M → Option (iw_M) :=
iw_it (fun r241 => f_X6_explores_B241 p1 p2 k241 r241) (fun _ _ => none) nn
def f_X6_explores_X224_167 (n : Nat) (p1 : Int32) (p2 : Int32) (m12 : iw_M) : Option (iw_M) :=
(iw_wr m12 85 (f_X6_wayAt p1 p2) (m12 84 6)).bind fun m13 =>
f_X6_explores_L241 p1 p2 (f_X6_explores_X283_241) n (0 : Int32) m13
def f_X6_explores_J216 (r167 : Int32 → iw_M → Option (iw_M)) (v21 : Int32) (m22 : iw_M) (v24 : Int32) (v28 : Int32) : Option (iw_M) :=
(iw_wr m22 85 (9 : Int32) (v24 + v28)).bind fun m29 =>
iw_let (v21 + (1 : Int32)) fun v30 =>
r167 v30 m29
def f_X6_explores_B167 (n : Nat) (k167 : iw_M → Option (iw_M)) (r167 : Int32 → iw_M → Option (iw_M)) (v21 : Int32) (m22 : iw_M) : Option (iw_M) :=
if (m22 84 8) ≤ v21 then
(k167 m22)
else
((iw_rd m22 85 (9 : Int32)).bind fun v24 =>
(iw_rd m22 90 (v21 - (1 : Int32))).bind fun v25 =>
(iw_rd m22 90 v21).bind fun v26 =>
(f_X6_goesOver n 89 (m22 84 6) v25 v26 m22).bind fun v27 =>
if v27 = (0 : Int32) then
(f_X6_explores_J216 r167 v21 m22 v24 (1 : Int32))
else
(f_X6_explores_J216 r167 v21 m22 v24 (0 : Int32)))
def f_X6_explores_L167 (n : Nat) (k167 : iw_M → Option (iw_M)) (nn : Nat) : Int32 → iw_M → Option (iw_M) :=
iw_it (fun r167 => f_X6_explores_B167 n k167 r167) (fun _ _ => none) nn
def f_X6_explores_X165_108 (n : Nat) (p1 : Int32) (p2 : Int32) (m11 : iw_M) : Option (iw_M) :=
f_X6_explores_L167 n (f_X6_explores_X224_167 n p1 p2) n (1 : Int32) m11
def f_X6_explores_J157 (r108 : Int32 → iw_M → Option (iw_M)) (v32 : Int32) (m33 : iw_M) (v35 : Int32) (v39 : Int32) : Option (iw_M) :=
(iw_wr m33 85 (8 : Int32) (v35 + v39)).bind fun m40 =>
iw_let (v32 + (1 : Int32)) fun v41 =>
r108 v41 m40
def f_X6_explores_B108 (n : Nat) (k108 : iw_M → Option (iw_M)) (r108 : Int32 → iw_M → Option (iw_M)) (v32 : Int32) (m33 : iw_M) : Option (iw_M) :=
if (m33 84 6) ≤ v32 then
(k108 m33)
else
((iw_rd m33 85 (8 : Int32)).bind fun v35 =>
(iw_rd m33 89 (v32 - (1 : Int32))).bind fun v36 =>
(iw_rd m33 89 v32).bind fun v37 =>
(f_X6_goesOver n 90 (m33 84 8) v36 v37 m33).bind fun v38 =>
if v38 = (0 : Int32) then
(f_X6_explores_J157 r108 v32 m33 v35 (1 : Int32))
else
(f_X6_explores_J157 r108 v32 m33 v35 (0 : Int32)))
def f_X6_explores_L108 (n : Nat) (k108 : iw_M → Option (iw_M)) (nn : Nat) : Int32 → iw_M → Option (iw_M) :=
iw_it (fun r108 => f_X6_explores_B108 n k108 r108) (fun _ _ => none) nn
def f_X6_explores_X106_79 (n : Nat) (p1 : Int32) (p2 : Int32) (m10 : iw_M) : Option (iw_M) :=
f_X6_explores_L108 n (f_X6_explores_X165_108 n p1 p2) n (1 : Int32) m10
def f_X6_explores_B79 (p1 : Int32) (p2 : Int32) (k79 : iw_M → Option (iw_M)) (r79 : Int32 → iw_M → Option (iw_M)) (v43 : Int32) (m44 : iw_M) : Option (iw_M) :=
if (m44 84 8) ≤ v43 then
(k79 m44)
else
((f_X6_nodeOf p1 p2 v43 m44).bind fun v46 =>
(iw_wr m44 90 v43 v46).bind fun m47 =>
iw_let (v43 + (1 : Int32)) fun v48 =>
r79 v48 m47)
def f_X6_explores_L79 (p1 : Int32) (p2 : Int32) (k79 : iw_M → Option (iw_M)) (nn : Nat) : Int32 → iw_M → Option (iw_M) :=
iw_it (fun r79 => f_X6_explores_B79 p1 p2 k79 r79) (fun _ _ => none) nn
def f_X6_explores_X67_33 (n : Nat) (p1 : Int32) (p2 : Int32) (m7 : iw_M) : Option (iw_M) :=
(f_X6_lengthOf p1 p2 m7).bind fun v8 =>
iw_let (iw_up m7 84 8 v8) fun m9 =>
f_X6_explores_L79 p1 p2 (f_X6_explores_X106_79 n p1 p2) n (0 : Int32) m9
def f_X6_explores_J61 (r33 : Int32 → iw_M → Option (iw_M)) (v49 : Int32) (m54 : iw_M) : Option (iw_M) :=
iw_let (v49 + (1 : Int32)) fun v55 =>
r33 v55 m54
def f_X6_explores_B33 (k33 : iw_M → Option (iw_M)) (r33 : Int32 → iw_M → Option (iw_M)) (v49 : Int32) (m50 : iw_M) : Option (iw_M) :=
(iw_rd m50 85 (0 : Int32)).bind fun v51 =>
if v51 ≤ v49 then
(k33 m50)
else
((iw_rd m50 86 v49).bind fun v53 =>
if v53 = (-1000 : Int32) then
(f_X6_explores_J61 r33 v49 m50)
else
((f_X6_spends v49 (1 : Int32) m50).bind fun m57 =>
f_X6_explores_J61 r33 v49 m57))
def f_X6_explores_L33 (k33 : iw_M → Option (iw_M)) (nn : Nat) : Int32 → iw_M → Option (iw_M) :=
iw_it (fun r33 => f_X6_explores_B33 k33 r33) (fun _ _ => none) nn
def f_X6_explores (n : Nat) (p1 : Int32) (p2 : Int32) (σ : iw_M) : Option (iw_M) :=
(iw_rd σ 85 (7 : Int32)).bind fun v1 =>
(iw_wr σ 85 (7 : Int32) (v1 + (1 : Int32))).bind fun m2 =>
(f_X6_ofSensor p2 (0 : Int32) m2).bind fun v3 =>
(f_X6_reaches n v3 m2).bind fun m4 =>
(f_X6_ofInterest p1 (0 : Int32) m4).bind fun v5 =>
(f_X6_traces n v5 m4).bind fun m6 =>
f_X6_explores_L33 (f_X6_explores_X67_33 n p1 p2) n (0 : Int32) m6
abbrev rm_X6_explores : Room := { frames := 3, cells := 0, slots := 0, locals := 73 }
theorem lk_X6_explores_7 : Cond.fieldLink RX6 7 RX6 (TX6 0).2.1 (TX6 0).2.2.1 ∈ wsX6_explores := by decide +kernel
theorem lk_X6_explores_129 : Cond.fieldLink RX6 129 RX6 (TX6 8).2.1 (TX6 8).2.2.1 ∈ wsX6_explores := by decide +kernel
theorem lk_X6_explores_117 : Cond.fieldLink RX6 117 RX6 (TX6 6).2.1 (TX6 6).2.2.1 ∈ wsX6_explores := by decide +kernel
theorem lk_X6_explores_23 : Cond.fieldLink RX6 23 RX6 (TX6 5).2.1 (TX6 5).2.2.1 ∈ wsX6_explores := by decide +kernel
theorem lk_X6_explores_26 : Cond.fieldLink RX6 26 RX6 (TX6 7).2.1 (TX6 7).2.2.1 ∈ wsX6_explores := by decide +kernel
theorem lk_X6_explores_13 : Cond.fieldLink RX6 13 RX6 (TX6 2).2.1 (TX6 2).2.2.1 ∈ wsX6_explores := by decide +kernel
theorem in_X6_explores_6 : ∀ w ∈ u_ws RX6 TX6 16, w ∈ wsX6_explores := by decide +kernel
set_option maxHeartbeats 4000000 in
set_option maxRecDepth 100000 in
theorem k_X6_explores (l : Launch) (G : iw_G) (hJ : iw_JM G) (n : Nat) (p1 : Int32) (p2 : Int32) (σ : iw_M) {σ' : iw_M} (h : f_X6_explores n p1 p2 σ = some σ') : iw_Ct l yX6_explores wsX6_explores rm_X6_explores G ([.ref (G.2.1 84), .int p1, .int p2] : List Value) σ none σ' := by
  refine iv_start (nL := 4) (own := RX6) (ret := none) (cc := cX6_explores) (by decide +kernel) rfl rfl hJ.1 (Nat.le_of_ble_eq_true rfl) ?_
  intro p e s m below meth c0 C hr hlk
  refine iv_sub (lv' := [(0, .ref (G.2.1 84)), (1, .int p1), (2, .int p2)]) [0, 1, 2] rfl ?_
  unfold f_X6_explores at h
  refine iv_aload_n (pc := 0) C 0 dX6_explores_0 rfl rfl ?_
  refine iv_getf (pc := 1) (T := TX6) (N := 16) (ci := 6) C 84 0 in_X6_explores_6 (iw_im hJ (by decide)) iw_Eo84 rfl (by decide) lk_X6_explores_7 rfl rfl dX6_explores_1 ?_
  refine iv_bipush (pc := 4) C (7 : Int32) dX6_explores_4 (by decide) ?_
  refine iv_dup2 (pc := 6) C rfl rfl dX6_explores_6 ?_
  obtain ⟨v1, ev1, h⟩ := iw_be h
  refine iv_rd (pc := 7) C 85 (iw_lm hJ rfl (by decide)) ev1 dX6_explores_7 ?_
  refine iv_iconst (pc := 8) C (1 : Int32) dX6_explores_8 (by decide) ?_
  refine iv_iadd (pc := 9) C dX6_explores_9 ?_
  obtain ⟨m2, em2, h⟩ := iw_be h
  refine iv_wr (pc := 10) C 85 (iw_lm hJ rfl (by decide)) em2 dX6_explores_10 ?_
  refine iv_aload_n (pc := 11) C 0 dX6_explores_11 rfl rfl ?_
  refine iv_aload_n (pc := 12) C 0 dX6_explores_12 rfl rfl ?_
  refine iv_iload_n (pc := 13) C 2 dX6_explores_13 rfl rfl ?_
  refine iv_iconst (pc := 14) C (0 : Int32) dX6_explores_14 (by decide) ?_
  obtain ⟨v3, ev3, h⟩ := iw_be h
  refine iv_callV (pc := 15) (b := 84) (ci := 6) C [.int p2, .int (0 : Int32)] (k_X6_ofSensor l G hJ p2 (0 : Int32) m2 ev3) gX6_explores_X6_ofSensor rfl qd_X6_ofSensor ⟨rfl, rfl, Nat.le_of_ble_eq_true rfl, Nat.le_of_ble_eq_true rfl⟩ (iw_im hJ (by decide)) iw_Eo84 rfl rfl rfl (Nat.le_of_ble_eq_true rfl) dX6_explores_15 ?_
  obtain ⟨m4, em4, h⟩ := iw_be h
  refine iv_callV (pc := 18) (b := 84) (ci := 6) C [.int v3] (k_X6_reaches l G hJ n v3 m2 em4) gX6_explores_X6_reaches rfl qd_X6_reaches ⟨rfl, rfl, Nat.le_of_ble_eq_true rfl, Nat.le_of_ble_eq_true rfl⟩ (iw_im hJ (by decide)) iw_Eo84 rfl rfl rfl (Nat.le_of_ble_eq_true rfl) dX6_explores_18 ?_
  refine iv_aload_n (pc := 21) C 0 dX6_explores_21 rfl rfl ?_
  refine iv_aload_n (pc := 22) C 0 dX6_explores_22 rfl rfl ?_
  refine iv_iload_n (pc := 23) C 1 dX6_explores_23 rfl rfl ?_
  refine iv_iconst (pc := 24) C (0 : Int32) dX6_explores_24 (by decide) ?_
  obtain ⟨v5, ev5, h⟩ := iw_be h
  refine iv_callV (pc := 25) (b := 84) (ci := 6) C [.int p1, .int (0 : Int32)] (k_X6_ofInterest l G hJ p1 (0 : Int32) m4 ev5) gX6_explores_X6_ofInterest rfl qd_X6_ofInterest ⟨rfl, rfl, Nat.le_of_ble_eq_true rfl, Nat.le_of_ble_eq_true rfl⟩ (iw_im hJ (by decide)) iw_Eo84 rfl rfl rfl (Nat.le_of_ble_eq_true rfl) dX6_explores_25 ?_
  obtain ⟨m6, em6, h⟩ := iw_be h
  refine iv_callV (pc := 28) (b := 84) (ci := 6) C [.int v5] (k_X6_traces l G hJ n v5 m4 em6) gX6_explores_X6_traces rfl qd_X6_traces ⟨rfl, rfl, Nat.le_of_ble_eq_true rfl, Nat.le_of_ble_eq_true rfl⟩ (iw_im hJ (by decide)) iw_Eo84 rfl rfl rfl (Nat.le_of_ble_eq_true rfl) dX6_explores_28 ?_
  refine iv_iconst (pc := 31) C (0 : Int32) dX6_explores_31 (by decide) ?_
  refine iv_istore_n (pc := 32) C [(3, .int (0 : Int32)), (0, .ref (G.2.1 84)), (1, .int p1), (2, .int p2)] dX6_explores_32 rfl (by decide) rfl ?_
  have vX33 : ∀ (m7 : iw_M), f_X6_explores_X67_33 n p1 p2 m7 = some σ' → iw_V p l e rm_X6_explores s m ([.ref (G.2.1 84), .int p1, .int p2] : List Value).toArray below meth c0 0 0 (MQ below (iw_Q none G σ') ([.ref (G.2.1 84), .int p1, .int p2] : List Value).toArray s 0 0 (iw_A G)) 4 G (iw_A G) m7 67 [(0, .ref (G.2.1 84)), (1, .int p1), (2, .int p2)] [] := by
    intro m7 h
    unfold f_X6_explores_X67_33 at h
    refine iv_aload_n (pc := 67) C 0 dX6_explores_67 rfl rfl ?_
    refine iv_aload_n (pc := 68) C 0 dX6_explores_68 rfl rfl ?_
    refine iv_iload_n (pc := 69) C 1 dX6_explores_69 rfl rfl ?_
    refine iv_iload_n (pc := 70) C 2 dX6_explores_70 rfl rfl ?_
    obtain ⟨v8, ev8, h⟩ := iw_be h
    refine iv_callV (pc := 71) (b := 84) (ci := 6) C [.int p1, .int p2] (k_X6_lengthOf l G hJ p1 p2 m7 ev8) gX6_explores_X6_lengthOf rfl qd_X6_lengthOf ⟨rfl, rfl, Nat.le_of_ble_eq_true rfl, Nat.le_of_ble_eq_true rfl⟩ (iw_im hJ (by decide)) iw_Eo84 rfl rfl rfl (Nat.le_of_ble_eq_true rfl) dX6_explores_71 ?_
    refine iv_putf (pc := 74) (T := TX6) (N := 16) (ci := 6) C 84 8 (iw_up m7 84 8 v8) in_X6_explores_6 (iw_im hJ (by decide)) iw_Eo84 tyX6_ok nmX6 rfl (by decide) lk_X6_explores_129 rfl rfl (tyX6_ok 8 (by decide)) rfl rfl (Nat.le_of_ble_eq_true rfl) rfl (fun b hb => iw_up_ne hb) dX6_explores_74 ?_
    refine iv_topm (fun m9 em9 => ?_)
    replace h := iw_lete em9 h
    refine iv_iconst (pc := 77) C (0 : Int32) dX6_explores_77 (by decide) ?_
    refine iv_istore_n (pc := 78) C [(3, .int (0 : Int32)), (0, .ref (G.2.1 84)), (1, .int p1), (2, .int p2)] dX6_explores_78 rfl (by decide) rfl ?_
    have vX79 : ∀ (m10 : iw_M), f_X6_explores_X106_79 n p1 p2 m10 = some σ' → iw_V p l e rm_X6_explores s m ([.ref (G.2.1 84), .int p1, .int p2] : List Value).toArray below meth c0 0 0 (MQ below (iw_Q none G σ') ([.ref (G.2.1 84), .int p1, .int p2] : List Value).toArray s 0 0 (iw_A G)) 4 G (iw_A G) m10 106 [(0, .ref (G.2.1 84)), (1, .int p1), (2, .int p2)] [] := by
      intro m10 h
      unfold f_X6_explores_X106_79 at h
      refine iv_iconst (pc := 106) C (1 : Int32) dX6_explores_106 (by decide) ?_
      refine iv_istore_n (pc := 107) C [(3, .int (1 : Int32)), (0, .ref (G.2.1 84)), (1, .int p1), (2, .int p2)] dX6_explores_107 rfl (by decide) rfl ?_
      have vX108 : ∀ (m11 : iw_M), f_X6_explores_X165_108 n p1 p2 m11 = some σ' → iw_V p l e rm_X6_explores s m ([.ref (G.2.1 84), .int p1, .int p2] : List Value).toArray below meth c0 0 0 (MQ below (iw_Q none G σ') ([.ref (G.2.1 84), .int p1, .int p2] : List Value).toArray s 0 0 (iw_A G)) 4 G (iw_A G) m11 165 [(0, .ref (G.2.1 84)), (1, .int p1), (2, .int p2)] [] := by
        intro m11 h
        unfold f_X6_explores_X165_108 at h
        refine iv_iconst (pc := 165) C (1 : Int32) dX6_explores_165 (by decide) ?_
        refine iv_istore_n (pc := 166) C [(3, .int (1 : Int32)), (0, .ref (G.2.1 84)), (1, .int p1), (2, .int p2)] dX6_explores_166 rfl (by decide) rfl ?_
        have vX167 : ∀ (m12 : iw_M), f_X6_explores_X224_167 n p1 p2 m12 = some σ' → iw_V p l e rm_X6_explores s m ([.ref (G.2.1 84), .int p1, .int p2] : List Value).toArray below meth c0 0 0 (MQ below (iw_Q none G σ') ([.ref (G.2.1 84), .int p1, .int p2] : List Value).toArray s 0 0 (iw_A G)) 4 G (iw_A G) m12 224 [(0, .ref (G.2.1 84)), (1, .int p1), (2, .int p2)] [] := by
          intro m12 h
          unfold f_X6_explores_X224_167 at h
          refine iv_aload_n (pc := 224) C 0 dX6_explores_224 rfl rfl ?_
          refine iv_getf (pc := 225) (T := TX6) (N := 16) (ci := 6) C 84 0 in_X6_explores_6 (iw_im hJ (by decide)) iw_Eo84 rfl (by decide) lk_X6_explores_7 rfl rfl dX6_explores_225 ?_
          refine iv_aload_n (pc := 228) C 0 dX6_explores_228 rfl rfl ?_
          refine iv_iload_n (pc := 229) C 1 dX6_explores_229 rfl rfl ?_
          refine iv_iload_n (pc := 230) C 2 dX6_explores_230 rfl rfl ?_
          refine iv_callV (pc := 231) (b := 84) (ci := 6) C [.int p1, .int p2] (k_X6_wayAt l G hJ p1 p2 m12 rfl) gX6_explores_X6_wayAt rfl qd_X6_wayAt ⟨rfl, rfl, Nat.le_of_ble_eq_true rfl, Nat.le_of_ble_eq_true rfl⟩ (iw_im hJ (by decide)) iw_Eo84 rfl rfl rfl (Nat.le_of_ble_eq_true rfl) dX6_explores_231 ?_
          refine iv_aload_n (pc := 234) C 0 dX6_explores_234 rfl rfl ?_
          refine iv_getf (pc := 235) (T := TX6) (N := 16) (ci := 6) C 84 6 in_X6_explores_6 (iw_im hJ (by decide)) iw_Eo84 rfl (by decide) lk_X6_explores_117 rfl rfl dX6_explores_235 ?_
          obtain ⟨m13, em13, h⟩ := iw_be h
          refine iv_wr (pc := 238) C 85 (iw_lm hJ rfl (by decide)) em13 dX6_explores_238 ?_
          refine iv_iconst (pc := 239) C (0 : Int32) dX6_explores_239 (by decide) ?_
          refine iv_istore_n (pc := 240) C [(3, .int (0 : Int32)), (0, .ref (G.2.1 84)), (1, .int p1), (2, .int p2)] dX6_explores_240 rfl (by decide) rfl ?_
          have vX241 : ∀ (m14 : iw_M), f_X6_explores_X283_241 m14 = some σ' → iw_V p l e rm_X6_explores s m ([.ref (G.2.1 84), .int p1, .int p2] : List Value).toArray below meth c0 0 0 (MQ below (iw_Q none G σ') ([.ref (G.2.1 84), .int p1, .int p2] : List Value).toArray s 0 0 (iw_A G)) 4 G (iw_A G) m14 283 [] [] := by
            intro m14 h
            unfold f_X6_explores_X283_241 at h
            cases h
            exact iv_vret C hr hlk rfl rfl dX6_explores_283
          have vB241 : ∀ (k241 : iw_M → Option (iw_M)) (r241 : Int32 → iw_M → Option (iw_M)), (∀ (m14 : iw_M), k241 m14 = some σ' → iw_V p l e rm_X6_explores s m ([.ref (G.2.1 84), .int p1, .int p2] : List Value).toArray below meth c0 0 0 (MQ below (iw_Q none G σ') ([.ref (G.2.1 84), .int p1, .int p2] : List Value).toArray s 0 0 (iw_A G)) 4 G (iw_A G) m14 283 [] []) → (∀ (v15 : Int32) (m16 : iw_M), r241 v15 m16 = some σ' → iw_V p l e rm_X6_explores s m ([.ref (G.2.1 84), .int p1, .int p2] : List Value).toArray below meth c0 0 0 (MQ below (iw_Q none G σ') ([.ref (G.2.1 84), .int p1, .int p2] : List Value).toArray s 0 0 (iw_A G)) 4 G (iw_A G) m16 241 [(0, .ref (G.2.1 84)), (1, .int p1), (2, .int p2), (3, .int v15)] []) → ∀ (v15 : Int32) (m16 : iw_M), f_X6_explores_B241 p1 p2 k241 r241 v15 m16 = some σ' → iw_V p l e rm_X6_explores s m ([.ref (G.2.1 84), .int p1, .int p2] : List Value).toArray below meth c0 0 0 (MQ below (iw_Q none G σ') ([.ref (G.2.1 84), .int p1, .int p2] : List Value).toArray s 0 0 (iw_A G)) 4 G (iw_A G) m16 241 [(0, .ref (G.2.1 84)), (1, .int p1), (2, .int p2), (3, .int v15)] [] := by
            intro k241 r241 hk241 hr241 v15 m16 h
            unfold f_X6_explores_B241 at h
            refine iv_iload_n (pc := 241) C 3 dX6_explores_241 rfl rfl ?_
            refine iv_aload_n (pc := 242) C 0 dX6_explores_242 rfl rfl ?_
            refine iv_getf (pc := 243) (T := TX6) (N := 16) (ci := 6) C 84 6 in_X6_explores_6 (iw_im hJ (by decide)) iw_Eo84 rfl (by decide) lk_X6_explores_117 rfl rfl dX6_explores_243 ?_
            refine iv_icmp_ge (pc := 246) C 283 dX6_explores_246 (by decide) (fun h17 => ?_) (fun h17 => ?_)
            · replace h := iw_ift h17 h
              exact iv_sub [] rfl (hk241 m16 h)
            · replace h := iw_iff h17 h
              refine iv_aload_n (pc := 249) C 0 dX6_explores_249 rfl rfl ?_
              refine iv_getf (pc := 250) (T := TX6) (N := 16) (ci := 6) C 84 0 in_X6_explores_6 (iw_im hJ (by decide)) iw_Eo84 rfl (by decide) lk_X6_explores_7 rfl rfl dX6_explores_250 ?_
              refine iv_aload_n (pc := 253) C 0 dX6_explores_253 rfl rfl ?_
              refine iv_iload_n (pc := 254) C 1 dX6_explores_254 rfl rfl ?_
              refine iv_iload_n (pc := 255) C 2 dX6_explores_255 rfl rfl ?_
              refine iv_callV (pc := 256) (b := 84) (ci := 6) C [.int p1, .int p2] (k_X6_wayAt l G hJ p1 p2 m16 rfl) gX6_explores_X6_wayAt rfl qd_X6_wayAt ⟨rfl, rfl, Nat.le_of_ble_eq_true rfl, Nat.le_of_ble_eq_true rfl⟩ (iw_im hJ (by decide)) iw_Eo84 rfl rfl rfl (Nat.le_of_ble_eq_true rfl) dX6_explores_256 ?_
              refine iv_iconst (pc := 259) C (1 : Int32) dX6_explores_259 (by decide) ?_
              refine iv_iadd (pc := 260) C dX6_explores_260 ?_
              refine iv_iload_n (pc := 261) C 3 dX6_explores_261 rfl rfl ?_
              refine iv_iadd (pc := 262) C dX6_explores_262 ?_
              refine iv_aload_n (pc := 263) C 0 dX6_explores_263 rfl rfl ?_
              refine iv_getf (pc := 264) (T := TX6) (N := 16) (ci := 6) C 84 5 in_X6_explores_6 (iw_im hJ (by decide)) iw_Eo84 rfl (by decide) lk_X6_explores_23 rfl rfl dX6_explores_264 ?_
              refine iv_aload_n (pc := 267) C 0 dX6_explores_267 rfl rfl ?_
              refine iv_getf (pc := 268) (T := TX6) (N := 16) (ci := 6) C 84 6 in_X6_explores_6 (iw_im hJ (by decide)) iw_Eo84 rfl (by decide) lk_X6_explores_117 rfl rfl dX6_explores_268 ?_
              refine iv_iconst (pc := 271) C (1 : Int32) dX6_explores_271 (by decide) ?_
              refine iv_isub (pc := 272) C dX6_explores_272 ?_
              refine iv_iload_n (pc := 273) C 3 dX6_explores_273 rfl rfl ?_
              refine iv_isub (pc := 274) C dX6_explores_274 ?_
              obtain ⟨v18, ev18, h⟩ := iw_be h
              refine iv_rd (pc := 275) C 89 (iw_lm hJ rfl (by decide)) ev18 dX6_explores_275 ?_
              obtain ⟨m19, em19, h⟩ := iw_be h
              refine iv_wr (pc := 276) C 85 (iw_lm hJ rfl (by decide)) em19 dX6_explores_276 ?_
              obtain ⟨v20, ev20⟩ : ∃ y : Int32, y = v15 + (1 : Int32) := ⟨_, rfl⟩
              replace h := iw_lete ev20 h
              refine iv_iinc (pc := 277) C 3 v20 [(3, .int v20), (0, .ref (G.2.1 84)), (1, .int p1), (2, .int p2)] dX6_explores_277 rfl (by rw [ev20]; rfl) (by decide) rfl ?_
              refine iv_goto (pc := 280) C 241 dX6_explores_280 (by decide) ?_
              exact iv_sub [1, 2, 3, 0] rfl (hr241 v20 m19 h)
          have vL241 : ∀ (nn : Nat) (v15 : Int32) (m16 : iw_M), f_X6_explores_L241 p1 p2 (f_X6_explores_X283_241) nn v15 m16 = some σ' → iw_V p l e rm_X6_explores s m ([.ref (G.2.1 84), .int p1, .int p2] : List Value).toArray below meth c0 0 0 (MQ below (iw_Q none G σ') ([.ref (G.2.1 84), .int p1, .int p2] : List Value).toArray s 0 0 (iw_A G)) 4 G (iw_A G) m16 241 [(0, .ref (G.2.1 84)), (1, .int p1), (2, .int p2), (3, .int v15)] [] := by
            intro nn
            induction nn with
            | zero => intro v15 m16 h; exact absurd h (fun q => by cases q)
            | succ nn ih => intro v15 m16 h; exact vB241 (f_X6_explores_X283_241) (f_X6_explores_L241 p1 p2 (f_X6_explores_X283_241) nn) vX241 ih v15 m16 h
          exact iv_sub [1, 2, 3, 0] rfl (vL241 n (0 : Int32) m13 h)
        have vB167 : ∀ (k167 : iw_M → Option (iw_M)) (r167 : Int32 → iw_M → Option (iw_M)), (∀ (m12 : iw_M), k167 m12 = some σ' → iw_V p l e rm_X6_explores s m ([.ref (G.2.1 84), .int p1, .int p2] : List Value).toArray below meth c0 0 0 (MQ below (iw_Q none G σ') ([.ref (G.2.1 84), .int p1, .int p2] : List Value).toArray s 0 0 (iw_A G)) 4 G (iw_A G) m12 224 [(0, .ref (G.2.1 84)), (1, .int p1), (2, .int p2)] []) → (∀ (v21 : Int32) (m22 : iw_M), r167 v21 m22 = some σ' → iw_V p l e rm_X6_explores s m ([.ref (G.2.1 84), .int p1, .int p2] : List Value).toArray below meth c0 0 0 (MQ below (iw_Q none G σ') ([.ref (G.2.1 84), .int p1, .int p2] : List Value).toArray s 0 0 (iw_A G)) 4 G (iw_A G) m22 167 [(0, .ref (G.2.1 84)), (1, .int p1), (2, .int p2), (3, .int v21)] []) → ∀ (v21 : Int32) (m22 : iw_M), f_X6_explores_B167 n k167 r167 v21 m22 = some σ' → iw_V p l e rm_X6_explores s m ([.ref (G.2.1 84), .int p1, .int p2] : List Value).toArray below meth c0 0 0 (MQ below (iw_Q none G σ') ([.ref (G.2.1 84), .int p1, .int p2] : List Value).toArray s 0 0 (iw_A G)) 4 G (iw_A G) m22 167 [(0, .ref (G.2.1 84)), (1, .int p1), (2, .int p2), (3, .int v21)] [] := by
          intro k167 r167 hk167 hr167 v21 m22 h
          unfold f_X6_explores_B167 at h
          refine iv_iload_n (pc := 167) C 3 dX6_explores_167 rfl rfl ?_
          refine iv_aload_n (pc := 168) C 0 dX6_explores_168 rfl rfl ?_
          refine iv_getf (pc := 169) (T := TX6) (N := 16) (ci := 6) C 84 8 in_X6_explores_6 (iw_im hJ (by decide)) iw_Eo84 rfl (by decide) lk_X6_explores_129 rfl rfl dX6_explores_169 ?_
          refine iv_icmp_ge (pc := 172) C 224 dX6_explores_172 (by decide) (fun h23 => ?_) (fun h23 => ?_)
          · replace h := iw_ift h23 h
            exact iv_sub [0, 1, 2] rfl (hk167 m22 h)
          · replace h := iw_iff h23 h
            refine iv_aload_n (pc := 175) C 0 dX6_explores_175 rfl rfl ?_
            refine iv_getf (pc := 176) (T := TX6) (N := 16) (ci := 6) C 84 0 in_X6_explores_6 (iw_im hJ (by decide)) iw_Eo84 rfl (by decide) lk_X6_explores_7 rfl rfl dX6_explores_176 ?_
            refine iv_bipush (pc := 179) C (9 : Int32) dX6_explores_179 (by decide) ?_
            refine iv_dup2 (pc := 181) C rfl rfl dX6_explores_181 ?_
            obtain ⟨v24, ev24, h⟩ := iw_be h
            refine iv_rd (pc := 182) C 85 (iw_lm hJ rfl (by decide)) ev24 dX6_explores_182 ?_
            refine iv_aload_n (pc := 183) C 0 dX6_explores_183 rfl rfl ?_
            refine iv_getf (pc := 184) (T := TX6) (N := 16) (ci := 6) C 84 5 in_X6_explores_6 (iw_im hJ (by decide)) iw_Eo84 rfl (by decide) lk_X6_explores_23 rfl rfl dX6_explores_184 ?_
            refine iv_aload_n (pc := 187) C 0 dX6_explores_187 rfl rfl ?_
            refine iv_getf (pc := 188) (T := TX6) (N := 16) (ci := 6) C 84 6 in_X6_explores_6 (iw_im hJ (by decide)) iw_Eo84 rfl (by decide) lk_X6_explores_117 rfl rfl dX6_explores_188 ?_
            refine iv_aload_n (pc := 191) C 0 dX6_explores_191 rfl rfl ?_
            refine iv_getf (pc := 192) (T := TX6) (N := 16) (ci := 6) C 84 7 in_X6_explores_6 (iw_im hJ (by decide)) iw_Eo84 rfl (by decide) lk_X6_explores_26 rfl rfl dX6_explores_192 ?_
            refine iv_iload_n (pc := 195) C 3 dX6_explores_195 rfl rfl ?_
            refine iv_iconst (pc := 196) C (1 : Int32) dX6_explores_196 (by decide) ?_
            refine iv_isub (pc := 197) C dX6_explores_197 ?_
            obtain ⟨v25, ev25, h⟩ := iw_be h
            refine iv_rd (pc := 198) C 90 (iw_lm hJ rfl (by decide)) ev25 dX6_explores_198 ?_
            refine iv_aload_n (pc := 199) C 0 dX6_explores_199 rfl rfl ?_
            refine iv_getf (pc := 200) (T := TX6) (N := 16) (ci := 6) C 84 7 in_X6_explores_6 (iw_im hJ (by decide)) iw_Eo84 rfl (by decide) lk_X6_explores_26 rfl rfl dX6_explores_200 ?_
            refine iv_iload_n (pc := 203) C 3 dX6_explores_203 rfl rfl ?_
            obtain ⟨v26, ev26, h⟩ := iw_be h
            refine iv_rd (pc := 204) C 90 (iw_lm hJ rfl (by decide)) ev26 dX6_explores_204 ?_
            obtain ⟨v27, ev27, h⟩ := iw_be h
            refine iv_callS (pc := 205) C [.ref (G.2.1 89), .int (m22 84 6), .int v25, .int v26] (k_X6_goesOver l G hJ n 89 (iw_lm hJ rfl (by decide)) (m22 84 6) v25 v26 m22 ev27) gX6_explores_X6_goesOver rfl qd_X6_goesOver ⟨rfl, rfl, Nat.le_of_ble_eq_true rfl, Nat.le_of_ble_eq_true rfl⟩ rfl rfl (Nat.le_of_ble_eq_true rfl) dX6_explores_205 ?_
            have vJ216 : ∀ (v28 : Int32), f_X6_explores_J216 r167 v21 m22 v24 v28 = some σ' → iw_V p l e rm_X6_explores s m ([.ref (G.2.1 84), .int p1, .int p2] : List Value).toArray below meth c0 0 0 (MQ below (iw_Q none G σ') ([.ref (G.2.1 84), .int p1, .int p2] : List Value).toArray s 0 0 (iw_A G)) 4 G (iw_A G) m22 216 [(0, .ref (G.2.1 84)), (1, .int p1), (2, .int p2), (3, .int v21)] [.int v28, .int v24, .int (9 : Int32), .ref (G.2.1 85)] := by
              intro v28 h
              unfold f_X6_explores_J216 at h
              refine iv_iadd (pc := 216) C dX6_explores_216 ?_
              obtain ⟨m29, em29, h⟩ := iw_be h
              refine iv_wr (pc := 217) C 85 (iw_lm hJ rfl (by decide)) em29 dX6_explores_217 ?_
              obtain ⟨v30, ev30⟩ : ∃ y : Int32, y = v21 + (1 : Int32) := ⟨_, rfl⟩
              replace h := iw_lete ev30 h
              refine iv_iinc (pc := 218) C 3 v30 [(3, .int v30), (0, .ref (G.2.1 84)), (1, .int p1), (2, .int p2)] dX6_explores_218 rfl (by rw [ev30]; rfl) (by decide) rfl ?_
              refine iv_goto (pc := 221) C 167 dX6_explores_221 (by decide) ?_
              exact iv_sub [1, 2, 3, 0] rfl (hr167 v30 m29 h)
            refine iv_if_eq (pc := 208) C 215 dX6_explores_208 (by decide) (fun h31 => ?_) (fun h31 => ?_)
            · replace h := iw_ift h31 h
              refine iv_iconst (pc := 215) C (1 : Int32) dX6_explores_215 (by decide) ?_
              exact iv_sub [0, 1, 2, 3] rfl (vJ216 (1 : Int32) h)
            · replace h := iw_iff h31 h
              refine iv_iconst (pc := 211) C (0 : Int32) dX6_explores_211 (by decide) ?_
              refine iv_goto (pc := 212) C 216 dX6_explores_212 (by decide) ?_
              exact iv_sub [0, 1, 2, 3] rfl (vJ216 (0 : Int32) h)
        have vL167 : ∀ (nn : Nat) (v21 : Int32) (m22 : iw_M), f_X6_explores_L167 n (f_X6_explores_X224_167 n p1 p2) nn v21 m22 = some σ' → iw_V p l e rm_X6_explores s m ([.ref (G.2.1 84), .int p1, .int p2] : List Value).toArray below meth c0 0 0 (MQ below (iw_Q none G σ') ([.ref (G.2.1 84), .int p1, .int p2] : List Value).toArray s 0 0 (iw_A G)) 4 G (iw_A G) m22 167 [(0, .ref (G.2.1 84)), (1, .int p1), (2, .int p2), (3, .int v21)] [] := by
          intro nn
          induction nn with
          | zero => intro v21 m22 h; exact absurd h (fun q => by cases q)
          | succ nn ih => intro v21 m22 h; exact vB167 (f_X6_explores_X224_167 n p1 p2) (f_X6_explores_L167 n (f_X6_explores_X224_167 n p1 p2) nn) vX167 ih v21 m22 h
        exact iv_sub [1, 2, 3, 0] rfl (vL167 n (1 : Int32) m11 h)
      have vB108 : ∀ (k108 : iw_M → Option (iw_M)) (r108 : Int32 → iw_M → Option (iw_M)), (∀ (m11 : iw_M), k108 m11 = some σ' → iw_V p l e rm_X6_explores s m ([.ref (G.2.1 84), .int p1, .int p2] : List Value).toArray below meth c0 0 0 (MQ below (iw_Q none G σ') ([.ref (G.2.1 84), .int p1, .int p2] : List Value).toArray s 0 0 (iw_A G)) 4 G (iw_A G) m11 165 [(0, .ref (G.2.1 84)), (1, .int p1), (2, .int p2)] []) → (∀ (v32 : Int32) (m33 : iw_M), r108 v32 m33 = some σ' → iw_V p l e rm_X6_explores s m ([.ref (G.2.1 84), .int p1, .int p2] : List Value).toArray below meth c0 0 0 (MQ below (iw_Q none G σ') ([.ref (G.2.1 84), .int p1, .int p2] : List Value).toArray s 0 0 (iw_A G)) 4 G (iw_A G) m33 108 [(0, .ref (G.2.1 84)), (1, .int p1), (2, .int p2), (3, .int v32)] []) → ∀ (v32 : Int32) (m33 : iw_M), f_X6_explores_B108 n k108 r108 v32 m33 = some σ' → iw_V p l e rm_X6_explores s m ([.ref (G.2.1 84), .int p1, .int p2] : List Value).toArray below meth c0 0 0 (MQ below (iw_Q none G σ') ([.ref (G.2.1 84), .int p1, .int p2] : List Value).toArray s 0 0 (iw_A G)) 4 G (iw_A G) m33 108 [(0, .ref (G.2.1 84)), (1, .int p1), (2, .int p2), (3, .int v32)] [] := by
        intro k108 r108 hk108 hr108 v32 m33 h
        unfold f_X6_explores_B108 at h
        refine iv_iload_n (pc := 108) C 3 dX6_explores_108 rfl rfl ?_
        refine iv_aload_n (pc := 109) C 0 dX6_explores_109 rfl rfl ?_
        refine iv_getf (pc := 110) (T := TX6) (N := 16) (ci := 6) C 84 6 in_X6_explores_6 (iw_im hJ (by decide)) iw_Eo84 rfl (by decide) lk_X6_explores_117 rfl rfl dX6_explores_110 ?_
        refine iv_icmp_ge (pc := 113) C 165 dX6_explores_113 (by decide) (fun h34 => ?_) (fun h34 => ?_)
        · replace h := iw_ift h34 h
          exact iv_sub [0, 1, 2] rfl (hk108 m33 h)
        · replace h := iw_iff h34 h
          refine iv_aload_n (pc := 116) C 0 dX6_explores_116 rfl rfl ?_
          refine iv_getf (pc := 117) (T := TX6) (N := 16) (ci := 6) C 84 0 in_X6_explores_6 (iw_im hJ (by decide)) iw_Eo84 rfl (by decide) lk_X6_explores_7 rfl rfl dX6_explores_117 ?_
          refine iv_bipush (pc := 120) C (8 : Int32) dX6_explores_120 (by decide) ?_
          refine iv_dup2 (pc := 122) C rfl rfl dX6_explores_122 ?_
          obtain ⟨v35, ev35, h⟩ := iw_be h
          refine iv_rd (pc := 123) C 85 (iw_lm hJ rfl (by decide)) ev35 dX6_explores_123 ?_
          refine iv_aload_n (pc := 124) C 0 dX6_explores_124 rfl rfl ?_
          refine iv_getf (pc := 125) (T := TX6) (N := 16) (ci := 6) C 84 7 in_X6_explores_6 (iw_im hJ (by decide)) iw_Eo84 rfl (by decide) lk_X6_explores_26 rfl rfl dX6_explores_125 ?_
          refine iv_aload_n (pc := 128) C 0 dX6_explores_128 rfl rfl ?_
          refine iv_getf (pc := 129) (T := TX6) (N := 16) (ci := 6) C 84 8 in_X6_explores_6 (iw_im hJ (by decide)) iw_Eo84 rfl (by decide) lk_X6_explores_129 rfl rfl dX6_explores_129 ?_
          refine iv_aload_n (pc := 132) C 0 dX6_explores_132 rfl rfl ?_
          refine iv_getf (pc := 133) (T := TX6) (N := 16) (ci := 6) C 84 5 in_X6_explores_6 (iw_im hJ (by decide)) iw_Eo84 rfl (by decide) lk_X6_explores_23 rfl rfl dX6_explores_133 ?_
          refine iv_iload_n (pc := 136) C 3 dX6_explores_136 rfl rfl ?_
          refine iv_iconst (pc := 137) C (1 : Int32) dX6_explores_137 (by decide) ?_
          refine iv_isub (pc := 138) C dX6_explores_138 ?_
          obtain ⟨v36, ev36, h⟩ := iw_be h
          refine iv_rd (pc := 139) C 89 (iw_lm hJ rfl (by decide)) ev36 dX6_explores_139 ?_
          refine iv_aload_n (pc := 140) C 0 dX6_explores_140 rfl rfl ?_
          refine iv_getf (pc := 141) (T := TX6) (N := 16) (ci := 6) C 84 5 in_X6_explores_6 (iw_im hJ (by decide)) iw_Eo84 rfl (by decide) lk_X6_explores_23 rfl rfl dX6_explores_141 ?_
          refine iv_iload_n (pc := 144) C 3 dX6_explores_144 rfl rfl ?_
          obtain ⟨v37, ev37, h⟩ := iw_be h
          refine iv_rd (pc := 145) C 89 (iw_lm hJ rfl (by decide)) ev37 dX6_explores_145 ?_
          obtain ⟨v38, ev38, h⟩ := iw_be h
          refine iv_callS (pc := 146) C [.ref (G.2.1 90), .int (m33 84 8), .int v36, .int v37] (k_X6_goesOver l G hJ n 90 (iw_lm hJ rfl (by decide)) (m33 84 8) v36 v37 m33 ev38) gX6_explores_X6_goesOver rfl qd_X6_goesOver ⟨rfl, rfl, Nat.le_of_ble_eq_true rfl, Nat.le_of_ble_eq_true rfl⟩ rfl rfl (Nat.le_of_ble_eq_true rfl) dX6_explores_146 ?_
          have vJ157 : ∀ (v39 : Int32), f_X6_explores_J157 r108 v32 m33 v35 v39 = some σ' → iw_V p l e rm_X6_explores s m ([.ref (G.2.1 84), .int p1, .int p2] : List Value).toArray below meth c0 0 0 (MQ below (iw_Q none G σ') ([.ref (G.2.1 84), .int p1, .int p2] : List Value).toArray s 0 0 (iw_A G)) 4 G (iw_A G) m33 157 [(0, .ref (G.2.1 84)), (1, .int p1), (2, .int p2), (3, .int v32)] [.int v39, .int v35, .int (8 : Int32), .ref (G.2.1 85)] := by
            intro v39 h
            unfold f_X6_explores_J157 at h
            refine iv_iadd (pc := 157) C dX6_explores_157 ?_
            obtain ⟨m40, em40, h⟩ := iw_be h
            refine iv_wr (pc := 158) C 85 (iw_lm hJ rfl (by decide)) em40 dX6_explores_158 ?_
            obtain ⟨v41, ev41⟩ : ∃ y : Int32, y = v32 + (1 : Int32) := ⟨_, rfl⟩
            replace h := iw_lete ev41 h
            refine iv_iinc (pc := 159) C 3 v41 [(3, .int v41), (0, .ref (G.2.1 84)), (1, .int p1), (2, .int p2)] dX6_explores_159 rfl (by rw [ev41]; rfl) (by decide) rfl ?_
            refine iv_goto (pc := 162) C 108 dX6_explores_162 (by decide) ?_
            exact iv_sub [1, 2, 3, 0] rfl (hr108 v41 m40 h)
          refine iv_if_eq (pc := 149) C 156 dX6_explores_149 (by decide) (fun h42 => ?_) (fun h42 => ?_)
          · replace h := iw_ift h42 h
            refine iv_iconst (pc := 156) C (1 : Int32) dX6_explores_156 (by decide) ?_
            exact iv_sub [0, 1, 2, 3] rfl (vJ157 (1 : Int32) h)
          · replace h := iw_iff h42 h
            refine iv_iconst (pc := 152) C (0 : Int32) dX6_explores_152 (by decide) ?_
            refine iv_goto (pc := 153) C 157 dX6_explores_153 (by decide) ?_
            exact iv_sub [0, 1, 2, 3] rfl (vJ157 (0 : Int32) h)
      have vL108 : ∀ (nn : Nat) (v32 : Int32) (m33 : iw_M), f_X6_explores_L108 n (f_X6_explores_X165_108 n p1 p2) nn v32 m33 = some σ' → iw_V p l e rm_X6_explores s m ([.ref (G.2.1 84), .int p1, .int p2] : List Value).toArray below meth c0 0 0 (MQ below (iw_Q none G σ') ([.ref (G.2.1 84), .int p1, .int p2] : List Value).toArray s 0 0 (iw_A G)) 4 G (iw_A G) m33 108 [(0, .ref (G.2.1 84)), (1, .int p1), (2, .int p2), (3, .int v32)] [] := by
        intro nn
        induction nn with
        | zero => intro v32 m33 h; exact absurd h (fun q => by cases q)
        | succ nn ih => intro v32 m33 h; exact vB108 (f_X6_explores_X165_108 n p1 p2) (f_X6_explores_L108 n (f_X6_explores_X165_108 n p1 p2) nn) vX108 ih v32 m33 h
      exact iv_sub [1, 2, 3, 0] rfl (vL108 n (1 : Int32) m10 h)
    have vB79 : ∀ (k79 : iw_M → Option (iw_M)) (r79 : Int32 → iw_M → Option (iw_M)), (∀ (m10 : iw_M), k79 m10 = some σ' → iw_V p l e rm_X6_explores s m ([.ref (G.2.1 84), .int p1, .int p2] : List Value).toArray below meth c0 0 0 (MQ below (iw_Q none G σ') ([.ref (G.2.1 84), .int p1, .int p2] : List Value).toArray s 0 0 (iw_A G)) 4 G (iw_A G) m10 106 [(0, .ref (G.2.1 84)), (1, .int p1), (2, .int p2)] []) → (∀ (v43 : Int32) (m44 : iw_M), r79 v43 m44 = some σ' → iw_V p l e rm_X6_explores s m ([.ref (G.2.1 84), .int p1, .int p2] : List Value).toArray below meth c0 0 0 (MQ below (iw_Q none G σ') ([.ref (G.2.1 84), .int p1, .int p2] : List Value).toArray s 0 0 (iw_A G)) 4 G (iw_A G) m44 79 [(0, .ref (G.2.1 84)), (1, .int p1), (2, .int p2), (3, .int v43)] []) → ∀ (v43 : Int32) (m44 : iw_M), f_X6_explores_B79 p1 p2 k79 r79 v43 m44 = some σ' → iw_V p l e rm_X6_explores s m ([.ref (G.2.1 84), .int p1, .int p2] : List Value).toArray below meth c0 0 0 (MQ below (iw_Q none G σ') ([.ref (G.2.1 84), .int p1, .int p2] : List Value).toArray s 0 0 (iw_A G)) 4 G (iw_A G) m44 79 [(0, .ref (G.2.1 84)), (1, .int p1), (2, .int p2), (3, .int v43)] [] := by
      intro k79 r79 hk79 hr79 v43 m44 h
      unfold f_X6_explores_B79 at h
      refine iv_iload_n (pc := 79) C 3 dX6_explores_79 rfl rfl ?_
      refine iv_aload_n (pc := 80) C 0 dX6_explores_80 rfl rfl ?_
      refine iv_getf (pc := 81) (T := TX6) (N := 16) (ci := 6) C 84 8 in_X6_explores_6 (iw_im hJ (by decide)) iw_Eo84 rfl (by decide) lk_X6_explores_129 rfl rfl dX6_explores_81 ?_
      refine iv_icmp_ge (pc := 84) C 106 dX6_explores_84 (by decide) (fun h45 => ?_) (fun h45 => ?_)
      · replace h := iw_ift h45 h
        exact iv_sub [0, 1, 2] rfl (hk79 m44 h)
      · replace h := iw_iff h45 h
        refine iv_aload_n (pc := 87) C 0 dX6_explores_87 rfl rfl ?_
        refine iv_getf (pc := 88) (T := TX6) (N := 16) (ci := 6) C 84 7 in_X6_explores_6 (iw_im hJ (by decide)) iw_Eo84 rfl (by decide) lk_X6_explores_26 rfl rfl dX6_explores_88 ?_
        refine iv_iload_n (pc := 91) C 3 dX6_explores_91 rfl rfl ?_
        refine iv_aload_n (pc := 92) C 0 dX6_explores_92 rfl rfl ?_
        refine iv_iload_n (pc := 93) C 1 dX6_explores_93 rfl rfl ?_
        refine iv_iload_n (pc := 94) C 2 dX6_explores_94 rfl rfl ?_
        refine iv_iload_n (pc := 95) C 3 dX6_explores_95 rfl rfl ?_
        obtain ⟨v46, ev46, h⟩ := iw_be h
        refine iv_callV (pc := 96) (b := 84) (ci := 6) C [.int p1, .int p2, .int v43] (k_X6_nodeOf l G hJ p1 p2 v43 m44 ev46) gX6_explores_X6_nodeOf rfl qd_X6_nodeOf ⟨rfl, rfl, Nat.le_of_ble_eq_true rfl, Nat.le_of_ble_eq_true rfl⟩ (iw_im hJ (by decide)) iw_Eo84 rfl rfl rfl (Nat.le_of_ble_eq_true rfl) dX6_explores_96 ?_
        obtain ⟨m47, em47, h⟩ := iw_be h
        refine iv_wr (pc := 99) C 90 (iw_lm hJ rfl (by decide)) em47 dX6_explores_99 ?_
        obtain ⟨v48, ev48⟩ : ∃ y : Int32, y = v43 + (1 : Int32) := ⟨_, rfl⟩
        replace h := iw_lete ev48 h
        refine iv_iinc (pc := 100) C 3 v48 [(3, .int v48), (0, .ref (G.2.1 84)), (1, .int p1), (2, .int p2)] dX6_explores_100 rfl (by rw [ev48]; rfl) (by decide) rfl ?_
        refine iv_goto (pc := 103) C 79 dX6_explores_103 (by decide) ?_
        exact iv_sub [1, 2, 3, 0] rfl (hr79 v48 m47 h)
    have vL79 : ∀ (nn : Nat) (v43 : Int32) (m44 : iw_M), f_X6_explores_L79 p1 p2 (f_X6_explores_X106_79 n p1 p2) nn v43 m44 = some σ' → iw_V p l e rm_X6_explores s m ([.ref (G.2.1 84), .int p1, .int p2] : List Value).toArray below meth c0 0 0 (MQ below (iw_Q none G σ') ([.ref (G.2.1 84), .int p1, .int p2] : List Value).toArray s 0 0 (iw_A G)) 4 G (iw_A G) m44 79 [(0, .ref (G.2.1 84)), (1, .int p1), (2, .int p2), (3, .int v43)] [] := by
      intro nn
      induction nn with
      | zero => intro v43 m44 h; exact absurd h (fun q => by cases q)
      | succ nn ih => intro v43 m44 h; exact vB79 (f_X6_explores_X106_79 n p1 p2) (f_X6_explores_L79 p1 p2 (f_X6_explores_X106_79 n p1 p2) nn) vX79 ih v43 m44 h
    exact iv_sub [1, 2, 3, 0] rfl (vL79 n (0 : Int32) m9 h)
  have vB33 : ∀ (k33 : iw_M → Option (iw_M)) (r33 : Int32 → iw_M → Option (iw_M)), (∀ (m7 : iw_M), k33 m7 = some σ' → iw_V p l e rm_X6_explores s m ([.ref (G.2.1 84), .int p1, .int p2] : List Value).toArray below meth c0 0 0 (MQ below (iw_Q none G σ') ([.ref (G.2.1 84), .int p1, .int p2] : List Value).toArray s 0 0 (iw_A G)) 4 G (iw_A G) m7 67 [(0, .ref (G.2.1 84)), (1, .int p1), (2, .int p2)] []) → (∀ (v49 : Int32) (m50 : iw_M), r33 v49 m50 = some σ' → iw_V p l e rm_X6_explores s m ([.ref (G.2.1 84), .int p1, .int p2] : List Value).toArray below meth c0 0 0 (MQ below (iw_Q none G σ') ([.ref (G.2.1 84), .int p1, .int p2] : List Value).toArray s 0 0 (iw_A G)) 4 G (iw_A G) m50 33 [(0, .ref (G.2.1 84)), (1, .int p1), (2, .int p2), (3, .int v49)] []) → ∀ (v49 : Int32) (m50 : iw_M), f_X6_explores_B33  k33 r33 v49 m50 = some σ' → iw_V p l e rm_X6_explores s m ([.ref (G.2.1 84), .int p1, .int p2] : List Value).toArray below meth c0 0 0 (MQ below (iw_Q none G σ') ([.ref (G.2.1 84), .int p1, .int p2] : List Value).toArray s 0 0 (iw_A G)) 4 G (iw_A G) m50 33 [(0, .ref (G.2.1 84)), (1, .int p1), (2, .int p2), (3, .int v49)] [] := by
    intro k33 r33 hk33 hr33 v49 m50 h
    unfold f_X6_explores_B33 at h
    refine iv_iload_n (pc := 33) C 3 dX6_explores_33 rfl rfl ?_
    refine iv_aload_n (pc := 34) C 0 dX6_explores_34 rfl rfl ?_
    refine iv_getf (pc := 35) (T := TX6) (N := 16) (ci := 6) C 84 0 in_X6_explores_6 (iw_im hJ (by decide)) iw_Eo84 rfl (by decide) lk_X6_explores_7 rfl rfl dX6_explores_35 ?_
    refine iv_iconst (pc := 38) C (0 : Int32) dX6_explores_38 (by decide) ?_
    obtain ⟨v51, ev51, h⟩ := iw_be h
    refine iv_rd (pc := 39) C 85 (iw_lm hJ rfl (by decide)) ev51 dX6_explores_39 ?_
    refine iv_icmp_ge (pc := 40) C 67 dX6_explores_40 (by decide) (fun h52 => ?_) (fun h52 => ?_)
    · replace h := iw_ift h52 h
      exact iv_sub [0, 1, 2] rfl (hk33 m50 h)
    · replace h := iw_iff h52 h
      refine iv_aload_n (pc := 43) C 0 dX6_explores_43 rfl rfl ?_
      refine iv_getf (pc := 44) (T := TX6) (N := 16) (ci := 6) C 84 2 in_X6_explores_6 (iw_im hJ (by decide)) iw_Eo84 rfl (by decide) lk_X6_explores_13 rfl rfl dX6_explores_44 ?_
      refine iv_iload_n (pc := 47) C 3 dX6_explores_47 rfl rfl ?_
      obtain ⟨v53, ev53, h⟩ := iw_be h
      refine iv_rd (pc := 48) C 86 (iw_lm hJ rfl (by decide)) ev53 dX6_explores_48 ?_
      refine iv_sipush (pc := 49) C (-1000 : Int32) dX6_explores_49 (by decide) ?_
      have vJ61 : ∀ (m54 : iw_M), f_X6_explores_J61 r33 v49 m54 = some σ' → iw_V p l e rm_X6_explores s m ([.ref (G.2.1 84), .int p1, .int p2] : List Value).toArray below meth c0 0 0 (MQ below (iw_Q none G σ') ([.ref (G.2.1 84), .int p1, .int p2] : List Value).toArray s 0 0 (iw_A G)) 4 G (iw_A G) m54 61 [(0, .ref (G.2.1 84)), (1, .int p1), (2, .int p2), (3, .int v49)] [] := by
        intro m54 h
        unfold f_X6_explores_J61 at h
        obtain ⟨v55, ev55⟩ : ∃ y : Int32, y = v49 + (1 : Int32) := ⟨_, rfl⟩
        replace h := iw_lete ev55 h
        refine iv_iinc (pc := 61) C 3 v55 [(3, .int v55), (0, .ref (G.2.1 84)), (1, .int p1), (2, .int p2)] dX6_explores_61 rfl (by rw [ev55]; rfl) (by decide) rfl ?_
        refine iv_goto (pc := 64) C 33 dX6_explores_64 (by decide) ?_
        exact iv_sub [1, 2, 3, 0] rfl (hr33 v55 m54 h)
      refine iv_icmp_eq (pc := 52) C 61 dX6_explores_52 (by decide) (fun h56 => ?_) (fun h56 => ?_)
      · replace h := iw_ift h56 h
        exact iv_sub [0, 1, 2, 3] rfl (vJ61 m50 h)
      · replace h := iw_iff h56 h
        refine iv_aload_n (pc := 55) C 0 dX6_explores_55 rfl rfl ?_
        refine iv_iload_n (pc := 56) C 3 dX6_explores_56 rfl rfl ?_
        refine iv_iconst (pc := 57) C (1 : Int32) dX6_explores_57 (by decide) ?_
        obtain ⟨m57, em57, h⟩ := iw_be h
        refine iv_callV (pc := 58) (b := 84) (ci := 6) C [.int v49, .int (1 : Int32)] (k_X6_spends l G hJ v49 (1 : Int32) m50 em57) gX6_explores_X6_spends rfl qd_X6_spends ⟨rfl, rfl, Nat.le_of_ble_eq_true rfl, Nat.le_of_ble_eq_true rfl⟩ (iw_im hJ (by decide)) iw_Eo84 rfl rfl rfl (Nat.le_of_ble_eq_true rfl) dX6_explores_58 ?_
        exact iv_sub [0, 1, 2, 3] rfl (vJ61 m57 h)
  have vL33 : ∀ (nn : Nat) (v49 : Int32) (m50 : iw_M), f_X6_explores_L33  (f_X6_explores_X67_33 n p1 p2) nn v49 m50 = some σ' → iw_V p l e rm_X6_explores s m ([.ref (G.2.1 84), .int p1, .int p2] : List Value).toArray below meth c0 0 0 (MQ below (iw_Q none G σ') ([.ref (G.2.1 84), .int p1, .int p2] : List Value).toArray s 0 0 (iw_A G)) 4 G (iw_A G) m50 33 [(0, .ref (G.2.1 84)), (1, .int p1), (2, .int p2), (3, .int v49)] [] := by
    intro nn
    induction nn with
    | zero => intro v49 m50 h; exact absurd h (fun q => by cases q)
    | succ nn ih => intro v49 m50 h; exact vB33 (f_X6_explores_X67_33 n p1 p2) (f_X6_explores_L33  (f_X6_explores_X67_33 n p1 p2) nn) vX33 ih v49 m50 h
  exact iv_sub [1, 2, 3, 0] rfl (vL33 n (0 : Int32) m6 h)
theorem qd_X6_explores : yX6_explores.cls = RX6 ∧ yX6_explores.cls ≠ "java/lang/invoke/MethodHandle" ∧ yX6_explores.cls ≠ "java/lang/invoke/VarHandle" ∧ (parseMethodDescriptor yX6_explores.desc).map (fun d => d.parameters.length) = some 2 := by decide +kernel
