def f_X4_nextCode_X40_0 (m1 : iw_M) : Option (Int32 × iw_M) :=
if (m1 6 2) ≤ (m1 6 5) then
(some ((-1 : Int32), m1))
else
(some ((f_X5_at 7 (m1 6 5) m1), m1))
def f_X4_nextCode_B0 (k0 : iw_M → Option (Int32 × iw_M)) (r0 : iw_M → Option (Int32 × iw_M)) (m3 : iw_M) : Option (Int32 × iw_M) :=
if (m3 6 2) ≤ (m3 6 5) then
(k0 m3)
else
(if (f_X5_at 7 (m3 6 5) m3) = (32 : Int32) then
(iw_let (iw_up m3 6 5 ((m3 6 5) + (1 : Int32))) fun m6 =>
r0 m6)
else
(k0 m3))
def f_X4_nextCode_L0 (k0 : iw_M → Option (Int32 × iw_M)) (nn : Nat) : iw_M → Option (Int32 × iw_M) :=
iw_it (fun r0 => f_X4_nextCode_B0 k0 r0) (fun _ => none) nn
def f_X4_nextCode (n : Nat) (σ : iw_M) : Option (Int32 × iw_M) :=
f_X4_nextCode_L0 (f_X4_nextCode_X40_0) n σ
abbrev rm_X4_nextCode : Room := { frames := 1, cells := 0, slots := 0, locals := 21 }
theorem lk_X4_nextCode_34 : Cond.fieldLink RX4 34 RX4 (TX4 5).2.1 (TX4 5).2.2.1 ∈ wsX4_nextCode := by decide +kernel
theorem lk_X4_nextCode_22 : Cond.fieldLink RX4 22 RX4 (TX4 2).2.1 (TX4 2).2.2.1 ∈ wsX4_nextCode := by decide +kernel
theorem lk_X4_nextCode_18 : Cond.fieldLink RX4 18 RX4 (TX4 1).2.1 (TX4 1).2.2.1 ∈ wsX4_nextCode := by decide +kernel
theorem si_X4_nextCode_X5_at : Cond.static yX5_at ∈ wsX4_nextCode ∧ Cond.initialized yX5_at.cls ∈ wsX4_nextCode := by decide +kernel
theorem in_X4_nextCode_4 : ∀ w ∈ u_ws RX4 TX4 7, w ∈ wsX4_nextCode := by decide +kernel
set_option maxHeartbeats 4000000 in
set_option maxRecDepth 100000 in
theorem k_X4_nextCode (l : Launch) (G : iw_G) (hJ : iw_JX G) (n : Nat) (σ : iw_M) {r : Int32} {σ' : iw_M} (h : f_X4_nextCode n σ = some (r, σ')) : iw_Ct l yX4_nextCode wsX4_nextCode rm_X4_nextCode G ([.ref (G.2.1 6)] : List Value) σ (some (.int r)) σ' := by
  refine iv_start (nL := 1) (own := RX4) (ret := (some .int)) (cc := cX4_nextCode) (by decide +kernel) rfl rfl hJ.1 (Nat.le_of_ble_eq_true rfl) ?_
  intro p e s m below meth c0 C hr hlk
  refine iv_sub (lv' := [(0, .ref (G.2.1 6))]) [0] rfl ?_
  unfold f_X4_nextCode at h
  have vX0 : ∀ (m1 : iw_M), f_X4_nextCode_X40_0 m1 = some (r, σ') → iw_V p l e rm_X4_nextCode s m ([.ref (G.2.1 6)] : List Value).toArray below meth c0 0 0 (MQ below (iw_Q (some (.int r)) G σ') ([.ref (G.2.1 6)] : List Value).toArray s 0 0 (iw_A G)) 1 G (iw_A G) m1 40 [(0, .ref (G.2.1 6))] [] := by
    intro m1 h
    unfold f_X4_nextCode_X40_0 at h
    refine iv_aload_n (pc := 40) C 0 dX4_nextCode_40 rfl rfl ?_
    refine iv_getf (pc := 41) (T := TX4) (N := 7) (ci := 4) C 6 5 in_X4_nextCode_4 (iw_ix hJ (by decide)) iw_Eo6 rfl (by decide) lk_X4_nextCode_34 rfl rfl dX4_nextCode_41 ?_
    refine iv_aload_n (pc := 44) C 0 dX4_nextCode_44 rfl rfl ?_
    refine iv_getf (pc := 45) (T := TX4) (N := 7) (ci := 4) C 6 2 in_X4_nextCode_4 (iw_ix hJ (by decide)) iw_Eo6 rfl (by decide) lk_X4_nextCode_22 rfl rfl dX4_nextCode_45 ?_
    refine iv_icmp_ge (pc := 48) C 65 dX4_nextCode_48 (by decide) (fun h2 => ?_) (fun h2 => ?_)
    · replace h := iw_ift h2 h
      refine iv_iconst (pc := 65) C (-1 : Int32) dX4_nextCode_65 (by decide) ?_
      cases h
      exact iv_iret C hr hlk rfl rfl dX4_nextCode_66
    · replace h := iw_iff h2 h
      refine iv_aload_n (pc := 51) C 0 dX4_nextCode_51 rfl rfl ?_
      refine iv_getf (pc := 52) (T := TX4) (N := 7) (ci := 4) C 6 1 in_X4_nextCode_4 (iw_ix hJ (by decide)) iw_Eo6 rfl (by decide) lk_X4_nextCode_18 rfl rfl dX4_nextCode_52 ?_
      refine iv_aload_n (pc := 55) C 0 dX4_nextCode_55 rfl rfl ?_
      refine iv_getf (pc := 56) (T := TX4) (N := 7) (ci := 4) C 6 5 in_X4_nextCode_4 (iw_ix hJ (by decide)) iw_Eo6 rfl (by decide) lk_X4_nextCode_34 rfl rfl dX4_nextCode_56 ?_
      refine iv_callSN (pc := 59) C [.ref (G.2.1 7), .int (m1 6 5)] (k_X5_at l G hJ.1 7 (iw_lx hJ rfl (by decide)) (m1 6 5) m1 rfl) gX4_nextCode_X5_at_n92 rfl ne_RX4_92 si_X4_nextCode_X5_at qd_X5_at ⟨rfl, rfl, Nat.le_of_ble_eq_true rfl, Nat.le_of_ble_eq_true rfl⟩ rfl rfl (Nat.le_of_ble_eq_true rfl) dX4_nextCode_59 ?_
      refine iv_goto (pc := 62) C 66 dX4_nextCode_62 (by decide) ?_
      cases h
      exact iv_iret C hr hlk rfl rfl dX4_nextCode_66
  have vB0 : ∀ (k0 : iw_M → Option (Int32 × iw_M)) (r0 : iw_M → Option (Int32 × iw_M)), (∀ (m1 : iw_M), k0 m1 = some (r, σ') → iw_V p l e rm_X4_nextCode s m ([.ref (G.2.1 6)] : List Value).toArray below meth c0 0 0 (MQ below (iw_Q (some (.int r)) G σ') ([.ref (G.2.1 6)] : List Value).toArray s 0 0 (iw_A G)) 1 G (iw_A G) m1 40 [(0, .ref (G.2.1 6))] []) → (∀ (m3 : iw_M), r0 m3 = some (r, σ') → iw_V p l e rm_X4_nextCode s m ([.ref (G.2.1 6)] : List Value).toArray below meth c0 0 0 (MQ below (iw_Q (some (.int r)) G σ') ([.ref (G.2.1 6)] : List Value).toArray s 0 0 (iw_A G)) 1 G (iw_A G) m3 0 [(0, .ref (G.2.1 6))] []) → ∀ (m3 : iw_M), f_X4_nextCode_B0  k0 r0 m3 = some (r, σ') → iw_V p l e rm_X4_nextCode s m ([.ref (G.2.1 6)] : List Value).toArray below meth c0 0 0 (MQ below (iw_Q (some (.int r)) G σ') ([.ref (G.2.1 6)] : List Value).toArray s 0 0 (iw_A G)) 1 G (iw_A G) m3 0 [(0, .ref (G.2.1 6))] [] := by
    intro k0 r0 hk0 hr0 m3 h
    unfold f_X4_nextCode_B0 at h
    refine iv_aload_n (pc := 0) C 0 dX4_nextCode_0 rfl rfl ?_
    refine iv_getf (pc := 1) (T := TX4) (N := 7) (ci := 4) C 6 5 in_X4_nextCode_4 (iw_ix hJ (by decide)) iw_Eo6 rfl (by decide) lk_X4_nextCode_34 rfl rfl dX4_nextCode_1 ?_
    refine iv_aload_n (pc := 4) C 0 dX4_nextCode_4 rfl rfl ?_
    refine iv_getf (pc := 5) (T := TX4) (N := 7) (ci := 4) C 6 2 in_X4_nextCode_4 (iw_ix hJ (by decide)) iw_Eo6 rfl (by decide) lk_X4_nextCode_22 rfl rfl dX4_nextCode_5 ?_
    refine iv_icmp_ge (pc := 8) C 40 dX4_nextCode_8 (by decide) (fun h4 => ?_) (fun h4 => ?_)
    · replace h := iw_ift h4 h
      exact iv_sub [0] rfl (hk0 m3 h)
    · replace h := iw_iff h4 h
      refine iv_aload_n (pc := 11) C 0 dX4_nextCode_11 rfl rfl ?_
      refine iv_getf (pc := 12) (T := TX4) (N := 7) (ci := 4) C 6 1 in_X4_nextCode_4 (iw_ix hJ (by decide)) iw_Eo6 rfl (by decide) lk_X4_nextCode_18 rfl rfl dX4_nextCode_12 ?_
      refine iv_aload_n (pc := 15) C 0 dX4_nextCode_15 rfl rfl ?_
      refine iv_getf (pc := 16) (T := TX4) (N := 7) (ci := 4) C 6 5 in_X4_nextCode_4 (iw_ix hJ (by decide)) iw_Eo6 rfl (by decide) lk_X4_nextCode_34 rfl rfl dX4_nextCode_16 ?_
      refine iv_callSN (pc := 19) C [.ref (G.2.1 7), .int (m3 6 5)] (k_X5_at l G hJ.1 7 (iw_lx hJ rfl (by decide)) (m3 6 5) m3 rfl) gX4_nextCode_X5_at_n92 rfl ne_RX4_92 si_X4_nextCode_X5_at qd_X5_at ⟨rfl, rfl, Nat.le_of_ble_eq_true rfl, Nat.le_of_ble_eq_true rfl⟩ rfl rfl (Nat.le_of_ble_eq_true rfl) dX4_nextCode_19 ?_
      refine iv_bipush (pc := 22) C (32 : Int32) dX4_nextCode_22 (by decide) ?_
      refine iv_icmp_ne (pc := 24) C 40 dX4_nextCode_24 (by decide) (fun h5 => ?_) (fun h5 => ?_)
      · replace h := iw_iff h5 h
        exact iv_sub [0] rfl (hk0 m3 h)
      · replace h := iw_ift h5 h
        refine iv_aload_n (pc := 27) C 0 dX4_nextCode_27 rfl rfl ?_
        refine iv_dup (pc := 28) C rfl dX4_nextCode_28 ?_
        refine iv_getf (pc := 29) (T := TX4) (N := 7) (ci := 4) C 6 5 in_X4_nextCode_4 (iw_ix hJ (by decide)) iw_Eo6 rfl (by decide) lk_X4_nextCode_34 rfl rfl dX4_nextCode_29 ?_
        refine iv_iconst (pc := 32) C (1 : Int32) dX4_nextCode_32 (by decide) ?_
        refine iv_iadd (pc := 33) C dX4_nextCode_33 ?_
        refine iv_putf (pc := 34) (T := TX4) (N := 7) (ci := 4) C 6 5 (iw_up m3 6 5 ((m3 6 5) + (1 : Int32))) in_X4_nextCode_4 (iw_ix hJ (by decide)) iw_Eo6 tyX4_ok nmX4 rfl (by decide) lk_X4_nextCode_34 rfl rfl (tyX4_ok 5 (by decide)) rfl rfl (Nat.le_of_ble_eq_true rfl) rfl (fun b hb => iw_up_ne hb) dX4_nextCode_34 ?_
        refine iv_topm (fun m6 em6 => ?_)
        replace h := iw_lete em6 h
        refine iv_goto (pc := 37) C 0 dX4_nextCode_37 (by decide) ?_
        exact iv_sub [0] rfl (hr0 m6 h)
  have vL0 : ∀ (nn : Nat) (m3 : iw_M), f_X4_nextCode_L0  (f_X4_nextCode_X40_0) nn m3 = some (r, σ') → iw_V p l e rm_X4_nextCode s m ([.ref (G.2.1 6)] : List Value).toArray below meth c0 0 0 (MQ below (iw_Q (some (.int r)) G σ') ([.ref (G.2.1 6)] : List Value).toArray s 0 0 (iw_A G)) 1 G (iw_A G) m3 0 [(0, .ref (G.2.1 6))] [] := by
    intro nn
    induction nn with
    | zero => intro m3 h; exact absurd h (fun q => by cases q)
    | succ nn ih => intro m3 h; exact vB0 (f_X4_nextCode_X40_0) (f_X4_nextCode_L0  (f_X4_nextCode_X40_0) nn) vX0 ih m3 h
  exact iv_sub [0] rfl (vL0 n σ h)
theorem qd_X4_nextCode : yX4_nextCode.cls = RX4 ∧ yX4_nextCode.cls ≠ "java/lang/invoke/MethodHandle" ∧ yX4_nextCode.cls ≠ "java/lang/invoke/VarHandle" ∧ (parseMethodDescriptor yX4_nextCode.desc).map (fun d => d.parameters.length) = some 0 := by decide +kernel
def f_X4_refuse (p1 : Int32) (σ : iw_M) : Int32 × iw_M :=
iw_let (iw_up σ 6 4 p1) fun m1 =>
((0 : Int32), m1)
abbrev rm_X4_refuse : Room := { frames := 0, cells := 0, slots := 0, locals := 0 }
theorem lk_X4_refuse_100 : Cond.fieldLink RX4 100 RX4 (TX4 4).2.1 (TX4 4).2.2.1 ∈ wsX4_refuse := by decide +kernel
theorem in_X4_refuse_4 : ∀ w ∈ u_ws RX4 TX4 7, w ∈ wsX4_refuse := by decide +kernel
set_option maxHeartbeats 4000000 in
set_option maxRecDepth 100000 in
theorem k_X4_refuse (l : Launch) (G : iw_G) (hJ : iw_JX G) (p1 : Int32) (σ : iw_M) {r : Int32} {σ' : iw_M} (h : f_X4_refuse p1 σ = (r, σ')) : iw_Ct l yX4_refuse wsX4_refuse rm_X4_refuse G ([.ref (G.2.1 6), .int p1] : List Value) σ (some (.int r)) σ' := by
  refine iv_start (nL := 2) (own := RX4) (ret := (some .boolean)) (cc := cX4_refuse) (by decide +kernel) rfl rfl hJ.1 (Nat.le_of_ble_eq_true rfl) ?_
  intro p e s m below meth c0 C hr hlk
  refine iv_sub (lv' := [(0, .ref (G.2.1 6)), (1, .int p1)]) [0, 1] rfl ?_
  unfold f_X4_refuse at h
  refine iv_aload_n (pc := 0) C 0 dX4_refuse_0 rfl rfl ?_
  refine iv_iload_n (pc := 1) C 1 dX4_refuse_1 rfl rfl ?_
  refine iv_putf (pc := 2) (T := TX4) (N := 7) (ci := 4) C 6 4 (iw_up σ 6 4 p1) in_X4_refuse_4 (iw_ix hJ (by decide)) iw_Eo6 tyX4_ok nmX4 rfl (by decide) lk_X4_refuse_100 rfl rfl (tyX4_ok 4 (by decide)) rfl rfl (Nat.le_of_ble_eq_true rfl) rfl (fun b hb => iw_up_ne hb) dX4_refuse_2 ?_
  refine iv_topm (fun m1 em1 => ?_)
  replace h := iw_lete em1 h
  refine iv_iconst (pc := 5) C (0 : Int32) dX4_refuse_5 (by decide) ?_
  cases h
  exact iv_zret C hr hlk rfl rfl dX4_refuse_6
theorem qd_X4_refuse : yX4_refuse.cls = RX4 ∧ yX4_refuse.cls ≠ "java/lang/invoke/MethodHandle" ∧ yX4_refuse.cls ≠ "java/lang/invoke/VarHandle" ∧ (parseMethodDescriptor yX4_refuse.desc).map (fun d => d.parameters.length) = some 1 := by decide +kernel
def f_X4_readSign (n : Nat) (p1 : Int32) (σ : iw_M) : Option (Int32 × iw_M) :=
iw_b2 (f_X4_nextCode n σ) fun v1 m2 =>
if v1 = p1 then
(iw_let (iw_up m2 6 5 ((m2 6 5) + (1 : Int32))) fun m4 =>
some ((1 : Int32), m4))
else
(iw_let2 (f_X4_refuse (m2 6 5) m2) fun v5 m6 =>
some ((v5 &&& 1), m6))
abbrev rm_X4_readSign : Room := { frames := 2, cells := 0, slots := 0, locals := 41 }
theorem lk_X4_readSign_34 : Cond.fieldLink RX4 34 RX4 (TX4 5).2.1 (TX4 5).2.2.1 ∈ wsX4_readSign := by decide +kernel
theorem in_X4_readSign_4 : ∀ w ∈ u_ws RX4 TX4 7, w ∈ wsX4_readSign := by decide +kernel
set_option maxHeartbeats 4000000 in
set_option maxRecDepth 100000 in
theorem k_X4_readSign (l : Launch) (G : iw_G) (hJ : iw_JX G) (n : Nat) (p1 : Int32) (σ : iw_M) {r : Int32} {σ' : iw_M} (h : f_X4_readSign n p1 σ = some (r, σ')) : iw_Ct l yX4_readSign wsX4_readSign rm_X4_readSign G ([.ref (G.2.1 6), .int p1] : List Value) σ (some (.int r)) σ' := by
  refine iv_start (nL := 2) (own := RX4) (ret := (some .boolean)) (cc := cX4_readSign) (by decide +kernel) rfl rfl hJ.1 (Nat.le_of_ble_eq_true rfl) ?_
  intro p e s m below meth c0 C hr hlk
  refine iv_sub (lv' := [(0, .ref (G.2.1 6)), (1, .int p1)]) [0, 1] rfl ?_
  unfold f_X4_readSign at h
  refine iv_aload_n (pc := 0) C 0 dX4_readSign_0 rfl rfl ?_
  obtain ⟨v1, m2, ev1, h⟩ := iw_b2e h
  refine iv_callV (pc := 1) (b := 6) (ci := 4) C [] (k_X4_nextCode l G hJ n σ ev1) gX4_readSign_X4_nextCode rfl qd_X4_nextCode ⟨rfl, rfl, Nat.le_of_ble_eq_true rfl, Nat.le_of_ble_eq_true rfl⟩ (iw_ix hJ (by decide)) iw_Eo6 rfl rfl rfl (Nat.le_of_ble_eq_true rfl) dX4_readSign_1 ?_
  refine iv_iload_n (pc := 4) C 1 dX4_readSign_4 rfl rfl ?_
  refine iv_icmp_eq (pc := 5) C 17 dX4_readSign_5 (by decide) (fun h3 => ?_) (fun h3 => ?_)
  · replace h := iw_ift h3 h
    refine iv_aload_n (pc := 17) C 0 dX4_readSign_17 rfl rfl ?_
    refine iv_dup (pc := 18) C rfl dX4_readSign_18 ?_
    refine iv_getf (pc := 19) (T := TX4) (N := 7) (ci := 4) C 6 5 in_X4_readSign_4 (iw_ix hJ (by decide)) iw_Eo6 rfl (by decide) lk_X4_readSign_34 rfl rfl dX4_readSign_19 ?_
    refine iv_iconst (pc := 22) C (1 : Int32) dX4_readSign_22 (by decide) ?_
    refine iv_iadd (pc := 23) C dX4_readSign_23 ?_
    refine iv_putf (pc := 24) (T := TX4) (N := 7) (ci := 4) C 6 5 (iw_up m2 6 5 ((m2 6 5) + (1 : Int32))) in_X4_readSign_4 (iw_ix hJ (by decide)) iw_Eo6 tyX4_ok nmX4 rfl (by decide) lk_X4_readSign_34 rfl rfl (tyX4_ok 5 (by decide)) rfl rfl (Nat.le_of_ble_eq_true rfl) rfl (fun b hb => iw_up_ne hb) dX4_readSign_24 ?_
    refine iv_topm (fun m4 em4 => ?_)
    replace h := iw_lete em4 h
    refine iv_iconst (pc := 27) C (1 : Int32) dX4_readSign_27 (by decide) ?_
    cases h
    exact iv_zret C hr hlk rfl rfl dX4_readSign_28
  · replace h := iw_iff h3 h
    refine iv_aload_n (pc := 8) C 0 dX4_readSign_8 rfl rfl ?_
    refine iv_aload_n (pc := 9) C 0 dX4_readSign_9 rfl rfl ?_
    refine iv_getf (pc := 10) (T := TX4) (N := 7) (ci := 4) C 6 5 in_X4_readSign_4 (iw_ix hJ (by decide)) iw_Eo6 rfl (by decide) lk_X4_readSign_34 rfl rfl dX4_readSign_10 ?_
    obtain ⟨v5, m6, ev5, h⟩ := iw_let2e h
    refine iv_callV (pc := 13) (b := 6) (ci := 4) C [.int (m2 6 5)] (k_X4_refuse l G hJ (m2 6 5) m2 ev5) gX4_readSign_X4_refuse rfl qd_X4_refuse ⟨rfl, rfl, Nat.le_of_ble_eq_true rfl, Nat.le_of_ble_eq_true rfl⟩ (iw_ix hJ (by decide)) iw_Eo6 rfl rfl rfl (Nat.le_of_ble_eq_true rfl) dX4_readSign_13 ?_
    cases h
    exact iv_zret C hr hlk rfl rfl dX4_readSign_16
theorem qd_X4_readSign : yX4_readSign.cls = RX4 ∧ yX4_readSign.cls ≠ "java/lang/invoke/MethodHandle" ∧ yX4_readSign.cls ≠ "java/lang/invoke/VarHandle" ∧ (parseMethodDescriptor yX4_readSign.desc).map (fun d => d.parameters.length) = some 1 := by decide +kernel
def f_X4_isDigit (p1 : Int32) : Int32 :=
if p1 < (48 : Int32) then
((0 : Int32))
else
(if (57 : Int32) < p1 then
((0 : Int32))
else
((1 : Int32)))
abbrev rm_X4_isDigit : Room := { frames := 0, cells := 0, slots := 0, locals := 0 }
set_option maxHeartbeats 4000000 in
set_option maxRecDepth 100000 in
theorem k_X4_isDigit (l : Launch) (G : iw_G) (hJ : iw_JX G) (p1 : Int32) (σ : iw_M) {r : Int32} (h : f_X4_isDigit p1 = r) : iw_Ct l yX4_isDigit wsX4_isDigit rm_X4_isDigit G ([.int p1] : List Value) σ (some (.int r)) σ := by
  refine iv_start (nL := 1) (own := RX4) (ret := (some .boolean)) (cc := cX4_isDigit) (by decide +kernel) rfl rfl hJ.1 (Nat.le_of_ble_eq_true rfl) ?_
  intro p e s m below meth c0 C hr hlk
  refine iv_sub (lv' := [(0, .int p1)]) [0] rfl ?_
  unfold f_X4_isDigit at h
  refine iv_iload_n (pc := 0) C 0 dX4_isDigit_0 rfl rfl ?_
  refine iv_bipush (pc := 1) C (48 : Int32) dX4_isDigit_1 (by decide) ?_
  refine iv_icmp_lt (pc := 3) C 16 dX4_isDigit_3 (by decide) (fun h1 => ?_) (fun h1 => ?_)
  · replace h := iw_ift h1 h
    refine iv_iconst (pc := 16) C (0 : Int32) dX4_isDigit_16 (by decide) ?_
    cases h
    exact iv_zret C hr hlk rfl rfl dX4_isDigit_17
  · replace h := iw_iff h1 h
    refine iv_iload_n (pc := 6) C 0 dX4_isDigit_6 rfl rfl ?_
    refine iv_bipush (pc := 7) C (57 : Int32) dX4_isDigit_7 (by decide) ?_
    refine iv_icmp_gt (pc := 9) C 16 dX4_isDigit_9 (by decide) (fun h2 => ?_) (fun h2 => ?_)
    · replace h := iw_ift h2 h
      refine iv_iconst (pc := 16) C (0 : Int32) dX4_isDigit_16 (by decide) ?_
      cases h
      exact iv_zret C hr hlk rfl rfl dX4_isDigit_17
    · replace h := iw_iff h2 h
      refine iv_iconst (pc := 12) C (1 : Int32) dX4_isDigit_12 (by decide) ?_
      refine iv_goto (pc := 13) C 17 dX4_isDigit_13 (by decide) ?_
      cases h
      exact iv_zret C hr hlk rfl rfl dX4_isDigit_17
theorem qd_X4_isDigit : yX4_isDigit.cls ≠ "java/lang/invoke/MethodHandle" ∧ yX4_isDigit.cls ≠ "java/lang/invoke/VarHandle" ∧ (parseMethodDescriptor yX4_isDigit.desc).map (fun d => d.parameters.length) = some 1 := by decide +kernel
def f_X4_readNumber_J106 (m5 : iw_M) : Option (Int32 × iw_M) :=
iw_let2 (f_X4_refuse (m5 6 6) m5) fun v7 m8 =>
some ((-1 : Int32), m8)
def f_X4_readNumber_X76_15 (p1 : Int32) (p2 : Int32) (v4 : Int32) (m5 : iw_M) : Option (Int32 × iw_M) :=
iw_let ((m5 6 5) - (m5 6 6)) fun v6 =>
if (f_X5_isWithin v6 (1 : Int32) (5 : Int32)) = (0 : Int32) then
(f_X4_readNumber_J106 m5)
else
(if (f_X5_isWithin v4 p1 p2) = (0 : Int32) then
(f_X4_readNumber_J106 m5)
else
(some (v4, m5)))
def f_X4_readNumber_B15 (k15 : Int32 → iw_M → Option (Int32 × iw_M)) (r15 : Int32 → iw_M → Option (Int32 × iw_M)) (v11 : Int32) (m12 : iw_M) : Option (Int32 × iw_M) :=
if (m12 6 2) ≤ (m12 6 5) then
(k15 v11 m12)
else
(if (f_X4_isDigit (f_X5_at 7 (m12 6 5) m12)) = (0 : Int32) then
(k15 v11 m12)
else
(iw_let ((((10 : Int32) * v11) + (f_X5_at 7 (m12 6 5) m12)) - (48 : Int32)) fun v15 =>
iw_let (iw_up m12 6 5 ((m12 6 5) + (1 : Int32))) fun m16 =>
r15 v15 m16))
def f_X4_readNumber_L15 (k15 : Int32 → iw_M → Option (Int32 × iw_M)) (nn : Nat) : Int32 → iw_M → Option (Int32 × iw_M) :=
iw_it (fun r15 => f_X4_readNumber_B15 k15 r15) (fun _ _ => none) nn
def f_X4_readNumber (n : Nat) (p1 : Int32) (p2 : Int32) (σ : iw_M) : Option (Int32 × iw_M) :=
iw_b2 (f_X4_nextCode n σ) fun v1 m2 =>
iw_let (iw_up m2 6 6 (m2 6 5)) fun m3 =>
f_X4_readNumber_L15 (f_X4_readNumber_X76_15 p1 p2) n (0 : Int32) m3
abbrev rm_X4_readNumber : Room := { frames := 2, cells := 0, slots := 0, locals := 41 }
theorem lk_X4_readNumber_34 : Cond.fieldLink RX4 34 RX4 (TX4 5).2.1 (TX4 5).2.2.1 ∈ wsX4_readNumber := by decide +kernel
theorem lk_X4_readNumber_82 : Cond.fieldLink RX4 82 RX4 (TX4 6).2.1 (TX4 6).2.2.1 ∈ wsX4_readNumber := by decide +kernel
theorem si_X4_readNumber_X5_isWithin : Cond.static yX5_isWithin ∈ wsX4_readNumber ∧ Cond.initialized yX5_isWithin.cls ∈ wsX4_readNumber := by decide +kernel
theorem lk_X4_readNumber_22 : Cond.fieldLink RX4 22 RX4 (TX4 2).2.1 (TX4 2).2.2.1 ∈ wsX4_readNumber := by decide +kernel
theorem lk_X4_readNumber_18 : Cond.fieldLink RX4 18 RX4 (TX4 1).2.1 (TX4 1).2.2.1 ∈ wsX4_readNumber := by decide +kernel
theorem si_X4_readNumber_X5_at : Cond.static yX5_at ∈ wsX4_readNumber ∧ Cond.initialized yX5_at.cls ∈ wsX4_readNumber := by decide +kernel
theorem in_X4_readNumber_4 : ∀ w ∈ u_ws RX4 TX4 7, w ∈ wsX4_readNumber := by decide +kernel
set_option maxHeartbeats 4000000 in
set_option maxRecDepth 100000 in
theorem k_X4_readNumber (l : Launch) (G : iw_G) (hJ : iw_JX G) (n : Nat) (p1 : Int32) (p2 : Int32) (σ : iw_M) {r : Int32} {σ' : iw_M} (h : f_X4_readNumber n p1 p2 σ = some (r, σ')) : iw_Ct l yX4_readNumber wsX4_readNumber rm_X4_readNumber G ([.ref (G.2.1 6), .int p1, .int p2] : List Value) σ (some (.int r)) σ' := by
  refine iv_start (nL := 5) (own := RX4) (ret := (some .int)) (cc := cX4_readNumber) (by decide +kernel) rfl rfl hJ.1 (Nat.le_of_ble_eq_true rfl) ?_
  intro p e s m below meth c0 C hr hlk
  refine iv_sub (lv' := [(0, .ref (G.2.1 6)), (1, .int p1), (2, .int p2)]) [0, 1, 2] rfl ?_
  unfold f_X4_readNumber at h
  refine iv_aload_n (pc := 0) C 0 dX4_readNumber_0 rfl rfl ?_
  obtain ⟨v1, m2, ev1, h⟩ := iw_b2e h
  refine iv_callV (pc := 1) (b := 6) (ci := 4) C [] (k_X4_nextCode l G hJ n σ ev1) gX4_readNumber_X4_nextCode rfl qd_X4_nextCode ⟨rfl, rfl, Nat.le_of_ble_eq_true rfl, Nat.le_of_ble_eq_true rfl⟩ (iw_ix hJ (by decide)) iw_Eo6 rfl rfl rfl (Nat.le_of_ble_eq_true rfl) dX4_readNumber_1 ?_
  refine iv_pop (pc := 4) C rfl dX4_readNumber_4 ?_
  refine iv_aload_n (pc := 5) C 0 dX4_readNumber_5 rfl rfl ?_
  refine iv_aload_n (pc := 6) C 0 dX4_readNumber_6 rfl rfl ?_
  refine iv_getf (pc := 7) (T := TX4) (N := 7) (ci := 4) C 6 5 in_X4_readNumber_4 (iw_ix hJ (by decide)) iw_Eo6 rfl (by decide) lk_X4_readNumber_34 rfl rfl dX4_readNumber_7 ?_
  refine iv_putf (pc := 10) (T := TX4) (N := 7) (ci := 4) C 6 6 (iw_up m2 6 6 (m2 6 5)) in_X4_readNumber_4 (iw_ix hJ (by decide)) iw_Eo6 tyX4_ok nmX4 rfl (by decide) lk_X4_readNumber_82 rfl rfl (tyX4_ok 6 (by decide)) rfl rfl (Nat.le_of_ble_eq_true rfl) rfl (fun b hb => iw_up_ne hb) dX4_readNumber_10 ?_
  refine iv_topm (fun m3 em3 => ?_)
  replace h := iw_lete em3 h
  refine iv_iconst (pc := 13) C (0 : Int32) dX4_readNumber_13 (by decide) ?_
  refine iv_istore_n (pc := 14) C [(3, .int (0 : Int32)), (0, .ref (G.2.1 6)), (1, .int p1), (2, .int p2)] dX4_readNumber_14 rfl (by decide) rfl ?_
  have vX15 : ∀ (v4 : Int32) (m5 : iw_M), f_X4_readNumber_X76_15 p1 p2 v4 m5 = some (r, σ') → iw_V p l e rm_X4_readNumber s m ([.ref (G.2.1 6), .int p1, .int p2] : List Value).toArray below meth c0 0 0 (MQ below (iw_Q (some (.int r)) G σ') ([.ref (G.2.1 6), .int p1, .int p2] : List Value).toArray s 0 0 (iw_A G)) 5 G (iw_A G) m5 76 [(0, .ref (G.2.1 6)), (1, .int p1), (2, .int p2), (3, .int v4)] [] := by
    intro v4 m5 h
    unfold f_X4_readNumber_X76_15 at h
    refine iv_aload_n (pc := 76) C 0 dX4_readNumber_76 rfl rfl ?_
    refine iv_getf (pc := 77) (T := TX4) (N := 7) (ci := 4) C 6 5 in_X4_readNumber_4 (iw_ix hJ (by decide)) iw_Eo6 rfl (by decide) lk_X4_readNumber_34 rfl rfl dX4_readNumber_77 ?_
    refine iv_aload_n (pc := 80) C 0 dX4_readNumber_80 rfl rfl ?_
    refine iv_getf (pc := 81) (T := TX4) (N := 7) (ci := 4) C 6 6 in_X4_readNumber_4 (iw_ix hJ (by decide)) iw_Eo6 rfl (by decide) lk_X4_readNumber_82 rfl rfl dX4_readNumber_81 ?_
    refine iv_isub (pc := 84) C dX4_readNumber_84 ?_
    refine iv_topi (fun v6 ev6 => ?_)
    replace h := iw_lete ev6 h
    refine iv_istore (pc := 85) C [(4, .int v6), (0, .ref (G.2.1 6)), (1, .int p1), (2, .int p2), (3, .int v4)] dX4_readNumber_85 (by decide) rfl ?_
    refine iv_iload (pc := 87) C 0 dX4_readNumber_87 rfl ?_
    refine iv_iconst (pc := 89) C (1 : Int32) dX4_readNumber_89 (by decide) ?_
    refine iv_iconst (pc := 90) C (5 : Int32) dX4_readNumber_90 (by decide) ?_
    refine iv_callSN (pc := 91) C [.int v6, .int (1 : Int32), .int (5 : Int32)] (k_X5_isWithin l G hJ v6 (1 : Int32) (5 : Int32) m5 rfl) gX4_readNumber_X5_isWithin_n96 rfl ne_RX4_96 si_X4_readNumber_X5_isWithin qd_X5_isWithin ⟨rfl, rfl, Nat.le_of_ble_eq_true rfl, Nat.le_of_ble_eq_true rfl⟩ rfl rfl (Nat.le_of_ble_eq_true rfl) dX4_readNumber_91 ?_
    have vJ106 : f_X4_readNumber_J106 m5  = some (r, σ') → iw_V p l e rm_X4_readNumber s m ([.ref (G.2.1 6), .int p1, .int p2] : List Value).toArray below meth c0 0 0 (MQ below (iw_Q (some (.int r)) G σ') ([.ref (G.2.1 6), .int p1, .int p2] : List Value).toArray s 0 0 (iw_A G)) 5 G (iw_A G) m5 106 [(0, .ref (G.2.1 6))] [] := by
      intro h
      unfold f_X4_readNumber_J106 at h
      refine iv_aload_n (pc := 106) C 0 dX4_readNumber_106 rfl rfl ?_
      refine iv_aload_n (pc := 107) C 0 dX4_readNumber_107 rfl rfl ?_
      refine iv_getf (pc := 108) (T := TX4) (N := 7) (ci := 4) C 6 6 in_X4_readNumber_4 (iw_ix hJ (by decide)) iw_Eo6 rfl (by decide) lk_X4_readNumber_82 rfl rfl dX4_readNumber_108 ?_
      obtain ⟨v7, m8, ev7, h⟩ := iw_let2e h
      refine iv_callV (pc := 111) (b := 6) (ci := 4) C [.int (m5 6 6)] (k_X4_refuse l G hJ (m5 6 6) m5 ev7) gX4_readNumber_X4_refuse rfl qd_X4_refuse ⟨rfl, rfl, Nat.le_of_ble_eq_true rfl, Nat.le_of_ble_eq_true rfl⟩ (iw_ix hJ (by decide)) iw_Eo6 rfl rfl rfl (Nat.le_of_ble_eq_true rfl) dX4_readNumber_111 ?_
      refine iv_pop (pc := 114) C rfl dX4_readNumber_114 ?_
      refine iv_iconst (pc := 115) C (-1 : Int32) dX4_readNumber_115 (by decide) ?_
      cases h
      exact iv_iret C hr hlk rfl rfl dX4_readNumber_116
    refine iv_if_eq (pc := 94) C 106 dX4_readNumber_94 (by decide) (fun h9 => ?_) (fun h9 => ?_)
    · replace h := iw_ift h9 h
      exact iv_sub [1] rfl (vJ106 h)
    · replace h := iw_iff h9 h
      refine iv_iload_n (pc := 97) C 4 dX4_readNumber_97 rfl rfl ?_
      refine iv_iload_n (pc := 98) C 2 dX4_readNumber_98 rfl rfl ?_
      refine iv_iload_n (pc := 99) C 3 dX4_readNumber_99 rfl rfl ?_
      refine iv_callSN (pc := 100) C [.int v4, .int p1, .int p2] (k_X5_isWithin l G hJ v4 p1 p2 m5 rfl) gX4_readNumber_X5_isWithin_n96 rfl ne_RX4_96 si_X4_readNumber_X5_isWithin qd_X5_isWithin ⟨rfl, rfl, Nat.le_of_ble_eq_true rfl, Nat.le_of_ble_eq_true rfl⟩ rfl rfl (Nat.le_of_ble_eq_true rfl) dX4_readNumber_100 ?_
      refine iv_if_ne (pc := 103) C 117 dX4_readNumber_103 (by decide) (fun h10 => ?_) (fun h10 => ?_)
      · replace h := iw_iff h10 h
        refine iv_iload_n (pc := 117) C 4 dX4_readNumber_117 rfl rfl ?_
        cases h
        exact iv_iret C hr hlk rfl rfl dX4_readNumber_118
      · replace h := iw_ift h10 h
        exact iv_sub [1] rfl (vJ106 h)
  have vB15 : ∀ (k15 : Int32 → iw_M → Option (Int32 × iw_M)) (r15 : Int32 → iw_M → Option (Int32 × iw_M)), (∀ (v4 : Int32) (m5 : iw_M), k15 v4 m5 = some (r, σ') → iw_V p l e rm_X4_readNumber s m ([.ref (G.2.1 6), .int p1, .int p2] : List Value).toArray below meth c0 0 0 (MQ below (iw_Q (some (.int r)) G σ') ([.ref (G.2.1 6), .int p1, .int p2] : List Value).toArray s 0 0 (iw_A G)) 5 G (iw_A G) m5 76 [(0, .ref (G.2.1 6)), (1, .int p1), (2, .int p2), (3, .int v4)] []) → (∀ (v11 : Int32) (m12 : iw_M), r15 v11 m12 = some (r, σ') → iw_V p l e rm_X4_readNumber s m ([.ref (G.2.1 6), .int p1, .int p2] : List Value).toArray below meth c0 0 0 (MQ below (iw_Q (some (.int r)) G σ') ([.ref (G.2.1 6), .int p1, .int p2] : List Value).toArray s 0 0 (iw_A G)) 5 G (iw_A G) m12 15 [(0, .ref (G.2.1 6)), (1, .int p1), (2, .int p2), (3, .int v11)] []) → ∀ (v11 : Int32) (m12 : iw_M), f_X4_readNumber_B15  k15 r15 v11 m12 = some (r, σ') → iw_V p l e rm_X4_readNumber s m ([.ref (G.2.1 6), .int p1, .int p2] : List Value).toArray below meth c0 0 0 (MQ below (iw_Q (some (.int r)) G σ') ([.ref (G.2.1 6), .int p1, .int p2] : List Value).toArray s 0 0 (iw_A G)) 5 G (iw_A G) m12 15 [(0, .ref (G.2.1 6)), (1, .int p1), (2, .int p2), (3, .int v11)] [] := by
    intro k15 r15 hk15 hr15 v11 m12 h
    unfold f_X4_readNumber_B15 at h
    refine iv_aload_n (pc := 15) C 0 dX4_readNumber_15 rfl rfl ?_
    refine iv_getf (pc := 16) (T := TX4) (N := 7) (ci := 4) C 6 5 in_X4_readNumber_4 (iw_ix hJ (by decide)) iw_Eo6 rfl (by decide) lk_X4_readNumber_34 rfl rfl dX4_readNumber_16 ?_
    refine iv_aload_n (pc := 19) C 0 dX4_readNumber_19 rfl rfl ?_
    refine iv_getf (pc := 20) (T := TX4) (N := 7) (ci := 4) C 6 2 in_X4_readNumber_4 (iw_ix hJ (by decide)) iw_Eo6 rfl (by decide) lk_X4_readNumber_22 rfl rfl dX4_readNumber_20 ?_
    refine iv_icmp_ge (pc := 23) C 76 dX4_readNumber_23 (by decide) (fun h13 => ?_) (fun h13 => ?_)
    · replace h := iw_ift h13 h
      exact iv_sub [0, 1, 2, 3] rfl (hk15 v11 m12 h)
    · replace h := iw_iff h13 h
      refine iv_aload_n (pc := 26) C 0 dX4_readNumber_26 rfl rfl ?_
      refine iv_getf (pc := 27) (T := TX4) (N := 7) (ci := 4) C 6 1 in_X4_readNumber_4 (iw_ix hJ (by decide)) iw_Eo6 rfl (by decide) lk_X4_readNumber_18 rfl rfl dX4_readNumber_27 ?_
      refine iv_aload_n (pc := 30) C 0 dX4_readNumber_30 rfl rfl ?_
      refine iv_getf (pc := 31) (T := TX4) (N := 7) (ci := 4) C 6 5 in_X4_readNumber_4 (iw_ix hJ (by decide)) iw_Eo6 rfl (by decide) lk_X4_readNumber_34 rfl rfl dX4_readNumber_31 ?_
      refine iv_callSN (pc := 34) C [.ref (G.2.1 7), .int (m12 6 5)] (k_X5_at l G hJ.1 7 (iw_lx hJ rfl (by decide)) (m12 6 5) m12 rfl) gX4_readNumber_X5_at_n92 rfl ne_RX4_92 si_X4_readNumber_X5_at qd_X5_at ⟨rfl, rfl, Nat.le_of_ble_eq_true rfl, Nat.le_of_ble_eq_true rfl⟩ rfl rfl (Nat.le_of_ble_eq_true rfl) dX4_readNumber_34 ?_
      refine iv_callS (pc := 37) C [.int (f_X5_at 7 (m12 6 5) m12)] (k_X4_isDigit l G hJ (f_X5_at 7 (m12 6 5) m12) m12 rfl) gX4_readNumber_X4_isDigit rfl qd_X4_isDigit ⟨rfl, rfl, Nat.le_of_ble_eq_true rfl, Nat.le_of_ble_eq_true rfl⟩ rfl rfl (Nat.le_of_ble_eq_true rfl) dX4_readNumber_37 ?_
      refine iv_if_eq (pc := 40) C 76 dX4_readNumber_40 (by decide) (fun h14 => ?_) (fun h14 => ?_)
      · replace h := iw_ift h14 h
        exact iv_sub [0, 1, 2, 3] rfl (hk15 v11 m12 h)
      · replace h := iw_iff h14 h
        refine iv_bipush (pc := 43) C (10 : Int32) dX4_readNumber_43 (by decide) ?_
        refine iv_iload_n (pc := 45) C 3 dX4_readNumber_45 rfl rfl ?_
        refine iv_imul (pc := 46) C dX4_readNumber_46 ?_
        refine iv_aload_n (pc := 47) C 0 dX4_readNumber_47 rfl rfl ?_
        refine iv_getf (pc := 48) (T := TX4) (N := 7) (ci := 4) C 6 1 in_X4_readNumber_4 (iw_ix hJ (by decide)) iw_Eo6 rfl (by decide) lk_X4_readNumber_18 rfl rfl dX4_readNumber_48 ?_
        refine iv_aload_n (pc := 51) C 0 dX4_readNumber_51 rfl rfl ?_
        refine iv_getf (pc := 52) (T := TX4) (N := 7) (ci := 4) C 6 5 in_X4_readNumber_4 (iw_ix hJ (by decide)) iw_Eo6 rfl (by decide) lk_X4_readNumber_34 rfl rfl dX4_readNumber_52 ?_
        refine iv_callSN (pc := 55) C [.ref (G.2.1 7), .int (m12 6 5)] (k_X5_at l G hJ.1 7 (iw_lx hJ rfl (by decide)) (m12 6 5) m12 rfl) gX4_readNumber_X5_at_n92 rfl ne_RX4_92 si_X4_readNumber_X5_at qd_X5_at ⟨rfl, rfl, Nat.le_of_ble_eq_true rfl, Nat.le_of_ble_eq_true rfl⟩ rfl rfl (Nat.le_of_ble_eq_true rfl) dX4_readNumber_55 ?_
        refine iv_iadd (pc := 58) C dX4_readNumber_58 ?_
        refine iv_bipush (pc := 59) C (48 : Int32) dX4_readNumber_59 (by decide) ?_
        refine iv_isub (pc := 61) C dX4_readNumber_61 ?_
        refine iv_topi (fun v15 ev15 => ?_)
        replace h := iw_lete ev15 h
        refine iv_istore_n (pc := 62) C [(3, .int v15), (0, .ref (G.2.1 6)), (1, .int p1), (2, .int p2)] dX4_readNumber_62 rfl (by decide) rfl ?_
        refine iv_aload_n (pc := 63) C 1 dX4_readNumber_63 rfl rfl ?_
        refine iv_dup (pc := 64) C rfl dX4_readNumber_64 ?_
        refine iv_getf (pc := 65) (T := TX4) (N := 7) (ci := 4) C 6 5 in_X4_readNumber_4 (iw_ix hJ (by decide)) iw_Eo6 rfl (by decide) lk_X4_readNumber_34 rfl rfl dX4_readNumber_65 ?_
        refine iv_iconst (pc := 68) C (1 : Int32) dX4_readNumber_68 (by decide) ?_
        refine iv_iadd (pc := 69) C dX4_readNumber_69 ?_
        refine iv_putf (pc := 70) (T := TX4) (N := 7) (ci := 4) C 6 5 (iw_up m12 6 5 ((m12 6 5) + (1 : Int32))) in_X4_readNumber_4 (iw_ix hJ (by decide)) iw_Eo6 tyX4_ok nmX4 rfl (by decide) lk_X4_readNumber_34 rfl rfl (tyX4_ok 5 (by decide)) rfl rfl (Nat.le_of_ble_eq_true rfl) rfl (fun b hb => iw_up_ne hb) dX4_readNumber_70 ?_
        refine iv_topm (fun m16 em16 => ?_)
        replace h := iw_lete em16 h
        refine iv_goto (pc := 73) C 15 dX4_readNumber_73 (by decide) ?_
        exact iv_sub [1, 2, 3, 0] rfl (hr15 v15 m16 h)
  have vL15 : ∀ (nn : Nat) (v11 : Int32) (m12 : iw_M), f_X4_readNumber_L15  (f_X4_readNumber_X76_15 p1 p2) nn v11 m12 = some (r, σ') → iw_V p l e rm_X4_readNumber s m ([.ref (G.2.1 6), .int p1, .int p2] : List Value).toArray below meth c0 0 0 (MQ below (iw_Q (some (.int r)) G σ') ([.ref (G.2.1 6), .int p1, .int p2] : List Value).toArray s 0 0 (iw_A G)) 5 G (iw_A G) m12 15 [(0, .ref (G.2.1 6)), (1, .int p1), (2, .int p2), (3, .int v11)] [] := by
    intro nn
    induction nn with
    | zero => intro v11 m12 h; exact absurd h (fun q => by cases q)
    | succ nn ih => intro v11 m12 h; exact vB15 (f_X4_readNumber_X76_15 p1 p2) (f_X4_readNumber_L15  (f_X4_readNumber_X76_15 p1 p2) nn) vX15 ih v11 m12 h
  exact iv_sub [1, 2, 3, 0] rfl (vL15 n (0 : Int32) m3 h)
theorem qd_X4_readNumber : yX4_readNumber.cls = RX4 ∧ yX4_readNumber.cls ≠ "java/lang/invoke/MethodHandle" ∧ yX4_readNumber.cls ≠ "java/lang/invoke/VarHandle" ∧ (parseMethodDescriptor yX4_readNumber.desc).map (fun d => d.parameters.length) = some 2 := by decide +kernel
def f_X4_readNode_J43 (v5 : Int32) (m6 : iw_M) : Option (Int32 × iw_M) :=
if v5 = (-1 : Int32) then
(some ((0 : Int32), m6))
else
(iw_let2 (f_X1_appendNode 36 v5 m6) fun v8 m9 =>
some ((1 : Int32), m9))
def f_X4_readNode (n : Nat) (σ : iw_M) : Option (Int32 × iw_M) :=
(f_X1_number n 36 (0 : Int32) σ).bind fun v1 =>
if v1 < (10 : Int32) then
(iw_b2 (f_X4_readSign n (110 : Int32) σ) fun v3 m4 =>
if v3 = (0 : Int32) then
(f_X4_readNode_J43 (-1 : Int32) m4)
else
(iw_b2 (f_X4_readNumber n (1 : Int32) (10000 : Int32) m4) fun v11 m12 =>
f_X4_readNode_J43 v11 m12))
else
(iw_let2 (f_X4_refuse (σ 6 5) σ) fun v13 m14 =>
some ((v13 &&& 1), m14))
abbrev rm_X4_readNode : Room := { frames := 3, cells := 0, slots := 0, locals := 65 }
theorem lk_X4_readNode_12 : Cond.fieldLink RX4 12 RX4 (TX4 0).2.1 (TX4 0).2.2.1 ∈ wsX4_readNode := by decide +kernel
theorem lk_X4_readNode_34 : Cond.fieldLink RX4 34 RX4 (TX4 5).2.1 (TX4 5).2.2.1 ∈ wsX4_readNode := by decide +kernel
theorem in_X4_readNode_4 : ∀ w ∈ u_ws RX4 TX4 7, w ∈ wsX4_readNode := by decide +kernel
set_option maxHeartbeats 4000000 in
set_option maxRecDepth 100000 in
theorem k_X4_readNode (l : Launch) (G : iw_G) (hJ : iw_JX G) (n : Nat) (σ : iw_M) {r : Int32} {σ' : iw_M} (h : f_X4_readNode n σ = some (r, σ')) : iw_Ct l yX4_readNode wsX4_readNode rm_X4_readNode G ([.ref (G.2.1 6)] : List Value) σ (some (.int r)) σ' := by
  refine iv_start (nL := 2) (own := RX4) (ret := (some .boolean)) (cc := cX4_readNode) (by decide +kernel) rfl rfl hJ.1 (Nat.le_of_ble_eq_true rfl) ?_
  intro p e s m below meth c0 C hr hlk
  refine iv_sub (lv' := [(0, .ref (G.2.1 6))]) [0] rfl ?_
  unfold f_X4_readNode at h
  refine iv_aload_n (pc := 0) C 0 dX4_readNode_0 rfl rfl ?_
  refine iv_getf (pc := 1) (T := TX4) (N := 7) (ci := 4) C 6 0 in_X4_readNode_4 (iw_ix hJ (by decide)) iw_Eo6 rfl (by decide) lk_X4_readNode_12 rfl rfl dX4_readNode_1 ?_
  refine iv_iconst (pc := 4) C (0 : Int32) dX4_readNode_4 (by decide) ?_
  obtain ⟨v1, ev1, h⟩ := iw_be h
  refine iv_callV (pc := 5) (b := 36) (ci := 1) C [.int (0 : Int32)] (k_X1_number l G hJ n 36 iw_net_36 (0 : Int32) σ ev1) gX4_readNode_X1_number rfl qd_X1_number ⟨rfl, rfl, Nat.le_of_ble_eq_true rfl, Nat.le_of_ble_eq_true rfl⟩ (iw_ix hJ (iw_nl iw_net_36)) (iw_E1 (iw_nk iw_net_36)) rfl rfl rfl (Nat.le_of_ble_eq_true rfl) dX4_readNode_5 ?_
  refine iv_bipush (pc := 8) C (10 : Int32) dX4_readNode_8 (by decide) ?_
  refine iv_icmp_lt (pc := 10) C 22 dX4_readNode_10 (by decide) (fun h2 => ?_) (fun h2 => ?_)
  · replace h := iw_ift h2 h
    refine iv_aload_n (pc := 22) C 0 dX4_readNode_22 rfl rfl ?_
    refine iv_bipush (pc := 23) C (110 : Int32) dX4_readNode_23 (by decide) ?_
    obtain ⟨v3, m4, ev3, h⟩ := iw_b2e h
    refine iv_callV (pc := 25) (b := 6) (ci := 4) C [.int (110 : Int32)] (k_X4_readSign l G hJ n (110 : Int32) σ ev3) gX4_readNode_X4_readSign rfl qd_X4_readSign ⟨rfl, rfl, Nat.le_of_ble_eq_true rfl, Nat.le_of_ble_eq_true rfl⟩ (iw_ix hJ (by decide)) iw_Eo6 rfl rfl rfl (Nat.le_of_ble_eq_true rfl) dX4_readNode_25 ?_
    have vJ43 : ∀ (v5 : Int32) (m6 : iw_M), f_X4_readNode_J43  v5 m6 = some (r, σ') → iw_V p l e rm_X4_readNode s m ([.ref (G.2.1 6)] : List Value).toArray below meth c0 0 0 (MQ below (iw_Q (some (.int r)) G σ') ([.ref (G.2.1 6)] : List Value).toArray s 0 0 (iw_A G)) 2 G (iw_A G) m6 43 [(0, .ref (G.2.1 6))] [.int v5] := by
      intro v5 m6 h
      unfold f_X4_readNode_J43 at h
      refine iv_istore_n (pc := 43) C [(1, .int v5), (0, .ref (G.2.1 6))] dX4_readNode_43 rfl (by decide) rfl ?_
      refine iv_iload_n (pc := 44) C 0 dX4_readNode_44 rfl rfl ?_
      refine iv_iconst (pc := 45) C (-1 : Int32) dX4_readNode_45 (by decide) ?_
      refine iv_icmp_ne (pc := 46) C 51 dX4_readNode_46 (by decide) (fun h7 => ?_) (fun h7 => ?_)
      · replace h := iw_iff h7 h
        refine iv_aload_n (pc := 51) C 1 dX4_readNode_51 rfl rfl ?_
        refine iv_getf (pc := 52) (T := TX4) (N := 7) (ci := 4) C 6 0 in_X4_readNode_4 (iw_ix hJ (by decide)) iw_Eo6 rfl (by decide) lk_X4_readNode_12 rfl rfl dX4_readNode_52 ?_
        refine iv_iload_n (pc := 55) C 0 dX4_readNode_55 rfl rfl ?_
        obtain ⟨v8, m9, ev8, h⟩ := iw_let2e h
        refine iv_callV (pc := 56) (b := 36) (ci := 1) C [.int v5] (k_X1_appendNode l G hJ 36 iw_net_36 v5 m6 ev8) gX4_readNode_X1_appendNode rfl qd_X1_appendNode ⟨rfl, rfl, Nat.le_of_ble_eq_true rfl, Nat.le_of_ble_eq_true rfl⟩ (iw_ix hJ (iw_nl iw_net_36)) (iw_E1 (iw_nk iw_net_36)) rfl rfl rfl (Nat.le_of_ble_eq_true rfl) dX4_readNode_56 ?_
        refine iv_pop (pc := 59) C rfl dX4_readNode_59 ?_
        refine iv_iconst (pc := 60) C (1 : Int32) dX4_readNode_60 (by decide) ?_
        cases h
        exact iv_zret C hr hlk rfl rfl dX4_readNode_61
      · replace h := iw_ift h7 h
        refine iv_iconst (pc := 49) C (0 : Int32) dX4_readNode_49 (by decide) ?_
        cases h
        exact iv_zret C hr hlk rfl rfl dX4_readNode_50
    refine iv_if_eq (pc := 28) C 42 dX4_readNode_28 (by decide) (fun h10 => ?_) (fun h10 => ?_)
    · replace h := iw_ift h10 h
      refine iv_iconst (pc := 42) C (-1 : Int32) dX4_readNode_42 (by decide) ?_
      exact iv_sub [0] rfl (vJ43 (-1 : Int32) m4 h)
    · replace h := iw_iff h10 h
      refine iv_aload_n (pc := 31) C 0 dX4_readNode_31 rfl rfl ?_
      refine iv_iconst (pc := 32) C (1 : Int32) dX4_readNode_32 (by decide) ?_
      refine iv_sipush (pc := 33) C (10000 : Int32) dX4_readNode_33 (by decide) ?_
      obtain ⟨v11, m12, ev11, h⟩ := iw_b2e h
      refine iv_callV (pc := 36) (b := 6) (ci := 4) C [.int (1 : Int32), .int (10000 : Int32)] (k_X4_readNumber l G hJ n (1 : Int32) (10000 : Int32) m4 ev11) gX4_readNode_X4_readNumber rfl qd_X4_readNumber ⟨rfl, rfl, Nat.le_of_ble_eq_true rfl, Nat.le_of_ble_eq_true rfl⟩ (iw_ix hJ (by decide)) iw_Eo6 rfl rfl rfl (Nat.le_of_ble_eq_true rfl) dX4_readNode_36 ?_
      refine iv_goto (pc := 39) C 43 dX4_readNode_39 (by decide) ?_
      exact iv_sub [0] rfl (vJ43 v11 m12 h)
  · replace h := iw_iff h2 h
    refine iv_aload_n (pc := 13) C 0 dX4_readNode_13 rfl rfl ?_
    refine iv_aload_n (pc := 14) C 0 dX4_readNode_14 rfl rfl ?_
    refine iv_getf (pc := 15) (T := TX4) (N := 7) (ci := 4) C 6 5 in_X4_readNode_4 (iw_ix hJ (by decide)) iw_Eo6 rfl (by decide) lk_X4_readNode_34 rfl rfl dX4_readNode_15 ?_
    obtain ⟨v13, m14, ev13, h⟩ := iw_let2e h
    refine iv_callV (pc := 18) (b := 6) (ci := 4) C [.int (σ 6 5)] (k_X4_refuse l G hJ (σ 6 5) σ ev13) gX4_readNode_X4_refuse rfl qd_X4_refuse ⟨rfl, rfl, Nat.le_of_ble_eq_true rfl, Nat.le_of_ble_eq_true rfl⟩ (iw_ix hJ (by decide)) iw_Eo6 rfl rfl rfl (Nat.le_of_ble_eq_true rfl) dX4_readNode_18 ?_
    cases h
    exact iv_zret C hr hlk rfl rfl dX4_readNode_21
theorem qd_X4_readNode : yX4_readNode.cls = RX4 ∧ yX4_readNode.cls ≠ "java/lang/invoke/MethodHandle" ∧ yX4_readNode.cls ≠ "java/lang/invoke/VarHandle" ∧ (parseMethodDescriptor yX4_readNode.desc).map (fun d => d.parameters.length) = some 0 := by decide +kernel
def f_X4_readSensor_J150 (v5 : Int32) (v11 : Int32) (m22 : iw_M) (v24 : Int32) : Option (Int32 × iw_M) :=
iw_let2 (f_X1_appendSensor 36 v5 v11 v24 m22) fun v25 m26 =>
some ((1 : Int32), m26)
def f_X4_readSensor_J114 (n : Nat) (v5 : Int32) (v11 : Int32) (v19 : Int32) (m20 : iw_M) : Option (Int32 × iw_M) :=
iw_b2 (f_X4_readNumber n (0 : Int32) (100 : Int32) m20) fun v21 m22 =>
if v21 = (-1 : Int32) then
(some ((0 : Int32), m22))
else
(if v19 = (0 : Int32) then
(f_X4_readSensor_J150 v5 v11 m22 v21)
else
(f_X4_readSensor_J150 v5 v11 m22 (-v21)))
def f_X4_readSensor_J113 (n : Nat) (v5 : Int32) (v11 : Int32) (m28 : iw_M) : Option (Int32 × iw_M) :=
f_X4_readSensor_J114 n v5 v11 (0 : Int32) m28
def f_X4_readSensor_J50 (n : Nat) (v5 : Int32) (m6 : iw_M) : Option (Int32 × iw_M) :=
if v5 = (-1 : Int32) then
(some ((0 : Int32), m6))
else
(iw_b2 (f_X4_readSign n (44 : Int32) m6) fun v8 m9 =>
if v8 = (0 : Int32) then
(some ((0 : Int32), m9))
else
(iw_b2 (f_X4_readNumber n (0 : Int32) (7 : Int32) m9) fun v11 m12 =>
if v11 = (-1 : Int32) then
(some ((0 : Int32), m12))
else
(iw_b2 (f_X4_readSign n (61 : Int32) m12) fun v14 m15 =>
if v14 = (0 : Int32) then
(some ((0 : Int32), m15))
else
(iw_b2 (f_X4_nextCode n m15) fun v17 m18 =>
if v17 = (45 : Int32) then
(iw_b2 (f_X4_readSign n (45 : Int32) m18) fun v30 m31 =>
if v30 = (0 : Int32) then
(f_X4_readSensor_J113 n v5 v11 m31)
else
(f_X4_readSensor_J114 n v5 v11 (1 : Int32) m31))
else
(f_X4_readSensor_J113 n v5 v11 m18)))))
def f_X4_readSensor (n : Nat) (σ : iw_M) : Option (Int32 × iw_M) :=
(f_X1_number n 36 (2 : Int32) σ).bind fun v1 =>
if v1 < (6 : Int32) then
(iw_b2 (f_X4_readSign n (115 : Int32) σ) fun v3 m4 =>
if v3 = (0 : Int32) then
(f_X4_readSensor_J50 n (-1 : Int32) m4)
else
((f_X1_number n 36 (0 : Int32) m4).bind fun v34 =>
iw_b2 (f_X4_readNumber n (0 : Int32) (v34 - (1 : Int32)) m4) fun v35 m36 =>
f_X4_readSensor_J50 n v35 m36))
else
(iw_let2 (f_X4_refuse (σ 6 5) σ) fun v37 m38 =>
some ((v37 &&& 1), m38))
abbrev rm_X4_readSensor : Room := { frames := 3, cells := 0, slots := 0, locals := 65 }
theorem lk_X4_readSensor_12 : Cond.fieldLink RX4 12 RX4 (TX4 0).2.1 (TX4 0).2.2.1 ∈ wsX4_readSensor := by decide +kernel
theorem lk_X4_readSensor_34 : Cond.fieldLink RX4 34 RX4 (TX4 5).2.1 (TX4 5).2.2.1 ∈ wsX4_readSensor := by decide +kernel
theorem in_X4_readSensor_4 : ∀ w ∈ u_ws RX4 TX4 7, w ∈ wsX4_readSensor := by decide +kernel
set_option maxHeartbeats 4000000 in
set_option maxRecDepth 100000 in
theorem k_X4_readSensor (l : Launch) (G : iw_G) (hJ : iw_JX G) (n : Nat) (σ : iw_M) {r : Int32} {σ' : iw_M} (h : f_X4_readSensor n σ = some (r, σ')) : iw_Ct l yX4_readSensor wsX4_readSensor rm_X4_readSensor G ([.ref (G.2.1 6)] : List Value) σ (some (.int r)) σ' := by
  refine iv_start (nL := 5) (own := RX4) (ret := (some .boolean)) (cc := cX4_readSensor) (by decide +kernel) rfl rfl hJ.1 (Nat.le_of_ble_eq_true rfl) ?_
  intro p e s m below meth c0 C hr hlk
  refine iv_sub (lv' := [(0, .ref (G.2.1 6))]) [0] rfl ?_
  unfold f_X4_readSensor at h
  refine iv_aload_n (pc := 0) C 0 dX4_readSensor_0 rfl rfl ?_
  refine iv_getf (pc := 1) (T := TX4) (N := 7) (ci := 4) C 6 0 in_X4_readSensor_4 (iw_ix hJ (by decide)) iw_Eo6 rfl (by decide) lk_X4_readSensor_12 rfl rfl dX4_readSensor_1 ?_
  refine iv_iconst (pc := 4) C (2 : Int32) dX4_readSensor_4 (by decide) ?_
  obtain ⟨v1, ev1, h⟩ := iw_be h
  refine iv_callV (pc := 5) (b := 36) (ci := 1) C [.int (2 : Int32)] (k_X1_number l G hJ n 36 iw_net_36 (2 : Int32) σ ev1) gX4_readSensor_X1_number rfl qd_X1_number ⟨rfl, rfl, Nat.le_of_ble_eq_true rfl, Nat.le_of_ble_eq_true rfl⟩ (iw_ix hJ (iw_nl iw_net_36)) (iw_E1 (iw_nk iw_net_36)) rfl rfl rfl (Nat.le_of_ble_eq_true rfl) dX4_readSensor_5 ?_
  refine iv_bipush (pc := 8) C (6 : Int32) dX4_readSensor_8 (by decide) ?_
  refine iv_icmp_lt (pc := 10) C 22 dX4_readSensor_10 (by decide) (fun h2 => ?_) (fun h2 => ?_)
  · replace h := iw_ift h2 h
    refine iv_aload_n (pc := 22) C 0 dX4_readSensor_22 rfl rfl ?_
    refine iv_bipush (pc := 23) C (115 : Int32) dX4_readSensor_23 (by decide) ?_
    obtain ⟨v3, m4, ev3, h⟩ := iw_b2e h
    refine iv_callV (pc := 25) (b := 6) (ci := 4) C [.int (115 : Int32)] (k_X4_readSign l G hJ n (115 : Int32) σ ev3) gX4_readSensor_X4_readSign rfl qd_X4_readSign ⟨rfl, rfl, Nat.le_of_ble_eq_true rfl, Nat.le_of_ble_eq_true rfl⟩ (iw_ix hJ (by decide)) iw_Eo6 rfl rfl rfl (Nat.le_of_ble_eq_true rfl) dX4_readSensor_25 ?_
    have vJ50 : ∀ (v5 : Int32) (m6 : iw_M), f_X4_readSensor_J50 n v5 m6 = some (r, σ') → iw_V p l e rm_X4_readSensor s m ([.ref (G.2.1 6)] : List Value).toArray below meth c0 0 0 (MQ below (iw_Q (some (.int r)) G σ') ([.ref (G.2.1 6)] : List Value).toArray s 0 0 (iw_A G)) 5 G (iw_A G) m6 50 [(0, .ref (G.2.1 6))] [.int v5] := by
      intro v5 m6 h
      unfold f_X4_readSensor_J50 at h
      refine iv_istore_n (pc := 50) C [(1, .int v5), (0, .ref (G.2.1 6))] dX4_readSensor_50 rfl (by decide) rfl ?_
      refine iv_iload_n (pc := 51) C 0 dX4_readSensor_51 rfl rfl ?_
      refine iv_iconst (pc := 52) C (-1 : Int32) dX4_readSensor_52 (by decide) ?_
      refine iv_icmp_eq (pc := 53) C 65 dX4_readSensor_53 (by decide) (fun h7 => ?_) (fun h7 => ?_)
      · replace h := iw_ift h7 h
        refine iv_iconst (pc := 65) C (0 : Int32) dX4_readSensor_65 (by decide) ?_
        cases h
        exact iv_zret C hr hlk rfl rfl dX4_readSensor_66
      · replace h := iw_iff h7 h
        refine iv_aload_n (pc := 56) C 1 dX4_readSensor_56 rfl rfl ?_
        refine iv_bipush (pc := 57) C (44 : Int32) dX4_readSensor_57 (by decide) ?_
        obtain ⟨v8, m9, ev8, h⟩ := iw_b2e h
        refine iv_callV (pc := 59) (b := 6) (ci := 4) C [.int (44 : Int32)] (k_X4_readSign l G hJ n (44 : Int32) m6 ev8) gX4_readSensor_X4_readSign rfl qd_X4_readSign ⟨rfl, rfl, Nat.le_of_ble_eq_true rfl, Nat.le_of_ble_eq_true rfl⟩ (iw_ix hJ (by decide)) iw_Eo6 rfl rfl rfl (Nat.le_of_ble_eq_true rfl) dX4_readSensor_59 ?_
        refine iv_if_ne (pc := 62) C 67 dX4_readSensor_62 (by decide) (fun h10 => ?_) (fun h10 => ?_)
        · replace h := iw_iff h10 h
          refine iv_aload_n (pc := 67) C 1 dX4_readSensor_67 rfl rfl ?_
          refine iv_iconst (pc := 68) C (0 : Int32) dX4_readSensor_68 (by decide) ?_
          refine iv_bipush (pc := 69) C (7 : Int32) dX4_readSensor_69 (by decide) ?_
          obtain ⟨v11, m12, ev11, h⟩ := iw_b2e h
          refine iv_callV (pc := 71) (b := 6) (ci := 4) C [.int (0 : Int32), .int (7 : Int32)] (k_X4_readNumber l G hJ n (0 : Int32) (7 : Int32) m9 ev11) gX4_readSensor_X4_readNumber rfl qd_X4_readNumber ⟨rfl, rfl, Nat.le_of_ble_eq_true rfl, Nat.le_of_ble_eq_true rfl⟩ (iw_ix hJ (by decide)) iw_Eo6 rfl rfl rfl (Nat.le_of_ble_eq_true rfl) dX4_readSensor_71 ?_
          refine iv_istore_n (pc := 74) C [(2, .int v11), (1, .int v5), (0, .ref (G.2.1 6))] dX4_readSensor_74 rfl (by decide) rfl ?_
          refine iv_iload_n (pc := 75) C 0 dX4_readSensor_75 rfl rfl ?_
          refine iv_iconst (pc := 76) C (-1 : Int32) dX4_readSensor_76 (by decide) ?_
          refine iv_icmp_eq (pc := 77) C 89 dX4_readSensor_77 (by decide) (fun h13 => ?_) (fun h13 => ?_)
          · replace h := iw_ift h13 h
            refine iv_iconst (pc := 89) C (0 : Int32) dX4_readSensor_89 (by decide) ?_
            cases h
            exact iv_zret C hr hlk rfl rfl dX4_readSensor_90
          · replace h := iw_iff h13 h
            refine iv_aload_n (pc := 80) C 2 dX4_readSensor_80 rfl rfl ?_
            refine iv_bipush (pc := 81) C (61 : Int32) dX4_readSensor_81 (by decide) ?_
            obtain ⟨v14, m15, ev14, h⟩ := iw_b2e h
            refine iv_callV (pc := 83) (b := 6) (ci := 4) C [.int (61 : Int32)] (k_X4_readSign l G hJ n (61 : Int32) m12 ev14) gX4_readSensor_X4_readSign rfl qd_X4_readSign ⟨rfl, rfl, Nat.le_of_ble_eq_true rfl, Nat.le_of_ble_eq_true rfl⟩ (iw_ix hJ (by decide)) iw_Eo6 rfl rfl rfl (Nat.le_of_ble_eq_true rfl) dX4_readSensor_83 ?_
            refine iv_if_ne (pc := 86) C 91 dX4_readSensor_86 (by decide) (fun h16 => ?_) (fun h16 => ?_)
            · replace h := iw_iff h16 h
              refine iv_aload_n (pc := 91) C 2 dX4_readSensor_91 rfl rfl ?_
              obtain ⟨v17, m18, ev17, h⟩ := iw_b2e h
              refine iv_callV (pc := 92) (b := 6) (ci := 4) C [] (k_X4_nextCode l G hJ n m15 ev17) gX4_readSensor_X4_nextCode rfl qd_X4_nextCode ⟨rfl, rfl, Nat.le_of_ble_eq_true rfl, Nat.le_of_ble_eq_true rfl⟩ (iw_ix hJ (by decide)) iw_Eo6 rfl rfl rfl (Nat.le_of_ble_eq_true rfl) dX4_readSensor_92 ?_
              refine iv_bipush (pc := 95) C (45 : Int32) dX4_readSensor_95 (by decide) ?_
              have vJ114 : ∀ (v19 : Int32) (m20 : iw_M), f_X4_readSensor_J114 n v5 v11 v19 m20 = some (r, σ') → iw_V p l e rm_X4_readSensor s m ([.ref (G.2.1 6)] : List Value).toArray below meth c0 0 0 (MQ below (iw_Q (some (.int r)) G σ') ([.ref (G.2.1 6)] : List Value).toArray s 0 0 (iw_A G)) 5 G (iw_A G) m20 114 [(0, .ref (G.2.1 6)), (1, .int v5), (2, .int v11)] [.int v19] := by
                intro v19 m20 h
                unfold f_X4_readSensor_J114 at h
                refine iv_istore_n (pc := 114) C [(3, .int v19), (0, .ref (G.2.1 6)), (1, .int v5), (2, .int v11)] dX4_readSensor_114 rfl (by decide) rfl ?_
                refine iv_aload_n (pc := 115) C 1 dX4_readSensor_115 rfl rfl ?_
                refine iv_iconst (pc := 116) C (0 : Int32) dX4_readSensor_116 (by decide) ?_
                refine iv_bipush (pc := 117) C (100 : Int32) dX4_readSensor_117 (by decide) ?_
                obtain ⟨v21, m22, ev21, h⟩ := iw_b2e h
                refine iv_callV (pc := 119) (b := 6) (ci := 4) C [.int (0 : Int32), .int (100 : Int32)] (k_X4_readNumber l G hJ n (0 : Int32) (100 : Int32) m20 ev21) gX4_readSensor_X4_readNumber rfl qd_X4_readNumber ⟨rfl, rfl, Nat.le_of_ble_eq_true rfl, Nat.le_of_ble_eq_true rfl⟩ (iw_ix hJ (by decide)) iw_Eo6 rfl rfl rfl (Nat.le_of_ble_eq_true rfl) dX4_readSensor_119 ?_
                refine iv_istore (pc := 122) C [(4, .int v21), (3, .int v19), (0, .ref (G.2.1 6)), (1, .int v5), (2, .int v11)] dX4_readSensor_122 (by decide) rfl ?_
                refine iv_iload (pc := 124) C 0 dX4_readSensor_124 rfl ?_
                refine iv_iconst (pc := 126) C (-1 : Int32) dX4_readSensor_126 (by decide) ?_
                refine iv_icmp_ne (pc := 127) C 132 dX4_readSensor_127 (by decide) (fun h23 => ?_) (fun h23 => ?_)
                · replace h := iw_iff h23 h
                  refine iv_aload_n (pc := 132) C 2 dX4_readSensor_132 rfl rfl ?_
                  refine iv_getf (pc := 133) (T := TX4) (N := 7) (ci := 4) C 6 0 in_X4_readSensor_4 (iw_ix hJ (by decide)) iw_Eo6 rfl (by decide) lk_X4_readSensor_12 rfl rfl dX4_readSensor_133 ?_
                  refine iv_iload_n (pc := 136) C 3 dX4_readSensor_136 rfl rfl ?_
                  refine iv_iload_n (pc := 137) C 4 dX4_readSensor_137 rfl rfl ?_
                  refine iv_iload_n (pc := 138) C 1 dX4_readSensor_138 rfl rfl ?_
                  have vJ150 : ∀ (v24 : Int32), f_X4_readSensor_J150 v5 v11 m22 v24 = some (r, σ') → iw_V p l e rm_X4_readSensor s m ([.ref (G.2.1 6)] : List Value).toArray below meth c0 0 0 (MQ below (iw_Q (some (.int r)) G σ') ([.ref (G.2.1 6)] : List Value).toArray s 0 0 (iw_A G)) 5 G (iw_A G) m22 150 [] [.int v24, .int v11, .int v5, .ref (G.2.1 36)] := by
                    intro v24 h
                    unfold f_X4_readSensor_J150 at h
                    obtain ⟨v25, m26, ev25, h⟩ := iw_let2e h
                    refine iv_callV (pc := 150) (b := 36) (ci := 1) C [.int v5, .int v11, .int v24] (k_X1_appendSensor l G hJ 36 iw_net_36 v5 v11 v24 m22 ev25) gX4_readSensor_X1_appendSensor rfl qd_X1_appendSensor ⟨rfl, rfl, Nat.le_of_ble_eq_true rfl, Nat.le_of_ble_eq_true rfl⟩ (iw_ix hJ (iw_nl iw_net_36)) (iw_E1 (iw_nk iw_net_36)) rfl rfl rfl (Nat.le_of_ble_eq_true rfl) dX4_readSensor_150 ?_
                    refine iv_pop (pc := 153) C rfl dX4_readSensor_153 ?_
                    refine iv_iconst (pc := 154) C (1 : Int32) dX4_readSensor_154 (by decide) ?_
                    cases h
                    exact iv_zret C hr hlk rfl rfl dX4_readSensor_155
                  refine iv_if_eq (pc := 139) C 148 dX4_readSensor_139 (by decide) (fun h27 => ?_) (fun h27 => ?_)
                  · replace h := iw_ift h27 h
                    refine iv_iload (pc := 148) C 0 dX4_readSensor_148 rfl ?_
                    exact iv_sub [] rfl (vJ150 v21 h)
                  · replace h := iw_iff h27 h
                    refine iv_iload (pc := 142) C 0 dX4_readSensor_142 rfl ?_
                    refine iv_ineg (pc := 144) C dX4_readSensor_144 ?_
                    refine iv_goto (pc := 145) C 150 dX4_readSensor_145 (by decide) ?_
                    exact iv_sub [] rfl (vJ150 (-v21) h)
                · replace h := iw_ift h23 h
                  refine iv_iconst (pc := 130) C (0 : Int32) dX4_readSensor_130 (by decide) ?_
                  cases h
                  exact iv_zret C hr hlk rfl rfl dX4_readSensor_131
              have vJ113 : ∀ (m28 : iw_M), f_X4_readSensor_J113 n v5 v11 m28 = some (r, σ') → iw_V p l e rm_X4_readSensor s m ([.ref (G.2.1 6)] : List Value).toArray below meth c0 0 0 (MQ below (iw_Q (some (.int r)) G σ') ([.ref (G.2.1 6)] : List Value).toArray s 0 0 (iw_A G)) 5 G (iw_A G) m28 113 [(0, .ref (G.2.1 6)), (1, .int v5), (2, .int v11)] [] := by
                intro m28 h
                unfold f_X4_readSensor_J113 at h
                refine iv_iconst (pc := 113) C (0 : Int32) dX4_readSensor_113 (by decide) ?_
                exact iv_sub [0, 1, 2] rfl (vJ114 (0 : Int32) m28 h)
              refine iv_icmp_ne (pc := 97) C 113 dX4_readSensor_97 (by decide) (fun h29 => ?_) (fun h29 => ?_)
              · replace h := iw_iff h29 h
                exact iv_sub [2, 1, 0] rfl (vJ113 m18 h)
              · replace h := iw_ift h29 h
                refine iv_aload_n (pc := 100) C 2 dX4_readSensor_100 rfl rfl ?_
                refine iv_bipush (pc := 101) C (45 : Int32) dX4_readSensor_101 (by decide) ?_
                obtain ⟨v30, m31, ev30, h⟩ := iw_b2e h
                refine iv_callV (pc := 103) (b := 6) (ci := 4) C [.int (45 : Int32)] (k_X4_readSign l G hJ n (45 : Int32) m18 ev30) gX4_readSensor_X4_readSign rfl qd_X4_readSign ⟨rfl, rfl, Nat.le_of_ble_eq_true rfl, Nat.le_of_ble_eq_true rfl⟩ (iw_ix hJ (by decide)) iw_Eo6 rfl rfl rfl (Nat.le_of_ble_eq_true rfl) dX4_readSensor_103 ?_
                refine iv_if_eq (pc := 106) C 113 dX4_readSensor_106 (by decide) (fun h32 => ?_) (fun h32 => ?_)
                · replace h := iw_ift h32 h
                  exact iv_sub [2, 1, 0] rfl (vJ113 m31 h)
                · replace h := iw_iff h32 h
                  refine iv_iconst (pc := 109) C (1 : Int32) dX4_readSensor_109 (by decide) ?_
                  refine iv_goto (pc := 110) C 114 dX4_readSensor_110 (by decide) ?_
                  exact iv_sub [2, 1, 0] rfl (vJ114 (1 : Int32) m31 h)
            · replace h := iw_ift h16 h
              refine iv_iconst (pc := 89) C (0 : Int32) dX4_readSensor_89 (by decide) ?_
              cases h
              exact iv_zret C hr hlk rfl rfl dX4_readSensor_90
        · replace h := iw_ift h10 h
          refine iv_iconst (pc := 65) C (0 : Int32) dX4_readSensor_65 (by decide) ?_
          cases h
          exact iv_zret C hr hlk rfl rfl dX4_readSensor_66
    refine iv_if_eq (pc := 28) C 49 dX4_readSensor_28 (by decide) (fun h33 => ?_) (fun h33 => ?_)
    · replace h := iw_ift h33 h
      refine iv_iconst (pc := 49) C (-1 : Int32) dX4_readSensor_49 (by decide) ?_
      exact iv_sub [0] rfl (vJ50 (-1 : Int32) m4 h)
    · replace h := iw_iff h33 h
      refine iv_aload_n (pc := 31) C 0 dX4_readSensor_31 rfl rfl ?_
      refine iv_iconst (pc := 32) C (0 : Int32) dX4_readSensor_32 (by decide) ?_
      refine iv_aload_n (pc := 33) C 0 dX4_readSensor_33 rfl rfl ?_
      refine iv_getf (pc := 34) (T := TX4) (N := 7) (ci := 4) C 6 0 in_X4_readSensor_4 (iw_ix hJ (by decide)) iw_Eo6 rfl (by decide) lk_X4_readSensor_12 rfl rfl dX4_readSensor_34 ?_
      refine iv_iconst (pc := 37) C (0 : Int32) dX4_readSensor_37 (by decide) ?_
      obtain ⟨v34, ev34, h⟩ := iw_be h
      refine iv_callV (pc := 38) (b := 36) (ci := 1) C [.int (0 : Int32)] (k_X1_number l G hJ n 36 iw_net_36 (0 : Int32) m4 ev34) gX4_readSensor_X1_number rfl qd_X1_number ⟨rfl, rfl, Nat.le_of_ble_eq_true rfl, Nat.le_of_ble_eq_true rfl⟩ (iw_ix hJ (iw_nl iw_net_36)) (iw_E1 (iw_nk iw_net_36)) rfl rfl rfl (Nat.le_of_ble_eq_true rfl) dX4_readSensor_38 ?_
      refine iv_iconst (pc := 41) C (1 : Int32) dX4_readSensor_41 (by decide) ?_
      refine iv_isub (pc := 42) C dX4_readSensor_42 ?_
      obtain ⟨v35, m36, ev35, h⟩ := iw_b2e h
      refine iv_callV (pc := 43) (b := 6) (ci := 4) C [.int (0 : Int32), .int (v34 - (1 : Int32))] (k_X4_readNumber l G hJ n (0 : Int32) (v34 - (1 : Int32)) m4 ev35) gX4_readSensor_X4_readNumber rfl qd_X4_readNumber ⟨rfl, rfl, Nat.le_of_ble_eq_true rfl, Nat.le_of_ble_eq_true rfl⟩ (iw_ix hJ (by decide)) iw_Eo6 rfl rfl rfl (Nat.le_of_ble_eq_true rfl) dX4_readSensor_43 ?_
      refine iv_goto (pc := 46) C 50 dX4_readSensor_46 (by decide) ?_
      exact iv_sub [0] rfl (vJ50 v35 m36 h)
  · replace h := iw_iff h2 h
    refine iv_aload_n (pc := 13) C 0 dX4_readSensor_13 rfl rfl ?_
    refine iv_aload_n (pc := 14) C 0 dX4_readSensor_14 rfl rfl ?_
    refine iv_getf (pc := 15) (T := TX4) (N := 7) (ci := 4) C 6 5 in_X4_readSensor_4 (iw_ix hJ (by decide)) iw_Eo6 rfl (by decide) lk_X4_readSensor_34 rfl rfl dX4_readSensor_15 ?_
    obtain ⟨v37, m38, ev37, h⟩ := iw_let2e h
    refine iv_callV (pc := 18) (b := 6) (ci := 4) C [.int (σ 6 5)] (k_X4_refuse l G hJ (σ 6 5) σ ev37) gX4_readSensor_X4_refuse rfl qd_X4_refuse ⟨rfl, rfl, Nat.le_of_ble_eq_true rfl, Nat.le_of_ble_eq_true rfl⟩ (iw_ix hJ (by decide)) iw_Eo6 rfl rfl rfl (Nat.le_of_ble_eq_true rfl) dX4_readSensor_18 ?_
    cases h
    exact iv_zret C hr hlk rfl rfl dX4_readSensor_21
theorem qd_X4_readSensor : yX4_readSensor.cls = RX4 ∧ yX4_readSensor.cls ≠ "java/lang/invoke/MethodHandle" ∧ yX4_readSensor.cls ≠ "java/lang/invoke/VarHandle" ∧ (parseMethodDescriptor yX4_readSensor.desc).map (fun d => d.parameters.length) = some 0 := by decide +kernel
def f_X4_readLink_J87 (m12 : iw_M) : Option (Int32 × iw_M) :=
iw_let2 (f_X4_refuse (m12 6 6) m12) fun v14 m15 =>
some ((v14 &&& 1), m15)
def f_X4_readLink_J116 (v5 : Int32) (v11 : Int32) (v21 : Int32) (m22 : iw_M) : Option (Int32 × iw_M) :=
if v21 = (-1 : Int32) then
(some ((0 : Int32), m22))
else
(iw_let2 (f_X1_appendLink 36 v5 v11 v21 m22) fun v24 m25 =>
some ((1 : Int32), m25))
def f_X4_readLink (n : Nat) (σ : iw_M) : Option (Int32 × iw_M) :=
(f_X1_number n 36 (1 : Int32) σ).bind fun v1 =>
if v1 < (20 : Int32) then
((f_X1_number n 36 (0 : Int32) σ).bind fun v3 =>
iw_let (v3 - (1 : Int32)) fun v4 =>
iw_b2 (f_X4_readNumber n (0 : Int32) v4 σ) fun v5 m6 =>
if v5 = (-1 : Int32) then
(some ((0 : Int32), m6))
else
(iw_b2 (f_X4_readSign n (45 : Int32) m6) fun v8 m9 =>
if v8 = (0 : Int32) then
(some ((0 : Int32), m9))
else
(iw_b2 (f_X4_readNumber n (0 : Int32) v4 m9) fun v11 m12 =>
if v11 = (-1 : Int32) then
(some ((0 : Int32), m12))
else
(if v5 = v11 then
(f_X4_readLink_J87 m12)
else
((f_X1_areLinked n 36 v5 v11 m12).bind fun v17 =>
if v17 = (0 : Int32) then
(iw_b2 (f_X4_readSign n (58 : Int32) m12) fun v19 m20 =>
if v19 = (0 : Int32) then
(f_X4_readLink_J116 v5 v11 (-1 : Int32) m20)
else
(iw_b2 (f_X4_readNumber n (1 : Int32) (20 : Int32) m20) fun v27 m28 =>
f_X4_readLink_J116 v5 v11 v27 m28))
else
(f_X4_readLink_J87 m12))))))
else
(iw_let2 (f_X4_refuse (σ 6 5) σ) fun v29 m30 =>
some ((v29 &&& 1), m30))
abbrev rm_X4_readLink : Room := { frames := 3, cells := 0, slots := 0, locals := 66 }
theorem lk_X4_readLink_12 : Cond.fieldLink RX4 12 RX4 (TX4 0).2.1 (TX4 0).2.2.1 ∈ wsX4_readLink := by decide +kernel
theorem lk_X4_readLink_82 : Cond.fieldLink RX4 82 RX4 (TX4 6).2.1 (TX4 6).2.2.1 ∈ wsX4_readLink := by decide +kernel
theorem lk_X4_readLink_34 : Cond.fieldLink RX4 34 RX4 (TX4 5).2.1 (TX4 5).2.2.1 ∈ wsX4_readLink := by decide +kernel
theorem in_X4_readLink_4 : ∀ w ∈ u_ws RX4 TX4 7, w ∈ wsX4_readLink := by decide +kernel
set_option maxHeartbeats 4000000 in
set_option maxRecDepth 100000 in
theorem k_X4_readLink (l : Launch) (G : iw_G) (hJ : iw_JX G) (n : Nat) (σ : iw_M) {r : Int32} {σ' : iw_M} (h : f_X4_readLink n σ = some (r, σ')) : iw_Ct l yX4_readLink wsX4_readLink rm_X4_readLink G ([.ref (G.2.1 6)] : List Value) σ (some (.int r)) σ' := by
  refine iv_start (nL := 5) (own := RX4) (ret := (some .boolean)) (cc := cX4_readLink) (by decide +kernel) rfl rfl hJ.1 (Nat.le_of_ble_eq_true rfl) ?_
  intro p e s m below meth c0 C hr hlk
  refine iv_sub (lv' := [(0, .ref (G.2.1 6))]) [0] rfl ?_
  unfold f_X4_readLink at h
  refine iv_aload_n (pc := 0) C 0 dX4_readLink_0 rfl rfl ?_
  refine iv_getf (pc := 1) (T := TX4) (N := 7) (ci := 4) C 6 0 in_X4_readLink_4 (iw_ix hJ (by decide)) iw_Eo6 rfl (by decide) lk_X4_readLink_12 rfl rfl dX4_readLink_1 ?_
  refine iv_iconst (pc := 4) C (1 : Int32) dX4_readLink_4 (by decide) ?_
  obtain ⟨v1, ev1, h⟩ := iw_be h
  refine iv_callV (pc := 5) (b := 36) (ci := 1) C [.int (1 : Int32)] (k_X1_number l G hJ n 36 iw_net_36 (1 : Int32) σ ev1) gX4_readLink_X1_number rfl qd_X1_number ⟨rfl, rfl, Nat.le_of_ble_eq_true rfl, Nat.le_of_ble_eq_true rfl⟩ (iw_ix hJ (iw_nl iw_net_36)) (iw_E1 (iw_nk iw_net_36)) rfl rfl rfl (Nat.le_of_ble_eq_true rfl) dX4_readLink_5 ?_
  refine iv_bipush (pc := 8) C (20 : Int32) dX4_readLink_8 (by decide) ?_
  refine iv_icmp_lt (pc := 10) C 22 dX4_readLink_10 (by decide) (fun h2 => ?_) (fun h2 => ?_)
  · replace h := iw_ift h2 h
    refine iv_aload_n (pc := 22) C 0 dX4_readLink_22 rfl rfl ?_
    refine iv_getf (pc := 23) (T := TX4) (N := 7) (ci := 4) C 6 0 in_X4_readLink_4 (iw_ix hJ (by decide)) iw_Eo6 rfl (by decide) lk_X4_readLink_12 rfl rfl dX4_readLink_23 ?_
    refine iv_iconst (pc := 26) C (0 : Int32) dX4_readLink_26 (by decide) ?_
    obtain ⟨v3, ev3, h⟩ := iw_be h
    refine iv_callV (pc := 27) (b := 36) (ci := 1) C [.int (0 : Int32)] (k_X1_number l G hJ n 36 iw_net_36 (0 : Int32) σ ev3) gX4_readLink_X1_number rfl qd_X1_number ⟨rfl, rfl, Nat.le_of_ble_eq_true rfl, Nat.le_of_ble_eq_true rfl⟩ (iw_ix hJ (iw_nl iw_net_36)) (iw_E1 (iw_nk iw_net_36)) rfl rfl rfl (Nat.le_of_ble_eq_true rfl) dX4_readLink_27 ?_
    refine iv_iconst (pc := 30) C (1 : Int32) dX4_readLink_30 (by decide) ?_
    refine iv_isub (pc := 31) C dX4_readLink_31 ?_
    refine iv_topi (fun v4 ev4 => ?_)
    replace h := iw_lete ev4 h
    refine iv_istore_n (pc := 32) C [(1, .int v4), (0, .ref (G.2.1 6))] dX4_readLink_32 rfl (by decide) rfl ?_
    refine iv_aload_n (pc := 33) C 1 dX4_readLink_33 rfl rfl ?_
    refine iv_iconst (pc := 34) C (0 : Int32) dX4_readLink_34 (by decide) ?_
    refine iv_iload_n (pc := 35) C 0 dX4_readLink_35 rfl rfl ?_
    obtain ⟨v5, m6, ev5, h⟩ := iw_b2e h
    refine iv_callV (pc := 36) (b := 6) (ci := 4) C [.int (0 : Int32), .int v4] (k_X4_readNumber l G hJ n (0 : Int32) v4 σ ev5) gX4_readLink_X4_readNumber rfl qd_X4_readNumber ⟨rfl, rfl, Nat.le_of_ble_eq_true rfl, Nat.le_of_ble_eq_true rfl⟩ (iw_ix hJ (by decide)) iw_Eo6 rfl rfl rfl (Nat.le_of_ble_eq_true rfl) dX4_readLink_36 ?_
    refine iv_istore_n (pc := 39) C [(2, .int v5), (1, .int v4), (0, .ref (G.2.1 6))] dX4_readLink_39 rfl (by decide) rfl ?_
    refine iv_iload_n (pc := 40) C 0 dX4_readLink_40 rfl rfl ?_
    refine iv_iconst (pc := 41) C (-1 : Int32) dX4_readLink_41 (by decide) ?_
    refine iv_icmp_eq (pc := 42) C 54 dX4_readLink_42 (by decide) (fun h7 => ?_) (fun h7 => ?_)
    · replace h := iw_ift h7 h
      refine iv_iconst (pc := 54) C (0 : Int32) dX4_readLink_54 (by decide) ?_
      cases h
      exact iv_zret C hr hlk rfl rfl dX4_readLink_55
    · replace h := iw_iff h7 h
      refine iv_aload_n (pc := 45) C 2 dX4_readLink_45 rfl rfl ?_
      refine iv_bipush (pc := 46) C (45 : Int32) dX4_readLink_46 (by decide) ?_
      obtain ⟨v8, m9, ev8, h⟩ := iw_b2e h
      refine iv_callV (pc := 48) (b := 6) (ci := 4) C [.int (45 : Int32)] (k_X4_readSign l G hJ n (45 : Int32) m6 ev8) gX4_readLink_X4_readSign rfl qd_X4_readSign ⟨rfl, rfl, Nat.le_of_ble_eq_true rfl, Nat.le_of_ble_eq_true rfl⟩ (iw_ix hJ (by decide)) iw_Eo6 rfl rfl rfl (Nat.le_of_ble_eq_true rfl) dX4_readLink_48 ?_
      refine iv_if_ne (pc := 51) C 56 dX4_readLink_51 (by decide) (fun h10 => ?_) (fun h10 => ?_)
      · replace h := iw_iff h10 h
        refine iv_aload_n (pc := 56) C 2 dX4_readLink_56 rfl rfl ?_
        refine iv_iconst (pc := 57) C (0 : Int32) dX4_readLink_57 (by decide) ?_
        refine iv_iload_n (pc := 58) C 1 dX4_readLink_58 rfl rfl ?_
        obtain ⟨v11, m12, ev11, h⟩ := iw_b2e h
        refine iv_callV (pc := 59) (b := 6) (ci := 4) C [.int (0 : Int32), .int v4] (k_X4_readNumber l G hJ n (0 : Int32) v4 m9 ev11) gX4_readLink_X4_readNumber rfl qd_X4_readNumber ⟨rfl, rfl, Nat.le_of_ble_eq_true rfl, Nat.le_of_ble_eq_true rfl⟩ (iw_ix hJ (by decide)) iw_Eo6 rfl rfl rfl (Nat.le_of_ble_eq_true rfl) dX4_readLink_59 ?_
        refine iv_istore_n (pc := 62) C [(3, .int v11), (2, .int v5), (1, .int v4), (0, .ref (G.2.1 6))] dX4_readLink_62 rfl (by decide) rfl ?_
        refine iv_iload_n (pc := 63) C 0 dX4_readLink_63 rfl rfl ?_
        refine iv_iconst (pc := 64) C (-1 : Int32) dX4_readLink_64 (by decide) ?_
        refine iv_icmp_ne (pc := 65) C 70 dX4_readLink_65 (by decide) (fun h13 => ?_) (fun h13 => ?_)
        · replace h := iw_iff h13 h
          refine iv_iload_n (pc := 70) C 1 dX4_readLink_70 rfl rfl ?_
          refine iv_iload_n (pc := 71) C 0 dX4_readLink_71 rfl rfl ?_
          have vJ87 : f_X4_readLink_J87 m12  = some (r, σ') → iw_V p l e rm_X4_readLink s m ([.ref (G.2.1 6)] : List Value).toArray below meth c0 0 0 (MQ below (iw_Q (some (.int r)) G σ') ([.ref (G.2.1 6)] : List Value).toArray s 0 0 (iw_A G)) 5 G (iw_A G) m12 87 [(0, .ref (G.2.1 6))] [] := by
            intro h
            unfold f_X4_readLink_J87 at h
            refine iv_aload_n (pc := 87) C 0 dX4_readLink_87 rfl rfl ?_
            refine iv_aload_n (pc := 88) C 0 dX4_readLink_88 rfl rfl ?_
            refine iv_getf (pc := 89) (T := TX4) (N := 7) (ci := 4) C 6 6 in_X4_readLink_4 (iw_ix hJ (by decide)) iw_Eo6 rfl (by decide) lk_X4_readLink_82 rfl rfl dX4_readLink_89 ?_
            obtain ⟨v14, m15, ev14, h⟩ := iw_let2e h
            refine iv_callV (pc := 92) (b := 6) (ci := 4) C [.int (m12 6 6)] (k_X4_refuse l G hJ (m12 6 6) m12 ev14) gX4_readLink_X4_refuse rfl qd_X4_refuse ⟨rfl, rfl, Nat.le_of_ble_eq_true rfl, Nat.le_of_ble_eq_true rfl⟩ (iw_ix hJ (by decide)) iw_Eo6 rfl rfl rfl (Nat.le_of_ble_eq_true rfl) dX4_readLink_92 ?_
            cases h
            exact iv_zret C hr hlk rfl rfl dX4_readLink_95
          refine iv_icmp_eq (pc := 72) C 87 dX4_readLink_72 (by decide) (fun h16 => ?_) (fun h16 => ?_)
          · replace h := iw_ift h16 h
            exact iv_sub [3] rfl (vJ87 h)
          · replace h := iw_iff h16 h
            refine iv_aload_n (pc := 75) C 3 dX4_readLink_75 rfl rfl ?_
            refine iv_getf (pc := 76) (T := TX4) (N := 7) (ci := 4) C 6 0 in_X4_readLink_4 (iw_ix hJ (by decide)) iw_Eo6 rfl (by decide) lk_X4_readLink_12 rfl rfl dX4_readLink_76 ?_
            refine iv_iload_n (pc := 79) C 1 dX4_readLink_79 rfl rfl ?_
            refine iv_iload_n (pc := 80) C 0 dX4_readLink_80 rfl rfl ?_
            obtain ⟨v17, ev17, h⟩ := iw_be h
            refine iv_callV (pc := 81) (b := 36) (ci := 1) C [.int v5, .int v11] (k_X1_areLinked l G hJ n 36 iw_net_36 v5 v11 m12 ev17) gX4_readLink_X1_areLinked rfl qd_X1_areLinked ⟨rfl, rfl, Nat.le_of_ble_eq_true rfl, Nat.le_of_ble_eq_true rfl⟩ (iw_ix hJ (iw_nl iw_net_36)) (iw_E1 (iw_nk iw_net_36)) rfl rfl rfl (Nat.le_of_ble_eq_true rfl) dX4_readLink_81 ?_
            refine iv_if_eq (pc := 84) C 96 dX4_readLink_84 (by decide) (fun h18 => ?_) (fun h18 => ?_)
            · replace h := iw_ift h18 h
              refine iv_aload_n (pc := 96) C 3 dX4_readLink_96 rfl rfl ?_
              refine iv_bipush (pc := 97) C (58 : Int32) dX4_readLink_97 (by decide) ?_
              obtain ⟨v19, m20, ev19, h⟩ := iw_b2e h
              refine iv_callV (pc := 99) (b := 6) (ci := 4) C [.int (58 : Int32)] (k_X4_readSign l G hJ n (58 : Int32) m12 ev19) gX4_readLink_X4_readSign rfl qd_X4_readSign ⟨rfl, rfl, Nat.le_of_ble_eq_true rfl, Nat.le_of_ble_eq_true rfl⟩ (iw_ix hJ (by decide)) iw_Eo6 rfl rfl rfl (Nat.le_of_ble_eq_true rfl) dX4_readLink_99 ?_
              have vJ116 : ∀ (v21 : Int32) (m22 : iw_M), f_X4_readLink_J116 v5 v11 v21 m22 = some (r, σ') → iw_V p l e rm_X4_readLink s m ([.ref (G.2.1 6)] : List Value).toArray below meth c0 0 0 (MQ below (iw_Q (some (.int r)) G σ') ([.ref (G.2.1 6)] : List Value).toArray s 0 0 (iw_A G)) 5 G (iw_A G) m22 116 [(0, .ref (G.2.1 6)), (2, .int v5), (3, .int v11)] [.int v21] := by
                intro v21 m22 h
                unfold f_X4_readLink_J116 at h
                refine iv_istore (pc := 116) C [(4, .int v21), (0, .ref (G.2.1 6)), (2, .int v5), (3, .int v11)] dX4_readLink_116 (by decide) rfl ?_
                refine iv_iload (pc := 118) C 0 dX4_readLink_118 rfl ?_
                refine iv_iconst (pc := 120) C (-1 : Int32) dX4_readLink_120 (by decide) ?_
                refine iv_icmp_ne (pc := 121) C 126 dX4_readLink_121 (by decide) (fun h23 => ?_) (fun h23 => ?_)
                · replace h := iw_iff h23 h
                  refine iv_aload_n (pc := 126) C 1 dX4_readLink_126 rfl rfl ?_
                  refine iv_getf (pc := 127) (T := TX4) (N := 7) (ci := 4) C 6 0 in_X4_readLink_4 (iw_ix hJ (by decide)) iw_Eo6 rfl (by decide) lk_X4_readLink_12 rfl rfl dX4_readLink_127 ?_
                  refine iv_iload_n (pc := 130) C 2 dX4_readLink_130 rfl rfl ?_
                  refine iv_iload_n (pc := 131) C 3 dX4_readLink_131 rfl rfl ?_
                  refine iv_iload (pc := 132) C 0 dX4_readLink_132 rfl ?_
                  obtain ⟨v24, m25, ev24, h⟩ := iw_let2e h
                  refine iv_callV (pc := 134) (b := 36) (ci := 1) C [.int v5, .int v11, .int v21] (k_X1_appendLink l G hJ 36 iw_net_36 v5 v11 v21 m22 ev24) gX4_readLink_X1_appendLink rfl qd_X1_appendLink ⟨rfl, rfl, Nat.le_of_ble_eq_true rfl, Nat.le_of_ble_eq_true rfl⟩ (iw_ix hJ (iw_nl iw_net_36)) (iw_E1 (iw_nk iw_net_36)) rfl rfl rfl (Nat.le_of_ble_eq_true rfl) dX4_readLink_134 ?_
                  refine iv_pop (pc := 137) C rfl dX4_readLink_137 ?_
                  refine iv_iconst (pc := 138) C (1 : Int32) dX4_readLink_138 (by decide) ?_
                  cases h
                  exact iv_zret C hr hlk rfl rfl dX4_readLink_139
                · replace h := iw_ift h23 h
                  refine iv_iconst (pc := 124) C (0 : Int32) dX4_readLink_124 (by decide) ?_
                  cases h
                  exact iv_zret C hr hlk rfl rfl dX4_readLink_125
              refine iv_if_eq (pc := 102) C 115 dX4_readLink_102 (by decide) (fun h26 => ?_) (fun h26 => ?_)
              · replace h := iw_ift h26 h
                refine iv_iconst (pc := 115) C (-1 : Int32) dX4_readLink_115 (by decide) ?_
                exact iv_sub [3, 1, 0] rfl (vJ116 (-1 : Int32) m20 h)
              · replace h := iw_iff h26 h
                refine iv_aload_n (pc := 105) C 3 dX4_readLink_105 rfl rfl ?_
                refine iv_iconst (pc := 106) C (1 : Int32) dX4_readLink_106 (by decide) ?_
                refine iv_bipush (pc := 107) C (20 : Int32) dX4_readLink_107 (by decide) ?_
                obtain ⟨v27, m28, ev27, h⟩ := iw_b2e h
                refine iv_callV (pc := 109) (b := 6) (ci := 4) C [.int (1 : Int32), .int (20 : Int32)] (k_X4_readNumber l G hJ n (1 : Int32) (20 : Int32) m20 ev27) gX4_readLink_X4_readNumber rfl qd_X4_readNumber ⟨rfl, rfl, Nat.le_of_ble_eq_true rfl, Nat.le_of_ble_eq_true rfl⟩ (iw_ix hJ (by decide)) iw_Eo6 rfl rfl rfl (Nat.le_of_ble_eq_true rfl) dX4_readLink_109 ?_
                refine iv_goto (pc := 112) C 116 dX4_readLink_112 (by decide) ?_
                exact iv_sub [3, 1, 0] rfl (vJ116 v27 m28 h)
            · replace h := iw_iff h18 h
              exact iv_sub [3] rfl (vJ87 h)
        · replace h := iw_ift h13 h
          refine iv_iconst (pc := 68) C (0 : Int32) dX4_readLink_68 (by decide) ?_
          cases h
          exact iv_zret C hr hlk rfl rfl dX4_readLink_69
      · replace h := iw_ift h10 h
        refine iv_iconst (pc := 54) C (0 : Int32) dX4_readLink_54 (by decide) ?_
        cases h
        exact iv_zret C hr hlk rfl rfl dX4_readLink_55
  · replace h := iw_iff h2 h
    refine iv_aload_n (pc := 13) C 0 dX4_readLink_13 rfl rfl ?_
    refine iv_aload_n (pc := 14) C 0 dX4_readLink_14 rfl rfl ?_
    refine iv_getf (pc := 15) (T := TX4) (N := 7) (ci := 4) C 6 5 in_X4_readLink_4 (iw_ix hJ (by decide)) iw_Eo6 rfl (by decide) lk_X4_readLink_34 rfl rfl dX4_readLink_15 ?_
    obtain ⟨v29, m30, ev29, h⟩ := iw_let2e h
    refine iv_callV (pc := 18) (b := 6) (ci := 4) C [.int (σ 6 5)] (k_X4_refuse l G hJ (σ 6 5) σ ev29) gX4_readLink_X4_refuse rfl qd_X4_refuse ⟨rfl, rfl, Nat.le_of_ble_eq_true rfl, Nat.le_of_ble_eq_true rfl⟩ (iw_ix hJ (by decide)) iw_Eo6 rfl rfl rfl (Nat.le_of_ble_eq_true rfl) dX4_readLink_18 ?_
    cases h
    exact iv_zret C hr hlk rfl rfl dX4_readLink_21
theorem qd_X4_readLink : yX4_readLink.cls = RX4 ∧ yX4_readLink.cls ≠ "java/lang/invoke/MethodHandle" ∧ yX4_readLink.cls ≠ "java/lang/invoke/VarHandle" ∧ (parseMethodDescriptor yX4_readLink.desc).map (fun d => d.parameters.length) = some 0 := by decide +kernel
def f_X4_readItem (n : Nat) (σ : iw_M) : Option (Int32 × iw_M) :=
iw_b2 (f_X4_nextCode n σ) fun v1 m2 =>
if v1 = (110 : Int32) then
(iw_b2 (f_X4_readNode n m2) fun v12 m13 =>
some ((v12 &&& 1), m13))
else
(if v1 = (115 : Int32) then
(iw_b2 (f_X4_readSensor n m2) fun v10 m11 =>
some ((v10 &&& 1), m11))
else
(if (f_X4_isDigit v1) = (0 : Int32) then
(iw_let2 (f_X4_refuse (m2 6 5) m2) fun v6 m7 =>
some ((v6 &&& 1), m7))
else
(iw_b2 (f_X4_readLink n m2) fun v8 m9 =>
some ((v8 &&& 1), m9))))
abbrev rm_X4_readItem : Room := { frames := 4, cells := 0, slots := 0, locals := 90 }
theorem lk_X4_readItem_34 : Cond.fieldLink RX4 34 RX4 (TX4 5).2.1 (TX4 5).2.2.1 ∈ wsX4_readItem := by decide +kernel
theorem in_X4_readItem_4 : ∀ w ∈ u_ws RX4 TX4 7, w ∈ wsX4_readItem := by decide +kernel
set_option maxHeartbeats 4000000 in
set_option maxRecDepth 100000 in
theorem k_X4_readItem (l : Launch) (G : iw_G) (hJ : iw_JX G) (n : Nat) (σ : iw_M) {r : Int32} {σ' : iw_M} (h : f_X4_readItem n σ = some (r, σ')) : iw_Ct l yX4_readItem wsX4_readItem rm_X4_readItem G ([.ref (G.2.1 6)] : List Value) σ (some (.int r)) σ' := by
  refine iv_start (nL := 2) (own := RX4) (ret := (some .boolean)) (cc := cX4_readItem) (by decide +kernel) rfl rfl hJ.1 (Nat.le_of_ble_eq_true rfl) ?_
  intro p e s m below meth c0 C hr hlk
  refine iv_sub (lv' := [(0, .ref (G.2.1 6))]) [0] rfl ?_
  unfold f_X4_readItem at h
  refine iv_aload_n (pc := 0) C 0 dX4_readItem_0 rfl rfl ?_
  obtain ⟨v1, m2, ev1, h⟩ := iw_b2e h
  refine iv_callV (pc := 1) (b := 6) (ci := 4) C [] (k_X4_nextCode l G hJ n σ ev1) gX4_readItem_X4_nextCode rfl qd_X4_nextCode ⟨rfl, rfl, Nat.le_of_ble_eq_true rfl, Nat.le_of_ble_eq_true rfl⟩ (iw_ix hJ (by decide)) iw_Eo6 rfl rfl rfl (Nat.le_of_ble_eq_true rfl) dX4_readItem_1 ?_
  refine iv_istore_n (pc := 4) C [(1, .int v1), (0, .ref (G.2.1 6))] dX4_readItem_4 rfl (by decide) rfl ?_
  refine iv_iload_n (pc := 5) C 0 dX4_readItem_5 rfl rfl ?_
  refine iv_bipush (pc := 6) C (110 : Int32) dX4_readItem_6 (by decide) ?_
  refine iv_icmp_ne (pc := 8) C 16 dX4_readItem_8 (by decide) (fun h3 => ?_) (fun h3 => ?_)
  · replace h := iw_iff h3 h
    refine iv_iload_n (pc := 16) C 0 dX4_readItem_16 rfl rfl ?_
    refine iv_bipush (pc := 17) C (115 : Int32) dX4_readItem_17 (by decide) ?_
    refine iv_icmp_ne (pc := 19) C 27 dX4_readItem_19 (by decide) (fun h4 => ?_) (fun h4 => ?_)
    · replace h := iw_iff h4 h
      refine iv_iload_n (pc := 27) C 0 dX4_readItem_27 rfl rfl ?_
      refine iv_callS (pc := 28) C [.int v1] (k_X4_isDigit l G hJ v1 m2 rfl) gX4_readItem_X4_isDigit rfl qd_X4_isDigit ⟨rfl, rfl, Nat.le_of_ble_eq_true rfl, Nat.le_of_ble_eq_true rfl⟩ rfl rfl (Nat.le_of_ble_eq_true rfl) dX4_readItem_28 ?_
      refine iv_if_eq (pc := 31) C 41 dX4_readItem_31 (by decide) (fun h5 => ?_) (fun h5 => ?_)
      · replace h := iw_ift h5 h
        refine iv_aload_n (pc := 41) C 1 dX4_readItem_41 rfl rfl ?_
        refine iv_aload_n (pc := 42) C 1 dX4_readItem_42 rfl rfl ?_
        refine iv_getf (pc := 43) (T := TX4) (N := 7) (ci := 4) C 6 5 in_X4_readItem_4 (iw_ix hJ (by decide)) iw_Eo6 rfl (by decide) lk_X4_readItem_34 rfl rfl dX4_readItem_43 ?_
        obtain ⟨v6, m7, ev6, h⟩ := iw_let2e h
        refine iv_callV (pc := 46) (b := 6) (ci := 4) C [.int (m2 6 5)] (k_X4_refuse l G hJ (m2 6 5) m2 ev6) gX4_readItem_X4_refuse rfl qd_X4_refuse ⟨rfl, rfl, Nat.le_of_ble_eq_true rfl, Nat.le_of_ble_eq_true rfl⟩ (iw_ix hJ (by decide)) iw_Eo6 rfl rfl rfl (Nat.le_of_ble_eq_true rfl) dX4_readItem_46 ?_
        cases h
        exact iv_zret C hr hlk rfl rfl dX4_readItem_49
      · replace h := iw_iff h5 h
        refine iv_aload_n (pc := 34) C 1 dX4_readItem_34 rfl rfl ?_
        obtain ⟨v8, m9, ev8, h⟩ := iw_b2e h
        refine iv_callV (pc := 35) (b := 6) (ci := 4) C [] (k_X4_readLink l G hJ n m2 ev8) gX4_readItem_X4_readLink rfl qd_X4_readLink ⟨rfl, rfl, Nat.le_of_ble_eq_true rfl, Nat.le_of_ble_eq_true rfl⟩ (iw_ix hJ (by decide)) iw_Eo6 rfl rfl rfl (Nat.le_of_ble_eq_true rfl) dX4_readItem_35 ?_
        refine iv_goto (pc := 38) C 49 dX4_readItem_38 (by decide) ?_
        cases h
        exact iv_zret C hr hlk rfl rfl dX4_readItem_49
    · replace h := iw_ift h4 h
      refine iv_aload_n (pc := 22) C 1 dX4_readItem_22 rfl rfl ?_
      obtain ⟨v10, m11, ev10, h⟩ := iw_b2e h
      refine iv_callV (pc := 23) (b := 6) (ci := 4) C [] (k_X4_readSensor l G hJ n m2 ev10) gX4_readItem_X4_readSensor rfl qd_X4_readSensor ⟨rfl, rfl, Nat.le_of_ble_eq_true rfl, Nat.le_of_ble_eq_true rfl⟩ (iw_ix hJ (by decide)) iw_Eo6 rfl rfl rfl (Nat.le_of_ble_eq_true rfl) dX4_readItem_23 ?_
      cases h
      exact iv_zret C hr hlk rfl rfl dX4_readItem_26
  · replace h := iw_ift h3 h
    refine iv_aload_n (pc := 11) C 1 dX4_readItem_11 rfl rfl ?_
    obtain ⟨v12, m13, ev12, h⟩ := iw_b2e h
    refine iv_callV (pc := 12) (b := 6) (ci := 4) C [] (k_X4_readNode l G hJ n m2 ev12) gX4_readItem_X4_readNode rfl qd_X4_readNode ⟨rfl, rfl, Nat.le_of_ble_eq_true rfl, Nat.le_of_ble_eq_true rfl⟩ (iw_ix hJ (by decide)) iw_Eo6 rfl rfl rfl (Nat.le_of_ble_eq_true rfl) dX4_readItem_12 ?_
    cases h
    exact iv_zret C hr hlk rfl rfl dX4_readItem_15
theorem qd_X4_readItem : yX4_readItem.cls = RX4 ∧ yX4_readItem.cls ≠ "java/lang/invoke/MethodHandle" ∧ yX4_readItem.cls ≠ "java/lang/invoke/VarHandle" ∧ (parseMethodDescriptor yX4_readItem.desc).map (fun d => d.parameters.length) = some 0 := by decide +kernel
def f_X4_read_X72_20 (m4 : iw_M) : Option (Int32 × iw_M) :=
iw_let2 (f_X4_refuse (m4 6 5) m4) fun v5 m6 =>
some ((v5 &&& 1), m6)
def f_X4_read_B20 (n : Nat) (k20 : iw_M → Option (Int32 × iw_M)) (r20 : Int32 → iw_M → Option (Int32 × iw_M)) (v7 : Int32) (m8 : iw_M) : Option (Int32 × iw_M) :=
if (120 : Int32) ≤ v7 then
(k20 m8)
else
(iw_b2 (f_X4_readItem n m8) fun v10 m11 =>
if v10 = (0 : Int32) then
(some ((0 : Int32), m11))
else
(iw_let (iw_up m11 6 3 ((m11 6 3) + (1 : Int32))) fun m13 =>
iw_b2 (f_X4_nextCode n m13) fun v14 m15 =>
if v14 = (-1 : Int32) then
(some ((1 : Int32), m15))
else
(iw_b2 (f_X4_readSign n (59 : Int32) m15) fun v17 m18 =>
if v17 = (0 : Int32) then
(some ((0 : Int32), m18))
else
(iw_let (v7 + (1 : Int32)) fun v20 =>
r20 v20 m18))))
def f_X4_read_L20 (n : Nat) (k20 : iw_M → Option (Int32 × iw_M)) (nn : Nat) : Int32 → iw_M → Option (Int32 × iw_M) :=
iw_it (fun r20 => f_X4_read_B20 n k20 r20) (fun _ _ => none) nn
def f_X4_read (n : Nat) (c1 : Nat) (σ : iw_M) : Option (Int32 × iw_M) :=
iw_let (f_X1_copyFrom 36 c1 σ) fun m1 =>
iw_let (iw_up m1 6 5 (0 : Int32)) fun m2 =>
iw_let (iw_up m2 6 3 (0 : Int32)) fun m3 =>
f_X4_read_L20 n (f_X4_read_X72_20) n (0 : Int32) m3
abbrev rm_X4_read : Room := { frames := 5, cells := 0, slots := 0, locals := 111 }
theorem lk_X4_read_12 : Cond.fieldLink RX4 12 RX4 (TX4 0).2.1 (TX4 0).2.2.1 ∈ wsX4_read := by decide +kernel
theorem lk_X4_read_34 : Cond.fieldLink RX4 34 RX4 (TX4 5).2.1 (TX4 5).2.2.1 ∈ wsX4_read := by decide +kernel
theorem lk_X4_read_37 : Cond.fieldLink RX4 37 RX4 (TX4 3).2.1 (TX4 3).2.2.1 ∈ wsX4_read := by decide +kernel
theorem in_X4_read_4 : ∀ w ∈ u_ws RX4 TX4 7, w ∈ wsX4_read := by decide +kernel
set_option maxHeartbeats 4000000 in
set_option maxRecDepth 100000 in
theorem k_X4_read (l : Launch) (G : iw_G) (hJ : iw_JX G) (n : Nat) (c1 : Nat) (hc1 : iw_net c1) (σ : iw_M) {r : Int32} {σ' : iw_M} (h : f_X4_read n c1 σ = some (r, σ')) : iw_Ct l yX4_read wsX4_read rm_X4_read G ([.ref (G.2.1 6), .ref (G.2.1 c1)] : List Value) σ (some (.int r)) σ' := by
  refine iv_start (nL := 3) (own := RX4) (ret := (some .boolean)) (cc := cX4_read) (by decide +kernel) rfl rfl hJ.1 (Nat.le_of_ble_eq_true rfl) ?_
  intro p e s m below meth c0 C hr hlk
  refine iv_sub (lv' := [(0, .ref (G.2.1 6)), (1, .ref (G.2.1 c1))]) [0, 1] rfl ?_
  unfold f_X4_read at h
  refine iv_aload_n (pc := 0) C 0 dX4_read_0 rfl rfl ?_
  refine iv_getf (pc := 1) (T := TX4) (N := 7) (ci := 4) C 6 0 in_X4_read_4 (iw_ix hJ (by decide)) iw_Eo6 rfl (by decide) lk_X4_read_12 rfl rfl dX4_read_1 ?_
  refine iv_aload_n (pc := 4) C 1 dX4_read_4 rfl rfl ?_
  refine iv_callV (pc := 5) (b := 36) (ci := 1) C [.ref (G.2.1 c1)] (k_X1_copyFrom l G hJ 36 iw_net_36 c1 hc1 σ rfl) gX4_read_X1_copyFrom rfl qd_X1_copyFrom ⟨rfl, rfl, Nat.le_of_ble_eq_true rfl, Nat.le_of_ble_eq_true rfl⟩ (iw_ix hJ (iw_nl iw_net_36)) (iw_E1 (iw_nk iw_net_36)) rfl rfl rfl (Nat.le_of_ble_eq_true rfl) dX4_read_5 ?_
  refine iv_topm (fun m1 em1 => ?_)
  replace h := iw_lete em1 h
  refine iv_aload_n (pc := 8) C 0 dX4_read_8 rfl rfl ?_
  refine iv_iconst (pc := 9) C (0 : Int32) dX4_read_9 (by decide) ?_
  refine iv_putf (pc := 10) (T := TX4) (N := 7) (ci := 4) C 6 5 (iw_up m1 6 5 (0 : Int32)) in_X4_read_4 (iw_ix hJ (by decide)) iw_Eo6 tyX4_ok nmX4 rfl (by decide) lk_X4_read_34 rfl rfl (tyX4_ok 5 (by decide)) rfl rfl (Nat.le_of_ble_eq_true rfl) rfl (fun b hb => iw_up_ne hb) dX4_read_10 ?_
  refine iv_topm (fun m2 em2 => ?_)
  replace h := iw_lete em2 h
  refine iv_aload_n (pc := 13) C 0 dX4_read_13 rfl rfl ?_
  refine iv_iconst (pc := 14) C (0 : Int32) dX4_read_14 (by decide) ?_
  refine iv_putf (pc := 15) (T := TX4) (N := 7) (ci := 4) C 6 3 (iw_up m2 6 3 (0 : Int32)) in_X4_read_4 (iw_ix hJ (by decide)) iw_Eo6 tyX4_ok nmX4 rfl (by decide) lk_X4_read_37 rfl rfl (tyX4_ok 3 (by decide)) rfl rfl (Nat.le_of_ble_eq_true rfl) rfl (fun b hb => iw_up_ne hb) dX4_read_15 ?_
  refine iv_topm (fun m3 em3 => ?_)
  replace h := iw_lete em3 h
  refine iv_iconst (pc := 18) C (0 : Int32) dX4_read_18 (by decide) ?_
  refine iv_istore_n (pc := 19) C [(2, .int (0 : Int32)), (0, .ref (G.2.1 6)), (1, .ref (G.2.1 c1))] dX4_read_19 rfl (by decide) rfl ?_
  have vX20 : ∀ (m4 : iw_M), f_X4_read_X72_20 m4 = some (r, σ') → iw_V p l e rm_X4_read s m ([.ref (G.2.1 6), .ref (G.2.1 c1)] : List Value).toArray below meth c0 0 0 (MQ below (iw_Q (some (.int r)) G σ') ([.ref (G.2.1 6), .ref (G.2.1 c1)] : List Value).toArray s 0 0 (iw_A G)) 3 G (iw_A G) m4 72 [(0, .ref (G.2.1 6))] [] := by
    intro m4 h
    unfold f_X4_read_X72_20 at h
    refine iv_aload_n (pc := 72) C 0 dX4_read_72 rfl rfl ?_
    refine iv_aload_n (pc := 73) C 0 dX4_read_73 rfl rfl ?_
    refine iv_getf (pc := 74) (T := TX4) (N := 7) (ci := 4) C 6 5 in_X4_read_4 (iw_ix hJ (by decide)) iw_Eo6 rfl (by decide) lk_X4_read_34 rfl rfl dX4_read_74 ?_
    obtain ⟨v5, m6, ev5, h⟩ := iw_let2e h
    refine iv_callV (pc := 77) (b := 6) (ci := 4) C [.int (m4 6 5)] (k_X4_refuse l G hJ (m4 6 5) m4 ev5) gX4_read_X4_refuse rfl qd_X4_refuse ⟨rfl, rfl, Nat.le_of_ble_eq_true rfl, Nat.le_of_ble_eq_true rfl⟩ (iw_ix hJ (by decide)) iw_Eo6 rfl rfl rfl (Nat.le_of_ble_eq_true rfl) dX4_read_77 ?_
    cases h
    exact iv_zret C hr hlk rfl rfl dX4_read_80
  have vB20 : ∀ (k20 : iw_M → Option (Int32 × iw_M)) (r20 : Int32 → iw_M → Option (Int32 × iw_M)), (∀ (m4 : iw_M), k20 m4 = some (r, σ') → iw_V p l e rm_X4_read s m ([.ref (G.2.1 6), .ref (G.2.1 c1)] : List Value).toArray below meth c0 0 0 (MQ below (iw_Q (some (.int r)) G σ') ([.ref (G.2.1 6), .ref (G.2.1 c1)] : List Value).toArray s 0 0 (iw_A G)) 3 G (iw_A G) m4 72 [(0, .ref (G.2.1 6))] []) → (∀ (v7 : Int32) (m8 : iw_M), r20 v7 m8 = some (r, σ') → iw_V p l e rm_X4_read s m ([.ref (G.2.1 6), .ref (G.2.1 c1)] : List Value).toArray below meth c0 0 0 (MQ below (iw_Q (some (.int r)) G σ') ([.ref (G.2.1 6), .ref (G.2.1 c1)] : List Value).toArray s 0 0 (iw_A G)) 3 G (iw_A G) m8 20 [(0, .ref (G.2.1 6)), (2, .int v7)] []) → ∀ (v7 : Int32) (m8 : iw_M), f_X4_read_B20 n k20 r20 v7 m8 = some (r, σ') → iw_V p l e rm_X4_read s m ([.ref (G.2.1 6), .ref (G.2.1 c1)] : List Value).toArray below meth c0 0 0 (MQ below (iw_Q (some (.int r)) G σ') ([.ref (G.2.1 6), .ref (G.2.1 c1)] : List Value).toArray s 0 0 (iw_A G)) 3 G (iw_A G) m8 20 [(0, .ref (G.2.1 6)), (2, .int v7)] [] := by
    intro k20 r20 hk20 hr20 v7 m8 h
    unfold f_X4_read_B20 at h
    refine iv_iload_n (pc := 20) C 1 dX4_read_20 rfl rfl ?_
    refine iv_bipush (pc := 21) C (120 : Int32) dX4_read_21 (by decide) ?_
    refine iv_icmp_ge (pc := 23) C 72 dX4_read_23 (by decide) (fun h9 => ?_) (fun h9 => ?_)
    · replace h := iw_ift h9 h
      exact iv_sub [0] rfl (hk20 m8 h)
    · replace h := iw_iff h9 h
      refine iv_aload_n (pc := 26) C 0 dX4_read_26 rfl rfl ?_
      obtain ⟨v10, m11, ev10, h⟩ := iw_b2e h
      refine iv_callV (pc := 27) (b := 6) (ci := 4) C [] (k_X4_readItem l G hJ n m8 ev10) gX4_read_X4_readItem rfl qd_X4_readItem ⟨rfl, rfl, Nat.le_of_ble_eq_true rfl, Nat.le_of_ble_eq_true rfl⟩ (iw_ix hJ (by decide)) iw_Eo6 rfl rfl rfl (Nat.le_of_ble_eq_true rfl) dX4_read_27 ?_
      refine iv_if_ne (pc := 30) C 35 dX4_read_30 (by decide) (fun h12 => ?_) (fun h12 => ?_)
      · replace h := iw_iff h12 h
        refine iv_aload_n (pc := 35) C 0 dX4_read_35 rfl rfl ?_
        refine iv_dup (pc := 36) C rfl dX4_read_36 ?_
        refine iv_getf (pc := 37) (T := TX4) (N := 7) (ci := 4) C 6 3 in_X4_read_4 (iw_ix hJ (by decide)) iw_Eo6 rfl (by decide) lk_X4_read_37 rfl rfl dX4_read_37 ?_
        refine iv_iconst (pc := 40) C (1 : Int32) dX4_read_40 (by decide) ?_
        refine iv_iadd (pc := 41) C dX4_read_41 ?_
        refine iv_putf (pc := 42) (T := TX4) (N := 7) (ci := 4) C 6 3 (iw_up m11 6 3 ((m11 6 3) + (1 : Int32))) in_X4_read_4 (iw_ix hJ (by decide)) iw_Eo6 tyX4_ok nmX4 rfl (by decide) lk_X4_read_37 rfl rfl (tyX4_ok 3 (by decide)) rfl rfl (Nat.le_of_ble_eq_true rfl) rfl (fun b hb => iw_up_ne hb) dX4_read_42 ?_
        refine iv_topm (fun m13 em13 => ?_)
        replace h := iw_lete em13 h
        refine iv_aload_n (pc := 45) C 0 dX4_read_45 rfl rfl ?_
        obtain ⟨v14, m15, ev14, h⟩ := iw_b2e h
        refine iv_callV (pc := 46) (b := 6) (ci := 4) C [] (k_X4_nextCode l G hJ n m13 ev14) gX4_read_X4_nextCode rfl qd_X4_nextCode ⟨rfl, rfl, Nat.le_of_ble_eq_true rfl, Nat.le_of_ble_eq_true rfl⟩ (iw_ix hJ (by decide)) iw_Eo6 rfl rfl rfl (Nat.le_of_ble_eq_true rfl) dX4_read_46 ?_
        refine iv_iconst (pc := 49) C (-1 : Int32) dX4_read_49 (by decide) ?_
        refine iv_icmp_ne (pc := 50) C 55 dX4_read_50 (by decide) (fun h16 => ?_) (fun h16 => ?_)
        · replace h := iw_iff h16 h
          refine iv_aload_n (pc := 55) C 0 dX4_read_55 rfl rfl ?_
          refine iv_bipush (pc := 56) C (59 : Int32) dX4_read_56 (by decide) ?_
          obtain ⟨v17, m18, ev17, h⟩ := iw_b2e h
          refine iv_callV (pc := 58) (b := 6) (ci := 4) C [.int (59 : Int32)] (k_X4_readSign l G hJ n (59 : Int32) m15 ev17) gX4_read_X4_readSign rfl qd_X4_readSign ⟨rfl, rfl, Nat.le_of_ble_eq_true rfl, Nat.le_of_ble_eq_true rfl⟩ (iw_ix hJ (by decide)) iw_Eo6 rfl rfl rfl (Nat.le_of_ble_eq_true rfl) dX4_read_58 ?_
          refine iv_if_ne (pc := 61) C 66 dX4_read_61 (by decide) (fun h19 => ?_) (fun h19 => ?_)
          · replace h := iw_iff h19 h
            obtain ⟨v20, ev20⟩ : ∃ y : Int32, y = v7 + (1 : Int32) := ⟨_, rfl⟩
            replace h := iw_lete ev20 h
            refine iv_iinc (pc := 66) C 1 v20 [(2, .int v20), (0, .ref (G.2.1 6))] dX4_read_66 rfl (by rw [ev20]; rfl) (by decide) rfl ?_
            refine iv_goto (pc := 69) C 20 dX4_read_69 (by decide) ?_
            exact iv_sub [1, 0] rfl (hr20 v20 m18 h)
          · replace h := iw_ift h19 h
            refine iv_iconst (pc := 64) C (0 : Int32) dX4_read_64 (by decide) ?_
            cases h
            exact iv_zret C hr hlk rfl rfl dX4_read_65
        · replace h := iw_ift h16 h
          refine iv_iconst (pc := 53) C (1 : Int32) dX4_read_53 (by decide) ?_
          cases h
          exact iv_zret C hr hlk rfl rfl dX4_read_54
      · replace h := iw_ift h12 h
        refine iv_iconst (pc := 33) C (0 : Int32) dX4_read_33 (by decide) ?_
        cases h
        exact iv_zret C hr hlk rfl rfl dX4_read_34
  have vL20 : ∀ (nn : Nat) (v7 : Int32) (m8 : iw_M), f_X4_read_L20 n (f_X4_read_X72_20) nn v7 m8 = some (r, σ') → iw_V p l e rm_X4_read s m ([.ref (G.2.1 6), .ref (G.2.1 c1)] : List Value).toArray below meth c0 0 0 (MQ below (iw_Q (some (.int r)) G σ') ([.ref (G.2.1 6), .ref (G.2.1 c1)] : List Value).toArray s 0 0 (iw_A G)) 3 G (iw_A G) m8 20 [(0, .ref (G.2.1 6)), (2, .int v7)] [] := by
    intro nn
    induction nn with
    | zero => intro v7 m8 h; exact absurd h (fun q => by cases q)
    | succ nn ih => intro v7 m8 h; exact vB20 (f_X4_read_X72_20) (f_X4_read_L20 n (f_X4_read_X72_20) nn) vX20 ih v7 m8 h
  exact iv_sub [1, 0] rfl (vL20 n (0 : Int32) m3 h)
theorem qd_X4_read : yX4_read.cls = RX4 ∧ yX4_read.cls ≠ "java/lang/invoke/MethodHandle" ∧ yX4_read.cls ≠ "java/lang/invoke/VarHandle" ∧ (parseMethodDescriptor yX4_read.desc).map (fun d => d.parameters.length) = some 1 := by decide +kernel
