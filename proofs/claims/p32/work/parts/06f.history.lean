def f_X0_record_J30 (c1 : Nat) (m1 : iw_M) : iw_M :=
(iw_on (f_X0_stateAt (m1 4 2) m1) (m1) (fun c2 =>
iw_let (f_X1_copyFrom c2 c1 m1) fun m3 =>
iw_let (iw_up m3 4 2 ((m3 4 2) + (1 : Int32))) fun m4 =>
m4))
def f_X0_record (c1 : Nat) (σ : iw_M) : iw_M :=
if (σ 4 2) = (5 : Int32) then
(iw_let (iw_up σ 4 1 (((σ 4 1) + (1 : Int32)) - ((σ 4 1) + (1 : Int32)) / (5 : Int32) * (5 : Int32))) fun m6 =>
iw_let (iw_up m6 4 2 ((m6 4 2) - (1 : Int32))) fun m7 =>
f_X0_record_J30 c1 m7)
else
(f_X0_record_J30 c1 σ)
abbrev rm_X0_record : Room := { frames := 3, cells := 0, slots := 0, locals := 82 }
theorem lk_X0_record_18 : Cond.fieldLink RX0 18 RX0 (TX0 2).2.1 (TX0 2).2.2.1 ∈ wsX0_record := by decide +kernel
theorem lk_X0_record_22 : Cond.fieldLink RX0 22 RX0 (TX0 1).2.1 (TX0 1).2.2.1 ∈ wsX0_record := by decide +kernel
theorem in_X0_record_0 : ∀ w ∈ u_ws RX0 TX0 3, w ∈ wsX0_record := by decide +kernel
set_option maxHeartbeats 4000000 in
set_option maxRecDepth 100000 in
theorem k_X0_record (l : Launch) (G : iw_G) (hJ : iw_JX G) (c1 : Nat) (hc1 : iw_net c1) (σ : iw_M) {σ' : iw_M} (h : f_X0_record c1 σ = σ') : iw_Ct l yX0_record wsX0_record rm_X0_record G ([.ref (G.2.1 4), .ref (G.2.1 c1)] : List Value) σ none σ' := by
  refine iv_start (nL := 3) (own := RX0) (ret := none) (cc := cX0_record) (by decide +kernel) rfl rfl hJ.1 (Nat.le_of_ble_eq_true rfl) ?_
  intro p e s m below meth c0 C hr hlk
  refine iv_sub (lv' := [(0, .ref (G.2.1 4)), (1, .ref (G.2.1 c1))]) [0, 1] rfl ?_
  unfold f_X0_record at h
  refine iv_aload_n (pc := 0) C 0 dX0_record_0 rfl rfl ?_
  refine iv_getf (pc := 1) (T := TX0) (N := 3) (ci := 0) C 4 2 in_X0_record_0 (iw_ix hJ (by decide)) iw_Eo4 rfl (by decide) lk_X0_record_18 rfl rfl dX0_record_1 ?_
  refine iv_iconst (pc := 4) C (5 : Int32) dX0_record_4 (by decide) ?_
  have vJ30 : ∀ (m1 : iw_M), f_X0_record_J30 c1 m1 = σ' → iw_V p l e rm_X0_record s m ([.ref (G.2.1 4), .ref (G.2.1 c1)] : List Value).toArray below meth c0 0 0 (MQ below (iw_Q none G σ') ([.ref (G.2.1 4), .ref (G.2.1 c1)] : List Value).toArray s 0 0 (iw_A G)) 3 G (iw_A G) m1 30 [(0, .ref (G.2.1 4)), (1, .ref (G.2.1 c1))] [] := by
    intro m1 h
    unfold f_X0_record_J30 at h
    refine iv_aload_n (pc := 30) C 0 dX0_record_30 rfl rfl ?_
    refine iv_aload_n (pc := 31) C 0 dX0_record_31 rfl rfl ?_
    refine iv_getf (pc := 32) (T := TX0) (N := 3) (ci := 0) C 4 2 in_X0_record_0 (iw_ix hJ (by decide)) iw_Eo4 rfl (by decide) lk_X0_record_18 rfl rfl dX0_record_32 ?_
    rcases hq : f_X0_stateAt (m1 4 2) m1 with _ | c2
    · replace h := iw_on_n hq h
      refine iv_callV (pc := 35) (b := 4) (ci := 0) C [.int (m1 4 2)] (k_X0_stateAt l G hJ (m1 4 2) m1 hq) gX0_record_X0_stateAt rfl qd_X0_stateAt ⟨rfl, rfl, Nat.le_of_ble_eq_true rfl, Nat.le_of_ble_eq_true rfl⟩ (iw_ix hJ (by decide)) iw_Eo4 rfl rfl rfl (Nat.le_of_ble_eq_true rfl) dX0_record_35 ?_
      refine iv_astore_nN (pc := 38) C [(2, .null), (0, .ref (G.2.1 4)), (1, .ref (G.2.1 c1))] dX0_record_38 rfl (by decide) rfl ?_
      refine iv_aload_nN (pc := 39) C 0 dX0_record_39 rfl rfl ?_
      refine iv_ifnullN (pc := 40) C 58 dX0_record_40 (by decide) ?_
      cases h
      exact iv_vret C hr hlk rfl rfl dX0_record_58
    · replace h := iw_on_s hq h
      have hc2 := X0_stateAt_net hq
      refine iv_callV (pc := 35) (b := 4) (ci := 0) C [.int (m1 4 2)] (k_X0_stateAt l G hJ (m1 4 2) m1 hq) gX0_record_X0_stateAt rfl qd_X0_stateAt ⟨rfl, rfl, Nat.le_of_ble_eq_true rfl, Nat.le_of_ble_eq_true rfl⟩ (iw_ix hJ (by decide)) iw_Eo4 rfl rfl rfl (Nat.le_of_ble_eq_true rfl) dX0_record_35 ?_
      refine iv_astore_n (pc := 38) C [(2, .ref (G.2.1 c2)), (0, .ref (G.2.1 4)), (1, .ref (G.2.1 c1))] dX0_record_38 rfl (by decide) rfl ?_
      refine iv_aload_n (pc := 39) C 0 dX0_record_39 rfl rfl ?_
      refine iv_ifnull (pc := 40) C dX0_record_40 ?_
      refine iv_aload_n (pc := 43) C 0 dX0_record_43 rfl rfl ?_
      refine iv_aload_n (pc := 44) C 2 dX0_record_44 rfl rfl ?_
      refine iv_callV (pc := 45) (b := c2) (ci := 1) C [.ref (G.2.1 c1)] (k_X1_copyFrom l G hJ c2 hc2 c1 hc1 m1 rfl) gX0_record_X1_copyFrom rfl qd_X1_copyFrom ⟨rfl, rfl, Nat.le_of_ble_eq_true rfl, Nat.le_of_ble_eq_true rfl⟩ (iw_ix hJ (iw_nl hc2)) (iw_E1 (iw_nk hc2)) rfl rfl rfl (Nat.le_of_ble_eq_true rfl) dX0_record_45 ?_
      refine iv_topm (fun m3 em3 => ?_)
      replace h := iw_lete em3 h
      refine iv_aload_n (pc := 48) C 1 dX0_record_48 rfl rfl ?_
      refine iv_dup (pc := 49) C rfl dX0_record_49 ?_
      refine iv_getf (pc := 50) (T := TX0) (N := 3) (ci := 0) C 4 2 in_X0_record_0 (iw_ix hJ (by decide)) iw_Eo4 rfl (by decide) lk_X0_record_18 rfl rfl dX0_record_50 ?_
      refine iv_iconst (pc := 53) C (1 : Int32) dX0_record_53 (by decide) ?_
      refine iv_iadd (pc := 54) C dX0_record_54 ?_
      refine iv_putf (pc := 55) (T := TX0) (N := 3) (ci := 0) C 4 2 (iw_up m3 4 2 ((m3 4 2) + (1 : Int32))) in_X0_record_0 (iw_ix hJ (by decide)) iw_Eo4 tyX0_ok nmX0 rfl (by decide) lk_X0_record_18 rfl rfl (tyX0_ok 2 (by decide)) rfl rfl (Nat.le_of_ble_eq_true rfl) rfl (fun b hb => iw_up_ne hb) dX0_record_55 ?_
      refine iv_topm (fun m4 em4 => ?_)
      replace h := iw_lete em4 h
      cases h
      exact iv_vret C hr hlk rfl rfl dX0_record_58
  refine iv_icmp_ne (pc := 5) C 30 dX0_record_5 (by decide) (fun h5 => ?_) (fun h5 => ?_)
  · replace h := iw_iff h5 h
    exact iv_sub [0, 1] rfl (vJ30 σ h)
  · replace h := iw_ift h5 h
    refine iv_aload_n (pc := 8) C 0 dX0_record_8 rfl rfl ?_
    refine iv_aload_n (pc := 9) C 0 dX0_record_9 rfl rfl ?_
    refine iv_getf (pc := 10) (T := TX0) (N := 3) (ci := 0) C 4 1 in_X0_record_0 (iw_ix hJ (by decide)) iw_Eo4 rfl (by decide) lk_X0_record_22 rfl rfl dX0_record_10 ?_
    refine iv_iconst (pc := 13) C (1 : Int32) dX0_record_13 (by decide) ?_
    refine iv_iadd (pc := 14) C dX0_record_14 ?_
    refine iv_iconst (pc := 15) C (5 : Int32) dX0_record_15 (by decide) ?_
    refine iv_irem (pc := 16) C (by decide) dX0_record_16 ?_
    refine iv_putf (pc := 17) (T := TX0) (N := 3) (ci := 0) C 4 1 (iw_up σ 4 1 (((σ 4 1) + (1 : Int32)) - ((σ 4 1) + (1 : Int32)) / (5 : Int32) * (5 : Int32))) in_X0_record_0 (iw_ix hJ (by decide)) iw_Eo4 tyX0_ok nmX0 rfl (by decide) lk_X0_record_22 rfl rfl (tyX0_ok 1 (by decide)) rfl rfl (Nat.le_of_ble_eq_true rfl) rfl (fun b hb => iw_up_ne hb) dX0_record_17 ?_
    refine iv_topm (fun m6 em6 => ?_)
    replace h := iw_lete em6 h
    refine iv_aload_n (pc := 20) C 0 dX0_record_20 rfl rfl ?_
    refine iv_dup (pc := 21) C rfl dX0_record_21 ?_
    refine iv_getf (pc := 22) (T := TX0) (N := 3) (ci := 0) C 4 2 in_X0_record_0 (iw_ix hJ (by decide)) iw_Eo4 rfl (by decide) lk_X0_record_18 rfl rfl dX0_record_22 ?_
    refine iv_iconst (pc := 25) C (1 : Int32) dX0_record_25 (by decide) ?_
    refine iv_isub (pc := 26) C dX0_record_26 ?_
    refine iv_putf (pc := 27) (T := TX0) (N := 3) (ci := 0) C 4 2 (iw_up m6 4 2 ((m6 4 2) - (1 : Int32))) in_X0_record_0 (iw_ix hJ (by decide)) iw_Eo4 tyX0_ok nmX0 rfl (by decide) lk_X0_record_18 rfl rfl (tyX0_ok 2 (by decide)) rfl rfl (Nat.le_of_ble_eq_true rfl) rfl (fun b hb => iw_up_ne hb) dX0_record_27 ?_
    refine iv_topm (fun m7 em7 => ?_)
    replace h := iw_lete em7 h
    exact iv_sub [0, 1] rfl (vJ30 m7 h)
theorem qd_X0_record : yX0_record.cls = RX0 ∧ yX0_record.cls ≠ "java/lang/invoke/MethodHandle" ∧ yX0_record.cls ≠ "java/lang/invoke/VarHandle" ∧ (parseMethodDescriptor yX0_record.desc).map (fun d => d.parameters.length) = some 1 := by decide +kernel
def f_X0_restore (c1 : Nat) (σ : iw_M) : Int32 × iw_M :=
if (σ 4 2) ≤ (0 : Int32) then
(((0 : Int32), σ))
else
((iw_on (f_X0_stateAt ((σ 4 2) - (1 : Int32)) σ) (((0 : Int32), σ)) (fun c2 =>
iw_let (f_X1_copyFrom c1 c2 σ) fun m3 =>
iw_let (iw_up m3 4 2 ((m3 4 2) - (1 : Int32))) fun m4 =>
((1 : Int32), m4))))
abbrev rm_X0_restore : Room := { frames := 3, cells := 0, slots := 0, locals := 82 }
theorem lk_X0_restore_18 : Cond.fieldLink RX0 18 RX0 (TX0 2).2.1 (TX0 2).2.2.1 ∈ wsX0_restore := by decide +kernel
theorem in_X0_restore_0 : ∀ w ∈ u_ws RX0 TX0 3, w ∈ wsX0_restore := by decide +kernel
set_option maxHeartbeats 4000000 in
set_option maxRecDepth 100000 in
theorem k_X0_restore (l : Launch) (G : iw_G) (hJ : iw_JX G) (c1 : Nat) (hc1 : iw_net c1) (σ : iw_M) {r : Int32} {σ' : iw_M} (h : f_X0_restore c1 σ = (r, σ')) : iw_Ct l yX0_restore wsX0_restore rm_X0_restore G ([.ref (G.2.1 4), .ref (G.2.1 c1)] : List Value) σ (some (.int r)) σ' := by
  refine iv_start (nL := 3) (own := RX0) (ret := (some .boolean)) (cc := cX0_restore) (by decide +kernel) rfl rfl hJ.1 (Nat.le_of_ble_eq_true rfl) ?_
  intro p e s m below meth c0 C hr hlk
  refine iv_sub (lv' := [(0, .ref (G.2.1 4)), (1, .ref (G.2.1 c1))]) [0, 1] rfl ?_
  unfold f_X0_restore at h
  refine iv_aload_n (pc := 0) C 0 dX0_restore_0 rfl rfl ?_
  refine iv_getf (pc := 1) (T := TX0) (N := 3) (ci := 0) C 4 2 in_X0_restore_0 (iw_ix hJ (by decide)) iw_Eo4 rfl (by decide) lk_X0_restore_18 rfl rfl dX0_restore_1 ?_
  refine iv_if_le (pc := 4) C 20 dX0_restore_4 (by decide) (fun h1 => ?_) (fun h1 => ?_)
  · replace h := iw_ift h1 h
    refine iv_null (pc := 20) C dX0_restore_20 ?_
    refine iv_astore_nN (pc := 21) C [(2, .null), (0, .ref (G.2.1 4)), (1, .ref (G.2.1 c1))] dX0_restore_21 rfl (by decide) rfl ?_
    refine iv_aload_nN (pc := 22) C 0 dX0_restore_22 rfl rfl ?_
    refine iv_ifnonnullN (pc := 23) C dX0_restore_23 ?_
    refine iv_iconst (pc := 26) C (0 : Int32) dX0_restore_26 (by decide) ?_
    cases h
    exact iv_zret C hr hlk rfl rfl dX0_restore_27
  · replace h := iw_iff h1 h
    refine iv_aload_n (pc := 7) C 0 dX0_restore_7 rfl rfl ?_
    refine iv_aload_n (pc := 8) C 0 dX0_restore_8 rfl rfl ?_
    refine iv_getf (pc := 9) (T := TX0) (N := 3) (ci := 0) C 4 2 in_X0_restore_0 (iw_ix hJ (by decide)) iw_Eo4 rfl (by decide) lk_X0_restore_18 rfl rfl dX0_restore_9 ?_
    refine iv_iconst (pc := 12) C (1 : Int32) dX0_restore_12 (by decide) ?_
    refine iv_isub (pc := 13) C dX0_restore_13 ?_
    rcases hq : f_X0_stateAt ((σ 4 2) - (1 : Int32)) σ with _ | c2
    · replace h := iw_on_n hq h
      refine iv_callV (pc := 14) (b := 4) (ci := 0) C [.int ((σ 4 2) - (1 : Int32))] (k_X0_stateAt l G hJ ((σ 4 2) - (1 : Int32)) σ hq) gX0_restore_X0_stateAt rfl qd_X0_stateAt ⟨rfl, rfl, Nat.le_of_ble_eq_true rfl, Nat.le_of_ble_eq_true rfl⟩ (iw_ix hJ (by decide)) iw_Eo4 rfl rfl rfl (Nat.le_of_ble_eq_true rfl) dX0_restore_14 ?_
      refine iv_goto (pc := 17) C 21 dX0_restore_17 (by decide) ?_
      refine iv_astore_nN (pc := 21) C [(2, .null), (0, .ref (G.2.1 4)), (1, .ref (G.2.1 c1))] dX0_restore_21 rfl (by decide) rfl ?_
      refine iv_aload_nN (pc := 22) C 0 dX0_restore_22 rfl rfl ?_
      refine iv_ifnonnullN (pc := 23) C dX0_restore_23 ?_
      refine iv_iconst (pc := 26) C (0 : Int32) dX0_restore_26 (by decide) ?_
      cases h
      exact iv_zret C hr hlk rfl rfl dX0_restore_27
    · replace h := iw_on_s hq h
      have hc2 := X0_stateAt_net hq
      refine iv_callV (pc := 14) (b := 4) (ci := 0) C [.int ((σ 4 2) - (1 : Int32))] (k_X0_stateAt l G hJ ((σ 4 2) - (1 : Int32)) σ hq) gX0_restore_X0_stateAt rfl qd_X0_stateAt ⟨rfl, rfl, Nat.le_of_ble_eq_true rfl, Nat.le_of_ble_eq_true rfl⟩ (iw_ix hJ (by decide)) iw_Eo4 rfl rfl rfl (Nat.le_of_ble_eq_true rfl) dX0_restore_14 ?_
      refine iv_goto (pc := 17) C 21 dX0_restore_17 (by decide) ?_
      refine iv_astore_n (pc := 21) C [(2, .ref (G.2.1 c2)), (0, .ref (G.2.1 4)), (1, .ref (G.2.1 c1))] dX0_restore_21 rfl (by decide) rfl ?_
      refine iv_aload_n (pc := 22) C 0 dX0_restore_22 rfl rfl ?_
      refine iv_ifnonnull (pc := 23) C 28 dX0_restore_23 (by decide) ?_
      refine iv_aload_n (pc := 28) C 2 dX0_restore_28 rfl rfl ?_
      refine iv_aload_n (pc := 29) C 0 dX0_restore_29 rfl rfl ?_
      refine iv_callV (pc := 30) (b := c1) (ci := 1) C [.ref (G.2.1 c2)] (k_X1_copyFrom l G hJ c1 hc1 c2 hc2 σ rfl) gX0_restore_X1_copyFrom rfl qd_X1_copyFrom ⟨rfl, rfl, Nat.le_of_ble_eq_true rfl, Nat.le_of_ble_eq_true rfl⟩ (iw_ix hJ (iw_nl hc1)) (iw_E1 (iw_nk hc1)) rfl rfl rfl (Nat.le_of_ble_eq_true rfl) dX0_restore_30 ?_
      refine iv_topm (fun m3 em3 => ?_)
      replace h := iw_lete em3 h
      refine iv_aload_n (pc := 33) C 1 dX0_restore_33 rfl rfl ?_
      refine iv_dup (pc := 34) C rfl dX0_restore_34 ?_
      refine iv_getf (pc := 35) (T := TX0) (N := 3) (ci := 0) C 4 2 in_X0_restore_0 (iw_ix hJ (by decide)) iw_Eo4 rfl (by decide) lk_X0_restore_18 rfl rfl dX0_restore_35 ?_
      refine iv_iconst (pc := 38) C (1 : Int32) dX0_restore_38 (by decide) ?_
      refine iv_isub (pc := 39) C dX0_restore_39 ?_
      refine iv_putf (pc := 40) (T := TX0) (N := 3) (ci := 0) C 4 2 (iw_up m3 4 2 ((m3 4 2) - (1 : Int32))) in_X0_restore_0 (iw_ix hJ (by decide)) iw_Eo4 tyX0_ok nmX0 rfl (by decide) lk_X0_restore_18 rfl rfl (tyX0_ok 2 (by decide)) rfl rfl (Nat.le_of_ble_eq_true rfl) rfl (fun b hb => iw_up_ne hb) dX0_restore_40 ?_
      refine iv_topm (fun m4 em4 => ?_)
      replace h := iw_lete em4 h
      refine iv_iconst (pc := 43) C (1 : Int32) dX0_restore_43 (by decide) ?_
      cases h
      exact iv_zret C hr hlk rfl rfl dX0_restore_44
theorem qd_X0_restore : yX0_restore.cls = RX0 ∧ yX0_restore.cls ≠ "java/lang/invoke/MethodHandle" ∧ yX0_restore.cls ≠ "java/lang/invoke/VarHandle" ∧ (parseMethodDescriptor yX0_restore.desc).map (fun d => d.parameters.length) = some 1 := by decide +kernel
