def f_X5_addNode (n : Nat) (p1 : Int32) (σ : iw_M) : Option (Int32 × iw_M) :=
if (f_X5_isWithin p1 (1 : Int32) (10000 : Int32)) = (0 : Int32) then
(some ((-1002 : Int32), σ))
else
((f_X1_number n 20 (0 : Int32) σ).bind fun v2 =>
if v2 < (10 : Int32) then
(iw_let (f_X0_record 20 σ) fun m4 =>
iw_let2 (f_X1_appendNode 20 p1 m4) fun v5 m6 =>
some (v5, m6))
else
(some ((-1004 : Int32), σ)))
abbrev rm_X5_addNode : Room := { frames := 4, cells := 0, slots := 0, locals := 104 }
theorem lk_X5_addNode_10 : Cond.fieldLink RX5 10 RX5 (TX5 0).2.1 (TX5 0).2.2.1 ∈ wsX5_addNode := by decide +kernel
theorem lk_X5_addNode_33 : Cond.fieldLink RX5 33 RX5 (TX5 3).2.1 (TX5 3).2.2.1 ∈ wsX5_addNode := by decide +kernel
theorem in_X5_addNode_5 : ∀ w ∈ u_ws RX5 TX5 5, w ∈ wsX5_addNode := by decide +kernel
set_option maxHeartbeats 4000000 in
set_option maxRecDepth 100000 in
theorem k_X5_addNode (l : Launch) (G : iw_G) (hJ : iw_JX G) (n : Nat) (p1 : Int32) (σ : iw_M) {r : Int32} {σ' : iw_M} (h : f_X5_addNode n p1 σ = some (r, σ')) : iw_Ct l yX5_addNode wsX5_addNode rm_X5_addNode G ([.ref (G.2.1 0), .int p1] : List Value) σ (some (.int r)) σ' := by
  refine iv_start (nL := 2) (own := RX5) (ret := (some .int)) (cc := cX5_addNode) (by decide +kernel) rfl rfl hJ.1 (Nat.le_of_ble_eq_true rfl) ?_
  intro p e s m below meth c0 C hr hlk
  refine iv_sub (lv' := [(0, .ref (G.2.1 0)), (1, .int p1)]) [0, 1] rfl ?_
  unfold f_X5_addNode at h
  refine iv_iload_n (pc := 0) C 1 dX5_addNode_0 rfl rfl ?_
  refine iv_iconst (pc := 1) C (1 : Int32) dX5_addNode_1 (by decide) ?_
  refine iv_sipush (pc := 2) C (10000 : Int32) dX5_addNode_2 (by decide) ?_
  refine iv_callS (pc := 5) C [.int p1, .int (1 : Int32), .int (10000 : Int32)] (k_X5_isWithin l G hJ p1 (1 : Int32) (10000 : Int32) σ rfl) gX5_addNode_X5_isWithin rfl qd_X5_isWithin ⟨rfl, rfl, Nat.le_of_ble_eq_true rfl, Nat.le_of_ble_eq_true rfl⟩ rfl rfl (Nat.le_of_ble_eq_true rfl) dX5_addNode_5 ?_
  refine iv_if_ne (pc := 8) C 15 dX5_addNode_8 (by decide) (fun h1 => ?_) (fun h1 => ?_)
  · replace h := iw_iff h1 h
    refine iv_aload_n (pc := 15) C 0 dX5_addNode_15 rfl rfl ?_
    refine iv_getf (pc := 16) (T := TX5) (N := 5) (ci := 5) C 0 0 in_X5_addNode_5 (iw_ix hJ (by decide)) iw_Eo0 rfl (by decide) lk_X5_addNode_10 rfl rfl dX5_addNode_16 ?_
    refine iv_iconst (pc := 19) C (0 : Int32) dX5_addNode_19 (by decide) ?_
    obtain ⟨v2, ev2, h⟩ := iw_be h
    refine iv_callV (pc := 20) (b := 20) (ci := 1) C [.int (0 : Int32)] (k_X1_number l G hJ n 20 iw_net_20 (0 : Int32) σ ev2) gX5_addNode_X1_number rfl qd_X1_number ⟨rfl, rfl, Nat.le_of_ble_eq_true rfl, Nat.le_of_ble_eq_true rfl⟩ (iw_ix hJ (iw_nl iw_net_20)) (iw_E1 (iw_nk iw_net_20)) rfl rfl rfl (Nat.le_of_ble_eq_true rfl) dX5_addNode_20 ?_
    refine iv_bipush (pc := 23) C (10 : Int32) dX5_addNode_23 (by decide) ?_
    refine iv_icmp_lt (pc := 25) C 32 dX5_addNode_25 (by decide) (fun h3 => ?_) (fun h3 => ?_)
    · replace h := iw_ift h3 h
      refine iv_aload_n (pc := 32) C 0 dX5_addNode_32 rfl rfl ?_
      refine iv_getf (pc := 33) (T := TX5) (N := 5) (ci := 5) C 0 3 in_X5_addNode_5 (iw_ix hJ (by decide)) iw_Eo0 rfl (by decide) lk_X5_addNode_33 rfl rfl dX5_addNode_33 ?_
      refine iv_aload_n (pc := 36) C 0 dX5_addNode_36 rfl rfl ?_
      refine iv_getf (pc := 37) (T := TX5) (N := 5) (ci := 5) C 0 0 in_X5_addNode_5 (iw_ix hJ (by decide)) iw_Eo0 rfl (by decide) lk_X5_addNode_10 rfl rfl dX5_addNode_37 ?_
      refine iv_callV (pc := 40) (b := 4) (ci := 0) C [.ref (G.2.1 20)] (k_X0_record l G hJ 20 iw_net_20 σ rfl) gX5_addNode_X0_record rfl qd_X0_record ⟨rfl, rfl, Nat.le_of_ble_eq_true rfl, Nat.le_of_ble_eq_true rfl⟩ (iw_ix hJ (by decide)) iw_Eo4 rfl rfl rfl (Nat.le_of_ble_eq_true rfl) dX5_addNode_40 ?_
      refine iv_topm (fun m4 em4 => ?_)
      replace h := iw_lete em4 h
      refine iv_aload_n (pc := 43) C 0 dX5_addNode_43 rfl rfl ?_
      refine iv_getf (pc := 44) (T := TX5) (N := 5) (ci := 5) C 0 0 in_X5_addNode_5 (iw_ix hJ (by decide)) iw_Eo0 rfl (by decide) lk_X5_addNode_10 rfl rfl dX5_addNode_44 ?_
      refine iv_iload_n (pc := 47) C 1 dX5_addNode_47 rfl rfl ?_
      obtain ⟨v5, m6, ev5, h⟩ := iw_let2e h
      refine iv_callV (pc := 48) (b := 20) (ci := 1) C [.int p1] (k_X1_appendNode l G hJ 20 iw_net_20 p1 m4 ev5) gX5_addNode_X1_appendNode rfl qd_X1_appendNode ⟨rfl, rfl, Nat.le_of_ble_eq_true rfl, Nat.le_of_ble_eq_true rfl⟩ (iw_ix hJ (iw_nl iw_net_20)) (iw_E1 (iw_nk iw_net_20)) rfl rfl rfl (Nat.le_of_ble_eq_true rfl) dX5_addNode_48 ?_
      cases h
      exact iv_iret C hr hlk rfl rfl dX5_addNode_51
    · replace h := iw_iff h3 h
      refine iv_sipush (pc := 28) C (-1004 : Int32) dX5_addNode_28 (by decide) ?_
      cases h
      exact iv_iret C hr hlk rfl rfl dX5_addNode_31
  · replace h := iw_ift h1 h
    refine iv_sipush (pc := 11) C (-1002 : Int32) dX5_addNode_11 (by decide) ?_
    cases h
    exact iv_iret C hr hlk rfl rfl dX5_addNode_14
theorem qd_X5_addNode : yX5_addNode.cls = RX5 ∧ yX5_addNode.cls ≠ "java/lang/invoke/MethodHandle" ∧ yX5_addNode.cls ≠ "java/lang/invoke/VarHandle" ∧ (parseMethodDescriptor yX5_addNode.desc).map (fun d => d.parameters.length) = some 1 := by decide +kernel
def f_X5_charge (p1 : Int32) (p2 : Int32) (σ : iw_M) : Int32 × iw_M :=
if (f_X1_has 20 (0 : Int32) p1 σ) = (0 : Int32) then
(((-1001 : Int32), σ))
else
(if (f_X5_isWithin p2 (0 : Int32) (10000 : Int32)) = (0 : Int32) then
(((-1002 : Int32), σ))
else
(iw_let (f_X0_record 20 σ) fun m3 =>
iw_let (f_X1_energyOf 20 p1 m3) fun v4 =>
iw_let (f_X1_setEnergy 20 p1 p2 m3) fun m5 =>
(v4, m5)))
abbrev rm_X5_charge : Room := { frames := 4, cells := 0, slots := 0, locals := 104 }
theorem lk_X5_charge_10 : Cond.fieldLink RX5 10 RX5 (TX5 0).2.1 (TX5 0).2.2.1 ∈ wsX5_charge := by decide +kernel
theorem lk_X5_charge_33 : Cond.fieldLink RX5 33 RX5 (TX5 3).2.1 (TX5 3).2.2.1 ∈ wsX5_charge := by decide +kernel
theorem in_X5_charge_5 : ∀ w ∈ u_ws RX5 TX5 5, w ∈ wsX5_charge := by decide +kernel
set_option maxHeartbeats 4000000 in
set_option maxRecDepth 100000 in
theorem k_X5_charge (l : Launch) (G : iw_G) (hJ : iw_JX G) (p1 : Int32) (p2 : Int32) (σ : iw_M) {r : Int32} {σ' : iw_M} (h : f_X5_charge p1 p2 σ = (r, σ')) : iw_Ct l yX5_charge wsX5_charge rm_X5_charge G ([.ref (G.2.1 0), .int p1, .int p2] : List Value) σ (some (.int r)) σ' := by
  refine iv_start (nL := 4) (own := RX5) (ret := (some .int)) (cc := cX5_charge) (by decide +kernel) rfl rfl hJ.1 (Nat.le_of_ble_eq_true rfl) ?_
  intro p e s m below meth c0 C hr hlk
  refine iv_sub (lv' := [(0, .ref (G.2.1 0)), (1, .int p1), (2, .int p2)]) [0, 1, 2] rfl ?_
  unfold f_X5_charge at h
  refine iv_aload_n (pc := 0) C 0 dX5_charge_0 rfl rfl ?_
  refine iv_getf (pc := 1) (T := TX5) (N := 5) (ci := 5) C 0 0 in_X5_charge_5 (iw_ix hJ (by decide)) iw_Eo0 rfl (by decide) lk_X5_charge_10 rfl rfl dX5_charge_1 ?_
  refine iv_iconst (pc := 4) C (0 : Int32) dX5_charge_4 (by decide) ?_
  refine iv_iload_n (pc := 5) C 1 dX5_charge_5 rfl rfl ?_
  refine iv_callV (pc := 6) (b := 20) (ci := 1) C [.int (0 : Int32), .int p1] (k_X1_has l G hJ 20 iw_net_20 (0 : Int32) p1 σ rfl) gX5_charge_X1_has rfl qd_X1_has ⟨rfl, rfl, Nat.le_of_ble_eq_true rfl, Nat.le_of_ble_eq_true rfl⟩ (iw_ix hJ (iw_nl iw_net_20)) (iw_E1 (iw_nk iw_net_20)) rfl rfl rfl (Nat.le_of_ble_eq_true rfl) dX5_charge_6 ?_
  refine iv_if_ne (pc := 9) C 16 dX5_charge_9 (by decide) (fun h1 => ?_) (fun h1 => ?_)
  · replace h := iw_iff h1 h
    refine iv_iload_n (pc := 16) C 2 dX5_charge_16 rfl rfl ?_
    refine iv_iconst (pc := 17) C (0 : Int32) dX5_charge_17 (by decide) ?_
    refine iv_sipush (pc := 18) C (10000 : Int32) dX5_charge_18 (by decide) ?_
    refine iv_callS (pc := 21) C [.int p2, .int (0 : Int32), .int (10000 : Int32)] (k_X5_isWithin l G hJ p2 (0 : Int32) (10000 : Int32) σ rfl) gX5_charge_X5_isWithin rfl qd_X5_isWithin ⟨rfl, rfl, Nat.le_of_ble_eq_true rfl, Nat.le_of_ble_eq_true rfl⟩ rfl rfl (Nat.le_of_ble_eq_true rfl) dX5_charge_21 ?_
    refine iv_if_ne (pc := 24) C 31 dX5_charge_24 (by decide) (fun h2 => ?_) (fun h2 => ?_)
    · replace h := iw_iff h2 h
      refine iv_aload_n (pc := 31) C 0 dX5_charge_31 rfl rfl ?_
      refine iv_getf (pc := 32) (T := TX5) (N := 5) (ci := 5) C 0 3 in_X5_charge_5 (iw_ix hJ (by decide)) iw_Eo0 rfl (by decide) lk_X5_charge_33 rfl rfl dX5_charge_32 ?_
      refine iv_aload_n (pc := 35) C 0 dX5_charge_35 rfl rfl ?_
      refine iv_getf (pc := 36) (T := TX5) (N := 5) (ci := 5) C 0 0 in_X5_charge_5 (iw_ix hJ (by decide)) iw_Eo0 rfl (by decide) lk_X5_charge_10 rfl rfl dX5_charge_36 ?_
      refine iv_callV (pc := 39) (b := 4) (ci := 0) C [.ref (G.2.1 20)] (k_X0_record l G hJ 20 iw_net_20 σ rfl) gX5_charge_X0_record rfl qd_X0_record ⟨rfl, rfl, Nat.le_of_ble_eq_true rfl, Nat.le_of_ble_eq_true rfl⟩ (iw_ix hJ (by decide)) iw_Eo4 rfl rfl rfl (Nat.le_of_ble_eq_true rfl) dX5_charge_39 ?_
      refine iv_topm (fun m3 em3 => ?_)
      replace h := iw_lete em3 h
      refine iv_aload_n (pc := 42) C 0 dX5_charge_42 rfl rfl ?_
      refine iv_getf (pc := 43) (T := TX5) (N := 5) (ci := 5) C 0 0 in_X5_charge_5 (iw_ix hJ (by decide)) iw_Eo0 rfl (by decide) lk_X5_charge_10 rfl rfl dX5_charge_43 ?_
      refine iv_iload_n (pc := 46) C 1 dX5_charge_46 rfl rfl ?_
      refine iv_callV (pc := 47) (b := 20) (ci := 1) C [.int p1] (k_X1_energyOf l G hJ 20 iw_net_20 p1 m3 rfl) gX5_charge_X1_energyOf rfl qd_X1_energyOf ⟨rfl, rfl, Nat.le_of_ble_eq_true rfl, Nat.le_of_ble_eq_true rfl⟩ (iw_ix hJ (iw_nl iw_net_20)) (iw_E1 (iw_nk iw_net_20)) rfl rfl rfl (Nat.le_of_ble_eq_true rfl) dX5_charge_47 ?_
      refine iv_topi (fun v4 ev4 => ?_)
      replace h := iw_lete ev4 h
      refine iv_istore_n (pc := 50) C [(3, .int v4), (0, .ref (G.2.1 0)), (1, .int p1), (2, .int p2)] dX5_charge_50 rfl (by decide) rfl ?_
      refine iv_aload_n (pc := 51) C 1 dX5_charge_51 rfl rfl ?_
      refine iv_getf (pc := 52) (T := TX5) (N := 5) (ci := 5) C 0 0 in_X5_charge_5 (iw_ix hJ (by decide)) iw_Eo0 rfl (by decide) lk_X5_charge_10 rfl rfl dX5_charge_52 ?_
      refine iv_iload_n (pc := 55) C 2 dX5_charge_55 rfl rfl ?_
      refine iv_iload_n (pc := 56) C 3 dX5_charge_56 rfl rfl ?_
      refine iv_callV (pc := 57) (b := 20) (ci := 1) C [.int p1, .int p2] (k_X1_setEnergy l G hJ 20 iw_net_20 p1 p2 m3 rfl) gX5_charge_X1_setEnergy rfl qd_X1_setEnergy ⟨rfl, rfl, Nat.le_of_ble_eq_true rfl, Nat.le_of_ble_eq_true rfl⟩ (iw_ix hJ (iw_nl iw_net_20)) (iw_E1 (iw_nk iw_net_20)) rfl rfl rfl (Nat.le_of_ble_eq_true rfl) dX5_charge_57 ?_
      refine iv_topm (fun m5 em5 => ?_)
      replace h := iw_lete em5 h
      refine iv_iload_n (pc := 60) C 0 dX5_charge_60 rfl rfl ?_
      cases h
      exact iv_iret C hr hlk rfl rfl dX5_charge_61
    · replace h := iw_ift h2 h
      refine iv_sipush (pc := 27) C (-1002 : Int32) dX5_charge_27 (by decide) ?_
      cases h
      exact iv_iret C hr hlk rfl rfl dX5_charge_30
  · replace h := iw_ift h1 h
    refine iv_sipush (pc := 12) C (-1001 : Int32) dX5_charge_12 (by decide) ?_
    cases h
    exact iv_iret C hr hlk rfl rfl dX5_charge_15
theorem qd_X5_charge : yX5_charge.cls = RX5 ∧ yX5_charge.cls ≠ "java/lang/invoke/MethodHandle" ∧ yX5_charge.cls ≠ "java/lang/invoke/VarHandle" ∧ (parseMethodDescriptor yX5_charge.desc).map (fun d => d.parameters.length) = some 2 := by decide +kernel
def f_X5_link (n : Nat) (p1 : Int32) (p2 : Int32) (p3 : Int32) (σ : iw_M) : Option (Int32 × iw_M) :=
if (f_X1_has 20 (0 : Int32) p1 σ) = (0 : Int32) then
(some ((-1001 : Int32), σ))
else
(if (f_X1_has 20 (0 : Int32) p2 σ) = (0 : Int32) then
(some ((-1001 : Int32), σ))
else
(if (f_X5_isWithin p3 (1 : Int32) (20 : Int32)) = (0 : Int32) then
(some ((-1002 : Int32), σ))
else
(if p1 = p2 then
(some ((-1003 : Int32), σ))
else
((f_X1_areLinked n 20 p1 p2 σ).bind fun v5 =>
if v5 = (0 : Int32) then
((f_X1_number n 20 (1 : Int32) σ).bind fun v7 =>
if v7 < (20 : Int32) then
(iw_let (f_X0_record 20 σ) fun m9 =>
iw_let2 (f_X1_appendLink 20 p1 p2 p3 m9) fun v10 m11 =>
some (v10, m11))
else
(some ((-1004 : Int32), σ)))
else
(some ((-1003 : Int32), σ))))))
abbrev rm_X5_link : Room := { frames := 4, cells := 0, slots := 0, locals := 104 }
theorem lk_X5_link_10 : Cond.fieldLink RX5 10 RX5 (TX5 0).2.1 (TX5 0).2.2.1 ∈ wsX5_link := by decide +kernel
theorem lk_X5_link_33 : Cond.fieldLink RX5 33 RX5 (TX5 3).2.1 (TX5 3).2.2.1 ∈ wsX5_link := by decide +kernel
theorem in_X5_link_5 : ∀ w ∈ u_ws RX5 TX5 5, w ∈ wsX5_link := by decide +kernel
set_option maxHeartbeats 4000000 in
set_option maxRecDepth 100000 in
theorem k_X5_link (l : Launch) (G : iw_G) (hJ : iw_JX G) (n : Nat) (p1 : Int32) (p2 : Int32) (p3 : Int32) (σ : iw_M) {r : Int32} {σ' : iw_M} (h : f_X5_link n p1 p2 p3 σ = some (r, σ')) : iw_Ct l yX5_link wsX5_link rm_X5_link G ([.ref (G.2.1 0), .int p1, .int p2, .int p3] : List Value) σ (some (.int r)) σ' := by
  refine iv_start (nL := 4) (own := RX5) (ret := (some .int)) (cc := cX5_link) (by decide +kernel) rfl rfl hJ.1 (Nat.le_of_ble_eq_true rfl) ?_
  intro p e s m below meth c0 C hr hlk
  refine iv_sub (lv' := [(0, .ref (G.2.1 0)), (1, .int p1), (2, .int p2), (3, .int p3)]) [0, 1, 2, 3] rfl ?_
  unfold f_X5_link at h
  refine iv_aload_n (pc := 0) C 0 dX5_link_0 rfl rfl ?_
  refine iv_getf (pc := 1) (T := TX5) (N := 5) (ci := 5) C 0 0 in_X5_link_5 (iw_ix hJ (by decide)) iw_Eo0 rfl (by decide) lk_X5_link_10 rfl rfl dX5_link_1 ?_
  refine iv_iconst (pc := 4) C (0 : Int32) dX5_link_4 (by decide) ?_
  refine iv_iload_n (pc := 5) C 1 dX5_link_5 rfl rfl ?_
  refine iv_callV (pc := 6) (b := 20) (ci := 1) C [.int (0 : Int32), .int p1] (k_X1_has l G hJ 20 iw_net_20 (0 : Int32) p1 σ rfl) gX5_link_X1_has rfl qd_X1_has ⟨rfl, rfl, Nat.le_of_ble_eq_true rfl, Nat.le_of_ble_eq_true rfl⟩ (iw_ix hJ (iw_nl iw_net_20)) (iw_E1 (iw_nk iw_net_20)) rfl rfl rfl (Nat.le_of_ble_eq_true rfl) dX5_link_6 ?_
  refine iv_if_eq (pc := 9) C 24 dX5_link_9 (by decide) (fun h1 => ?_) (fun h1 => ?_)
  · replace h := iw_ift h1 h
    refine iv_sipush (pc := 24) C (-1001 : Int32) dX5_link_24 (by decide) ?_
    cases h
    exact iv_iret C hr hlk rfl rfl dX5_link_27
  · replace h := iw_iff h1 h
    refine iv_aload_n (pc := 12) C 0 dX5_link_12 rfl rfl ?_
    refine iv_getf (pc := 13) (T := TX5) (N := 5) (ci := 5) C 0 0 in_X5_link_5 (iw_ix hJ (by decide)) iw_Eo0 rfl (by decide) lk_X5_link_10 rfl rfl dX5_link_13 ?_
    refine iv_iconst (pc := 16) C (0 : Int32) dX5_link_16 (by decide) ?_
    refine iv_iload_n (pc := 17) C 2 dX5_link_17 rfl rfl ?_
    refine iv_callV (pc := 18) (b := 20) (ci := 1) C [.int (0 : Int32), .int p2] (k_X1_has l G hJ 20 iw_net_20 (0 : Int32) p2 σ rfl) gX5_link_X1_has rfl qd_X1_has ⟨rfl, rfl, Nat.le_of_ble_eq_true rfl, Nat.le_of_ble_eq_true rfl⟩ (iw_ix hJ (iw_nl iw_net_20)) (iw_E1 (iw_nk iw_net_20)) rfl rfl rfl (Nat.le_of_ble_eq_true rfl) dX5_link_18 ?_
    refine iv_if_ne (pc := 21) C 28 dX5_link_21 (by decide) (fun h2 => ?_) (fun h2 => ?_)
    · replace h := iw_iff h2 h
      refine iv_iload_n (pc := 28) C 3 dX5_link_28 rfl rfl ?_
      refine iv_iconst (pc := 29) C (1 : Int32) dX5_link_29 (by decide) ?_
      refine iv_bipush (pc := 30) C (20 : Int32) dX5_link_30 (by decide) ?_
      refine iv_callS (pc := 32) C [.int p3, .int (1 : Int32), .int (20 : Int32)] (k_X5_isWithin l G hJ p3 (1 : Int32) (20 : Int32) σ rfl) gX5_link_X5_isWithin rfl qd_X5_isWithin ⟨rfl, rfl, Nat.le_of_ble_eq_true rfl, Nat.le_of_ble_eq_true rfl⟩ rfl rfl (Nat.le_of_ble_eq_true rfl) dX5_link_32 ?_
      refine iv_if_ne (pc := 35) C 42 dX5_link_35 (by decide) (fun h3 => ?_) (fun h3 => ?_)
      · replace h := iw_iff h3 h
        refine iv_iload_n (pc := 42) C 1 dX5_link_42 rfl rfl ?_
        refine iv_iload_n (pc := 43) C 2 dX5_link_43 rfl rfl ?_
        refine iv_icmp_eq (pc := 44) C 59 dX5_link_44 (by decide) (fun h4 => ?_) (fun h4 => ?_)
        · replace h := iw_ift h4 h
          refine iv_sipush (pc := 59) C (-1003 : Int32) dX5_link_59 (by decide) ?_
          cases h
          exact iv_iret C hr hlk rfl rfl dX5_link_62
        · replace h := iw_iff h4 h
          refine iv_aload_n (pc := 47) C 0 dX5_link_47 rfl rfl ?_
          refine iv_getf (pc := 48) (T := TX5) (N := 5) (ci := 5) C 0 0 in_X5_link_5 (iw_ix hJ (by decide)) iw_Eo0 rfl (by decide) lk_X5_link_10 rfl rfl dX5_link_48 ?_
          refine iv_iload_n (pc := 51) C 1 dX5_link_51 rfl rfl ?_
          refine iv_iload_n (pc := 52) C 2 dX5_link_52 rfl rfl ?_
          obtain ⟨v5, ev5, h⟩ := iw_be h
          refine iv_callV (pc := 53) (b := 20) (ci := 1) C [.int p1, .int p2] (k_X1_areLinked l G hJ n 20 iw_net_20 p1 p2 σ ev5) gX5_link_X1_areLinked rfl qd_X1_areLinked ⟨rfl, rfl, Nat.le_of_ble_eq_true rfl, Nat.le_of_ble_eq_true rfl⟩ (iw_ix hJ (iw_nl iw_net_20)) (iw_E1 (iw_nk iw_net_20)) rfl rfl rfl (Nat.le_of_ble_eq_true rfl) dX5_link_53 ?_
          refine iv_if_eq (pc := 56) C 63 dX5_link_56 (by decide) (fun h6 => ?_) (fun h6 => ?_)
          · replace h := iw_ift h6 h
            refine iv_aload_n (pc := 63) C 0 dX5_link_63 rfl rfl ?_
            refine iv_getf (pc := 64) (T := TX5) (N := 5) (ci := 5) C 0 0 in_X5_link_5 (iw_ix hJ (by decide)) iw_Eo0 rfl (by decide) lk_X5_link_10 rfl rfl dX5_link_64 ?_
            refine iv_iconst (pc := 67) C (1 : Int32) dX5_link_67 (by decide) ?_
            obtain ⟨v7, ev7, h⟩ := iw_be h
            refine iv_callV (pc := 68) (b := 20) (ci := 1) C [.int (1 : Int32)] (k_X1_number l G hJ n 20 iw_net_20 (1 : Int32) σ ev7) gX5_link_X1_number rfl qd_X1_number ⟨rfl, rfl, Nat.le_of_ble_eq_true rfl, Nat.le_of_ble_eq_true rfl⟩ (iw_ix hJ (iw_nl iw_net_20)) (iw_E1 (iw_nk iw_net_20)) rfl rfl rfl (Nat.le_of_ble_eq_true rfl) dX5_link_68 ?_
            refine iv_bipush (pc := 71) C (20 : Int32) dX5_link_71 (by decide) ?_
            refine iv_icmp_lt (pc := 73) C 80 dX5_link_73 (by decide) (fun h8 => ?_) (fun h8 => ?_)
            · replace h := iw_ift h8 h
              refine iv_aload_n (pc := 80) C 0 dX5_link_80 rfl rfl ?_
              refine iv_getf (pc := 81) (T := TX5) (N := 5) (ci := 5) C 0 3 in_X5_link_5 (iw_ix hJ (by decide)) iw_Eo0 rfl (by decide) lk_X5_link_33 rfl rfl dX5_link_81 ?_
              refine iv_aload_n (pc := 84) C 0 dX5_link_84 rfl rfl ?_
              refine iv_getf (pc := 85) (T := TX5) (N := 5) (ci := 5) C 0 0 in_X5_link_5 (iw_ix hJ (by decide)) iw_Eo0 rfl (by decide) lk_X5_link_10 rfl rfl dX5_link_85 ?_
              refine iv_callV (pc := 88) (b := 4) (ci := 0) C [.ref (G.2.1 20)] (k_X0_record l G hJ 20 iw_net_20 σ rfl) gX5_link_X0_record rfl qd_X0_record ⟨rfl, rfl, Nat.le_of_ble_eq_true rfl, Nat.le_of_ble_eq_true rfl⟩ (iw_ix hJ (by decide)) iw_Eo4 rfl rfl rfl (Nat.le_of_ble_eq_true rfl) dX5_link_88 ?_
              refine iv_topm (fun m9 em9 => ?_)
              replace h := iw_lete em9 h
              refine iv_aload_n (pc := 91) C 0 dX5_link_91 rfl rfl ?_
              refine iv_getf (pc := 92) (T := TX5) (N := 5) (ci := 5) C 0 0 in_X5_link_5 (iw_ix hJ (by decide)) iw_Eo0 rfl (by decide) lk_X5_link_10 rfl rfl dX5_link_92 ?_
              refine iv_iload_n (pc := 95) C 1 dX5_link_95 rfl rfl ?_
              refine iv_iload_n (pc := 96) C 2 dX5_link_96 rfl rfl ?_
              refine iv_iload_n (pc := 97) C 3 dX5_link_97 rfl rfl ?_
              obtain ⟨v10, m11, ev10, h⟩ := iw_let2e h
              refine iv_callV (pc := 98) (b := 20) (ci := 1) C [.int p1, .int p2, .int p3] (k_X1_appendLink l G hJ 20 iw_net_20 p1 p2 p3 m9 ev10) gX5_link_X1_appendLink rfl qd_X1_appendLink ⟨rfl, rfl, Nat.le_of_ble_eq_true rfl, Nat.le_of_ble_eq_true rfl⟩ (iw_ix hJ (iw_nl iw_net_20)) (iw_E1 (iw_nk iw_net_20)) rfl rfl rfl (Nat.le_of_ble_eq_true rfl) dX5_link_98 ?_
              cases h
              exact iv_iret C hr hlk rfl rfl dX5_link_101
            · replace h := iw_iff h8 h
              refine iv_sipush (pc := 76) C (-1004 : Int32) dX5_link_76 (by decide) ?_
              cases h
              exact iv_iret C hr hlk rfl rfl dX5_link_79
          · replace h := iw_iff h6 h
            refine iv_sipush (pc := 59) C (-1003 : Int32) dX5_link_59 (by decide) ?_
            cases h
            exact iv_iret C hr hlk rfl rfl dX5_link_62
      · replace h := iw_ift h3 h
        refine iv_sipush (pc := 38) C (-1002 : Int32) dX5_link_38 (by decide) ?_
        cases h
        exact iv_iret C hr hlk rfl rfl dX5_link_41
    · replace h := iw_ift h2 h
      refine iv_sipush (pc := 24) C (-1001 : Int32) dX5_link_24 (by decide) ?_
      cases h
      exact iv_iret C hr hlk rfl rfl dX5_link_27
theorem qd_X5_link : yX5_link.cls = RX5 ∧ yX5_link.cls ≠ "java/lang/invoke/MethodHandle" ∧ yX5_link.cls ≠ "java/lang/invoke/VarHandle" ∧ (parseMethodDescriptor yX5_link.desc).map (fun d => d.parameters.length) = some 3 := by decide +kernel
def f_X5_cut (n : Nat) (p1 : Int32) (σ : iw_M) : Option (Int32 × iw_M) :=
if (f_X1_has 20 (1 : Int32) p1 σ) = (0 : Int32) then
(some ((-1001 : Int32), σ))
else
(iw_let (f_X0_record 20 σ) fun m2 =>
iw_b2 (f_X1_removeLink n 20 p1 m2) fun v3 m4 =>
some (v3, m4))
abbrev rm_X5_cut : Room := { frames := 4, cells := 0, slots := 0, locals := 104 }
theorem lk_X5_cut_10 : Cond.fieldLink RX5 10 RX5 (TX5 0).2.1 (TX5 0).2.2.1 ∈ wsX5_cut := by decide +kernel
theorem lk_X5_cut_33 : Cond.fieldLink RX5 33 RX5 (TX5 3).2.1 (TX5 3).2.2.1 ∈ wsX5_cut := by decide +kernel
theorem in_X5_cut_5 : ∀ w ∈ u_ws RX5 TX5 5, w ∈ wsX5_cut := by decide +kernel
set_option maxHeartbeats 4000000 in
set_option maxRecDepth 100000 in
theorem k_X5_cut (l : Launch) (G : iw_G) (hJ : iw_JX G) (n : Nat) (p1 : Int32) (σ : iw_M) {r : Int32} {σ' : iw_M} (h : f_X5_cut n p1 σ = some (r, σ')) : iw_Ct l yX5_cut wsX5_cut rm_X5_cut G ([.ref (G.2.1 0), .int p1] : List Value) σ (some (.int r)) σ' := by
  refine iv_start (nL := 2) (own := RX5) (ret := (some .int)) (cc := cX5_cut) (by decide +kernel) rfl rfl hJ.1 (Nat.le_of_ble_eq_true rfl) ?_
  intro p e s m below meth c0 C hr hlk
  refine iv_sub (lv' := [(0, .ref (G.2.1 0)), (1, .int p1)]) [0, 1] rfl ?_
  unfold f_X5_cut at h
  refine iv_aload_n (pc := 0) C 0 dX5_cut_0 rfl rfl ?_
  refine iv_getf (pc := 1) (T := TX5) (N := 5) (ci := 5) C 0 0 in_X5_cut_5 (iw_ix hJ (by decide)) iw_Eo0 rfl (by decide) lk_X5_cut_10 rfl rfl dX5_cut_1 ?_
  refine iv_iconst (pc := 4) C (1 : Int32) dX5_cut_4 (by decide) ?_
  refine iv_iload_n (pc := 5) C 1 dX5_cut_5 rfl rfl ?_
  refine iv_callV (pc := 6) (b := 20) (ci := 1) C [.int (1 : Int32), .int p1] (k_X1_has l G hJ 20 iw_net_20 (1 : Int32) p1 σ rfl) gX5_cut_X1_has rfl qd_X1_has ⟨rfl, rfl, Nat.le_of_ble_eq_true rfl, Nat.le_of_ble_eq_true rfl⟩ (iw_ix hJ (iw_nl iw_net_20)) (iw_E1 (iw_nk iw_net_20)) rfl rfl rfl (Nat.le_of_ble_eq_true rfl) dX5_cut_6 ?_
  refine iv_if_ne (pc := 9) C 16 dX5_cut_9 (by decide) (fun h1 => ?_) (fun h1 => ?_)
  · replace h := iw_iff h1 h
    refine iv_aload_n (pc := 16) C 0 dX5_cut_16 rfl rfl ?_
    refine iv_getf (pc := 17) (T := TX5) (N := 5) (ci := 5) C 0 3 in_X5_cut_5 (iw_ix hJ (by decide)) iw_Eo0 rfl (by decide) lk_X5_cut_33 rfl rfl dX5_cut_17 ?_
    refine iv_aload_n (pc := 20) C 0 dX5_cut_20 rfl rfl ?_
    refine iv_getf (pc := 21) (T := TX5) (N := 5) (ci := 5) C 0 0 in_X5_cut_5 (iw_ix hJ (by decide)) iw_Eo0 rfl (by decide) lk_X5_cut_10 rfl rfl dX5_cut_21 ?_
    refine iv_callV (pc := 24) (b := 4) (ci := 0) C [.ref (G.2.1 20)] (k_X0_record l G hJ 20 iw_net_20 σ rfl) gX5_cut_X0_record rfl qd_X0_record ⟨rfl, rfl, Nat.le_of_ble_eq_true rfl, Nat.le_of_ble_eq_true rfl⟩ (iw_ix hJ (by decide)) iw_Eo4 rfl rfl rfl (Nat.le_of_ble_eq_true rfl) dX5_cut_24 ?_
    refine iv_topm (fun m2 em2 => ?_)
    replace h := iw_lete em2 h
    refine iv_aload_n (pc := 27) C 0 dX5_cut_27 rfl rfl ?_
    refine iv_getf (pc := 28) (T := TX5) (N := 5) (ci := 5) C 0 0 in_X5_cut_5 (iw_ix hJ (by decide)) iw_Eo0 rfl (by decide) lk_X5_cut_10 rfl rfl dX5_cut_28 ?_
    refine iv_iload_n (pc := 31) C 1 dX5_cut_31 rfl rfl ?_
    obtain ⟨v3, m4, ev3, h⟩ := iw_b2e h
    refine iv_callV (pc := 32) (b := 20) (ci := 1) C [.int p1] (k_X1_removeLink l G hJ n 20 iw_net_20 p1 m2 ev3) gX5_cut_X1_removeLink rfl qd_X1_removeLink ⟨rfl, rfl, Nat.le_of_ble_eq_true rfl, Nat.le_of_ble_eq_true rfl⟩ (iw_ix hJ (iw_nl iw_net_20)) (iw_E1 (iw_nk iw_net_20)) rfl rfl rfl (Nat.le_of_ble_eq_true rfl) dX5_cut_32 ?_
    cases h
    exact iv_iret C hr hlk rfl rfl dX5_cut_35
  · replace h := iw_ift h1 h
    refine iv_sipush (pc := 12) C (-1001 : Int32) dX5_cut_12 (by decide) ?_
    cases h
    exact iv_iret C hr hlk rfl rfl dX5_cut_15
theorem qd_X5_cut : yX5_cut.cls = RX5 ∧ yX5_cut.cls ≠ "java/lang/invoke/MethodHandle" ∧ yX5_cut.cls ≠ "java/lang/invoke/VarHandle" ∧ (parseMethodDescriptor yX5_cut.desc).map (fun d => d.parameters.length) = some 1 := by decide +kernel
def f_X5_addSensor (n : Nat) (p1 : Int32) (p2 : Int32) (p3 : Int32) (σ : iw_M) : Option (Int32 × iw_M) :=
if (f_X1_has 20 (0 : Int32) p1 σ) = (0 : Int32) then
(some ((-1001 : Int32), σ))
else
(if (f_X5_isWithin p2 (0 : Int32) (7 : Int32)) = (0 : Int32) then
(some ((-1002 : Int32), σ))
else
(if (f_X5_isWithin p3 (-100 : Int32) (100 : Int32)) = (0 : Int32) then
(some ((-1002 : Int32), σ))
else
((f_X1_number n 20 (2 : Int32) σ).bind fun v4 =>
if v4 < (6 : Int32) then
(iw_let (f_X0_record 20 σ) fun m6 =>
iw_let2 (f_X1_appendSensor 20 p1 p2 p3 m6) fun v7 m8 =>
some (v7, m8))
else
(some ((-1004 : Int32), σ)))))
abbrev rm_X5_addSensor : Room := { frames := 4, cells := 0, slots := 0, locals := 104 }
theorem lk_X5_addSensor_10 : Cond.fieldLink RX5 10 RX5 (TX5 0).2.1 (TX5 0).2.2.1 ∈ wsX5_addSensor := by decide +kernel
theorem lk_X5_addSensor_33 : Cond.fieldLink RX5 33 RX5 (TX5 3).2.1 (TX5 3).2.2.1 ∈ wsX5_addSensor := by decide +kernel
theorem in_X5_addSensor_5 : ∀ w ∈ u_ws RX5 TX5 5, w ∈ wsX5_addSensor := by decide +kernel
set_option maxHeartbeats 4000000 in
set_option maxRecDepth 100000 in
theorem k_X5_addSensor (l : Launch) (G : iw_G) (hJ : iw_JX G) (n : Nat) (p1 : Int32) (p2 : Int32) (p3 : Int32) (σ : iw_M) {r : Int32} {σ' : iw_M} (h : f_X5_addSensor n p1 p2 p3 σ = some (r, σ')) : iw_Ct l yX5_addSensor wsX5_addSensor rm_X5_addSensor G ([.ref (G.2.1 0), .int p1, .int p2, .int p3] : List Value) σ (some (.int r)) σ' := by
  refine iv_start (nL := 4) (own := RX5) (ret := (some .int)) (cc := cX5_addSensor) (by decide +kernel) rfl rfl hJ.1 (Nat.le_of_ble_eq_true rfl) ?_
  intro p e s m below meth c0 C hr hlk
  refine iv_sub (lv' := [(0, .ref (G.2.1 0)), (1, .int p1), (2, .int p2), (3, .int p3)]) [0, 1, 2, 3] rfl ?_
  unfold f_X5_addSensor at h
  refine iv_aload_n (pc := 0) C 0 dX5_addSensor_0 rfl rfl ?_
  refine iv_getf (pc := 1) (T := TX5) (N := 5) (ci := 5) C 0 0 in_X5_addSensor_5 (iw_ix hJ (by decide)) iw_Eo0 rfl (by decide) lk_X5_addSensor_10 rfl rfl dX5_addSensor_1 ?_
  refine iv_iconst (pc := 4) C (0 : Int32) dX5_addSensor_4 (by decide) ?_
  refine iv_iload_n (pc := 5) C 1 dX5_addSensor_5 rfl rfl ?_
  refine iv_callV (pc := 6) (b := 20) (ci := 1) C [.int (0 : Int32), .int p1] (k_X1_has l G hJ 20 iw_net_20 (0 : Int32) p1 σ rfl) gX5_addSensor_X1_has rfl qd_X1_has ⟨rfl, rfl, Nat.le_of_ble_eq_true rfl, Nat.le_of_ble_eq_true rfl⟩ (iw_ix hJ (iw_nl iw_net_20)) (iw_E1 (iw_nk iw_net_20)) rfl rfl rfl (Nat.le_of_ble_eq_true rfl) dX5_addSensor_6 ?_
  refine iv_if_ne (pc := 9) C 16 dX5_addSensor_9 (by decide) (fun h1 => ?_) (fun h1 => ?_)
  · replace h := iw_iff h1 h
    refine iv_iload_n (pc := 16) C 2 dX5_addSensor_16 rfl rfl ?_
    refine iv_iconst (pc := 17) C (0 : Int32) dX5_addSensor_17 (by decide) ?_
    refine iv_bipush (pc := 18) C (7 : Int32) dX5_addSensor_18 (by decide) ?_
    refine iv_callS (pc := 20) C [.int p2, .int (0 : Int32), .int (7 : Int32)] (k_X5_isWithin l G hJ p2 (0 : Int32) (7 : Int32) σ rfl) gX5_addSensor_X5_isWithin rfl qd_X5_isWithin ⟨rfl, rfl, Nat.le_of_ble_eq_true rfl, Nat.le_of_ble_eq_true rfl⟩ rfl rfl (Nat.le_of_ble_eq_true rfl) dX5_addSensor_20 ?_
    refine iv_if_eq (pc := 23) C 37 dX5_addSensor_23 (by decide) (fun h2 => ?_) (fun h2 => ?_)
    · replace h := iw_ift h2 h
      refine iv_sipush (pc := 37) C (-1002 : Int32) dX5_addSensor_37 (by decide) ?_
      cases h
      exact iv_iret C hr hlk rfl rfl dX5_addSensor_40
    · replace h := iw_iff h2 h
      refine iv_iload_n (pc := 26) C 3 dX5_addSensor_26 rfl rfl ?_
      refine iv_bipush (pc := 27) C (-100 : Int32) dX5_addSensor_27 (by decide) ?_
      refine iv_bipush (pc := 29) C (100 : Int32) dX5_addSensor_29 (by decide) ?_
      refine iv_callS (pc := 31) C [.int p3, .int (-100 : Int32), .int (100 : Int32)] (k_X5_isWithin l G hJ p3 (-100 : Int32) (100 : Int32) σ rfl) gX5_addSensor_X5_isWithin rfl qd_X5_isWithin ⟨rfl, rfl, Nat.le_of_ble_eq_true rfl, Nat.le_of_ble_eq_true rfl⟩ rfl rfl (Nat.le_of_ble_eq_true rfl) dX5_addSensor_31 ?_
      refine iv_if_ne (pc := 34) C 41 dX5_addSensor_34 (by decide) (fun h3 => ?_) (fun h3 => ?_)
      · replace h := iw_iff h3 h
        refine iv_aload_n (pc := 41) C 0 dX5_addSensor_41 rfl rfl ?_
        refine iv_getf (pc := 42) (T := TX5) (N := 5) (ci := 5) C 0 0 in_X5_addSensor_5 (iw_ix hJ (by decide)) iw_Eo0 rfl (by decide) lk_X5_addSensor_10 rfl rfl dX5_addSensor_42 ?_
        refine iv_iconst (pc := 45) C (2 : Int32) dX5_addSensor_45 (by decide) ?_
        obtain ⟨v4, ev4, h⟩ := iw_be h
        refine iv_callV (pc := 46) (b := 20) (ci := 1) C [.int (2 : Int32)] (k_X1_number l G hJ n 20 iw_net_20 (2 : Int32) σ ev4) gX5_addSensor_X1_number rfl qd_X1_number ⟨rfl, rfl, Nat.le_of_ble_eq_true rfl, Nat.le_of_ble_eq_true rfl⟩ (iw_ix hJ (iw_nl iw_net_20)) (iw_E1 (iw_nk iw_net_20)) rfl rfl rfl (Nat.le_of_ble_eq_true rfl) dX5_addSensor_46 ?_
        refine iv_bipush (pc := 49) C (6 : Int32) dX5_addSensor_49 (by decide) ?_
        refine iv_icmp_lt (pc := 51) C 58 dX5_addSensor_51 (by decide) (fun h5 => ?_) (fun h5 => ?_)
        · replace h := iw_ift h5 h
          refine iv_aload_n (pc := 58) C 0 dX5_addSensor_58 rfl rfl ?_
          refine iv_getf (pc := 59) (T := TX5) (N := 5) (ci := 5) C 0 3 in_X5_addSensor_5 (iw_ix hJ (by decide)) iw_Eo0 rfl (by decide) lk_X5_addSensor_33 rfl rfl dX5_addSensor_59 ?_
          refine iv_aload_n (pc := 62) C 0 dX5_addSensor_62 rfl rfl ?_
          refine iv_getf (pc := 63) (T := TX5) (N := 5) (ci := 5) C 0 0 in_X5_addSensor_5 (iw_ix hJ (by decide)) iw_Eo0 rfl (by decide) lk_X5_addSensor_10 rfl rfl dX5_addSensor_63 ?_
          refine iv_callV (pc := 66) (b := 4) (ci := 0) C [.ref (G.2.1 20)] (k_X0_record l G hJ 20 iw_net_20 σ rfl) gX5_addSensor_X0_record rfl qd_X0_record ⟨rfl, rfl, Nat.le_of_ble_eq_true rfl, Nat.le_of_ble_eq_true rfl⟩ (iw_ix hJ (by decide)) iw_Eo4 rfl rfl rfl (Nat.le_of_ble_eq_true rfl) dX5_addSensor_66 ?_
          refine iv_topm (fun m6 em6 => ?_)
          replace h := iw_lete em6 h
          refine iv_aload_n (pc := 69) C 0 dX5_addSensor_69 rfl rfl ?_
          refine iv_getf (pc := 70) (T := TX5) (N := 5) (ci := 5) C 0 0 in_X5_addSensor_5 (iw_ix hJ (by decide)) iw_Eo0 rfl (by decide) lk_X5_addSensor_10 rfl rfl dX5_addSensor_70 ?_
          refine iv_iload_n (pc := 73) C 1 dX5_addSensor_73 rfl rfl ?_
          refine iv_iload_n (pc := 74) C 2 dX5_addSensor_74 rfl rfl ?_
          refine iv_iload_n (pc := 75) C 3 dX5_addSensor_75 rfl rfl ?_
          obtain ⟨v7, m8, ev7, h⟩ := iw_let2e h
          refine iv_callV (pc := 76) (b := 20) (ci := 1) C [.int p1, .int p2, .int p3] (k_X1_appendSensor l G hJ 20 iw_net_20 p1 p2 p3 m6 ev7) gX5_addSensor_X1_appendSensor rfl qd_X1_appendSensor ⟨rfl, rfl, Nat.le_of_ble_eq_true rfl, Nat.le_of_ble_eq_true rfl⟩ (iw_ix hJ (iw_nl iw_net_20)) (iw_E1 (iw_nk iw_net_20)) rfl rfl rfl (Nat.le_of_ble_eq_true rfl) dX5_addSensor_76 ?_
          cases h
          exact iv_iret C hr hlk rfl rfl dX5_addSensor_79
        · replace h := iw_iff h5 h
          refine iv_sipush (pc := 54) C (-1004 : Int32) dX5_addSensor_54 (by decide) ?_
          cases h
          exact iv_iret C hr hlk rfl rfl dX5_addSensor_57
      · replace h := iw_ift h3 h
        refine iv_sipush (pc := 37) C (-1002 : Int32) dX5_addSensor_37 (by decide) ?_
        cases h
        exact iv_iret C hr hlk rfl rfl dX5_addSensor_40
  · replace h := iw_ift h1 h
    refine iv_sipush (pc := 12) C (-1001 : Int32) dX5_addSensor_12 (by decide) ?_
    cases h
    exact iv_iret C hr hlk rfl rfl dX5_addSensor_15
theorem qd_X5_addSensor : yX5_addSensor.cls = RX5 ∧ yX5_addSensor.cls ≠ "java/lang/invoke/MethodHandle" ∧ yX5_addSensor.cls ≠ "java/lang/invoke/VarHandle" ∧ (parseMethodDescriptor yX5_addSensor.desc).map (fun d => d.parameters.length) = some 3 := by decide +kernel
def f_X5_measure (p1 : Int32) (p2 : Int32) (σ : iw_M) : Int32 × iw_M :=
if (f_X1_has 20 (2 : Int32) p1 σ) = (0 : Int32) then
(((-1001 : Int32), σ))
else
(if (f_X5_isWithin p2 (-100 : Int32) (100 : Int32)) = (0 : Int32) then
(((-1002 : Int32), σ))
else
(iw_let (f_X0_record 20 σ) fun m3 =>
iw_let (f_X1_sensorPart 20 p1 (2 : Int32) m3) fun v4 =>
iw_let (f_X1_setValue 20 p1 p2 m3) fun m5 =>
(v4, m5)))
abbrev rm_X5_measure : Room := { frames := 4, cells := 0, slots := 0, locals := 104 }
theorem lk_X5_measure_10 : Cond.fieldLink RX5 10 RX5 (TX5 0).2.1 (TX5 0).2.2.1 ∈ wsX5_measure := by decide +kernel
theorem lk_X5_measure_33 : Cond.fieldLink RX5 33 RX5 (TX5 3).2.1 (TX5 3).2.2.1 ∈ wsX5_measure := by decide +kernel
theorem in_X5_measure_5 : ∀ w ∈ u_ws RX5 TX5 5, w ∈ wsX5_measure := by decide +kernel
set_option maxHeartbeats 4000000 in
set_option maxRecDepth 100000 in
theorem k_X5_measure (l : Launch) (G : iw_G) (hJ : iw_JX G) (p1 : Int32) (p2 : Int32) (σ : iw_M) {r : Int32} {σ' : iw_M} (h : f_X5_measure p1 p2 σ = (r, σ')) : iw_Ct l yX5_measure wsX5_measure rm_X5_measure G ([.ref (G.2.1 0), .int p1, .int p2] : List Value) σ (some (.int r)) σ' := by
  refine iv_start (nL := 4) (own := RX5) (ret := (some .int)) (cc := cX5_measure) (by decide +kernel) rfl rfl hJ.1 (Nat.le_of_ble_eq_true rfl) ?_
  intro p e s m below meth c0 C hr hlk
  refine iv_sub (lv' := [(0, .ref (G.2.1 0)), (1, .int p1), (2, .int p2)]) [0, 1, 2] rfl ?_
  unfold f_X5_measure at h
  refine iv_aload_n (pc := 0) C 0 dX5_measure_0 rfl rfl ?_
  refine iv_getf (pc := 1) (T := TX5) (N := 5) (ci := 5) C 0 0 in_X5_measure_5 (iw_ix hJ (by decide)) iw_Eo0 rfl (by decide) lk_X5_measure_10 rfl rfl dX5_measure_1 ?_
  refine iv_iconst (pc := 4) C (2 : Int32) dX5_measure_4 (by decide) ?_
  refine iv_iload_n (pc := 5) C 1 dX5_measure_5 rfl rfl ?_
  refine iv_callV (pc := 6) (b := 20) (ci := 1) C [.int (2 : Int32), .int p1] (k_X1_has l G hJ 20 iw_net_20 (2 : Int32) p1 σ rfl) gX5_measure_X1_has rfl qd_X1_has ⟨rfl, rfl, Nat.le_of_ble_eq_true rfl, Nat.le_of_ble_eq_true rfl⟩ (iw_ix hJ (iw_nl iw_net_20)) (iw_E1 (iw_nk iw_net_20)) rfl rfl rfl (Nat.le_of_ble_eq_true rfl) dX5_measure_6 ?_
  refine iv_if_ne (pc := 9) C 16 dX5_measure_9 (by decide) (fun h1 => ?_) (fun h1 => ?_)
  · replace h := iw_iff h1 h
    refine iv_iload_n (pc := 16) C 2 dX5_measure_16 rfl rfl ?_
    refine iv_bipush (pc := 17) C (-100 : Int32) dX5_measure_17 (by decide) ?_
    refine iv_bipush (pc := 19) C (100 : Int32) dX5_measure_19 (by decide) ?_
    refine iv_callS (pc := 21) C [.int p2, .int (-100 : Int32), .int (100 : Int32)] (k_X5_isWithin l G hJ p2 (-100 : Int32) (100 : Int32) σ rfl) gX5_measure_X5_isWithin rfl qd_X5_isWithin ⟨rfl, rfl, Nat.le_of_ble_eq_true rfl, Nat.le_of_ble_eq_true rfl⟩ rfl rfl (Nat.le_of_ble_eq_true rfl) dX5_measure_21 ?_
    refine iv_if_ne (pc := 24) C 31 dX5_measure_24 (by decide) (fun h2 => ?_) (fun h2 => ?_)
    · replace h := iw_iff h2 h
      refine iv_aload_n (pc := 31) C 0 dX5_measure_31 rfl rfl ?_
      refine iv_getf (pc := 32) (T := TX5) (N := 5) (ci := 5) C 0 3 in_X5_measure_5 (iw_ix hJ (by decide)) iw_Eo0 rfl (by decide) lk_X5_measure_33 rfl rfl dX5_measure_32 ?_
      refine iv_aload_n (pc := 35) C 0 dX5_measure_35 rfl rfl ?_
      refine iv_getf (pc := 36) (T := TX5) (N := 5) (ci := 5) C 0 0 in_X5_measure_5 (iw_ix hJ (by decide)) iw_Eo0 rfl (by decide) lk_X5_measure_10 rfl rfl dX5_measure_36 ?_
      refine iv_callV (pc := 39) (b := 4) (ci := 0) C [.ref (G.2.1 20)] (k_X0_record l G hJ 20 iw_net_20 σ rfl) gX5_measure_X0_record rfl qd_X0_record ⟨rfl, rfl, Nat.le_of_ble_eq_true rfl, Nat.le_of_ble_eq_true rfl⟩ (iw_ix hJ (by decide)) iw_Eo4 rfl rfl rfl (Nat.le_of_ble_eq_true rfl) dX5_measure_39 ?_
      refine iv_topm (fun m3 em3 => ?_)
      replace h := iw_lete em3 h
      refine iv_aload_n (pc := 42) C 0 dX5_measure_42 rfl rfl ?_
      refine iv_getf (pc := 43) (T := TX5) (N := 5) (ci := 5) C 0 0 in_X5_measure_5 (iw_ix hJ (by decide)) iw_Eo0 rfl (by decide) lk_X5_measure_10 rfl rfl dX5_measure_43 ?_
      refine iv_iload_n (pc := 46) C 1 dX5_measure_46 rfl rfl ?_
      refine iv_iconst (pc := 47) C (2 : Int32) dX5_measure_47 (by decide) ?_
      refine iv_callV (pc := 48) (b := 20) (ci := 1) C [.int p1, .int (2 : Int32)] (k_X1_sensorPart l G hJ 20 iw_net_20 p1 (2 : Int32) m3 rfl) gX5_measure_X1_sensorPart rfl qd_X1_sensorPart ⟨rfl, rfl, Nat.le_of_ble_eq_true rfl, Nat.le_of_ble_eq_true rfl⟩ (iw_ix hJ (iw_nl iw_net_20)) (iw_E1 (iw_nk iw_net_20)) rfl rfl rfl (Nat.le_of_ble_eq_true rfl) dX5_measure_48 ?_
      refine iv_topi (fun v4 ev4 => ?_)
      replace h := iw_lete ev4 h
      refine iv_istore_n (pc := 51) C [(3, .int v4), (0, .ref (G.2.1 0)), (1, .int p1), (2, .int p2)] dX5_measure_51 rfl (by decide) rfl ?_
      refine iv_aload_n (pc := 52) C 1 dX5_measure_52 rfl rfl ?_
      refine iv_getf (pc := 53) (T := TX5) (N := 5) (ci := 5) C 0 0 in_X5_measure_5 (iw_ix hJ (by decide)) iw_Eo0 rfl (by decide) lk_X5_measure_10 rfl rfl dX5_measure_53 ?_
      refine iv_iload_n (pc := 56) C 2 dX5_measure_56 rfl rfl ?_
      refine iv_iload_n (pc := 57) C 3 dX5_measure_57 rfl rfl ?_
      refine iv_callV (pc := 58) (b := 20) (ci := 1) C [.int p1, .int p2] (k_X1_setValue l G hJ 20 iw_net_20 p1 p2 m3 rfl) gX5_measure_X1_setValue rfl qd_X1_setValue ⟨rfl, rfl, Nat.le_of_ble_eq_true rfl, Nat.le_of_ble_eq_true rfl⟩ (iw_ix hJ (iw_nl iw_net_20)) (iw_E1 (iw_nk iw_net_20)) rfl rfl rfl (Nat.le_of_ble_eq_true rfl) dX5_measure_58 ?_
      refine iv_topm (fun m5 em5 => ?_)
      replace h := iw_lete em5 h
      refine iv_iload_n (pc := 61) C 0 dX5_measure_61 rfl rfl ?_
      cases h
      exact iv_iret C hr hlk rfl rfl dX5_measure_62
    · replace h := iw_ift h2 h
      refine iv_sipush (pc := 27) C (-1002 : Int32) dX5_measure_27 (by decide) ?_
      cases h
      exact iv_iret C hr hlk rfl rfl dX5_measure_30
  · replace h := iw_ift h1 h
    refine iv_sipush (pc := 12) C (-1001 : Int32) dX5_measure_12 (by decide) ?_
    cases h
    exact iv_iret C hr hlk rfl rfl dX5_measure_15
theorem qd_X5_measure : yX5_measure.cls = RX5 ∧ yX5_measure.cls ≠ "java/lang/invoke/MethodHandle" ∧ yX5_measure.cls ≠ "java/lang/invoke/VarHandle" ∧ (parseMethodDescriptor yX5_measure.desc).map (fun d => d.parameters.length) = some 2 := by decide +kernel
def f_X5_ask (n : Nat) (p1 : Int32) (p2 : Int32) (p3 : Int32) (p4 : Int32) (p5 : Int32) (σ : iw_M) : Option (Int32 × iw_M) :=
if (f_X1_has 20 (0 : Int32) p1 σ) = (0 : Int32) then
(some ((-1001 : Int32), σ))
else
(if (f_X5_isWithin p2 (0 : Int32) (7 : Int32)) = (0 : Int32) then
(some ((-1002 : Int32), σ))
else
(if (f_X5_isWithin p3 (-100 : Int32) (100 : Int32)) = (0 : Int32) then
(some ((-1002 : Int32), σ))
else
(if (f_X5_isWithin p4 p3 (100 : Int32)) = (0 : Int32) then
(some ((-1002 : Int32), σ))
else
((f_X1_number n 20 (5 : Int32) σ).bind fun v5 =>
if (f_X5_isWithin p5 v5 (100000 : Int32)) = (0 : Int32) then
(some ((-1002 : Int32), σ))
else
((f_X1_number n 20 (3 : Int32) σ).bind fun v7 =>
if v7 < (5 : Int32) then
(iw_let (f_X0_record 20 σ) fun m9 =>
iw_b2 (f_X1_appendInterest n 20 p1 p2 p3 p4 p5 m9) fun v10 m11 =>
some (v10, m11))
else
(some ((-1004 : Int32), σ)))))))
abbrev rm_X5_ask : Room := { frames := 4, cells := 0, slots := 0, locals := 104 }
theorem lk_X5_ask_10 : Cond.fieldLink RX5 10 RX5 (TX5 0).2.1 (TX5 0).2.2.1 ∈ wsX5_ask := by decide +kernel
theorem lk_X5_ask_33 : Cond.fieldLink RX5 33 RX5 (TX5 3).2.1 (TX5 3).2.2.1 ∈ wsX5_ask := by decide +kernel
theorem in_X5_ask_5 : ∀ w ∈ u_ws RX5 TX5 5, w ∈ wsX5_ask := by decide +kernel
set_option maxHeartbeats 4000000 in
set_option maxRecDepth 100000 in
theorem k_X5_ask (l : Launch) (G : iw_G) (hJ : iw_JX G) (n : Nat) (p1 : Int32) (p2 : Int32) (p3 : Int32) (p4 : Int32) (p5 : Int32) (σ : iw_M) {r : Int32} {σ' : iw_M} (h : f_X5_ask n p1 p2 p3 p4 p5 σ = some (r, σ')) : iw_Ct l yX5_ask wsX5_ask rm_X5_ask G ([.ref (G.2.1 0), .int p1, .int p2, .int p3, .int p4, .int p5] : List Value) σ (some (.int r)) σ' := by
  refine iv_start (nL := 6) (own := RX5) (ret := (some .int)) (cc := cX5_ask) (by decide +kernel) rfl rfl hJ.1 (Nat.le_of_ble_eq_true rfl) ?_
  intro p e s m below meth c0 C hr hlk
  refine iv_sub (lv' := [(0, .ref (G.2.1 0)), (1, .int p1), (2, .int p2), (3, .int p3), (4, .int p4), (5, .int p5)]) [0, 1, 2, 3, 4, 5] rfl ?_
  unfold f_X5_ask at h
  refine iv_aload_n (pc := 0) C 0 dX5_ask_0 rfl rfl ?_
  refine iv_getf (pc := 1) (T := TX5) (N := 5) (ci := 5) C 0 0 in_X5_ask_5 (iw_ix hJ (by decide)) iw_Eo0 rfl (by decide) lk_X5_ask_10 rfl rfl dX5_ask_1 ?_
  refine iv_iconst (pc := 4) C (0 : Int32) dX5_ask_4 (by decide) ?_
  refine iv_iload_n (pc := 5) C 1 dX5_ask_5 rfl rfl ?_
  refine iv_callV (pc := 6) (b := 20) (ci := 1) C [.int (0 : Int32), .int p1] (k_X1_has l G hJ 20 iw_net_20 (0 : Int32) p1 σ rfl) gX5_ask_X1_has rfl qd_X1_has ⟨rfl, rfl, Nat.le_of_ble_eq_true rfl, Nat.le_of_ble_eq_true rfl⟩ (iw_ix hJ (iw_nl iw_net_20)) (iw_E1 (iw_nk iw_net_20)) rfl rfl rfl (Nat.le_of_ble_eq_true rfl) dX5_ask_6 ?_
  refine iv_if_ne (pc := 9) C 16 dX5_ask_9 (by decide) (fun h1 => ?_) (fun h1 => ?_)
  · replace h := iw_iff h1 h
    refine iv_iload_n (pc := 16) C 2 dX5_ask_16 rfl rfl ?_
    refine iv_iconst (pc := 17) C (0 : Int32) dX5_ask_17 (by decide) ?_
    refine iv_bipush (pc := 18) C (7 : Int32) dX5_ask_18 (by decide) ?_
    refine iv_callS (pc := 20) C [.int p2, .int (0 : Int32), .int (7 : Int32)] (k_X5_isWithin l G hJ p2 (0 : Int32) (7 : Int32) σ rfl) gX5_ask_X5_isWithin rfl qd_X5_isWithin ⟨rfl, rfl, Nat.le_of_ble_eq_true rfl, Nat.le_of_ble_eq_true rfl⟩ rfl rfl (Nat.le_of_ble_eq_true rfl) dX5_ask_20 ?_
    refine iv_if_eq (pc := 23) C 66 dX5_ask_23 (by decide) (fun h2 => ?_) (fun h2 => ?_)
    · replace h := iw_ift h2 h
      refine iv_sipush (pc := 66) C (-1002 : Int32) dX5_ask_66 (by decide) ?_
      cases h
      exact iv_iret C hr hlk rfl rfl dX5_ask_69
    · replace h := iw_iff h2 h
      refine iv_iload_n (pc := 26) C 3 dX5_ask_26 rfl rfl ?_
      refine iv_bipush (pc := 27) C (-100 : Int32) dX5_ask_27 (by decide) ?_
      refine iv_bipush (pc := 29) C (100 : Int32) dX5_ask_29 (by decide) ?_
      refine iv_callS (pc := 31) C [.int p3, .int (-100 : Int32), .int (100 : Int32)] (k_X5_isWithin l G hJ p3 (-100 : Int32) (100 : Int32) σ rfl) gX5_ask_X5_isWithin rfl qd_X5_isWithin ⟨rfl, rfl, Nat.le_of_ble_eq_true rfl, Nat.le_of_ble_eq_true rfl⟩ rfl rfl (Nat.le_of_ble_eq_true rfl) dX5_ask_31 ?_
      refine iv_if_eq (pc := 34) C 66 dX5_ask_34 (by decide) (fun h3 => ?_) (fun h3 => ?_)
      · replace h := iw_ift h3 h
        refine iv_sipush (pc := 66) C (-1002 : Int32) dX5_ask_66 (by decide) ?_
        cases h
        exact iv_iret C hr hlk rfl rfl dX5_ask_69
      · replace h := iw_iff h3 h
        refine iv_iload (pc := 37) C 4 dX5_ask_37 rfl ?_
        refine iv_iload_n (pc := 39) C 3 dX5_ask_39 rfl rfl ?_
        refine iv_bipush (pc := 40) C (100 : Int32) dX5_ask_40 (by decide) ?_
        refine iv_callS (pc := 42) C [.int p4, .int p3, .int (100 : Int32)] (k_X5_isWithin l G hJ p4 p3 (100 : Int32) σ rfl) gX5_ask_X5_isWithin rfl qd_X5_isWithin ⟨rfl, rfl, Nat.le_of_ble_eq_true rfl, Nat.le_of_ble_eq_true rfl⟩ rfl rfl (Nat.le_of_ble_eq_true rfl) dX5_ask_42 ?_
        refine iv_if_eq (pc := 45) C 66 dX5_ask_45 (by decide) (fun h4 => ?_) (fun h4 => ?_)
        · replace h := iw_ift h4 h
          refine iv_sipush (pc := 66) C (-1002 : Int32) dX5_ask_66 (by decide) ?_
          cases h
          exact iv_iret C hr hlk rfl rfl dX5_ask_69
        · replace h := iw_iff h4 h
          refine iv_iload (pc := 48) C 5 dX5_ask_48 rfl ?_
          refine iv_aload_n (pc := 50) C 0 dX5_ask_50 rfl rfl ?_
          refine iv_getf (pc := 51) (T := TX5) (N := 5) (ci := 5) C 0 0 in_X5_ask_5 (iw_ix hJ (by decide)) iw_Eo0 rfl (by decide) lk_X5_ask_10 rfl rfl dX5_ask_51 ?_
          refine iv_iconst (pc := 54) C (5 : Int32) dX5_ask_54 (by decide) ?_
          obtain ⟨v5, ev5, h⟩ := iw_be h
          refine iv_callV (pc := 55) (b := 20) (ci := 1) C [.int (5 : Int32)] (k_X1_number l G hJ n 20 iw_net_20 (5 : Int32) σ ev5) gX5_ask_X1_number rfl qd_X1_number ⟨rfl, rfl, Nat.le_of_ble_eq_true rfl, Nat.le_of_ble_eq_true rfl⟩ (iw_ix hJ (iw_nl iw_net_20)) (iw_E1 (iw_nk iw_net_20)) rfl rfl rfl (Nat.le_of_ble_eq_true rfl) dX5_ask_55 ?_
          refine iv_ldc (pc := 58) C (100000 : Int32) (by decide +kernel) dX5_ask_58 ?_
          refine iv_callS (pc := 60) C [.int p5, .int v5, .int (100000 : Int32)] (k_X5_isWithin l G hJ p5 v5 (100000 : Int32) σ rfl) gX5_ask_X5_isWithin rfl qd_X5_isWithin ⟨rfl, rfl, Nat.le_of_ble_eq_true rfl, Nat.le_of_ble_eq_true rfl⟩ rfl rfl (Nat.le_of_ble_eq_true rfl) dX5_ask_60 ?_
          refine iv_if_ne (pc := 63) C 70 dX5_ask_63 (by decide) (fun h6 => ?_) (fun h6 => ?_)
          · replace h := iw_iff h6 h
            refine iv_aload_n (pc := 70) C 0 dX5_ask_70 rfl rfl ?_
            refine iv_getf (pc := 71) (T := TX5) (N := 5) (ci := 5) C 0 0 in_X5_ask_5 (iw_ix hJ (by decide)) iw_Eo0 rfl (by decide) lk_X5_ask_10 rfl rfl dX5_ask_71 ?_
            refine iv_iconst (pc := 74) C (3 : Int32) dX5_ask_74 (by decide) ?_
            obtain ⟨v7, ev7, h⟩ := iw_be h
            refine iv_callV (pc := 75) (b := 20) (ci := 1) C [.int (3 : Int32)] (k_X1_number l G hJ n 20 iw_net_20 (3 : Int32) σ ev7) gX5_ask_X1_number rfl qd_X1_number ⟨rfl, rfl, Nat.le_of_ble_eq_true rfl, Nat.le_of_ble_eq_true rfl⟩ (iw_ix hJ (iw_nl iw_net_20)) (iw_E1 (iw_nk iw_net_20)) rfl rfl rfl (Nat.le_of_ble_eq_true rfl) dX5_ask_75 ?_
            refine iv_iconst (pc := 78) C (5 : Int32) dX5_ask_78 (by decide) ?_
            refine iv_icmp_lt (pc := 79) C 86 dX5_ask_79 (by decide) (fun h8 => ?_) (fun h8 => ?_)
            · replace h := iw_ift h8 h
              refine iv_aload_n (pc := 86) C 0 dX5_ask_86 rfl rfl ?_
              refine iv_getf (pc := 87) (T := TX5) (N := 5) (ci := 5) C 0 3 in_X5_ask_5 (iw_ix hJ (by decide)) iw_Eo0 rfl (by decide) lk_X5_ask_33 rfl rfl dX5_ask_87 ?_
              refine iv_aload_n (pc := 90) C 0 dX5_ask_90 rfl rfl ?_
              refine iv_getf (pc := 91) (T := TX5) (N := 5) (ci := 5) C 0 0 in_X5_ask_5 (iw_ix hJ (by decide)) iw_Eo0 rfl (by decide) lk_X5_ask_10 rfl rfl dX5_ask_91 ?_
              refine iv_callV (pc := 94) (b := 4) (ci := 0) C [.ref (G.2.1 20)] (k_X0_record l G hJ 20 iw_net_20 σ rfl) gX5_ask_X0_record rfl qd_X0_record ⟨rfl, rfl, Nat.le_of_ble_eq_true rfl, Nat.le_of_ble_eq_true rfl⟩ (iw_ix hJ (by decide)) iw_Eo4 rfl rfl rfl (Nat.le_of_ble_eq_true rfl) dX5_ask_94 ?_
              refine iv_topm (fun m9 em9 => ?_)
              replace h := iw_lete em9 h
              refine iv_aload_n (pc := 97) C 0 dX5_ask_97 rfl rfl ?_
              refine iv_getf (pc := 98) (T := TX5) (N := 5) (ci := 5) C 0 0 in_X5_ask_5 (iw_ix hJ (by decide)) iw_Eo0 rfl (by decide) lk_X5_ask_10 rfl rfl dX5_ask_98 ?_
              refine iv_iload_n (pc := 101) C 1 dX5_ask_101 rfl rfl ?_
              refine iv_iload_n (pc := 102) C 2 dX5_ask_102 rfl rfl ?_
              refine iv_iload_n (pc := 103) C 3 dX5_ask_103 rfl rfl ?_
              refine iv_iload (pc := 104) C 4 dX5_ask_104 rfl ?_
              refine iv_iload (pc := 106) C 5 dX5_ask_106 rfl ?_
              obtain ⟨v10, m11, ev10, h⟩ := iw_b2e h
              refine iv_callV (pc := 108) (b := 20) (ci := 1) C [.int p1, .int p2, .int p3, .int p4, .int p5] (k_X1_appendInterest l G hJ n 20 iw_net_20 p1 p2 p3 p4 p5 m9 ev10) gX5_ask_X1_appendInterest rfl qd_X1_appendInterest ⟨rfl, rfl, Nat.le_of_ble_eq_true rfl, Nat.le_of_ble_eq_true rfl⟩ (iw_ix hJ (iw_nl iw_net_20)) (iw_E1 (iw_nk iw_net_20)) rfl rfl rfl (Nat.le_of_ble_eq_true rfl) dX5_ask_108 ?_
              cases h
              exact iv_iret C hr hlk rfl rfl dX5_ask_111
            · replace h := iw_iff h8 h
              refine iv_sipush (pc := 82) C (-1004 : Int32) dX5_ask_82 (by decide) ?_
              cases h
              exact iv_iret C hr hlk rfl rfl dX5_ask_85
          · replace h := iw_ift h6 h
            refine iv_sipush (pc := 66) C (-1002 : Int32) dX5_ask_66 (by decide) ?_
            cases h
            exact iv_iret C hr hlk rfl rfl dX5_ask_69
  · replace h := iw_ift h1 h
    refine iv_sipush (pc := 12) C (-1001 : Int32) dX5_ask_12 (by decide) ?_
    cases h
    exact iv_iret C hr hlk rfl rfl dX5_ask_15
theorem qd_X5_ask : yX5_ask.cls = RX5 ∧ yX5_ask.cls ≠ "java/lang/invoke/MethodHandle" ∧ yX5_ask.cls ≠ "java/lang/invoke/VarHandle" ∧ (parseMethodDescriptor yX5_ask.desc).map (fun d => d.parameters.length) = some 5 := by decide +kernel
def f_X5_withdraw (n : Nat) (p1 : Int32) (σ : iw_M) : Option (Int32 × iw_M) :=
if (f_X1_has 20 (3 : Int32) p1 σ) = (0 : Int32) then
(some ((-1001 : Int32), σ))
else
(iw_let (f_X0_record 20 σ) fun m2 =>
(f_X1_removeInterest n 20 p1 m2).bind fun m3 =>
(f_X1_number n 20 (3 : Int32) m3).bind fun v4 =>
some (v4, m3))
abbrev rm_X5_withdraw : Room := { frames := 4, cells := 0, slots := 0, locals := 104 }
theorem lk_X5_withdraw_10 : Cond.fieldLink RX5 10 RX5 (TX5 0).2.1 (TX5 0).2.2.1 ∈ wsX5_withdraw := by decide +kernel
theorem lk_X5_withdraw_33 : Cond.fieldLink RX5 33 RX5 (TX5 3).2.1 (TX5 3).2.2.1 ∈ wsX5_withdraw := by decide +kernel
theorem in_X5_withdraw_5 : ∀ w ∈ u_ws RX5 TX5 5, w ∈ wsX5_withdraw := by decide +kernel
set_option maxHeartbeats 4000000 in
set_option maxRecDepth 100000 in
theorem k_X5_withdraw (l : Launch) (G : iw_G) (hJ : iw_JX G) (n : Nat) (p1 : Int32) (σ : iw_M) {r : Int32} {σ' : iw_M} (h : f_X5_withdraw n p1 σ = some (r, σ')) : iw_Ct l yX5_withdraw wsX5_withdraw rm_X5_withdraw G ([.ref (G.2.1 0), .int p1] : List Value) σ (some (.int r)) σ' := by
  refine iv_start (nL := 2) (own := RX5) (ret := (some .int)) (cc := cX5_withdraw) (by decide +kernel) rfl rfl hJ.1 (Nat.le_of_ble_eq_true rfl) ?_
  intro p e s m below meth c0 C hr hlk
  refine iv_sub (lv' := [(0, .ref (G.2.1 0)), (1, .int p1)]) [0, 1] rfl ?_
  unfold f_X5_withdraw at h
  refine iv_aload_n (pc := 0) C 0 dX5_withdraw_0 rfl rfl ?_
  refine iv_getf (pc := 1) (T := TX5) (N := 5) (ci := 5) C 0 0 in_X5_withdraw_5 (iw_ix hJ (by decide)) iw_Eo0 rfl (by decide) lk_X5_withdraw_10 rfl rfl dX5_withdraw_1 ?_
  refine iv_iconst (pc := 4) C (3 : Int32) dX5_withdraw_4 (by decide) ?_
  refine iv_iload_n (pc := 5) C 1 dX5_withdraw_5 rfl rfl ?_
  refine iv_callV (pc := 6) (b := 20) (ci := 1) C [.int (3 : Int32), .int p1] (k_X1_has l G hJ 20 iw_net_20 (3 : Int32) p1 σ rfl) gX5_withdraw_X1_has rfl qd_X1_has ⟨rfl, rfl, Nat.le_of_ble_eq_true rfl, Nat.le_of_ble_eq_true rfl⟩ (iw_ix hJ (iw_nl iw_net_20)) (iw_E1 (iw_nk iw_net_20)) rfl rfl rfl (Nat.le_of_ble_eq_true rfl) dX5_withdraw_6 ?_
  refine iv_if_ne (pc := 9) C 16 dX5_withdraw_9 (by decide) (fun h1 => ?_) (fun h1 => ?_)
  · replace h := iw_iff h1 h
    refine iv_aload_n (pc := 16) C 0 dX5_withdraw_16 rfl rfl ?_
    refine iv_getf (pc := 17) (T := TX5) (N := 5) (ci := 5) C 0 3 in_X5_withdraw_5 (iw_ix hJ (by decide)) iw_Eo0 rfl (by decide) lk_X5_withdraw_33 rfl rfl dX5_withdraw_17 ?_
    refine iv_aload_n (pc := 20) C 0 dX5_withdraw_20 rfl rfl ?_
    refine iv_getf (pc := 21) (T := TX5) (N := 5) (ci := 5) C 0 0 in_X5_withdraw_5 (iw_ix hJ (by decide)) iw_Eo0 rfl (by decide) lk_X5_withdraw_10 rfl rfl dX5_withdraw_21 ?_
    refine iv_callV (pc := 24) (b := 4) (ci := 0) C [.ref (G.2.1 20)] (k_X0_record l G hJ 20 iw_net_20 σ rfl) gX5_withdraw_X0_record rfl qd_X0_record ⟨rfl, rfl, Nat.le_of_ble_eq_true rfl, Nat.le_of_ble_eq_true rfl⟩ (iw_ix hJ (by decide)) iw_Eo4 rfl rfl rfl (Nat.le_of_ble_eq_true rfl) dX5_withdraw_24 ?_
    refine iv_topm (fun m2 em2 => ?_)
    replace h := iw_lete em2 h
    refine iv_aload_n (pc := 27) C 0 dX5_withdraw_27 rfl rfl ?_
    refine iv_getf (pc := 28) (T := TX5) (N := 5) (ci := 5) C 0 0 in_X5_withdraw_5 (iw_ix hJ (by decide)) iw_Eo0 rfl (by decide) lk_X5_withdraw_10 rfl rfl dX5_withdraw_28 ?_
    refine iv_iload_n (pc := 31) C 1 dX5_withdraw_31 rfl rfl ?_
    obtain ⟨m3, em3, h⟩ := iw_be h
    refine iv_callV (pc := 32) (b := 20) (ci := 1) C [.int p1] (k_X1_removeInterest l G hJ n 20 iw_net_20 p1 m2 em3) gX5_withdraw_X1_removeInterest rfl qd_X1_removeInterest ⟨rfl, rfl, Nat.le_of_ble_eq_true rfl, Nat.le_of_ble_eq_true rfl⟩ (iw_ix hJ (iw_nl iw_net_20)) (iw_E1 (iw_nk iw_net_20)) rfl rfl rfl (Nat.le_of_ble_eq_true rfl) dX5_withdraw_32 ?_
    refine iv_aload_n (pc := 35) C 0 dX5_withdraw_35 rfl rfl ?_
    refine iv_getf (pc := 36) (T := TX5) (N := 5) (ci := 5) C 0 0 in_X5_withdraw_5 (iw_ix hJ (by decide)) iw_Eo0 rfl (by decide) lk_X5_withdraw_10 rfl rfl dX5_withdraw_36 ?_
    refine iv_iconst (pc := 39) C (3 : Int32) dX5_withdraw_39 (by decide) ?_
    obtain ⟨v4, ev4, h⟩ := iw_be h
    refine iv_callV (pc := 40) (b := 20) (ci := 1) C [.int (3 : Int32)] (k_X1_number l G hJ n 20 iw_net_20 (3 : Int32) m3 ev4) gX5_withdraw_X1_number rfl qd_X1_number ⟨rfl, rfl, Nat.le_of_ble_eq_true rfl, Nat.le_of_ble_eq_true rfl⟩ (iw_ix hJ (iw_nl iw_net_20)) (iw_E1 (iw_nk iw_net_20)) rfl rfl rfl (Nat.le_of_ble_eq_true rfl) dX5_withdraw_40 ?_
    cases h
    exact iv_iret C hr hlk rfl rfl dX5_withdraw_43
  · replace h := iw_ift h1 h
    refine iv_sipush (pc := 12) C (-1001 : Int32) dX5_withdraw_12 (by decide) ?_
    cases h
    exact iv_iret C hr hlk rfl rfl dX5_withdraw_15
theorem qd_X5_withdraw : yX5_withdraw.cls = RX5 ∧ yX5_withdraw.cls ≠ "java/lang/invoke/MethodHandle" ∧ yX5_withdraw.cls ≠ "java/lang/invoke/VarHandle" ∧ (parseMethodDescriptor yX5_withdraw.desc).map (fun d => d.parameters.length) = some 1 := by decide +kernel
def f_X5_setPeriod (n : Nat) (p1 : Int32) (σ : iw_M) : Option (Int32 × iw_M) :=
if (f_X5_isWithin p1 (1 : Int32) (50 : Int32)) = (0 : Int32) then
(some ((-1002 : Int32), σ))
else
(iw_let (f_X0_record 20 σ) fun m2 =>
(f_X1_number n 20 (4 : Int32) m2).bind fun v3 =>
iw_let (f_X1_setNumber 20 (4 : Int32) p1 m2) fun m4 =>
some (v3, m4))
abbrev rm_X5_setPeriod : Room := { frames := 4, cells := 0, slots := 0, locals := 104 }
theorem lk_X5_setPeriod_33 : Cond.fieldLink RX5 33 RX5 (TX5 3).2.1 (TX5 3).2.2.1 ∈ wsX5_setPeriod := by decide +kernel
theorem lk_X5_setPeriod_10 : Cond.fieldLink RX5 10 RX5 (TX5 0).2.1 (TX5 0).2.2.1 ∈ wsX5_setPeriod := by decide +kernel
theorem in_X5_setPeriod_5 : ∀ w ∈ u_ws RX5 TX5 5, w ∈ wsX5_setPeriod := by decide +kernel
set_option maxHeartbeats 4000000 in
set_option maxRecDepth 100000 in
theorem k_X5_setPeriod (l : Launch) (G : iw_G) (hJ : iw_JX G) (n : Nat) (p1 : Int32) (σ : iw_M) {r : Int32} {σ' : iw_M} (h : f_X5_setPeriod n p1 σ = some (r, σ')) : iw_Ct l yX5_setPeriod wsX5_setPeriod rm_X5_setPeriod G ([.ref (G.2.1 0), .int p1] : List Value) σ (some (.int r)) σ' := by
  refine iv_start (nL := 3) (own := RX5) (ret := (some .int)) (cc := cX5_setPeriod) (by decide +kernel) rfl rfl hJ.1 (Nat.le_of_ble_eq_true rfl) ?_
  intro p e s m below meth c0 C hr hlk
  refine iv_sub (lv' := [(0, .ref (G.2.1 0)), (1, .int p1)]) [0, 1] rfl ?_
  unfold f_X5_setPeriod at h
  refine iv_iload_n (pc := 0) C 1 dX5_setPeriod_0 rfl rfl ?_
  refine iv_iconst (pc := 1) C (1 : Int32) dX5_setPeriod_1 (by decide) ?_
  refine iv_bipush (pc := 2) C (50 : Int32) dX5_setPeriod_2 (by decide) ?_
  refine iv_callS (pc := 4) C [.int p1, .int (1 : Int32), .int (50 : Int32)] (k_X5_isWithin l G hJ p1 (1 : Int32) (50 : Int32) σ rfl) gX5_setPeriod_X5_isWithin rfl qd_X5_isWithin ⟨rfl, rfl, Nat.le_of_ble_eq_true rfl, Nat.le_of_ble_eq_true rfl⟩ rfl rfl (Nat.le_of_ble_eq_true rfl) dX5_setPeriod_4 ?_
  refine iv_if_ne (pc := 7) C 14 dX5_setPeriod_7 (by decide) (fun h1 => ?_) (fun h1 => ?_)
  · replace h := iw_iff h1 h
    refine iv_aload_n (pc := 14) C 0 dX5_setPeriod_14 rfl rfl ?_
    refine iv_getf (pc := 15) (T := TX5) (N := 5) (ci := 5) C 0 3 in_X5_setPeriod_5 (iw_ix hJ (by decide)) iw_Eo0 rfl (by decide) lk_X5_setPeriod_33 rfl rfl dX5_setPeriod_15 ?_
    refine iv_aload_n (pc := 18) C 0 dX5_setPeriod_18 rfl rfl ?_
    refine iv_getf (pc := 19) (T := TX5) (N := 5) (ci := 5) C 0 0 in_X5_setPeriod_5 (iw_ix hJ (by decide)) iw_Eo0 rfl (by decide) lk_X5_setPeriod_10 rfl rfl dX5_setPeriod_19 ?_
    refine iv_callV (pc := 22) (b := 4) (ci := 0) C [.ref (G.2.1 20)] (k_X0_record l G hJ 20 iw_net_20 σ rfl) gX5_setPeriod_X0_record rfl qd_X0_record ⟨rfl, rfl, Nat.le_of_ble_eq_true rfl, Nat.le_of_ble_eq_true rfl⟩ (iw_ix hJ (by decide)) iw_Eo4 rfl rfl rfl (Nat.le_of_ble_eq_true rfl) dX5_setPeriod_22 ?_
    refine iv_topm (fun m2 em2 => ?_)
    replace h := iw_lete em2 h
    refine iv_aload_n (pc := 25) C 0 dX5_setPeriod_25 rfl rfl ?_
    refine iv_getf (pc := 26) (T := TX5) (N := 5) (ci := 5) C 0 0 in_X5_setPeriod_5 (iw_ix hJ (by decide)) iw_Eo0 rfl (by decide) lk_X5_setPeriod_10 rfl rfl dX5_setPeriod_26 ?_
    refine iv_iconst (pc := 29) C (4 : Int32) dX5_setPeriod_29 (by decide) ?_
    obtain ⟨v3, ev3, h⟩ := iw_be h
    refine iv_callV (pc := 30) (b := 20) (ci := 1) C [.int (4 : Int32)] (k_X1_number l G hJ n 20 iw_net_20 (4 : Int32) m2 ev3) gX5_setPeriod_X1_number rfl qd_X1_number ⟨rfl, rfl, Nat.le_of_ble_eq_true rfl, Nat.le_of_ble_eq_true rfl⟩ (iw_ix hJ (iw_nl iw_net_20)) (iw_E1 (iw_nk iw_net_20)) rfl rfl rfl (Nat.le_of_ble_eq_true rfl) dX5_setPeriod_30 ?_
    refine iv_istore_n (pc := 33) C [(2, .int v3), (0, .ref (G.2.1 0)), (1, .int p1)] dX5_setPeriod_33 rfl (by decide) rfl ?_
    refine iv_aload_n (pc := 34) C 1 dX5_setPeriod_34 rfl rfl ?_
    refine iv_getf (pc := 35) (T := TX5) (N := 5) (ci := 5) C 0 0 in_X5_setPeriod_5 (iw_ix hJ (by decide)) iw_Eo0 rfl (by decide) lk_X5_setPeriod_10 rfl rfl dX5_setPeriod_35 ?_
    refine iv_iconst (pc := 38) C (4 : Int32) dX5_setPeriod_38 (by decide) ?_
    refine iv_iload_n (pc := 39) C 2 dX5_setPeriod_39 rfl rfl ?_
    refine iv_callV (pc := 40) (b := 20) (ci := 1) C [.int (4 : Int32), .int p1] (k_X1_setNumber l G hJ 20 iw_net_20 (4 : Int32) p1 m2 rfl) gX5_setPeriod_X1_setNumber rfl qd_X1_setNumber ⟨rfl, rfl, Nat.le_of_ble_eq_true rfl, Nat.le_of_ble_eq_true rfl⟩ (iw_ix hJ (iw_nl iw_net_20)) (iw_E1 (iw_nk iw_net_20)) rfl rfl rfl (Nat.le_of_ble_eq_true rfl) dX5_setPeriod_40 ?_
    refine iv_topm (fun m4 em4 => ?_)
    replace h := iw_lete em4 h
    refine iv_iload_n (pc := 43) C 0 dX5_setPeriod_43 rfl rfl ?_
    cases h
    exact iv_iret C hr hlk rfl rfl dX5_setPeriod_44
  · replace h := iw_ift h1 h
    refine iv_sipush (pc := 10) C (-1002 : Int32) dX5_setPeriod_10 (by decide) ?_
    cases h
    exact iv_iret C hr hlk rfl rfl dX5_setPeriod_13
theorem qd_X5_setPeriod : yX5_setPeriod.cls = RX5 ∧ yX5_setPeriod.cls ≠ "java/lang/invoke/MethodHandle" ∧ yX5_setPeriod.cls ≠ "java/lang/invoke/VarHandle" ∧ (parseMethodDescriptor yX5_setPeriod.desc).map (fun d => d.parameters.length) = some 1 := by decide +kernel
def f_X5_count (n : Nat) (p1 : Int32) (σ : iw_M) : Option (Int32) :=
if (f_X5_isWithin p1 (0 : Int32) (11 : Int32)) = (0 : Int32) then
(some (-1002 : Int32))
else
((f_X1_number n 20 p1 σ).bind fun v2 =>
some v2)
abbrev rm_X5_count : Room := { frames := 3, cells := 0, slots := 0, locals := 64 }
theorem lk_X5_count_10 : Cond.fieldLink RX5 10 RX5 (TX5 0).2.1 (TX5 0).2.2.1 ∈ wsX5_count := by decide +kernel
theorem in_X5_count_5 : ∀ w ∈ u_ws RX5 TX5 5, w ∈ wsX5_count := by decide +kernel
set_option maxHeartbeats 4000000 in
set_option maxRecDepth 100000 in
theorem k_X5_count (l : Launch) (G : iw_G) (hJ : iw_JX G) (n : Nat) (p1 : Int32) (σ : iw_M) {r : Int32} (h : f_X5_count n p1 σ = some r) : iw_Ct l yX5_count wsX5_count rm_X5_count G ([.ref (G.2.1 0), .int p1] : List Value) σ (some (.int r)) σ := by
  refine iv_start (nL := 2) (own := RX5) (ret := (some .int)) (cc := cX5_count) (by decide +kernel) rfl rfl hJ.1 (Nat.le_of_ble_eq_true rfl) ?_
  intro p e s m below meth c0 C hr hlk
  refine iv_sub (lv' := [(0, .ref (G.2.1 0)), (1, .int p1)]) [0, 1] rfl ?_
  unfold f_X5_count at h
  refine iv_iload_n (pc := 0) C 1 dX5_count_0 rfl rfl ?_
  refine iv_iconst (pc := 1) C (0 : Int32) dX5_count_1 (by decide) ?_
  refine iv_bipush (pc := 2) C (11 : Int32) dX5_count_2 (by decide) ?_
  refine iv_callS (pc := 4) C [.int p1, .int (0 : Int32), .int (11 : Int32)] (k_X5_isWithin l G hJ p1 (0 : Int32) (11 : Int32) σ rfl) gX5_count_X5_isWithin rfl qd_X5_isWithin ⟨rfl, rfl, Nat.le_of_ble_eq_true rfl, Nat.le_of_ble_eq_true rfl⟩ rfl rfl (Nat.le_of_ble_eq_true rfl) dX5_count_4 ?_
  refine iv_if_eq (pc := 7) C 21 dX5_count_7 (by decide) (fun h1 => ?_) (fun h1 => ?_)
  · replace h := iw_ift h1 h
    refine iv_sipush (pc := 21) C (-1002 : Int32) dX5_count_21 (by decide) ?_
    cases h
    exact iv_iret C hr hlk rfl rfl dX5_count_24
  · replace h := iw_iff h1 h
    refine iv_aload_n (pc := 10) C 0 dX5_count_10 rfl rfl ?_
    refine iv_getf (pc := 11) (T := TX5) (N := 5) (ci := 5) C 0 0 in_X5_count_5 (iw_ix hJ (by decide)) iw_Eo0 rfl (by decide) lk_X5_count_10 rfl rfl dX5_count_11 ?_
    refine iv_iload_n (pc := 14) C 1 dX5_count_14 rfl rfl ?_
    obtain ⟨v2, ev2, h⟩ := iw_be h
    refine iv_callV (pc := 15) (b := 20) (ci := 1) C [.int p1] (k_X1_number l G hJ n 20 iw_net_20 p1 σ ev2) gX5_count_X1_number rfl qd_X1_number ⟨rfl, rfl, Nat.le_of_ble_eq_true rfl, Nat.le_of_ble_eq_true rfl⟩ (iw_ix hJ (iw_nl iw_net_20)) (iw_E1 (iw_nk iw_net_20)) rfl rfl rfl (Nat.le_of_ble_eq_true rfl) dX5_count_15 ?_
    refine iv_goto (pc := 18) C 24 dX5_count_18 (by decide) ?_
    cases h
    exact iv_iret C hr hlk rfl rfl dX5_count_24
theorem qd_X5_count : yX5_count.cls = RX5 ∧ yX5_count.cls ≠ "java/lang/invoke/MethodHandle" ∧ yX5_count.cls ≠ "java/lang/invoke/VarHandle" ∧ (parseMethodDescriptor yX5_count.desc).map (fun d => d.parameters.length) = some 1 := by decide +kernel
def f_X5_energy (p1 : Int32) (σ : iw_M) : Int32 :=
if (f_X1_has 20 (0 : Int32) p1 σ) = (0 : Int32) then
((-1001 : Int32))
else
((f_X1_energyOf 20 p1 σ))
abbrev rm_X5_energy : Room := { frames := 2, cells := 0, slots := 0, locals := 43 }
theorem lk_X5_energy_10 : Cond.fieldLink RX5 10 RX5 (TX5 0).2.1 (TX5 0).2.2.1 ∈ wsX5_energy := by decide +kernel
theorem in_X5_energy_5 : ∀ w ∈ u_ws RX5 TX5 5, w ∈ wsX5_energy := by decide +kernel
set_option maxHeartbeats 4000000 in
set_option maxRecDepth 100000 in
theorem k_X5_energy (l : Launch) (G : iw_G) (hJ : iw_JX G) (p1 : Int32) (σ : iw_M) {r : Int32} (h : f_X5_energy p1 σ = r) : iw_Ct l yX5_energy wsX5_energy rm_X5_energy G ([.ref (G.2.1 0), .int p1] : List Value) σ (some (.int r)) σ := by
  refine iv_start (nL := 2) (own := RX5) (ret := (some .int)) (cc := cX5_energy) (by decide +kernel) rfl rfl hJ.1 (Nat.le_of_ble_eq_true rfl) ?_
  intro p e s m below meth c0 C hr hlk
  refine iv_sub (lv' := [(0, .ref (G.2.1 0)), (1, .int p1)]) [0, 1] rfl ?_
  unfold f_X5_energy at h
  refine iv_aload_n (pc := 0) C 0 dX5_energy_0 rfl rfl ?_
  refine iv_getf (pc := 1) (T := TX5) (N := 5) (ci := 5) C 0 0 in_X5_energy_5 (iw_ix hJ (by decide)) iw_Eo0 rfl (by decide) lk_X5_energy_10 rfl rfl dX5_energy_1 ?_
  refine iv_iconst (pc := 4) C (0 : Int32) dX5_energy_4 (by decide) ?_
  refine iv_iload_n (pc := 5) C 1 dX5_energy_5 rfl rfl ?_
  refine iv_callV (pc := 6) (b := 20) (ci := 1) C [.int (0 : Int32), .int p1] (k_X1_has l G hJ 20 iw_net_20 (0 : Int32) p1 σ rfl) gX5_energy_X1_has rfl qd_X1_has ⟨rfl, rfl, Nat.le_of_ble_eq_true rfl, Nat.le_of_ble_eq_true rfl⟩ (iw_ix hJ (iw_nl iw_net_20)) (iw_E1 (iw_nk iw_net_20)) rfl rfl rfl (Nat.le_of_ble_eq_true rfl) dX5_energy_6 ?_
  refine iv_if_eq (pc := 9) C 23 dX5_energy_9 (by decide) (fun h1 => ?_) (fun h1 => ?_)
  · replace h := iw_ift h1 h
    refine iv_sipush (pc := 23) C (-1001 : Int32) dX5_energy_23 (by decide) ?_
    cases h
    exact iv_iret C hr hlk rfl rfl dX5_energy_26
  · replace h := iw_iff h1 h
    refine iv_aload_n (pc := 12) C 0 dX5_energy_12 rfl rfl ?_
    refine iv_getf (pc := 13) (T := TX5) (N := 5) (ci := 5) C 0 0 in_X5_energy_5 (iw_ix hJ (by decide)) iw_Eo0 rfl (by decide) lk_X5_energy_10 rfl rfl dX5_energy_13 ?_
    refine iv_iload_n (pc := 16) C 1 dX5_energy_16 rfl rfl ?_
    refine iv_callV (pc := 17) (b := 20) (ci := 1) C [.int p1] (k_X1_energyOf l G hJ 20 iw_net_20 p1 σ rfl) gX5_energy_X1_energyOf rfl qd_X1_energyOf ⟨rfl, rfl, Nat.le_of_ble_eq_true rfl, Nat.le_of_ble_eq_true rfl⟩ (iw_ix hJ (iw_nl iw_net_20)) (iw_E1 (iw_nk iw_net_20)) rfl rfl rfl (Nat.le_of_ble_eq_true rfl) dX5_energy_17 ?_
    refine iv_goto (pc := 20) C 26 dX5_energy_20 (by decide) ?_
    cases h
    exact iv_iret C hr hlk rfl rfl dX5_energy_26
theorem qd_X5_energy : yX5_energy.cls = RX5 ∧ yX5_energy.cls ≠ "java/lang/invoke/MethodHandle" ∧ yX5_energy.cls ≠ "java/lang/invoke/VarHandle" ∧ (parseMethodDescriptor yX5_energy.desc).map (fun d => d.parameters.length) = some 1 := by decide +kernel
def f_X5_linkPart (p1 : Int32) (p2 : Int32) (σ : iw_M) : Int32 :=
if (f_X1_has 20 (1 : Int32) p1 σ) = (0 : Int32) then
((-1001 : Int32))
else
(if (f_X5_isWithin p2 (0 : Int32) (2 : Int32)) = (0 : Int32) then
((-1002 : Int32))
else
((f_X1_partOfLink 20 p1 p2 σ)))
abbrev rm_X5_linkPart : Room := { frames := 2, cells := 0, slots := 0, locals := 43 }
theorem lk_X5_linkPart_10 : Cond.fieldLink RX5 10 RX5 (TX5 0).2.1 (TX5 0).2.2.1 ∈ wsX5_linkPart := by decide +kernel
theorem in_X5_linkPart_5 : ∀ w ∈ u_ws RX5 TX5 5, w ∈ wsX5_linkPart := by decide +kernel
set_option maxHeartbeats 4000000 in
set_option maxRecDepth 100000 in
theorem k_X5_linkPart (l : Launch) (G : iw_G) (hJ : iw_JX G) (p1 : Int32) (p2 : Int32) (σ : iw_M) {r : Int32} (h : f_X5_linkPart p1 p2 σ = r) : iw_Ct l yX5_linkPart wsX5_linkPart rm_X5_linkPart G ([.ref (G.2.1 0), .int p1, .int p2] : List Value) σ (some (.int r)) σ := by
  refine iv_start (nL := 3) (own := RX5) (ret := (some .int)) (cc := cX5_linkPart) (by decide +kernel) rfl rfl hJ.1 (Nat.le_of_ble_eq_true rfl) ?_
  intro p e s m below meth c0 C hr hlk
  refine iv_sub (lv' := [(0, .ref (G.2.1 0)), (1, .int p1), (2, .int p2)]) [0, 1, 2] rfl ?_
  unfold f_X5_linkPart at h
  refine iv_aload_n (pc := 0) C 0 dX5_linkPart_0 rfl rfl ?_
  refine iv_getf (pc := 1) (T := TX5) (N := 5) (ci := 5) C 0 0 in_X5_linkPart_5 (iw_ix hJ (by decide)) iw_Eo0 rfl (by decide) lk_X5_linkPart_10 rfl rfl dX5_linkPart_1 ?_
  refine iv_iconst (pc := 4) C (1 : Int32) dX5_linkPart_4 (by decide) ?_
  refine iv_iload_n (pc := 5) C 1 dX5_linkPart_5 rfl rfl ?_
  refine iv_callV (pc := 6) (b := 20) (ci := 1) C [.int (1 : Int32), .int p1] (k_X1_has l G hJ 20 iw_net_20 (1 : Int32) p1 σ rfl) gX5_linkPart_X1_has rfl qd_X1_has ⟨rfl, rfl, Nat.le_of_ble_eq_true rfl, Nat.le_of_ble_eq_true rfl⟩ (iw_ix hJ (iw_nl iw_net_20)) (iw_E1 (iw_nk iw_net_20)) rfl rfl rfl (Nat.le_of_ble_eq_true rfl) dX5_linkPart_6 ?_
  refine iv_if_ne (pc := 9) C 16 dX5_linkPart_9 (by decide) (fun h1 => ?_) (fun h1 => ?_)
  · replace h := iw_iff h1 h
    refine iv_iload_n (pc := 16) C 2 dX5_linkPart_16 rfl rfl ?_
    refine iv_iconst (pc := 17) C (0 : Int32) dX5_linkPart_17 (by decide) ?_
    refine iv_iconst (pc := 18) C (2 : Int32) dX5_linkPart_18 (by decide) ?_
    refine iv_callS (pc := 19) C [.int p2, .int (0 : Int32), .int (2 : Int32)] (k_X5_isWithin l G hJ p2 (0 : Int32) (2 : Int32) σ rfl) gX5_linkPart_X5_isWithin rfl qd_X5_isWithin ⟨rfl, rfl, Nat.le_of_ble_eq_true rfl, Nat.le_of_ble_eq_true rfl⟩ rfl rfl (Nat.le_of_ble_eq_true rfl) dX5_linkPart_19 ?_
    refine iv_if_eq (pc := 22) C 37 dX5_linkPart_22 (by decide) (fun h2 => ?_) (fun h2 => ?_)
    · replace h := iw_ift h2 h
      refine iv_sipush (pc := 37) C (-1002 : Int32) dX5_linkPart_37 (by decide) ?_
      cases h
      exact iv_iret C hr hlk rfl rfl dX5_linkPart_40
    · replace h := iw_iff h2 h
      refine iv_aload_n (pc := 25) C 0 dX5_linkPart_25 rfl rfl ?_
      refine iv_getf (pc := 26) (T := TX5) (N := 5) (ci := 5) C 0 0 in_X5_linkPart_5 (iw_ix hJ (by decide)) iw_Eo0 rfl (by decide) lk_X5_linkPart_10 rfl rfl dX5_linkPart_26 ?_
      refine iv_iload_n (pc := 29) C 1 dX5_linkPart_29 rfl rfl ?_
      refine iv_iload_n (pc := 30) C 2 dX5_linkPart_30 rfl rfl ?_
      refine iv_callV (pc := 31) (b := 20) (ci := 1) C [.int p1, .int p2] (k_X1_partOfLink l G hJ 20 iw_net_20 p1 p2 σ rfl) gX5_linkPart_X1_partOfLink rfl qd_X1_partOfLink ⟨rfl, rfl, Nat.le_of_ble_eq_true rfl, Nat.le_of_ble_eq_true rfl⟩ (iw_ix hJ (iw_nl iw_net_20)) (iw_E1 (iw_nk iw_net_20)) rfl rfl rfl (Nat.le_of_ble_eq_true rfl) dX5_linkPart_31 ?_
      refine iv_goto (pc := 34) C 40 dX5_linkPart_34 (by decide) ?_
      cases h
      exact iv_iret C hr hlk rfl rfl dX5_linkPart_40
  · replace h := iw_ift h1 h
    refine iv_sipush (pc := 12) C (-1001 : Int32) dX5_linkPart_12 (by decide) ?_
    cases h
    exact iv_iret C hr hlk rfl rfl dX5_linkPart_15
theorem qd_X5_linkPart : yX5_linkPart.cls = RX5 ∧ yX5_linkPart.cls ≠ "java/lang/invoke/MethodHandle" ∧ yX5_linkPart.cls ≠ "java/lang/invoke/VarHandle" ∧ (parseMethodDescriptor yX5_linkPart.desc).map (fun d => d.parameters.length) = some 2 := by decide +kernel
def f_X5_sensor (p1 : Int32) (p2 : Int32) (σ : iw_M) : Int32 :=
if (f_X1_has 20 (2 : Int32) p1 σ) = (0 : Int32) then
((-1001 : Int32))
else
(if (f_X5_isWithin p2 (0 : Int32) (2 : Int32)) = (0 : Int32) then
((-1002 : Int32))
else
((f_X1_sensorPart 20 p1 p2 σ)))
abbrev rm_X5_sensor : Room := { frames := 2, cells := 0, slots := 0, locals := 43 }
theorem lk_X5_sensor_10 : Cond.fieldLink RX5 10 RX5 (TX5 0).2.1 (TX5 0).2.2.1 ∈ wsX5_sensor := by decide +kernel
theorem in_X5_sensor_5 : ∀ w ∈ u_ws RX5 TX5 5, w ∈ wsX5_sensor := by decide +kernel
set_option maxHeartbeats 4000000 in
set_option maxRecDepth 100000 in
theorem k_X5_sensor (l : Launch) (G : iw_G) (hJ : iw_JX G) (p1 : Int32) (p2 : Int32) (σ : iw_M) {r : Int32} (h : f_X5_sensor p1 p2 σ = r) : iw_Ct l yX5_sensor wsX5_sensor rm_X5_sensor G ([.ref (G.2.1 0), .int p1, .int p2] : List Value) σ (some (.int r)) σ := by
  refine iv_start (nL := 3) (own := RX5) (ret := (some .int)) (cc := cX5_sensor) (by decide +kernel) rfl rfl hJ.1 (Nat.le_of_ble_eq_true rfl) ?_
  intro p e s m below meth c0 C hr hlk
  refine iv_sub (lv' := [(0, .ref (G.2.1 0)), (1, .int p1), (2, .int p2)]) [0, 1, 2] rfl ?_
  unfold f_X5_sensor at h
  refine iv_aload_n (pc := 0) C 0 dX5_sensor_0 rfl rfl ?_
  refine iv_getf (pc := 1) (T := TX5) (N := 5) (ci := 5) C 0 0 in_X5_sensor_5 (iw_ix hJ (by decide)) iw_Eo0 rfl (by decide) lk_X5_sensor_10 rfl rfl dX5_sensor_1 ?_
  refine iv_iconst (pc := 4) C (2 : Int32) dX5_sensor_4 (by decide) ?_
  refine iv_iload_n (pc := 5) C 1 dX5_sensor_5 rfl rfl ?_
  refine iv_callV (pc := 6) (b := 20) (ci := 1) C [.int (2 : Int32), .int p1] (k_X1_has l G hJ 20 iw_net_20 (2 : Int32) p1 σ rfl) gX5_sensor_X1_has rfl qd_X1_has ⟨rfl, rfl, Nat.le_of_ble_eq_true rfl, Nat.le_of_ble_eq_true rfl⟩ (iw_ix hJ (iw_nl iw_net_20)) (iw_E1 (iw_nk iw_net_20)) rfl rfl rfl (Nat.le_of_ble_eq_true rfl) dX5_sensor_6 ?_
  refine iv_if_ne (pc := 9) C 16 dX5_sensor_9 (by decide) (fun h1 => ?_) (fun h1 => ?_)
  · replace h := iw_iff h1 h
    refine iv_iload_n (pc := 16) C 2 dX5_sensor_16 rfl rfl ?_
    refine iv_iconst (pc := 17) C (0 : Int32) dX5_sensor_17 (by decide) ?_
    refine iv_iconst (pc := 18) C (2 : Int32) dX5_sensor_18 (by decide) ?_
    refine iv_callS (pc := 19) C [.int p2, .int (0 : Int32), .int (2 : Int32)] (k_X5_isWithin l G hJ p2 (0 : Int32) (2 : Int32) σ rfl) gX5_sensor_X5_isWithin rfl qd_X5_isWithin ⟨rfl, rfl, Nat.le_of_ble_eq_true rfl, Nat.le_of_ble_eq_true rfl⟩ rfl rfl (Nat.le_of_ble_eq_true rfl) dX5_sensor_19 ?_
    refine iv_if_eq (pc := 22) C 37 dX5_sensor_22 (by decide) (fun h2 => ?_) (fun h2 => ?_)
    · replace h := iw_ift h2 h
      refine iv_sipush (pc := 37) C (-1002 : Int32) dX5_sensor_37 (by decide) ?_
      cases h
      exact iv_iret C hr hlk rfl rfl dX5_sensor_40
    · replace h := iw_iff h2 h
      refine iv_aload_n (pc := 25) C 0 dX5_sensor_25 rfl rfl ?_
      refine iv_getf (pc := 26) (T := TX5) (N := 5) (ci := 5) C 0 0 in_X5_sensor_5 (iw_ix hJ (by decide)) iw_Eo0 rfl (by decide) lk_X5_sensor_10 rfl rfl dX5_sensor_26 ?_
      refine iv_iload_n (pc := 29) C 1 dX5_sensor_29 rfl rfl ?_
      refine iv_iload_n (pc := 30) C 2 dX5_sensor_30 rfl rfl ?_
      refine iv_callV (pc := 31) (b := 20) (ci := 1) C [.int p1, .int p2] (k_X1_sensorPart l G hJ 20 iw_net_20 p1 p2 σ rfl) gX5_sensor_X1_sensorPart rfl qd_X1_sensorPart ⟨rfl, rfl, Nat.le_of_ble_eq_true rfl, Nat.le_of_ble_eq_true rfl⟩ (iw_ix hJ (iw_nl iw_net_20)) (iw_E1 (iw_nk iw_net_20)) rfl rfl rfl (Nat.le_of_ble_eq_true rfl) dX5_sensor_31 ?_
      refine iv_goto (pc := 34) C 40 dX5_sensor_34 (by decide) ?_
      cases h
      exact iv_iret C hr hlk rfl rfl dX5_sensor_40
  · replace h := iw_ift h1 h
    refine iv_sipush (pc := 12) C (-1001 : Int32) dX5_sensor_12 (by decide) ?_
    cases h
    exact iv_iret C hr hlk rfl rfl dX5_sensor_15
theorem qd_X5_sensor : yX5_sensor.cls = RX5 ∧ yX5_sensor.cls ≠ "java/lang/invoke/MethodHandle" ∧ yX5_sensor.cls ≠ "java/lang/invoke/VarHandle" ∧ (parseMethodDescriptor yX5_sensor.desc).map (fun d => d.parameters.length) = some 2 := by decide +kernel
def f_X5_interest (n : Nat) (p1 : Int32) (p2 : Int32) (σ : iw_M) : Option (Int32) :=
if (f_X1_has 20 (3 : Int32) p1 σ) = (0 : Int32) then
(some (-1001 : Int32))
else
(if (f_X5_isWithin p2 (0 : Int32) (7 : Int32)) = (0 : Int32) then
(some (-1002 : Int32))
else
((f_X1_interestPart n 20 p1 p2 σ).bind fun v3 =>
some v3))
abbrev rm_X5_interest : Room := { frames := 3, cells := 0, slots := 0, locals := 66 }
theorem lk_X5_interest_10 : Cond.fieldLink RX5 10 RX5 (TX5 0).2.1 (TX5 0).2.2.1 ∈ wsX5_interest := by decide +kernel
theorem in_X5_interest_5 : ∀ w ∈ u_ws RX5 TX5 5, w ∈ wsX5_interest := by decide +kernel
set_option maxHeartbeats 4000000 in
set_option maxRecDepth 100000 in
theorem k_X5_interest (l : Launch) (G : iw_G) (hJ : iw_JX G) (n : Nat) (p1 : Int32) (p2 : Int32) (σ : iw_M) {r : Int32} (h : f_X5_interest n p1 p2 σ = some r) : iw_Ct l yX5_interest wsX5_interest rm_X5_interest G ([.ref (G.2.1 0), .int p1, .int p2] : List Value) σ (some (.int r)) σ := by
  refine iv_start (nL := 3) (own := RX5) (ret := (some .int)) (cc := cX5_interest) (by decide +kernel) rfl rfl hJ.1 (Nat.le_of_ble_eq_true rfl) ?_
  intro p e s m below meth c0 C hr hlk
  refine iv_sub (lv' := [(0, .ref (G.2.1 0)), (1, .int p1), (2, .int p2)]) [0, 1, 2] rfl ?_
  unfold f_X5_interest at h
  refine iv_aload_n (pc := 0) C 0 dX5_interest_0 rfl rfl ?_
  refine iv_getf (pc := 1) (T := TX5) (N := 5) (ci := 5) C 0 0 in_X5_interest_5 (iw_ix hJ (by decide)) iw_Eo0 rfl (by decide) lk_X5_interest_10 rfl rfl dX5_interest_1 ?_
  refine iv_iconst (pc := 4) C (3 : Int32) dX5_interest_4 (by decide) ?_
  refine iv_iload_n (pc := 5) C 1 dX5_interest_5 rfl rfl ?_
  refine iv_callV (pc := 6) (b := 20) (ci := 1) C [.int (3 : Int32), .int p1] (k_X1_has l G hJ 20 iw_net_20 (3 : Int32) p1 σ rfl) gX5_interest_X1_has rfl qd_X1_has ⟨rfl, rfl, Nat.le_of_ble_eq_true rfl, Nat.le_of_ble_eq_true rfl⟩ (iw_ix hJ (iw_nl iw_net_20)) (iw_E1 (iw_nk iw_net_20)) rfl rfl rfl (Nat.le_of_ble_eq_true rfl) dX5_interest_6 ?_
  refine iv_if_ne (pc := 9) C 16 dX5_interest_9 (by decide) (fun h1 => ?_) (fun h1 => ?_)
  · replace h := iw_iff h1 h
    refine iv_iload_n (pc := 16) C 2 dX5_interest_16 rfl rfl ?_
    refine iv_iconst (pc := 17) C (0 : Int32) dX5_interest_17 (by decide) ?_
    refine iv_bipush (pc := 18) C (7 : Int32) dX5_interest_18 (by decide) ?_
    refine iv_callS (pc := 20) C [.int p2, .int (0 : Int32), .int (7 : Int32)] (k_X5_isWithin l G hJ p2 (0 : Int32) (7 : Int32) σ rfl) gX5_interest_X5_isWithin rfl qd_X5_isWithin ⟨rfl, rfl, Nat.le_of_ble_eq_true rfl, Nat.le_of_ble_eq_true rfl⟩ rfl rfl (Nat.le_of_ble_eq_true rfl) dX5_interest_20 ?_
    refine iv_if_eq (pc := 23) C 38 dX5_interest_23 (by decide) (fun h2 => ?_) (fun h2 => ?_)
    · replace h := iw_ift h2 h
      refine iv_sipush (pc := 38) C (-1002 : Int32) dX5_interest_38 (by decide) ?_
      cases h
      exact iv_iret C hr hlk rfl rfl dX5_interest_41
    · replace h := iw_iff h2 h
      refine iv_aload_n (pc := 26) C 0 dX5_interest_26 rfl rfl ?_
      refine iv_getf (pc := 27) (T := TX5) (N := 5) (ci := 5) C 0 0 in_X5_interest_5 (iw_ix hJ (by decide)) iw_Eo0 rfl (by decide) lk_X5_interest_10 rfl rfl dX5_interest_27 ?_
      refine iv_iload_n (pc := 30) C 1 dX5_interest_30 rfl rfl ?_
      refine iv_iload_n (pc := 31) C 2 dX5_interest_31 rfl rfl ?_
      obtain ⟨v3, ev3, h⟩ := iw_be h
      refine iv_callV (pc := 32) (b := 20) (ci := 1) C [.int p1, .int p2] (k_X1_interestPart l G hJ n 20 iw_net_20 p1 p2 σ ev3) gX5_interest_X1_interestPart rfl qd_X1_interestPart ⟨rfl, rfl, Nat.le_of_ble_eq_true rfl, Nat.le_of_ble_eq_true rfl⟩ (iw_ix hJ (iw_nl iw_net_20)) (iw_E1 (iw_nk iw_net_20)) rfl rfl rfl (Nat.le_of_ble_eq_true rfl) dX5_interest_32 ?_
      refine iv_goto (pc := 35) C 41 dX5_interest_35 (by decide) ?_
      cases h
      exact iv_iret C hr hlk rfl rfl dX5_interest_41
  · replace h := iw_ift h1 h
    refine iv_sipush (pc := 12) C (-1001 : Int32) dX5_interest_12 (by decide) ?_
    cases h
    exact iv_iret C hr hlk rfl rfl dX5_interest_15
theorem qd_X5_interest : yX5_interest.cls = RX5 ∧ yX5_interest.cls ≠ "java/lang/invoke/MethodHandle" ∧ yX5_interest.cls ≠ "java/lang/invoke/VarHandle" ∧ (parseMethodDescriptor yX5_interest.desc).map (fun d => d.parameters.length) = some 2 := by decide +kernel
def f_X5_rounds (n : Nat) (p1 : Int32) (σ : iw_M) : Option (Int32 × iw_M) :=
if (f_X5_isWithin p1 (1 : Int32) (100 : Int32)) = (0 : Int32) then
(some ((-1002 : Int32), σ))
else
((f_X1_number n 20 (5 : Int32) σ).bind fun v2 =>
if (v2 + p1) ≤ (100000 : Int32) then
(iw_let (f_X0_record 20 σ) fun m4 =>
(f_X3_start n 20 m4).bind fun m5 =>
iw_b2 (f_X3_run n p1 m5) fun v6 m7 =>
iw_let (f_X1_copyFrom 20 28 m7) fun m8 =>
some (v6, m8))
else
(some ((-1004 : Int32), σ)))
abbrev rm_X5_rounds : Room := { frames := 6, cells := 0, slots := 0, locals := 152 }
theorem lk_X5_rounds_10 : Cond.fieldLink RX5 10 RX5 (TX5 0).2.1 (TX5 0).2.2.1 ∈ wsX5_rounds := by decide +kernel
theorem lk_X5_rounds_33 : Cond.fieldLink RX5 33 RX5 (TX5 3).2.1 (TX5 3).2.2.1 ∈ wsX5_rounds := by decide +kernel
theorem lk_X5_rounds_19 : Cond.fieldLink RX5 19 RX5 (TX5 1).2.1 (TX5 1).2.2.1 ∈ wsX5_rounds := by decide +kernel
theorem lk_X5_rounds_114 : (RX5, 114, RX3, (TX3 0).2.1, (TX3 0).2.2.1) ∈ iw_nf := by decide +kernel
theorem in_X5_rounds_3 : ∀ w ∈ u_ws RX3 TX3 4, w ∈ wsX5_rounds := by decide +kernel
theorem in_X5_rounds_5 : ∀ w ∈ u_ws RX5 TX5 5, w ∈ wsX5_rounds := by decide +kernel
set_option maxHeartbeats 4000000 in
set_option maxRecDepth 100000 in
theorem k_X5_rounds (l : Launch) (G : iw_G) (hJ : iw_JX G) (n : Nat) (p1 : Int32) (σ : iw_M) {r : Int32} {σ' : iw_M} (h : f_X5_rounds n p1 σ = some (r, σ')) : iw_Ct l yX5_rounds wsX5_rounds rm_X5_rounds G ([.ref (G.2.1 0), .int p1] : List Value) σ (some (.int r)) σ' := by
  refine iv_start (nL := 3) (own := RX5) (ret := (some .int)) (cc := cX5_rounds) (by decide +kernel) rfl rfl hJ.1 (Nat.le_of_ble_eq_true rfl) ?_
  intro p e s m below meth c0 C hr hlk
  refine iv_sub (lv' := [(0, .ref (G.2.1 0)), (1, .int p1)]) [0, 1] rfl ?_
  unfold f_X5_rounds at h
  refine iv_iload_n (pc := 0) C 1 dX5_rounds_0 rfl rfl ?_
  refine iv_iconst (pc := 1) C (1 : Int32) dX5_rounds_1 (by decide) ?_
  refine iv_bipush (pc := 2) C (100 : Int32) dX5_rounds_2 (by decide) ?_
  refine iv_callS (pc := 4) C [.int p1, .int (1 : Int32), .int (100 : Int32)] (k_X5_isWithin l G hJ p1 (1 : Int32) (100 : Int32) σ rfl) gX5_rounds_X5_isWithin rfl qd_X5_isWithin ⟨rfl, rfl, Nat.le_of_ble_eq_true rfl, Nat.le_of_ble_eq_true rfl⟩ rfl rfl (Nat.le_of_ble_eq_true rfl) dX5_rounds_4 ?_
  refine iv_if_ne (pc := 7) C 14 dX5_rounds_7 (by decide) (fun h1 => ?_) (fun h1 => ?_)
  · replace h := iw_iff h1 h
    refine iv_aload_n (pc := 14) C 0 dX5_rounds_14 rfl rfl ?_
    refine iv_getf (pc := 15) (T := TX5) (N := 5) (ci := 5) C 0 0 in_X5_rounds_5 (iw_ix hJ (by decide)) iw_Eo0 rfl (by decide) lk_X5_rounds_10 rfl rfl dX5_rounds_15 ?_
    refine iv_iconst (pc := 18) C (5 : Int32) dX5_rounds_18 (by decide) ?_
    obtain ⟨v2, ev2, h⟩ := iw_be h
    refine iv_callV (pc := 19) (b := 20) (ci := 1) C [.int (5 : Int32)] (k_X1_number l G hJ n 20 iw_net_20 (5 : Int32) σ ev2) gX5_rounds_X1_number rfl qd_X1_number ⟨rfl, rfl, Nat.le_of_ble_eq_true rfl, Nat.le_of_ble_eq_true rfl⟩ (iw_ix hJ (iw_nl iw_net_20)) (iw_E1 (iw_nk iw_net_20)) rfl rfl rfl (Nat.le_of_ble_eq_true rfl) dX5_rounds_19 ?_
    refine iv_iload_n (pc := 22) C 1 dX5_rounds_22 rfl rfl ?_
    refine iv_iadd (pc := 23) C dX5_rounds_23 ?_
    refine iv_ldc (pc := 24) C (100000 : Int32) (by decide +kernel) dX5_rounds_24 ?_
    refine iv_icmp_le (pc := 26) C 33 dX5_rounds_26 (by decide) (fun h3 => ?_) (fun h3 => ?_)
    · replace h := iw_ift h3 h
      refine iv_aload_n (pc := 33) C 0 dX5_rounds_33 rfl rfl ?_
      refine iv_getf (pc := 34) (T := TX5) (N := 5) (ci := 5) C 0 3 in_X5_rounds_5 (iw_ix hJ (by decide)) iw_Eo0 rfl (by decide) lk_X5_rounds_33 rfl rfl dX5_rounds_34 ?_
      refine iv_aload_n (pc := 37) C 0 dX5_rounds_37 rfl rfl ?_
      refine iv_getf (pc := 38) (T := TX5) (N := 5) (ci := 5) C 0 0 in_X5_rounds_5 (iw_ix hJ (by decide)) iw_Eo0 rfl (by decide) lk_X5_rounds_10 rfl rfl dX5_rounds_38 ?_
      refine iv_callV (pc := 41) (b := 4) (ci := 0) C [.ref (G.2.1 20)] (k_X0_record l G hJ 20 iw_net_20 σ rfl) gX5_rounds_X0_record rfl qd_X0_record ⟨rfl, rfl, Nat.le_of_ble_eq_true rfl, Nat.le_of_ble_eq_true rfl⟩ (iw_ix hJ (by decide)) iw_Eo4 rfl rfl rfl (Nat.le_of_ble_eq_true rfl) dX5_rounds_41 ?_
      refine iv_topm (fun m4 em4 => ?_)
      replace h := iw_lete em4 h
      refine iv_aload_n (pc := 44) C 0 dX5_rounds_44 rfl rfl ?_
      refine iv_getf (pc := 45) (T := TX5) (N := 5) (ci := 5) C 0 1 in_X5_rounds_5 (iw_ix hJ (by decide)) iw_Eo0 rfl (by decide) lk_X5_rounds_19 rfl rfl dX5_rounds_45 ?_
      refine iv_aload_n (pc := 48) C 0 dX5_rounds_48 rfl rfl ?_
      refine iv_getf (pc := 49) (T := TX5) (N := 5) (ci := 5) C 0 0 in_X5_rounds_5 (iw_ix hJ (by decide)) iw_Eo0 rfl (by decide) lk_X5_rounds_10 rfl rfl dX5_rounds_49 ?_
      obtain ⟨m5, em5, h⟩ := iw_be h
      refine iv_callV (pc := 52) (b := 1) (ci := 3) C [.ref (G.2.1 20)] (k_X3_start l G hJ n 20 iw_net_20 m4 em5) gX5_rounds_X3_start rfl qd_X3_start ⟨rfl, rfl, Nat.le_of_ble_eq_true rfl, Nat.le_of_ble_eq_true rfl⟩ (iw_ix hJ (by decide)) iw_Eo1 rfl rfl rfl (Nat.le_of_ble_eq_true rfl) dX5_rounds_52 ?_
      refine iv_aload_n (pc := 55) C 0 dX5_rounds_55 rfl rfl ?_
      refine iv_getf (pc := 56) (T := TX5) (N := 5) (ci := 5) C 0 1 in_X5_rounds_5 (iw_ix hJ (by decide)) iw_Eo0 rfl (by decide) lk_X5_rounds_19 rfl rfl dX5_rounds_56 ?_
      refine iv_iload_n (pc := 59) C 1 dX5_rounds_59 rfl rfl ?_
      obtain ⟨v6, m7, ev6, h⟩ := iw_b2e h
      refine iv_callV (pc := 60) (b := 1) (ci := 3) C [.int p1] (k_X3_run l G hJ n p1 m5 ev6) gX5_rounds_X3_run rfl qd_X3_run ⟨rfl, rfl, Nat.le_of_ble_eq_true rfl, Nat.le_of_ble_eq_true rfl⟩ (iw_ix hJ (by decide)) iw_Eo1 rfl rfl rfl (Nat.le_of_ble_eq_true rfl) dX5_rounds_60 ?_
      refine iv_istore_n (pc := 63) C [(2, .int v6), (0, .ref (G.2.1 0)), (1, .int p1)] dX5_rounds_63 rfl (by decide) rfl ?_
      refine iv_aload_n (pc := 64) C 1 dX5_rounds_64 rfl rfl ?_
      refine iv_getf (pc := 65) (T := TX5) (N := 5) (ci := 5) C 0 0 in_X5_rounds_5 (iw_ix hJ (by decide)) iw_Eo0 rfl (by decide) lk_X5_rounds_10 rfl rfl dX5_rounds_65 ?_
      refine iv_aload_n (pc := 68) C 1 dX5_rounds_68 rfl rfl ?_
      refine iv_getf (pc := 69) (T := TX5) (N := 5) (ci := 5) C 0 1 in_X5_rounds_5 (iw_ix hJ (by decide)) iw_Eo0 rfl (by decide) lk_X5_rounds_19 rfl rfl dX5_rounds_69 ?_
      refine iv_getfN (pc := 72) (T := TX3) (N := 4) (ci := 3) C 1 0 in_X5_rounds_3 (iw_ix hJ (by decide)) iw_Eo1 rfl (by decide) lk_X5_rounds_114 rfl rfl dX5_rounds_72 ?_
      refine iv_callV (pc := 75) (b := 20) (ci := 1) C [.ref (G.2.1 28)] (k_X1_copyFrom l G hJ 20 iw_net_20 28 iw_net_28 m7 rfl) gX5_rounds_X1_copyFrom rfl qd_X1_copyFrom ⟨rfl, rfl, Nat.le_of_ble_eq_true rfl, Nat.le_of_ble_eq_true rfl⟩ (iw_ix hJ (iw_nl iw_net_20)) (iw_E1 (iw_nk iw_net_20)) rfl rfl rfl (Nat.le_of_ble_eq_true rfl) dX5_rounds_75 ?_
      refine iv_topm (fun m8 em8 => ?_)
      replace h := iw_lete em8 h
      refine iv_iload_n (pc := 78) C 0 dX5_rounds_78 rfl rfl ?_
      cases h
      exact iv_iret C hr hlk rfl rfl dX5_rounds_79
    · replace h := iw_iff h3 h
      refine iv_sipush (pc := 29) C (-1004 : Int32) dX5_rounds_29 (by decide) ?_
      cases h
      exact iv_iret C hr hlk rfl rfl dX5_rounds_32
  · replace h := iw_ift h1 h
    refine iv_sipush (pc := 10) C (-1002 : Int32) dX5_rounds_10 (by decide) ?_
    cases h
    exact iv_iret C hr hlk rfl rfl dX5_rounds_13
theorem qd_X5_rounds : yX5_rounds.cls = RX5 ∧ yX5_rounds.cls ≠ "java/lang/invoke/MethodHandle" ∧ yX5_rounds.cls ≠ "java/lang/invoke/VarHandle" ∧ (parseMethodDescriptor yX5_rounds.desc).map (fun d => d.parameters.length) = some 1 := by decide +kernel
def f_X5_hasWay (p1 : Int32) (p2 : Int32) (σ : iw_M) : Int32 :=
if (f_X1_has 20 (3 : Int32) p1 σ) = (0 : Int32) then
((0 : Int32))
else
(if (f_X1_has 20 (2 : Int32) p2 σ) = (0 : Int32) then
((0 : Int32))
else
((1 : Int32)))
abbrev rm_X5_hasWay : Room := { frames := 2, cells := 0, slots := 0, locals := 43 }
theorem lk_X5_hasWay_10 : Cond.fieldLink RX5 10 RX5 (TX5 0).2.1 (TX5 0).2.2.1 ∈ wsX5_hasWay := by decide +kernel
theorem in_X5_hasWay_5 : ∀ w ∈ u_ws RX5 TX5 5, w ∈ wsX5_hasWay := by decide +kernel
set_option maxHeartbeats 4000000 in
set_option maxRecDepth 100000 in
theorem k_X5_hasWay (l : Launch) (G : iw_G) (hJ : iw_JX G) (p1 : Int32) (p2 : Int32) (σ : iw_M) {r : Int32} (h : f_X5_hasWay p1 p2 σ = r) : iw_Ct l yX5_hasWay wsX5_hasWay rm_X5_hasWay G ([.ref (G.2.1 0), .int p1, .int p2] : List Value) σ (some (.int r)) σ := by
  refine iv_start (nL := 3) (own := RX5) (ret := (some .boolean)) (cc := cX5_hasWay) (by decide +kernel) rfl rfl hJ.1 (Nat.le_of_ble_eq_true rfl) ?_
  intro p e s m below meth c0 C hr hlk
  refine iv_sub (lv' := [(0, .ref (G.2.1 0)), (1, .int p1), (2, .int p2)]) [0, 1, 2] rfl ?_
  unfold f_X5_hasWay at h
  refine iv_aload_n (pc := 0) C 0 dX5_hasWay_0 rfl rfl ?_
  refine iv_getf (pc := 1) (T := TX5) (N := 5) (ci := 5) C 0 0 in_X5_hasWay_5 (iw_ix hJ (by decide)) iw_Eo0 rfl (by decide) lk_X5_hasWay_10 rfl rfl dX5_hasWay_1 ?_
  refine iv_iconst (pc := 4) C (3 : Int32) dX5_hasWay_4 (by decide) ?_
  refine iv_iload_n (pc := 5) C 1 dX5_hasWay_5 rfl rfl ?_
  refine iv_callV (pc := 6) (b := 20) (ci := 1) C [.int (3 : Int32), .int p1] (k_X1_has l G hJ 20 iw_net_20 (3 : Int32) p1 σ rfl) gX5_hasWay_X1_has rfl qd_X1_has ⟨rfl, rfl, Nat.le_of_ble_eq_true rfl, Nat.le_of_ble_eq_true rfl⟩ (iw_ix hJ (iw_nl iw_net_20)) (iw_E1 (iw_nk iw_net_20)) rfl rfl rfl (Nat.le_of_ble_eq_true rfl) dX5_hasWay_6 ?_
  refine iv_if_eq (pc := 9) C 28 dX5_hasWay_9 (by decide) (fun h1 => ?_) (fun h1 => ?_)
  · replace h := iw_ift h1 h
    refine iv_iconst (pc := 28) C (0 : Int32) dX5_hasWay_28 (by decide) ?_
    cases h
    exact iv_zret C hr hlk rfl rfl dX5_hasWay_29
  · replace h := iw_iff h1 h
    refine iv_aload_n (pc := 12) C 0 dX5_hasWay_12 rfl rfl ?_
    refine iv_getf (pc := 13) (T := TX5) (N := 5) (ci := 5) C 0 0 in_X5_hasWay_5 (iw_ix hJ (by decide)) iw_Eo0 rfl (by decide) lk_X5_hasWay_10 rfl rfl dX5_hasWay_13 ?_
    refine iv_iconst (pc := 16) C (2 : Int32) dX5_hasWay_16 (by decide) ?_
    refine iv_iload_n (pc := 17) C 2 dX5_hasWay_17 rfl rfl ?_
    refine iv_callV (pc := 18) (b := 20) (ci := 1) C [.int (2 : Int32), .int p2] (k_X1_has l G hJ 20 iw_net_20 (2 : Int32) p2 σ rfl) gX5_hasWay_X1_has rfl qd_X1_has ⟨rfl, rfl, Nat.le_of_ble_eq_true rfl, Nat.le_of_ble_eq_true rfl⟩ (iw_ix hJ (iw_nl iw_net_20)) (iw_E1 (iw_nk iw_net_20)) rfl rfl rfl (Nat.le_of_ble_eq_true rfl) dX5_hasWay_18 ?_
    refine iv_if_eq (pc := 21) C 28 dX5_hasWay_21 (by decide) (fun h2 => ?_) (fun h2 => ?_)
    · replace h := iw_ift h2 h
      refine iv_iconst (pc := 28) C (0 : Int32) dX5_hasWay_28 (by decide) ?_
      cases h
      exact iv_zret C hr hlk rfl rfl dX5_hasWay_29
    · replace h := iw_iff h2 h
      refine iv_iconst (pc := 24) C (1 : Int32) dX5_hasWay_24 (by decide) ?_
      refine iv_goto (pc := 25) C 29 dX5_hasWay_25 (by decide) ?_
      cases h
      exact iv_zret C hr hlk rfl rfl dX5_hasWay_29
theorem qd_X5_hasWay : yX5_hasWay.cls = RX5 ∧ yX5_hasWay.cls ≠ "java/lang/invoke/MethodHandle" ∧ yX5_hasWay.cls ≠ "java/lang/invoke/VarHandle" ∧ (parseMethodDescriptor yX5_hasWay.desc).map (fun d => d.parameters.length) = some 2 := by decide +kernel
def f_X5_wayLength (p1 : Int32) (p2 : Int32) (σ : iw_M) : Int32 :=
if (f_X5_hasWay p1 p2 σ) = (0 : Int32) then
((-1001 : Int32))
else
((f_X1_lengthOf 20 (f_X5_wayOf p1 p2) σ))
abbrev rm_X5_wayLength : Room := { frames := 3, cells := 0, slots := 0, locals := 65 }
theorem lk_X5_wayLength_10 : Cond.fieldLink RX5 10 RX5 (TX5 0).2.1 (TX5 0).2.2.1 ∈ wsX5_wayLength := by decide +kernel
theorem in_X5_wayLength_5 : ∀ w ∈ u_ws RX5 TX5 5, w ∈ wsX5_wayLength := by decide +kernel
set_option maxHeartbeats 4000000 in
set_option maxRecDepth 100000 in
theorem k_X5_wayLength (l : Launch) (G : iw_G) (hJ : iw_JX G) (p1 : Int32) (p2 : Int32) (σ : iw_M) {r : Int32} (h : f_X5_wayLength p1 p2 σ = r) : iw_Ct l yX5_wayLength wsX5_wayLength rm_X5_wayLength G ([.ref (G.2.1 0), .int p1, .int p2] : List Value) σ (some (.int r)) σ := by
  refine iv_start (nL := 3) (own := RX5) (ret := (some .int)) (cc := cX5_wayLength) (by decide +kernel) rfl rfl hJ.1 (Nat.le_of_ble_eq_true rfl) ?_
  intro p e s m below meth c0 C hr hlk
  refine iv_sub (lv' := [(0, .ref (G.2.1 0)), (1, .int p1), (2, .int p2)]) [0, 1, 2] rfl ?_
  unfold f_X5_wayLength at h
  refine iv_aload_n (pc := 0) C 0 dX5_wayLength_0 rfl rfl ?_
  refine iv_iload_n (pc := 1) C 1 dX5_wayLength_1 rfl rfl ?_
  refine iv_iload_n (pc := 2) C 2 dX5_wayLength_2 rfl rfl ?_
  refine iv_callV (pc := 3) (b := 0) (ci := 5) C [.int p1, .int p2] (k_X5_hasWay l G hJ p1 p2 σ rfl) gX5_wayLength_X5_hasWay rfl qd_X5_hasWay ⟨rfl, rfl, Nat.le_of_ble_eq_true rfl, Nat.le_of_ble_eq_true rfl⟩ (iw_ix hJ (by decide)) iw_Eo0 rfl rfl rfl (Nat.le_of_ble_eq_true rfl) dX5_wayLength_3 ?_
  refine iv_if_eq (pc := 6) C 24 dX5_wayLength_6 (by decide) (fun h1 => ?_) (fun h1 => ?_)
  · replace h := iw_ift h1 h
    refine iv_sipush (pc := 24) C (-1001 : Int32) dX5_wayLength_24 (by decide) ?_
    cases h
    exact iv_iret C hr hlk rfl rfl dX5_wayLength_27
  · replace h := iw_iff h1 h
    refine iv_aload_n (pc := 9) C 0 dX5_wayLength_9 rfl rfl ?_
    refine iv_getf (pc := 10) (T := TX5) (N := 5) (ci := 5) C 0 0 in_X5_wayLength_5 (iw_ix hJ (by decide)) iw_Eo0 rfl (by decide) lk_X5_wayLength_10 rfl rfl dX5_wayLength_10 ?_
    refine iv_iload_n (pc := 13) C 1 dX5_wayLength_13 rfl rfl ?_
    refine iv_iload_n (pc := 14) C 2 dX5_wayLength_14 rfl rfl ?_
    refine iv_callS (pc := 15) C [.int p1, .int p2] (k_X5_wayOf l G hJ p1 p2 σ rfl) gX5_wayLength_X5_wayOf rfl qd_X5_wayOf ⟨rfl, rfl, Nat.le_of_ble_eq_true rfl, Nat.le_of_ble_eq_true rfl⟩ rfl rfl (Nat.le_of_ble_eq_true rfl) dX5_wayLength_15 ?_
    refine iv_callV (pc := 18) (b := 20) (ci := 1) C [.int (f_X5_wayOf p1 p2)] (k_X1_lengthOf l G hJ 20 iw_net_20 (f_X5_wayOf p1 p2) σ rfl) gX5_wayLength_X1_lengthOf rfl qd_X1_lengthOf ⟨rfl, rfl, Nat.le_of_ble_eq_true rfl, Nat.le_of_ble_eq_true rfl⟩ (iw_ix hJ (iw_nl iw_net_20)) (iw_E1 (iw_nk iw_net_20)) rfl rfl rfl (Nat.le_of_ble_eq_true rfl) dX5_wayLength_18 ?_
    refine iv_goto (pc := 21) C 27 dX5_wayLength_21 (by decide) ?_
    cases h
    exact iv_iret C hr hlk rfl rfl dX5_wayLength_27
theorem qd_X5_wayLength : yX5_wayLength.cls = RX5 ∧ yX5_wayLength.cls ≠ "java/lang/invoke/MethodHandle" ∧ yX5_wayLength.cls ≠ "java/lang/invoke/VarHandle" ∧ (parseMethodDescriptor yX5_wayLength.desc).map (fun d => d.parameters.length) = some 2 := by decide +kernel
def f_X5_wayNode (p1 : Int32) (p2 : Int32) (p3 : Int32) (σ : iw_M) : Int32 :=
if (f_X5_hasWay p1 p2 σ) = (0 : Int32) then
((-1001 : Int32))
else
(if (0 : Int32) ≤ p3 then
(iw_let (f_X5_wayOf p1 p2) fun v3 =>
if (f_X1_lengthOf 20 v3 σ) ≤ p3 then
((-1000 : Int32))
else
((f_X1_nodeOf 20 v3 p3 σ)))
else
((-1002 : Int32)))
abbrev rm_X5_wayNode : Room := { frames := 3, cells := 0, slots := 0, locals := 65 }
theorem lk_X5_wayNode_10 : Cond.fieldLink RX5 10 RX5 (TX5 0).2.1 (TX5 0).2.2.1 ∈ wsX5_wayNode := by decide +kernel
theorem in_X5_wayNode_5 : ∀ w ∈ u_ws RX5 TX5 5, w ∈ wsX5_wayNode := by decide +kernel
set_option maxHeartbeats 4000000 in
set_option maxRecDepth 100000 in
theorem k_X5_wayNode (l : Launch) (G : iw_G) (hJ : iw_JX G) (p1 : Int32) (p2 : Int32) (p3 : Int32) (σ : iw_M) {r : Int32} (h : f_X5_wayNode p1 p2 p3 σ = r) : iw_Ct l yX5_wayNode wsX5_wayNode rm_X5_wayNode G ([.ref (G.2.1 0), .int p1, .int p2, .int p3] : List Value) σ (some (.int r)) σ := by
  refine iv_start (nL := 5) (own := RX5) (ret := (some .int)) (cc := cX5_wayNode) (by decide +kernel) rfl rfl hJ.1 (Nat.le_of_ble_eq_true rfl) ?_
  intro p e s m below meth c0 C hr hlk
  refine iv_sub (lv' := [(0, .ref (G.2.1 0)), (1, .int p1), (2, .int p2), (3, .int p3)]) [0, 1, 2, 3] rfl ?_
  unfold f_X5_wayNode at h
  refine iv_aload_n (pc := 0) C 0 dX5_wayNode_0 rfl rfl ?_
  refine iv_iload_n (pc := 1) C 1 dX5_wayNode_1 rfl rfl ?_
  refine iv_iload_n (pc := 2) C 2 dX5_wayNode_2 rfl rfl ?_
  refine iv_callV (pc := 3) (b := 0) (ci := 5) C [.int p1, .int p2] (k_X5_hasWay l G hJ p1 p2 σ rfl) gX5_wayNode_X5_hasWay rfl qd_X5_hasWay ⟨rfl, rfl, Nat.le_of_ble_eq_true rfl, Nat.le_of_ble_eq_true rfl⟩ (iw_ix hJ (by decide)) iw_Eo0 rfl rfl rfl (Nat.le_of_ble_eq_true rfl) dX5_wayNode_3 ?_
  refine iv_if_ne (pc := 6) C 13 dX5_wayNode_6 (by decide) (fun h1 => ?_) (fun h1 => ?_)
  · replace h := iw_iff h1 h
    refine iv_iload_n (pc := 13) C 3 dX5_wayNode_13 rfl rfl ?_
    refine iv_if_ge (pc := 14) C 21 dX5_wayNode_14 (by decide) (fun h2 => ?_) (fun h2 => ?_)
    · replace h := iw_ift h2 h
      refine iv_iload_n (pc := 21) C 1 dX5_wayNode_21 rfl rfl ?_
      refine iv_iload_n (pc := 22) C 2 dX5_wayNode_22 rfl rfl ?_
      refine iv_callS (pc := 23) C [.int p1, .int p2] (k_X5_wayOf l G hJ p1 p2 σ rfl) gX5_wayNode_X5_wayOf rfl qd_X5_wayOf ⟨rfl, rfl, Nat.le_of_ble_eq_true rfl, Nat.le_of_ble_eq_true rfl⟩ rfl rfl (Nat.le_of_ble_eq_true rfl) dX5_wayNode_23 ?_
      refine iv_topi (fun v3 ev3 => ?_)
      replace h := iw_lete ev3 h
      refine iv_istore (pc := 26) C [(4, .int v3), (0, .ref (G.2.1 0)), (1, .int p1), (2, .int p2), (3, .int p3)] dX5_wayNode_26 (by decide) rfl ?_
      refine iv_iload_n (pc := 28) C 4 dX5_wayNode_28 rfl rfl ?_
      refine iv_aload_n (pc := 29) C 1 dX5_wayNode_29 rfl rfl ?_
      refine iv_getf (pc := 30) (T := TX5) (N := 5) (ci := 5) C 0 0 in_X5_wayNode_5 (iw_ix hJ (by decide)) iw_Eo0 rfl (by decide) lk_X5_wayNode_10 rfl rfl dX5_wayNode_30 ?_
      refine iv_iload (pc := 33) C 0 dX5_wayNode_33 rfl ?_
      refine iv_callV (pc := 35) (b := 20) (ci := 1) C [.int v3] (k_X1_lengthOf l G hJ 20 iw_net_20 v3 σ rfl) gX5_wayNode_X1_lengthOf rfl qd_X1_lengthOf ⟨rfl, rfl, Nat.le_of_ble_eq_true rfl, Nat.le_of_ble_eq_true rfl⟩ (iw_ix hJ (iw_nl iw_net_20)) (iw_E1 (iw_nk iw_net_20)) rfl rfl rfl (Nat.le_of_ble_eq_true rfl) dX5_wayNode_35 ?_
      refine iv_icmp_ge (pc := 38) C 54 dX5_wayNode_38 (by decide) (fun h4 => ?_) (fun h4 => ?_)
      · replace h := iw_ift h4 h
        refine iv_sipush (pc := 54) C (-1000 : Int32) dX5_wayNode_54 (by decide) ?_
        cases h
        exact iv_iret C hr hlk rfl rfl dX5_wayNode_57
      · replace h := iw_iff h4 h
        refine iv_aload_n (pc := 41) C 1 dX5_wayNode_41 rfl rfl ?_
        refine iv_getf (pc := 42) (T := TX5) (N := 5) (ci := 5) C 0 0 in_X5_wayNode_5 (iw_ix hJ (by decide)) iw_Eo0 rfl (by decide) lk_X5_wayNode_10 rfl rfl dX5_wayNode_42 ?_
        refine iv_iload (pc := 45) C 0 dX5_wayNode_45 rfl ?_
        refine iv_iload_n (pc := 47) C 4 dX5_wayNode_47 rfl rfl ?_
        refine iv_callV (pc := 48) (b := 20) (ci := 1) C [.int v3, .int p3] (k_X1_nodeOf l G hJ 20 iw_net_20 v3 p3 σ rfl) gX5_wayNode_X1_nodeOf rfl qd_X1_nodeOf ⟨rfl, rfl, Nat.le_of_ble_eq_true rfl, Nat.le_of_ble_eq_true rfl⟩ (iw_ix hJ (iw_nl iw_net_20)) (iw_E1 (iw_nk iw_net_20)) rfl rfl rfl (Nat.le_of_ble_eq_true rfl) dX5_wayNode_48 ?_
        refine iv_goto (pc := 51) C 57 dX5_wayNode_51 (by decide) ?_
        cases h
        exact iv_iret C hr hlk rfl rfl dX5_wayNode_57
    · replace h := iw_iff h2 h
      refine iv_sipush (pc := 17) C (-1002 : Int32) dX5_wayNode_17 (by decide) ?_
      cases h
      exact iv_iret C hr hlk rfl rfl dX5_wayNode_20
  · replace h := iw_ift h1 h
    refine iv_sipush (pc := 9) C (-1001 : Int32) dX5_wayNode_9 (by decide) ?_
    cases h
    exact iv_iret C hr hlk rfl rfl dX5_wayNode_12
theorem qd_X5_wayNode : yX5_wayNode.cls = RX5 ∧ yX5_wayNode.cls ≠ "java/lang/invoke/MethodHandle" ∧ yX5_wayNode.cls ≠ "java/lang/invoke/VarHandle" ∧ (parseMethodDescriptor yX5_wayNode.desc).map (fun d => d.parameters.length) = some 3 := by decide +kernel
def f_X5_isWhole (n : Nat) (p1 : Int32) (p2 : Int32) (σ : iw_M) : Option (Int32 × iw_M) :=
if (f_X5_hasWay p1 p2 σ) = (0 : Int32) then
(some ((-1001 : Int32), σ))
else
((f_X2_learn n 8 20 σ).bind fun m2 =>
(f_X1_aliveNodes n 20 m2).bind fun v3 =>
(f_X2_carry n 8 20 (f_X5_wayOf p1 p2) v3 m2).bind fun v4 =>
if v4 = (0 : Int32) then
(some ((0 : Int32), m2))
else
(some ((1 : Int32), m2)))
abbrev rm_X5_isWhole : Room := { frames := 4, cells := 0, slots := 0, locals := 88 }
theorem lk_X5_isWhole_26 : Cond.fieldLink RX5 26 RX5 (TX5 2).2.1 (TX5 2).2.2.1 ∈ wsX5_isWhole := by decide +kernel
theorem lk_X5_isWhole_10 : Cond.fieldLink RX5 10 RX5 (TX5 0).2.1 (TX5 0).2.2.1 ∈ wsX5_isWhole := by decide +kernel
theorem in_X5_isWhole_5 : ∀ w ∈ u_ws RX5 TX5 5, w ∈ wsX5_isWhole := by decide +kernel
set_option maxHeartbeats 4000000 in
set_option maxRecDepth 100000 in
theorem k_X5_isWhole (l : Launch) (G : iw_G) (hJ : iw_JX G) (n : Nat) (p1 : Int32) (p2 : Int32) (σ : iw_M) {r : Int32} {σ' : iw_M} (h : f_X5_isWhole n p1 p2 σ = some (r, σ')) : iw_Ct l yX5_isWhole wsX5_isWhole rm_X5_isWhole G ([.ref (G.2.1 0), .int p1, .int p2] : List Value) σ (some (.int r)) σ' := by
  refine iv_start (nL := 3) (own := RX5) (ret := (some .int)) (cc := cX5_isWhole) (by decide +kernel) rfl rfl hJ.1 (Nat.le_of_ble_eq_true rfl) ?_
  intro p e s m below meth c0 C hr hlk
  refine iv_sub (lv' := [(0, .ref (G.2.1 0)), (1, .int p1), (2, .int p2)]) [0, 1, 2] rfl ?_
  unfold f_X5_isWhole at h
  refine iv_aload_n (pc := 0) C 0 dX5_isWhole_0 rfl rfl ?_
  refine iv_iload_n (pc := 1) C 1 dX5_isWhole_1 rfl rfl ?_
  refine iv_iload_n (pc := 2) C 2 dX5_isWhole_2 rfl rfl ?_
  refine iv_callV (pc := 3) (b := 0) (ci := 5) C [.int p1, .int p2] (k_X5_hasWay l G hJ p1 p2 σ rfl) gX5_isWhole_X5_hasWay rfl qd_X5_hasWay ⟨rfl, rfl, Nat.le_of_ble_eq_true rfl, Nat.le_of_ble_eq_true rfl⟩ (iw_ix hJ (by decide)) iw_Eo0 rfl rfl rfl (Nat.le_of_ble_eq_true rfl) dX5_isWhole_3 ?_
  refine iv_if_ne (pc := 6) C 13 dX5_isWhole_6 (by decide) (fun h1 => ?_) (fun h1 => ?_)
  · replace h := iw_iff h1 h
    refine iv_aload_n (pc := 13) C 0 dX5_isWhole_13 rfl rfl ?_
    refine iv_getf (pc := 14) (T := TX5) (N := 5) (ci := 5) C 0 2 in_X5_isWhole_5 (iw_ix hJ (by decide)) iw_Eo0 rfl (by decide) lk_X5_isWhole_26 rfl rfl dX5_isWhole_14 ?_
    refine iv_aload_n (pc := 17) C 0 dX5_isWhole_17 rfl rfl ?_
    refine iv_getf (pc := 18) (T := TX5) (N := 5) (ci := 5) C 0 0 in_X5_isWhole_5 (iw_ix hJ (by decide)) iw_Eo0 rfl (by decide) lk_X5_isWhole_10 rfl rfl dX5_isWhole_18 ?_
    obtain ⟨m2, em2, h⟩ := iw_be h
    refine iv_callV (pc := 21) (b := 8) (ci := 2) C [.ref (G.2.1 20)] (k_X2_learn l G hJ n 8 iw_pth_8 20 iw_net_20 σ em2) gX5_isWhole_X2_learn rfl qd_X2_learn ⟨rfl, rfl, Nat.le_of_ble_eq_true rfl, Nat.le_of_ble_eq_true rfl⟩ (iw_ix hJ (iw_pl iw_pth_8)) (iw_E2 (iw_pk iw_pth_8)) rfl rfl rfl (Nat.le_of_ble_eq_true rfl) dX5_isWhole_21 ?_
    refine iv_aload_n (pc := 24) C 0 dX5_isWhole_24 rfl rfl ?_
    refine iv_getf (pc := 25) (T := TX5) (N := 5) (ci := 5) C 0 2 in_X5_isWhole_5 (iw_ix hJ (by decide)) iw_Eo0 rfl (by decide) lk_X5_isWhole_26 rfl rfl dX5_isWhole_25 ?_
    refine iv_aload_n (pc := 28) C 0 dX5_isWhole_28 rfl rfl ?_
    refine iv_getf (pc := 29) (T := TX5) (N := 5) (ci := 5) C 0 0 in_X5_isWhole_5 (iw_ix hJ (by decide)) iw_Eo0 rfl (by decide) lk_X5_isWhole_10 rfl rfl dX5_isWhole_29 ?_
    refine iv_iload_n (pc := 32) C 1 dX5_isWhole_32 rfl rfl ?_
    refine iv_iload_n (pc := 33) C 2 dX5_isWhole_33 rfl rfl ?_
    refine iv_callS (pc := 34) C [.int p1, .int p2] (k_X5_wayOf l G hJ p1 p2 m2 rfl) gX5_isWhole_X5_wayOf rfl qd_X5_wayOf ⟨rfl, rfl, Nat.le_of_ble_eq_true rfl, Nat.le_of_ble_eq_true rfl⟩ rfl rfl (Nat.le_of_ble_eq_true rfl) dX5_isWhole_34 ?_
    refine iv_aload_n (pc := 37) C 0 dX5_isWhole_37 rfl rfl ?_
    refine iv_getf (pc := 38) (T := TX5) (N := 5) (ci := 5) C 0 0 in_X5_isWhole_5 (iw_ix hJ (by decide)) iw_Eo0 rfl (by decide) lk_X5_isWhole_10 rfl rfl dX5_isWhole_38 ?_
    obtain ⟨v3, ev3, h⟩ := iw_be h
    refine iv_callV (pc := 41) (b := 20) (ci := 1) C [] (k_X1_aliveNodes l G hJ n 20 iw_net_20 m2 ev3) gX5_isWhole_X1_aliveNodes rfl qd_X1_aliveNodes ⟨rfl, rfl, Nat.le_of_ble_eq_true rfl, Nat.le_of_ble_eq_true rfl⟩ (iw_ix hJ (iw_nl iw_net_20)) (iw_E1 (iw_nk iw_net_20)) rfl rfl rfl (Nat.le_of_ble_eq_true rfl) dX5_isWhole_41 ?_
    obtain ⟨v4, ev4, h⟩ := iw_be h
    refine iv_callV (pc := 44) (b := 8) (ci := 2) C [.ref (G.2.1 20), .int (f_X5_wayOf p1 p2), .int v3] (k_X2_carry l G hJ n 8 iw_pth_8 20 iw_net_20 (f_X5_wayOf p1 p2) v3 m2 ev4) gX5_isWhole_X2_carry rfl qd_X2_carry ⟨rfl, rfl, Nat.le_of_ble_eq_true rfl, Nat.le_of_ble_eq_true rfl⟩ (iw_ix hJ (iw_pl iw_pth_8)) (iw_E2 (iw_pk iw_pth_8)) rfl rfl rfl (Nat.le_of_ble_eq_true rfl) dX5_isWhole_44 ?_
    refine iv_if_eq (pc := 47) C 54 dX5_isWhole_47 (by decide) (fun h5 => ?_) (fun h5 => ?_)
    · replace h := iw_ift h5 h
      refine iv_iconst (pc := 54) C (0 : Int32) dX5_isWhole_54 (by decide) ?_
      cases h
      exact iv_iret C hr hlk rfl rfl dX5_isWhole_55
    · replace h := iw_iff h5 h
      refine iv_iconst (pc := 50) C (1 : Int32) dX5_isWhole_50 (by decide) ?_
      refine iv_goto (pc := 51) C 55 dX5_isWhole_51 (by decide) ?_
      cases h
      exact iv_iret C hr hlk rfl rfl dX5_isWhole_55
  · replace h := iw_ift h1 h
    refine iv_sipush (pc := 9) C (-1001 : Int32) dX5_isWhole_9 (by decide) ?_
    cases h
    exact iv_iret C hr hlk rfl rfl dX5_isWhole_12
theorem qd_X5_isWhole : yX5_isWhole.cls = RX5 ∧ yX5_isWhole.cls ≠ "java/lang/invoke/MethodHandle" ∧ yX5_isWhole.cls ≠ "java/lang/invoke/VarHandle" ∧ (parseMethodDescriptor yX5_isWhole.desc).map (fun d => d.parameters.length) = some 2 := by decide +kernel
def f_X5_quickest (n : Nat) (p1 : Int32) (p2 : Int32) (σ : iw_M) : Option (Int32 × iw_M) :=
if (f_X1_has 20 (0 : Int32) p1 σ) = (0 : Int32) then
(some ((-1001 : Int32), σ))
else
(if (f_X1_has 20 (0 : Int32) p2 σ) = (0 : Int32) then
(some ((-1001 : Int32), σ))
else
((f_X1_aliveNodes n 20 σ).bind fun v3 =>
if (f_X5_holds v3 p1) = (0 : Int32) then
(some ((-1000 : Int32), σ))
else
(if (f_X5_holds v3 p2) = (0 : Int32) then
(some ((-1000 : Int32), σ))
else
((f_X2_learn n 8 20 σ).bind fun m6 =>
(f_X2_explore n 8 p1 v3 m6).bind fun m7 =>
if (f_X5_holds (f_X2_reachedFrom 8 p1 m7) p2) = (0 : Int32) then
(some ((-1000 : Int32), m7))
else
(some ((f_X2_timeOf 8 p1 p2 m7), m7))))))
abbrev rm_X5_quickest : Room := { frames := 4, cells := 0, slots := 0, locals := 88 }
theorem lk_X5_quickest_10 : Cond.fieldLink RX5 10 RX5 (TX5 0).2.1 (TX5 0).2.2.1 ∈ wsX5_quickest := by decide +kernel
theorem lk_X5_quickest_26 : Cond.fieldLink RX5 26 RX5 (TX5 2).2.1 (TX5 2).2.2.1 ∈ wsX5_quickest := by decide +kernel
theorem in_X5_quickest_5 : ∀ w ∈ u_ws RX5 TX5 5, w ∈ wsX5_quickest := by decide +kernel
set_option maxHeartbeats 4000000 in
set_option maxRecDepth 100000 in
theorem k_X5_quickest (l : Launch) (G : iw_G) (hJ : iw_JX G) (n : Nat) (p1 : Int32) (p2 : Int32) (σ : iw_M) {r : Int32} {σ' : iw_M} (h : f_X5_quickest n p1 p2 σ = some (r, σ')) : iw_Ct l yX5_quickest wsX5_quickest rm_X5_quickest G ([.ref (G.2.1 0), .int p1, .int p2] : List Value) σ (some (.int r)) σ' := by
  refine iv_start (nL := 4) (own := RX5) (ret := (some .int)) (cc := cX5_quickest) (by decide +kernel) rfl rfl hJ.1 (Nat.le_of_ble_eq_true rfl) ?_
  intro p e s m below meth c0 C hr hlk
  refine iv_sub (lv' := [(0, .ref (G.2.1 0)), (1, .int p1), (2, .int p2)]) [0, 1, 2] rfl ?_
  unfold f_X5_quickest at h
  refine iv_aload_n (pc := 0) C 0 dX5_quickest_0 rfl rfl ?_
  refine iv_getf (pc := 1) (T := TX5) (N := 5) (ci := 5) C 0 0 in_X5_quickest_5 (iw_ix hJ (by decide)) iw_Eo0 rfl (by decide) lk_X5_quickest_10 rfl rfl dX5_quickest_1 ?_
  refine iv_iconst (pc := 4) C (0 : Int32) dX5_quickest_4 (by decide) ?_
  refine iv_iload_n (pc := 5) C 1 dX5_quickest_5 rfl rfl ?_
  refine iv_callV (pc := 6) (b := 20) (ci := 1) C [.int (0 : Int32), .int p1] (k_X1_has l G hJ 20 iw_net_20 (0 : Int32) p1 σ rfl) gX5_quickest_X1_has rfl qd_X1_has ⟨rfl, rfl, Nat.le_of_ble_eq_true rfl, Nat.le_of_ble_eq_true rfl⟩ (iw_ix hJ (iw_nl iw_net_20)) (iw_E1 (iw_nk iw_net_20)) rfl rfl rfl (Nat.le_of_ble_eq_true rfl) dX5_quickest_6 ?_
  refine iv_if_eq (pc := 9) C 24 dX5_quickest_9 (by decide) (fun h1 => ?_) (fun h1 => ?_)
  · replace h := iw_ift h1 h
    refine iv_sipush (pc := 24) C (-1001 : Int32) dX5_quickest_24 (by decide) ?_
    cases h
    exact iv_iret C hr hlk rfl rfl dX5_quickest_27
  · replace h := iw_iff h1 h
    refine iv_aload_n (pc := 12) C 0 dX5_quickest_12 rfl rfl ?_
    refine iv_getf (pc := 13) (T := TX5) (N := 5) (ci := 5) C 0 0 in_X5_quickest_5 (iw_ix hJ (by decide)) iw_Eo0 rfl (by decide) lk_X5_quickest_10 rfl rfl dX5_quickest_13 ?_
    refine iv_iconst (pc := 16) C (0 : Int32) dX5_quickest_16 (by decide) ?_
    refine iv_iload_n (pc := 17) C 2 dX5_quickest_17 rfl rfl ?_
    refine iv_callV (pc := 18) (b := 20) (ci := 1) C [.int (0 : Int32), .int p2] (k_X1_has l G hJ 20 iw_net_20 (0 : Int32) p2 σ rfl) gX5_quickest_X1_has rfl qd_X1_has ⟨rfl, rfl, Nat.le_of_ble_eq_true rfl, Nat.le_of_ble_eq_true rfl⟩ (iw_ix hJ (iw_nl iw_net_20)) (iw_E1 (iw_nk iw_net_20)) rfl rfl rfl (Nat.le_of_ble_eq_true rfl) dX5_quickest_18 ?_
    refine iv_if_ne (pc := 21) C 28 dX5_quickest_21 (by decide) (fun h2 => ?_) (fun h2 => ?_)
    · replace h := iw_iff h2 h
      refine iv_aload_n (pc := 28) C 0 dX5_quickest_28 rfl rfl ?_
      refine iv_getf (pc := 29) (T := TX5) (N := 5) (ci := 5) C 0 0 in_X5_quickest_5 (iw_ix hJ (by decide)) iw_Eo0 rfl (by decide) lk_X5_quickest_10 rfl rfl dX5_quickest_29 ?_
      obtain ⟨v3, ev3, h⟩ := iw_be h
      refine iv_callV (pc := 32) (b := 20) (ci := 1) C [] (k_X1_aliveNodes l G hJ n 20 iw_net_20 σ ev3) gX5_quickest_X1_aliveNodes rfl qd_X1_aliveNodes ⟨rfl, rfl, Nat.le_of_ble_eq_true rfl, Nat.le_of_ble_eq_true rfl⟩ (iw_ix hJ (iw_nl iw_net_20)) (iw_E1 (iw_nk iw_net_20)) rfl rfl rfl (Nat.le_of_ble_eq_true rfl) dX5_quickest_32 ?_
      refine iv_istore_n (pc := 35) C [(3, .int v3), (0, .ref (G.2.1 0)), (1, .int p1), (2, .int p2)] dX5_quickest_35 rfl (by decide) rfl ?_
      refine iv_iload_n (pc := 36) C 0 dX5_quickest_36 rfl rfl ?_
      refine iv_iload_n (pc := 37) C 2 dX5_quickest_37 rfl rfl ?_
      refine iv_callS (pc := 38) C [.int v3, .int p1] (k_X5_holds l G hJ v3 p1 σ rfl) gX5_quickest_X5_holds rfl qd_X5_holds ⟨rfl, rfl, Nat.le_of_ble_eq_true rfl, Nat.le_of_ble_eq_true rfl⟩ rfl rfl (Nat.le_of_ble_eq_true rfl) dX5_quickest_38 ?_
      refine iv_if_eq (pc := 41) C 52 dX5_quickest_41 (by decide) (fun h4 => ?_) (fun h4 => ?_)
      · replace h := iw_ift h4 h
        refine iv_sipush (pc := 52) C (-1000 : Int32) dX5_quickest_52 (by decide) ?_
        cases h
        exact iv_iret C hr hlk rfl rfl dX5_quickest_55
      · replace h := iw_iff h4 h
        refine iv_iload_n (pc := 44) C 0 dX5_quickest_44 rfl rfl ?_
        refine iv_iload_n (pc := 45) C 3 dX5_quickest_45 rfl rfl ?_
        refine iv_callS (pc := 46) C [.int v3, .int p2] (k_X5_holds l G hJ v3 p2 σ rfl) gX5_quickest_X5_holds rfl qd_X5_holds ⟨rfl, rfl, Nat.le_of_ble_eq_true rfl, Nat.le_of_ble_eq_true rfl⟩ rfl rfl (Nat.le_of_ble_eq_true rfl) dX5_quickest_46 ?_
        refine iv_if_ne (pc := 49) C 56 dX5_quickest_49 (by decide) (fun h5 => ?_) (fun h5 => ?_)
        · replace h := iw_iff h5 h
          refine iv_aload_n (pc := 56) C 1 dX5_quickest_56 rfl rfl ?_
          refine iv_getf (pc := 57) (T := TX5) (N := 5) (ci := 5) C 0 2 in_X5_quickest_5 (iw_ix hJ (by decide)) iw_Eo0 rfl (by decide) lk_X5_quickest_26 rfl rfl dX5_quickest_57 ?_
          refine iv_aload_n (pc := 60) C 1 dX5_quickest_60 rfl rfl ?_
          refine iv_getf (pc := 61) (T := TX5) (N := 5) (ci := 5) C 0 0 in_X5_quickest_5 (iw_ix hJ (by decide)) iw_Eo0 rfl (by decide) lk_X5_quickest_10 rfl rfl dX5_quickest_61 ?_
          obtain ⟨m6, em6, h⟩ := iw_be h
          refine iv_callV (pc := 64) (b := 8) (ci := 2) C [.ref (G.2.1 20)] (k_X2_learn l G hJ n 8 iw_pth_8 20 iw_net_20 σ em6) gX5_quickest_X2_learn rfl qd_X2_learn ⟨rfl, rfl, Nat.le_of_ble_eq_true rfl, Nat.le_of_ble_eq_true rfl⟩ (iw_ix hJ (iw_pl iw_pth_8)) (iw_E2 (iw_pk iw_pth_8)) rfl rfl rfl (Nat.le_of_ble_eq_true rfl) dX5_quickest_64 ?_
          refine iv_aload_n (pc := 67) C 1 dX5_quickest_67 rfl rfl ?_
          refine iv_getf (pc := 68) (T := TX5) (N := 5) (ci := 5) C 0 2 in_X5_quickest_5 (iw_ix hJ (by decide)) iw_Eo0 rfl (by decide) lk_X5_quickest_26 rfl rfl dX5_quickest_68 ?_
          refine iv_iload_n (pc := 71) C 2 dX5_quickest_71 rfl rfl ?_
          refine iv_iload_n (pc := 72) C 0 dX5_quickest_72 rfl rfl ?_
          obtain ⟨m7, em7, h⟩ := iw_be h
          refine iv_callV (pc := 73) (b := 8) (ci := 2) C [.int p1, .int v3] (k_X2_explore l G hJ n 8 iw_pth_8 p1 v3 m6 em7) gX5_quickest_X2_explore rfl qd_X2_explore ⟨rfl, rfl, Nat.le_of_ble_eq_true rfl, Nat.le_of_ble_eq_true rfl⟩ (iw_ix hJ (iw_pl iw_pth_8)) (iw_E2 (iw_pk iw_pth_8)) rfl rfl rfl (Nat.le_of_ble_eq_true rfl) dX5_quickest_73 ?_
          refine iv_aload_n (pc := 76) C 1 dX5_quickest_76 rfl rfl ?_
          refine iv_getf (pc := 77) (T := TX5) (N := 5) (ci := 5) C 0 2 in_X5_quickest_5 (iw_ix hJ (by decide)) iw_Eo0 rfl (by decide) lk_X5_quickest_26 rfl rfl dX5_quickest_77 ?_
          refine iv_iload_n (pc := 80) C 2 dX5_quickest_80 rfl rfl ?_
          refine iv_callV (pc := 81) (b := 8) (ci := 2) C [.int p1] (k_X2_reachedFrom l G hJ 8 iw_pth_8 p1 m7 rfl) gX5_quickest_X2_reachedFrom rfl qd_X2_reachedFrom ⟨rfl, rfl, Nat.le_of_ble_eq_true rfl, Nat.le_of_ble_eq_true rfl⟩ (iw_ix hJ (iw_pl iw_pth_8)) (iw_E2 (iw_pk iw_pth_8)) rfl rfl rfl (Nat.le_of_ble_eq_true rfl) dX5_quickest_81 ?_
          refine iv_iload_n (pc := 84) C 3 dX5_quickest_84 rfl rfl ?_
          refine iv_callS (pc := 85) C [.int (f_X2_reachedFrom 8 p1 m7), .int p2] (k_X5_holds l G hJ (f_X2_reachedFrom 8 p1 m7) p2 m7 rfl) gX5_quickest_X5_holds rfl qd_X5_holds ⟨rfl, rfl, Nat.le_of_ble_eq_true rfl, Nat.le_of_ble_eq_true rfl⟩ rfl rfl (Nat.le_of_ble_eq_true rfl) dX5_quickest_85 ?_
          refine iv_if_eq (pc := 88) C 103 dX5_quickest_88 (by decide) (fun h8 => ?_) (fun h8 => ?_)
          · replace h := iw_ift h8 h
            refine iv_sipush (pc := 103) C (-1000 : Int32) dX5_quickest_103 (by decide) ?_
            cases h
            exact iv_iret C hr hlk rfl rfl dX5_quickest_106
          · replace h := iw_iff h8 h
            refine iv_aload_n (pc := 91) C 1 dX5_quickest_91 rfl rfl ?_
            refine iv_getf (pc := 92) (T := TX5) (N := 5) (ci := 5) C 0 2 in_X5_quickest_5 (iw_ix hJ (by decide)) iw_Eo0 rfl (by decide) lk_X5_quickest_26 rfl rfl dX5_quickest_92 ?_
            refine iv_iload_n (pc := 95) C 2 dX5_quickest_95 rfl rfl ?_
            refine iv_iload_n (pc := 96) C 3 dX5_quickest_96 rfl rfl ?_
            refine iv_callV (pc := 97) (b := 8) (ci := 2) C [.int p1, .int p2] (k_X2_timeOf l G hJ 8 iw_pth_8 p1 p2 m7 rfl) gX5_quickest_X2_timeOf rfl qd_X2_timeOf ⟨rfl, rfl, Nat.le_of_ble_eq_true rfl, Nat.le_of_ble_eq_true rfl⟩ (iw_ix hJ (iw_pl iw_pth_8)) (iw_E2 (iw_pk iw_pth_8)) rfl rfl rfl (Nat.le_of_ble_eq_true rfl) dX5_quickest_97 ?_
            refine iv_goto (pc := 100) C 106 dX5_quickest_100 (by decide) ?_
            cases h
            exact iv_iret C hr hlk rfl rfl dX5_quickest_106
        · replace h := iw_ift h5 h
          refine iv_sipush (pc := 52) C (-1000 : Int32) dX5_quickest_52 (by decide) ?_
          cases h
          exact iv_iret C hr hlk rfl rfl dX5_quickest_55
    · replace h := iw_ift h2 h
      refine iv_sipush (pc := 24) C (-1001 : Int32) dX5_quickest_24 (by decide) ?_
      cases h
      exact iv_iret C hr hlk rfl rfl dX5_quickest_27
theorem qd_X5_quickest : yX5_quickest.cls = RX5 ∧ yX5_quickest.cls ≠ "java/lang/invoke/MethodHandle" ∧ yX5_quickest.cls ≠ "java/lang/invoke/VarHandle" ∧ (parseMethodDescriptor yX5_quickest.desc).map (fun d => d.parameters.length) = some 2 := by decide +kernel
def f_X5_load (n : Nat) (p1 : Int32) (σ : iw_M) : Option (Int32) :=
if (f_X1_has 20 (1 : Int32) p1 σ) = (0 : Int32) then
(some (-1001 : Int32))
else
((f_X1_waysOver n 20 (f_X1_partOfLink 20 p1 (0 : Int32) σ) (f_X1_partOfLink 20 p1 (1 : Int32) σ) σ).bind fun v2 =>
some v2)
abbrev rm_X5_load : Room := { frames := 3, cells := 0, slots := 0, locals := 73 }
theorem lk_X5_load_10 : Cond.fieldLink RX5 10 RX5 (TX5 0).2.1 (TX5 0).2.2.1 ∈ wsX5_load := by decide +kernel
theorem in_X5_load_5 : ∀ w ∈ u_ws RX5 TX5 5, w ∈ wsX5_load := by decide +kernel
set_option maxHeartbeats 4000000 in
set_option maxRecDepth 100000 in
theorem k_X5_load (l : Launch) (G : iw_G) (hJ : iw_JX G) (n : Nat) (p1 : Int32) (σ : iw_M) {r : Int32} (h : f_X5_load n p1 σ = some r) : iw_Ct l yX5_load wsX5_load rm_X5_load G ([.ref (G.2.1 0), .int p1] : List Value) σ (some (.int r)) σ := by
  refine iv_start (nL := 2) (own := RX5) (ret := (some .int)) (cc := cX5_load) (by decide +kernel) rfl rfl hJ.1 (Nat.le_of_ble_eq_true rfl) ?_
  intro p e s m below meth c0 C hr hlk
  refine iv_sub (lv' := [(0, .ref (G.2.1 0)), (1, .int p1)]) [0, 1] rfl ?_
  unfold f_X5_load at h
  refine iv_aload_n (pc := 0) C 0 dX5_load_0 rfl rfl ?_
  refine iv_getf (pc := 1) (T := TX5) (N := 5) (ci := 5) C 0 0 in_X5_load_5 (iw_ix hJ (by decide)) iw_Eo0 rfl (by decide) lk_X5_load_10 rfl rfl dX5_load_1 ?_
  refine iv_iconst (pc := 4) C (1 : Int32) dX5_load_4 (by decide) ?_
  refine iv_iload_n (pc := 5) C 1 dX5_load_5 rfl rfl ?_
  refine iv_callV (pc := 6) (b := 20) (ci := 1) C [.int (1 : Int32), .int p1] (k_X1_has l G hJ 20 iw_net_20 (1 : Int32) p1 σ rfl) gX5_load_X1_has rfl qd_X1_has ⟨rfl, rfl, Nat.le_of_ble_eq_true rfl, Nat.le_of_ble_eq_true rfl⟩ (iw_ix hJ (iw_nl iw_net_20)) (iw_E1 (iw_nk iw_net_20)) rfl rfl rfl (Nat.le_of_ble_eq_true rfl) dX5_load_6 ?_
  refine iv_if_ne (pc := 9) C 16 dX5_load_9 (by decide) (fun h1 => ?_) (fun h1 => ?_)
  · replace h := iw_iff h1 h
    refine iv_aload_n (pc := 16) C 0 dX5_load_16 rfl rfl ?_
    refine iv_getf (pc := 17) (T := TX5) (N := 5) (ci := 5) C 0 0 in_X5_load_5 (iw_ix hJ (by decide)) iw_Eo0 rfl (by decide) lk_X5_load_10 rfl rfl dX5_load_17 ?_
    refine iv_aload_n (pc := 20) C 0 dX5_load_20 rfl rfl ?_
    refine iv_getf (pc := 21) (T := TX5) (N := 5) (ci := 5) C 0 0 in_X5_load_5 (iw_ix hJ (by decide)) iw_Eo0 rfl (by decide) lk_X5_load_10 rfl rfl dX5_load_21 ?_
    refine iv_iload_n (pc := 24) C 1 dX5_load_24 rfl rfl ?_
    refine iv_iconst (pc := 25) C (0 : Int32) dX5_load_25 (by decide) ?_
    refine iv_callV (pc := 26) (b := 20) (ci := 1) C [.int p1, .int (0 : Int32)] (k_X1_partOfLink l G hJ 20 iw_net_20 p1 (0 : Int32) σ rfl) gX5_load_X1_partOfLink rfl qd_X1_partOfLink ⟨rfl, rfl, Nat.le_of_ble_eq_true rfl, Nat.le_of_ble_eq_true rfl⟩ (iw_ix hJ (iw_nl iw_net_20)) (iw_E1 (iw_nk iw_net_20)) rfl rfl rfl (Nat.le_of_ble_eq_true rfl) dX5_load_26 ?_
    refine iv_aload_n (pc := 29) C 0 dX5_load_29 rfl rfl ?_
    refine iv_getf (pc := 30) (T := TX5) (N := 5) (ci := 5) C 0 0 in_X5_load_5 (iw_ix hJ (by decide)) iw_Eo0 rfl (by decide) lk_X5_load_10 rfl rfl dX5_load_30 ?_
    refine iv_iload_n (pc := 33) C 1 dX5_load_33 rfl rfl ?_
    refine iv_iconst (pc := 34) C (1 : Int32) dX5_load_34 (by decide) ?_
    refine iv_callV (pc := 35) (b := 20) (ci := 1) C [.int p1, .int (1 : Int32)] (k_X1_partOfLink l G hJ 20 iw_net_20 p1 (1 : Int32) σ rfl) gX5_load_X1_partOfLink rfl qd_X1_partOfLink ⟨rfl, rfl, Nat.le_of_ble_eq_true rfl, Nat.le_of_ble_eq_true rfl⟩ (iw_ix hJ (iw_nl iw_net_20)) (iw_E1 (iw_nk iw_net_20)) rfl rfl rfl (Nat.le_of_ble_eq_true rfl) dX5_load_35 ?_
    obtain ⟨v2, ev2, h⟩ := iw_be h
    refine iv_callV (pc := 38) (b := 20) (ci := 1) C [.int (f_X1_partOfLink 20 p1 (0 : Int32) σ), .int (f_X1_partOfLink 20 p1 (1 : Int32) σ)] (k_X1_waysOver l G hJ n 20 iw_net_20 (f_X1_partOfLink 20 p1 (0 : Int32) σ) (f_X1_partOfLink 20 p1 (1 : Int32) σ) σ ev2) gX5_load_X1_waysOver rfl qd_X1_waysOver ⟨rfl, rfl, Nat.le_of_ble_eq_true rfl, Nat.le_of_ble_eq_true rfl⟩ (iw_ix hJ (iw_nl iw_net_20)) (iw_E1 (iw_nk iw_net_20)) rfl rfl rfl (Nat.le_of_ble_eq_true rfl) dX5_load_38 ?_
    cases h
    exact iv_iret C hr hlk rfl rfl dX5_load_41
  · replace h := iw_ift h1 h
    refine iv_sipush (pc := 12) C (-1001 : Int32) dX5_load_12 (by decide) ?_
    cases h
    exact iv_iret C hr hlk rfl rfl dX5_load_15
theorem qd_X5_load : yX5_load.cls = RX5 ∧ yX5_load.cls ≠ "java/lang/invoke/MethodHandle" ∧ yX5_load.cls ≠ "java/lang/invoke/VarHandle" ∧ (parseMethodDescriptor yX5_load.desc).map (fun d => d.parameters.length) = some 1 := by decide +kernel
def f_X5_firstDeath_X63_23 (m3 : iw_M) : Option (Int32 × iw_M) :=
some ((-1000 : Int32), m3)
def f_X5_firstDeath_B23 (n : Nat) (v1 : Int32) (k23 : iw_M → Option (Int32 × iw_M)) (r23 : Int32 → iw_M → Option (Int32 × iw_M)) (v4 : Int32) (m5 : iw_M) : Option (Int32 × iw_M) :=
if (500 : Int32) < v4 then
(k23 m5)
else
(iw_b2 (f_X3_run n (1 : Int32) m5) fun v7 m8 =>
(f_X1_number n 28 (6 : Int32) m8).bind fun v9 =>
if v1 ≤ v9 then
(iw_let (v4 + (1 : Int32)) fun v11 =>
r23 v11 m8)
else
(some (v4, m8)))
def f_X5_firstDeath_L23 (n : Nat) (v1 : Int32) (k23 : iw_M → Option (Int32 × iw_M)) (nn : Nat) : Int32 → iw_M → Option (Int32 × iw_M) :=
iw_it (fun r23 => f_X5_firstDeath_B23 n v1 k23 r23) (fun _ _ => none) nn
def f_X5_firstDeath (n : Nat) (σ : iw_M) : Option (Int32 × iw_M) :=
(f_X1_number n 20 (6 : Int32) σ).bind fun v1 =>
(f_X3_start n 20 σ).bind fun m2 =>
f_X5_firstDeath_L23 n v1 (f_X5_firstDeath_X63_23) n (1 : Int32) m2
abbrev rm_X5_firstDeath : Room := { frames := 6, cells := 0, slots := 0, locals := 152 }
theorem lk_X5_firstDeath_10 : Cond.fieldLink RX5 10 RX5 (TX5 0).2.1 (TX5 0).2.2.1 ∈ wsX5_firstDeath := by decide +kernel
theorem lk_X5_firstDeath_19 : Cond.fieldLink RX5 19 RX5 (TX5 1).2.1 (TX5 1).2.2.1 ∈ wsX5_firstDeath := by decide +kernel
theorem lk_X5_firstDeath_114 : (RX5, 114, RX3, (TX3 0).2.1, (TX3 0).2.2.1) ∈ iw_nf := by decide +kernel
theorem in_X5_firstDeath_3 : ∀ w ∈ u_ws RX3 TX3 4, w ∈ wsX5_firstDeath := by decide +kernel
theorem in_X5_firstDeath_5 : ∀ w ∈ u_ws RX5 TX5 5, w ∈ wsX5_firstDeath := by decide +kernel
set_option maxHeartbeats 4000000 in
set_option maxRecDepth 100000 in
theorem k_X5_firstDeath (l : Launch) (G : iw_G) (hJ : iw_JX G) (n : Nat) (σ : iw_M) {r : Int32} {σ' : iw_M} (h : f_X5_firstDeath n σ = some (r, σ')) : iw_Ct l yX5_firstDeath wsX5_firstDeath rm_X5_firstDeath G ([.ref (G.2.1 0)] : List Value) σ (some (.int r)) σ' := by
  refine iv_start (nL := 3) (own := RX5) (ret := (some .int)) (cc := cX5_firstDeath) (by decide +kernel) rfl rfl hJ.1 (Nat.le_of_ble_eq_true rfl) ?_
  intro p e s m below meth c0 C hr hlk
  refine iv_sub (lv' := [(0, .ref (G.2.1 0))]) [0] rfl ?_
  unfold f_X5_firstDeath at h
  refine iv_aload_n (pc := 0) C 0 dX5_firstDeath_0 rfl rfl ?_
  refine iv_getf (pc := 1) (T := TX5) (N := 5) (ci := 5) C 0 0 in_X5_firstDeath_5 (iw_ix hJ (by decide)) iw_Eo0 rfl (by decide) lk_X5_firstDeath_10 rfl rfl dX5_firstDeath_1 ?_
  refine iv_bipush (pc := 4) C (6 : Int32) dX5_firstDeath_4 (by decide) ?_
  obtain ⟨v1, ev1, h⟩ := iw_be h
  refine iv_callV (pc := 6) (b := 20) (ci := 1) C [.int (6 : Int32)] (k_X1_number l G hJ n 20 iw_net_20 (6 : Int32) σ ev1) gX5_firstDeath_X1_number rfl qd_X1_number ⟨rfl, rfl, Nat.le_of_ble_eq_true rfl, Nat.le_of_ble_eq_true rfl⟩ (iw_ix hJ (iw_nl iw_net_20)) (iw_E1 (iw_nk iw_net_20)) rfl rfl rfl (Nat.le_of_ble_eq_true rfl) dX5_firstDeath_6 ?_
  refine iv_istore_n (pc := 9) C [(1, .int v1), (0, .ref (G.2.1 0))] dX5_firstDeath_9 rfl (by decide) rfl ?_
  refine iv_aload_n (pc := 10) C 1 dX5_firstDeath_10 rfl rfl ?_
  refine iv_getf (pc := 11) (T := TX5) (N := 5) (ci := 5) C 0 1 in_X5_firstDeath_5 (iw_ix hJ (by decide)) iw_Eo0 rfl (by decide) lk_X5_firstDeath_19 rfl rfl dX5_firstDeath_11 ?_
  refine iv_aload_n (pc := 14) C 1 dX5_firstDeath_14 rfl rfl ?_
  refine iv_getf (pc := 15) (T := TX5) (N := 5) (ci := 5) C 0 0 in_X5_firstDeath_5 (iw_ix hJ (by decide)) iw_Eo0 rfl (by decide) lk_X5_firstDeath_10 rfl rfl dX5_firstDeath_15 ?_
  obtain ⟨m2, em2, h⟩ := iw_be h
  refine iv_callV (pc := 18) (b := 1) (ci := 3) C [.ref (G.2.1 20)] (k_X3_start l G hJ n 20 iw_net_20 σ em2) gX5_firstDeath_X3_start rfl qd_X3_start ⟨rfl, rfl, Nat.le_of_ble_eq_true rfl, Nat.le_of_ble_eq_true rfl⟩ (iw_ix hJ (by decide)) iw_Eo1 rfl rfl rfl (Nat.le_of_ble_eq_true rfl) dX5_firstDeath_18 ?_
  refine iv_iconst (pc := 21) C (1 : Int32) dX5_firstDeath_21 (by decide) ?_
  refine iv_istore_n (pc := 22) C [(2, .int (1 : Int32)), (1, .int v1), (0, .ref (G.2.1 0))] dX5_firstDeath_22 rfl (by decide) rfl ?_
  have vX23 : ∀ (m3 : iw_M), f_X5_firstDeath_X63_23 m3 = some (r, σ') → iw_V p l e rm_X5_firstDeath s m ([.ref (G.2.1 0)] : List Value).toArray below meth c0 0 0 (MQ below (iw_Q (some (.int r)) G σ') ([.ref (G.2.1 0)] : List Value).toArray s 0 0 (iw_A G)) 3 G (iw_A G) m3 63 [] [] := by
    intro m3 h
    unfold f_X5_firstDeath_X63_23 at h
    refine iv_sipush (pc := 63) C (-1000 : Int32) dX5_firstDeath_63 (by decide) ?_
    cases h
    exact iv_iret C hr hlk rfl rfl dX5_firstDeath_66
  have vB23 : ∀ (k23 : iw_M → Option (Int32 × iw_M)) (r23 : Int32 → iw_M → Option (Int32 × iw_M)), (∀ (m3 : iw_M), k23 m3 = some (r, σ') → iw_V p l e rm_X5_firstDeath s m ([.ref (G.2.1 0)] : List Value).toArray below meth c0 0 0 (MQ below (iw_Q (some (.int r)) G σ') ([.ref (G.2.1 0)] : List Value).toArray s 0 0 (iw_A G)) 3 G (iw_A G) m3 63 [] []) → (∀ (v4 : Int32) (m5 : iw_M), r23 v4 m5 = some (r, σ') → iw_V p l e rm_X5_firstDeath s m ([.ref (G.2.1 0)] : List Value).toArray below meth c0 0 0 (MQ below (iw_Q (some (.int r)) G σ') ([.ref (G.2.1 0)] : List Value).toArray s 0 0 (iw_A G)) 3 G (iw_A G) m5 23 [(0, .ref (G.2.1 0)), (1, .int v1), (2, .int v4)] []) → ∀ (v4 : Int32) (m5 : iw_M), f_X5_firstDeath_B23 n v1 k23 r23 v4 m5 = some (r, σ') → iw_V p l e rm_X5_firstDeath s m ([.ref (G.2.1 0)] : List Value).toArray below meth c0 0 0 (MQ below (iw_Q (some (.int r)) G σ') ([.ref (G.2.1 0)] : List Value).toArray s 0 0 (iw_A G)) 3 G (iw_A G) m5 23 [(0, .ref (G.2.1 0)), (1, .int v1), (2, .int v4)] [] := by
    intro k23 r23 hk23 hr23 v4 m5 h
    unfold f_X5_firstDeath_B23 at h
    refine iv_iload_n (pc := 23) C 2 dX5_firstDeath_23 rfl rfl ?_
    refine iv_sipush (pc := 24) C (500 : Int32) dX5_firstDeath_24 (by decide) ?_
    refine iv_icmp_gt (pc := 27) C 63 dX5_firstDeath_27 (by decide) (fun h6 => ?_) (fun h6 => ?_)
    · replace h := iw_ift h6 h
      exact iv_sub [] rfl (hk23 m5 h)
    · replace h := iw_iff h6 h
      refine iv_aload_n (pc := 30) C 0 dX5_firstDeath_30 rfl rfl ?_
      refine iv_getf (pc := 31) (T := TX5) (N := 5) (ci := 5) C 0 1 in_X5_firstDeath_5 (iw_ix hJ (by decide)) iw_Eo0 rfl (by decide) lk_X5_firstDeath_19 rfl rfl dX5_firstDeath_31 ?_
      refine iv_iconst (pc := 34) C (1 : Int32) dX5_firstDeath_34 (by decide) ?_
      obtain ⟨v7, m8, ev7, h⟩ := iw_b2e h
      refine iv_callV (pc := 35) (b := 1) (ci := 3) C [.int (1 : Int32)] (k_X3_run l G hJ n (1 : Int32) m5 ev7) gX5_firstDeath_X3_run rfl qd_X3_run ⟨rfl, rfl, Nat.le_of_ble_eq_true rfl, Nat.le_of_ble_eq_true rfl⟩ (iw_ix hJ (by decide)) iw_Eo1 rfl rfl rfl (Nat.le_of_ble_eq_true rfl) dX5_firstDeath_35 ?_
      refine iv_pop (pc := 38) C rfl dX5_firstDeath_38 ?_
      refine iv_aload_n (pc := 39) C 0 dX5_firstDeath_39 rfl rfl ?_
      refine iv_getf (pc := 40) (T := TX5) (N := 5) (ci := 5) C 0 1 in_X5_firstDeath_5 (iw_ix hJ (by decide)) iw_Eo0 rfl (by decide) lk_X5_firstDeath_19 rfl rfl dX5_firstDeath_40 ?_
      refine iv_getfN (pc := 43) (T := TX3) (N := 4) (ci := 3) C 1 0 in_X5_firstDeath_3 (iw_ix hJ (by decide)) iw_Eo1 rfl (by decide) lk_X5_firstDeath_114 rfl rfl dX5_firstDeath_43 ?_
      refine iv_bipush (pc := 46) C (6 : Int32) dX5_firstDeath_46 (by decide) ?_
      obtain ⟨v9, ev9, h⟩ := iw_be h
      refine iv_callV (pc := 48) (b := 28) (ci := 1) C [.int (6 : Int32)] (k_X1_number l G hJ n 28 iw_net_28 (6 : Int32) m8 ev9) gX5_firstDeath_X1_number rfl qd_X1_number ⟨rfl, rfl, Nat.le_of_ble_eq_true rfl, Nat.le_of_ble_eq_true rfl⟩ (iw_ix hJ (iw_nl iw_net_28)) (iw_E1 (iw_nk iw_net_28)) rfl rfl rfl (Nat.le_of_ble_eq_true rfl) dX5_firstDeath_48 ?_
      refine iv_iload_n (pc := 51) C 1 dX5_firstDeath_51 rfl rfl ?_
      refine iv_icmp_ge (pc := 52) C 57 dX5_firstDeath_52 (by decide) (fun h10 => ?_) (fun h10 => ?_)
      · replace h := iw_ift h10 h
        obtain ⟨v11, ev11⟩ : ∃ y : Int32, y = v4 + (1 : Int32) := ⟨_, rfl⟩
        replace h := iw_lete ev11 h
        refine iv_iinc (pc := 57) C 2 v11 [(2, .int v11), (0, .ref (G.2.1 0)), (1, .int v1)] dX5_firstDeath_57 rfl (by rw [ev11]; rfl) (by decide) rfl ?_
        refine iv_goto (pc := 60) C 23 dX5_firstDeath_60 (by decide) ?_
        exact iv_sub [1, 2, 0] rfl (hr23 v11 m8 h)
      · replace h := iw_iff h10 h
        refine iv_iload_n (pc := 55) C 2 dX5_firstDeath_55 rfl rfl ?_
        cases h
        exact iv_iret C hr hlk rfl rfl dX5_firstDeath_56
  have vL23 : ∀ (nn : Nat) (v4 : Int32) (m5 : iw_M), f_X5_firstDeath_L23 n v1 (f_X5_firstDeath_X63_23) nn v4 m5 = some (r, σ') → iw_V p l e rm_X5_firstDeath s m ([.ref (G.2.1 0)] : List Value).toArray below meth c0 0 0 (MQ below (iw_Q (some (.int r)) G σ') ([.ref (G.2.1 0)] : List Value).toArray s 0 0 (iw_A G)) 3 G (iw_A G) m5 23 [(0, .ref (G.2.1 0)), (1, .int v1), (2, .int v4)] [] := by
    intro nn
    induction nn with
    | zero => intro v4 m5 h; exact absurd h (fun q => by cases q)
    | succ nn ih => intro v4 m5 h; exact vB23 (f_X5_firstDeath_X63_23) (f_X5_firstDeath_L23 n v1 (f_X5_firstDeath_X63_23) nn) vX23 ih v4 m5 h
  exact iv_sub [2, 1, 0] rfl (vL23 n (1 : Int32) m2 h)
theorem qd_X5_firstDeath : yX5_firstDeath.cls = RX5 ∧ yX5_firstDeath.cls ≠ "java/lang/invoke/MethodHandle" ∧ yX5_firstDeath.cls ≠ "java/lang/invoke/VarHandle" ∧ (parseMethodDescriptor yX5_firstDeath.desc).map (fun d => d.parameters.length) = some 0 := by decide +kernel
def f_X5_willDeliver (n : Nat) (p1 : Int32) (σ : iw_M) : Option (Int32 × iw_M) :=
if (f_X5_isWithin p1 (1 : Int32) (500 : Int32)) = (0 : Int32) then
(some ((-1002 : Int32), σ))
else
((f_X3_start n 20 σ).bind fun m2 =>
iw_b2 (f_X3_run n p1 m2) fun v3 m4 =>
some (v3, m4))
abbrev rm_X5_willDeliver : Room := { frames := 6, cells := 0, slots := 0, locals := 152 }
theorem lk_X5_willDeliver_19 : Cond.fieldLink RX5 19 RX5 (TX5 1).2.1 (TX5 1).2.2.1 ∈ wsX5_willDeliver := by decide +kernel
theorem lk_X5_willDeliver_10 : Cond.fieldLink RX5 10 RX5 (TX5 0).2.1 (TX5 0).2.2.1 ∈ wsX5_willDeliver := by decide +kernel
theorem in_X5_willDeliver_5 : ∀ w ∈ u_ws RX5 TX5 5, w ∈ wsX5_willDeliver := by decide +kernel
set_option maxHeartbeats 4000000 in
set_option maxRecDepth 100000 in
theorem k_X5_willDeliver (l : Launch) (G : iw_G) (hJ : iw_JX G) (n : Nat) (p1 : Int32) (σ : iw_M) {r : Int32} {σ' : iw_M} (h : f_X5_willDeliver n p1 σ = some (r, σ')) : iw_Ct l yX5_willDeliver wsX5_willDeliver rm_X5_willDeliver G ([.ref (G.2.1 0), .int p1] : List Value) σ (some (.int r)) σ' := by
  refine iv_start (nL := 2) (own := RX5) (ret := (some .int)) (cc := cX5_willDeliver) (by decide +kernel) rfl rfl hJ.1 (Nat.le_of_ble_eq_true rfl) ?_
  intro p e s m below meth c0 C hr hlk
  refine iv_sub (lv' := [(0, .ref (G.2.1 0)), (1, .int p1)]) [0, 1] rfl ?_
  unfold f_X5_willDeliver at h
  refine iv_iload_n (pc := 0) C 1 dX5_willDeliver_0 rfl rfl ?_
  refine iv_iconst (pc := 1) C (1 : Int32) dX5_willDeliver_1 (by decide) ?_
  refine iv_sipush (pc := 2) C (500 : Int32) dX5_willDeliver_2 (by decide) ?_
  refine iv_callS (pc := 5) C [.int p1, .int (1 : Int32), .int (500 : Int32)] (k_X5_isWithin l G hJ p1 (1 : Int32) (500 : Int32) σ rfl) gX5_willDeliver_X5_isWithin rfl qd_X5_isWithin ⟨rfl, rfl, Nat.le_of_ble_eq_true rfl, Nat.le_of_ble_eq_true rfl⟩ rfl rfl (Nat.le_of_ble_eq_true rfl) dX5_willDeliver_5 ?_
  refine iv_if_ne (pc := 8) C 15 dX5_willDeliver_8 (by decide) (fun h1 => ?_) (fun h1 => ?_)
  · replace h := iw_iff h1 h
    refine iv_aload_n (pc := 15) C 0 dX5_willDeliver_15 rfl rfl ?_
    refine iv_getf (pc := 16) (T := TX5) (N := 5) (ci := 5) C 0 1 in_X5_willDeliver_5 (iw_ix hJ (by decide)) iw_Eo0 rfl (by decide) lk_X5_willDeliver_19 rfl rfl dX5_willDeliver_16 ?_
    refine iv_aload_n (pc := 19) C 0 dX5_willDeliver_19 rfl rfl ?_
    refine iv_getf (pc := 20) (T := TX5) (N := 5) (ci := 5) C 0 0 in_X5_willDeliver_5 (iw_ix hJ (by decide)) iw_Eo0 rfl (by decide) lk_X5_willDeliver_10 rfl rfl dX5_willDeliver_20 ?_
    obtain ⟨m2, em2, h⟩ := iw_be h
    refine iv_callV (pc := 23) (b := 1) (ci := 3) C [.ref (G.2.1 20)] (k_X3_start l G hJ n 20 iw_net_20 σ em2) gX5_willDeliver_X3_start rfl qd_X3_start ⟨rfl, rfl, Nat.le_of_ble_eq_true rfl, Nat.le_of_ble_eq_true rfl⟩ (iw_ix hJ (by decide)) iw_Eo1 rfl rfl rfl (Nat.le_of_ble_eq_true rfl) dX5_willDeliver_23 ?_
    refine iv_aload_n (pc := 26) C 0 dX5_willDeliver_26 rfl rfl ?_
    refine iv_getf (pc := 27) (T := TX5) (N := 5) (ci := 5) C 0 1 in_X5_willDeliver_5 (iw_ix hJ (by decide)) iw_Eo0 rfl (by decide) lk_X5_willDeliver_19 rfl rfl dX5_willDeliver_27 ?_
    refine iv_iload_n (pc := 30) C 1 dX5_willDeliver_30 rfl rfl ?_
    obtain ⟨v3, m4, ev3, h⟩ := iw_b2e h
    refine iv_callV (pc := 31) (b := 1) (ci := 3) C [.int p1] (k_X3_run l G hJ n p1 m2 ev3) gX5_willDeliver_X3_run rfl qd_X3_run ⟨rfl, rfl, Nat.le_of_ble_eq_true rfl, Nat.le_of_ble_eq_true rfl⟩ (iw_ix hJ (by decide)) iw_Eo1 rfl rfl rfl (Nat.le_of_ble_eq_true rfl) dX5_willDeliver_31 ?_
    cases h
    exact iv_iret C hr hlk rfl rfl dX5_willDeliver_34
  · replace h := iw_ift h1 h
    refine iv_sipush (pc := 11) C (-1002 : Int32) dX5_willDeliver_11 (by decide) ?_
    cases h
    exact iv_iret C hr hlk rfl rfl dX5_willDeliver_14
theorem qd_X5_willDeliver : yX5_willDeliver.cls = RX5 ∧ yX5_willDeliver.cls ≠ "java/lang/invoke/MethodHandle" ∧ yX5_willDeliver.cls ≠ "java/lang/invoke/VarHandle" ∧ (parseMethodDescriptor yX5_willDeliver.desc).map (fun d => d.parameters.length) = some 1 := by decide +kernel
def f_X5_bestPeriod_X81_22 (v2 : Int32) (m3 : iw_M) : Option (Int32 × iw_M) :=
some (v2, m3)
def f_X5_bestPeriod_J75 (r22 : Int32 → Int32 → Int32 → iw_M → Option (Int32 × iw_M)) (v6 : Int32) (m12 : iw_M) (v13 : Int32) (v14 : Int32) : Option (Int32 × iw_M) :=
iw_let (v6 + (1 : Int32)) fun v15 =>
r22 v13 v14 v15 m12
def f_X5_bestPeriod_B22 (n : Nat) (p1 : Int32) (k22 : Int32 → iw_M → Option (Int32 × iw_M)) (r22 : Int32 → Int32 → Int32 → iw_M → Option (Int32 × iw_M)) (v4 : Int32) (v5 : Int32) (v6 : Int32) (m7 : iw_M) : Option (Int32 × iw_M) :=
if (50 : Int32) < v6 then
(k22 v4 m7)
else
((f_X3_start n 20 m7).bind fun m9 =>
iw_let (f_X1_setNumber 28 (4 : Int32) v6 m9) fun m10 =>
iw_b2 (f_X3_run n p1 m10) fun v11 m12 =>
if v11 ≤ v5 then
(f_X5_bestPeriod_J75 r22 v6 m12 v4 v5)
else
(f_X5_bestPeriod_J75 r22 v6 m12 v6 v11))
def f_X5_bestPeriod_L22 (n : Nat) (p1 : Int32) (k22 : Int32 → iw_M → Option (Int32 × iw_M)) (nn : Nat) : Int32 → Int32 → Int32 → iw_M → Option (Int32 × iw_M) :=
iw_it (fun r22 => f_X5_bestPeriod_B22 n p1 k22 r22) (fun _ _ _ _ => none) nn
def f_X5_bestPeriod (n : Nat) (p1 : Int32) (σ : iw_M) : Option (Int32 × iw_M) :=
if (f_X5_isWithin p1 (1 : Int32) (200 : Int32)) = (0 : Int32) then
(some ((-1002 : Int32), σ))
else
(f_X5_bestPeriod_L22 n p1 (f_X5_bestPeriod_X81_22) n (1 : Int32) (-1 : Int32) (1 : Int32) σ)
abbrev rm_X5_bestPeriod : Room := { frames := 6, cells := 0, slots := 0, locals := 152 }
theorem lk_X5_bestPeriod_19 : Cond.fieldLink RX5 19 RX5 (TX5 1).2.1 (TX5 1).2.2.1 ∈ wsX5_bestPeriod := by decide +kernel
theorem lk_X5_bestPeriod_10 : Cond.fieldLink RX5 10 RX5 (TX5 0).2.1 (TX5 0).2.2.1 ∈ wsX5_bestPeriod := by decide +kernel
theorem lk_X5_bestPeriod_114 : (RX5, 114, RX3, (TX3 0).2.1, (TX3 0).2.2.1) ∈ iw_nf := by decide +kernel
theorem in_X5_bestPeriod_3 : ∀ w ∈ u_ws RX3 TX3 4, w ∈ wsX5_bestPeriod := by decide +kernel
theorem in_X5_bestPeriod_5 : ∀ w ∈ u_ws RX5 TX5 5, w ∈ wsX5_bestPeriod := by decide +kernel
set_option maxHeartbeats 4000000 in
set_option maxRecDepth 100000 in
theorem k_X5_bestPeriod (l : Launch) (G : iw_G) (hJ : iw_JX G) (n : Nat) (p1 : Int32) (σ : iw_M) {r : Int32} {σ' : iw_M} (h : f_X5_bestPeriod n p1 σ = some (r, σ')) : iw_Ct l yX5_bestPeriod wsX5_bestPeriod rm_X5_bestPeriod G ([.ref (G.2.1 0), .int p1] : List Value) σ (some (.int r)) σ' := by
  refine iv_start (nL := 6) (own := RX5) (ret := (some .int)) (cc := cX5_bestPeriod) (by decide +kernel) rfl rfl hJ.1 (Nat.le_of_ble_eq_true rfl) ?_
  intro p e s m below meth c0 C hr hlk
  refine iv_sub (lv' := [(0, .ref (G.2.1 0)), (1, .int p1)]) [0, 1] rfl ?_
  unfold f_X5_bestPeriod at h
  refine iv_iload_n (pc := 0) C 1 dX5_bestPeriod_0 rfl rfl ?_
  refine iv_iconst (pc := 1) C (1 : Int32) dX5_bestPeriod_1 (by decide) ?_
  refine iv_sipush (pc := 2) C (200 : Int32) dX5_bestPeriod_2 (by decide) ?_
  refine iv_callS (pc := 5) C [.int p1, .int (1 : Int32), .int (200 : Int32)] (k_X5_isWithin l G hJ p1 (1 : Int32) (200 : Int32) σ rfl) gX5_bestPeriod_X5_isWithin rfl qd_X5_isWithin ⟨rfl, rfl, Nat.le_of_ble_eq_true rfl, Nat.le_of_ble_eq_true rfl⟩ rfl rfl (Nat.le_of_ble_eq_true rfl) dX5_bestPeriod_5 ?_
  refine iv_if_ne (pc := 8) C 15 dX5_bestPeriod_8 (by decide) (fun h1 => ?_) (fun h1 => ?_)
  · replace h := iw_iff h1 h
    refine iv_iconst (pc := 15) C (1 : Int32) dX5_bestPeriod_15 (by decide) ?_
    refine iv_istore_n (pc := 16) C [(2, .int (1 : Int32)), (0, .ref (G.2.1 0)), (1, .int p1)] dX5_bestPeriod_16 rfl (by decide) rfl ?_
    refine iv_iconst (pc := 17) C (-1 : Int32) dX5_bestPeriod_17 (by decide) ?_
    refine iv_istore_n (pc := 18) C [(3, .int (-1 : Int32)), (2, .int (1 : Int32)), (0, .ref (G.2.1 0)), (1, .int p1)] dX5_bestPeriod_18 rfl (by decide) rfl ?_
    refine iv_iconst (pc := 19) C (1 : Int32) dX5_bestPeriod_19 (by decide) ?_
    refine iv_istore (pc := 20) C [(4, .int (1 : Int32)), (3, .int (-1 : Int32)), (2, .int (1 : Int32)), (0, .ref (G.2.1 0)), (1, .int p1)] dX5_bestPeriod_20 (by decide) rfl ?_
    have vX22 : ∀ (v2 : Int32) (m3 : iw_M), f_X5_bestPeriod_X81_22 v2 m3 = some (r, σ') → iw_V p l e rm_X5_bestPeriod s m ([.ref (G.2.1 0), .int p1] : List Value).toArray below meth c0 0 0 (MQ below (iw_Q (some (.int r)) G σ') ([.ref (G.2.1 0), .int p1] : List Value).toArray s 0 0 (iw_A G)) 6 G (iw_A G) m3 81 [(2, .int v2)] [] := by
      intro v2 m3 h
      unfold f_X5_bestPeriod_X81_22 at h
      refine iv_iload_n (pc := 81) C 0 dX5_bestPeriod_81 rfl rfl ?_
      cases h
      exact iv_iret C hr hlk rfl rfl dX5_bestPeriod_82
    have vB22 : ∀ (k22 : Int32 → iw_M → Option (Int32 × iw_M)) (r22 : Int32 → Int32 → Int32 → iw_M → Option (Int32 × iw_M)), (∀ (v2 : Int32) (m3 : iw_M), k22 v2 m3 = some (r, σ') → iw_V p l e rm_X5_bestPeriod s m ([.ref (G.2.1 0), .int p1] : List Value).toArray below meth c0 0 0 (MQ below (iw_Q (some (.int r)) G σ') ([.ref (G.2.1 0), .int p1] : List Value).toArray s 0 0 (iw_A G)) 6 G (iw_A G) m3 81 [(2, .int v2)] []) → (∀ (v4 : Int32) (v5 : Int32) (v6 : Int32) (m7 : iw_M), r22 v4 v5 v6 m7 = some (r, σ') → iw_V p l e rm_X5_bestPeriod s m ([.ref (G.2.1 0), .int p1] : List Value).toArray below meth c0 0 0 (MQ below (iw_Q (some (.int r)) G σ') ([.ref (G.2.1 0), .int p1] : List Value).toArray s 0 0 (iw_A G)) 6 G (iw_A G) m7 22 [(0, .ref (G.2.1 0)), (1, .int p1), (2, .int v4), (3, .int v5), (4, .int v6)] []) → ∀ (v4 : Int32) (v5 : Int32) (v6 : Int32) (m7 : iw_M), f_X5_bestPeriod_B22 n p1 k22 r22 v4 v5 v6 m7 = some (r, σ') → iw_V p l e rm_X5_bestPeriod s m ([.ref (G.2.1 0), .int p1] : List Value).toArray below meth c0 0 0 (MQ below (iw_Q (some (.int r)) G σ') ([.ref (G.2.1 0), .int p1] : List Value).toArray s 0 0 (iw_A G)) 6 G (iw_A G) m7 22 [(0, .ref (G.2.1 0)), (1, .int p1), (2, .int v4), (3, .int v5), (4, .int v6)] [] := by
      intro k22 r22 hk22 hr22 v4 v5 v6 m7 h
      unfold f_X5_bestPeriod_B22 at h
      refine iv_iload (pc := 22) C 4 dX5_bestPeriod_22 rfl ?_
      refine iv_bipush (pc := 24) C (50 : Int32) dX5_bestPeriod_24 (by decide) ?_
      refine iv_icmp_gt (pc := 26) C 81 dX5_bestPeriod_26 (by decide) (fun h8 => ?_) (fun h8 => ?_)
      · replace h := iw_ift h8 h
        exact iv_sub [2] rfl (hk22 v4 m7 h)
      · replace h := iw_iff h8 h
        refine iv_aload_n (pc := 29) C 0 dX5_bestPeriod_29 rfl rfl ?_
        refine iv_getf (pc := 30) (T := TX5) (N := 5) (ci := 5) C 0 1 in_X5_bestPeriod_5 (iw_ix hJ (by decide)) iw_Eo0 rfl (by decide) lk_X5_bestPeriod_19 rfl rfl dX5_bestPeriod_30 ?_
        refine iv_aload_n (pc := 33) C 0 dX5_bestPeriod_33 rfl rfl ?_
        refine iv_getf (pc := 34) (T := TX5) (N := 5) (ci := 5) C 0 0 in_X5_bestPeriod_5 (iw_ix hJ (by decide)) iw_Eo0 rfl (by decide) lk_X5_bestPeriod_10 rfl rfl dX5_bestPeriod_34 ?_
        obtain ⟨m9, em9, h⟩ := iw_be h
        refine iv_callV (pc := 37) (b := 1) (ci := 3) C [.ref (G.2.1 20)] (k_X3_start l G hJ n 20 iw_net_20 m7 em9) gX5_bestPeriod_X3_start rfl qd_X3_start ⟨rfl, rfl, Nat.le_of_ble_eq_true rfl, Nat.le_of_ble_eq_true rfl⟩ (iw_ix hJ (by decide)) iw_Eo1 rfl rfl rfl (Nat.le_of_ble_eq_true rfl) dX5_bestPeriod_37 ?_
        refine iv_aload_n (pc := 40) C 0 dX5_bestPeriod_40 rfl rfl ?_
        refine iv_getf (pc := 41) (T := TX5) (N := 5) (ci := 5) C 0 1 in_X5_bestPeriod_5 (iw_ix hJ (by decide)) iw_Eo0 rfl (by decide) lk_X5_bestPeriod_19 rfl rfl dX5_bestPeriod_41 ?_
        refine iv_getfN (pc := 44) (T := TX3) (N := 4) (ci := 3) C 1 0 in_X5_bestPeriod_3 (iw_ix hJ (by decide)) iw_Eo1 rfl (by decide) lk_X5_bestPeriod_114 rfl rfl dX5_bestPeriod_44 ?_
        refine iv_iconst (pc := 47) C (4 : Int32) dX5_bestPeriod_47 (by decide) ?_
        refine iv_iload (pc := 48) C 4 dX5_bestPeriod_48 rfl ?_
        refine iv_callV (pc := 50) (b := 28) (ci := 1) C [.int (4 : Int32), .int v6] (k_X1_setNumber l G hJ 28 iw_net_28 (4 : Int32) v6 m9 rfl) gX5_bestPeriod_X1_setNumber rfl qd_X1_setNumber ⟨rfl, rfl, Nat.le_of_ble_eq_true rfl, Nat.le_of_ble_eq_true rfl⟩ (iw_ix hJ (iw_nl iw_net_28)) (iw_E1 (iw_nk iw_net_28)) rfl rfl rfl (Nat.le_of_ble_eq_true rfl) dX5_bestPeriod_50 ?_
        refine iv_topm (fun m10 em10 => ?_)
        replace h := iw_lete em10 h
        refine iv_aload_n (pc := 53) C 0 dX5_bestPeriod_53 rfl rfl ?_
        refine iv_getf (pc := 54) (T := TX5) (N := 5) (ci := 5) C 0 1 in_X5_bestPeriod_5 (iw_ix hJ (by decide)) iw_Eo0 rfl (by decide) lk_X5_bestPeriod_19 rfl rfl dX5_bestPeriod_54 ?_
        refine iv_iload_n (pc := 57) C 1 dX5_bestPeriod_57 rfl rfl ?_
        obtain ⟨v11, m12, ev11, h⟩ := iw_b2e h
        refine iv_callV (pc := 58) (b := 1) (ci := 3) C [.int p1] (k_X3_run l G hJ n p1 m10 ev11) gX5_bestPeriod_X3_run rfl qd_X3_run ⟨rfl, rfl, Nat.le_of_ble_eq_true rfl, Nat.le_of_ble_eq_true rfl⟩ (iw_ix hJ (by decide)) iw_Eo1 rfl rfl rfl (Nat.le_of_ble_eq_true rfl) dX5_bestPeriod_58 ?_
        refine iv_istore (pc := 61) C [(5, .int v11), (0, .ref (G.2.1 0)), (1, .int p1), (2, .int v4), (3, .int v5), (4, .int v6)] dX5_bestPeriod_61 (by decide) rfl ?_
        refine iv_iload (pc := 63) C 0 dX5_bestPeriod_63 rfl ?_
        refine iv_iload_n (pc := 65) C 4 dX5_bestPeriod_65 rfl rfl ?_
        have vJ75 : ∀ (v13 : Int32) (v14 : Int32), f_X5_bestPeriod_J75 r22 v6 m12 v13 v14 = some (r, σ') → iw_V p l e rm_X5_bestPeriod s m ([.ref (G.2.1 0), .int p1] : List Value).toArray below meth c0 0 0 (MQ below (iw_Q (some (.int r)) G σ') ([.ref (G.2.1 0), .int p1] : List Value).toArray s 0 0 (iw_A G)) 6 G (iw_A G) m12 75 [(0, .ref (G.2.1 0)), (1, .int p1), (2, .int v13), (3, .int v14), (4, .int v6)] [] := by
          intro v13 v14 h
          unfold f_X5_bestPeriod_J75 at h
          obtain ⟨v15, ev15⟩ : ∃ y : Int32, y = v6 + (1 : Int32) := ⟨_, rfl⟩
          replace h := iw_lete ev15 h
          refine iv_iinc (pc := 75) C 4 v15 [(4, .int v15), (0, .ref (G.2.1 0)), (1, .int p1), (2, .int v13), (3, .int v14)] dX5_bestPeriod_75 rfl (by rw [ev15]; rfl) (by decide) rfl ?_
          refine iv_goto (pc := 78) C 22 dX5_bestPeriod_78 (by decide) ?_
          exact iv_sub [1, 2, 3, 4, 0] rfl (hr22 v13 v14 v15 m12 h)
        refine iv_icmp_le (pc := 66) C 75 dX5_bestPeriod_66 (by decide) (fun h16 => ?_) (fun h16 => ?_)
        · replace h := iw_ift h16 h
          exact iv_sub [1, 2, 3, 4, 5] rfl (vJ75 v4 v5 h)
        · replace h := iw_iff h16 h
          refine iv_iload (pc := 69) C 5 dX5_bestPeriod_69 rfl ?_
          refine iv_istore_n (pc := 71) C [(2, .int v6), (5, .int v11), (0, .ref (G.2.1 0)), (1, .int p1), (3, .int v5), (4, .int v6)] dX5_bestPeriod_71 rfl (by decide) rfl ?_
          refine iv_iload (pc := 72) C 1 dX5_bestPeriod_72 rfl ?_
          refine iv_istore_n (pc := 74) C [(3, .int v11), (2, .int v6), (5, .int v11), (0, .ref (G.2.1 0)), (1, .int p1), (4, .int v6)] dX5_bestPeriod_74 rfl (by decide) rfl ?_
          exact iv_sub [3, 4, 1, 0, 5] rfl (vJ75 v6 v11 h)
    have vL22 : ∀ (nn : Nat) (v4 : Int32) (v5 : Int32) (v6 : Int32) (m7 : iw_M), f_X5_bestPeriod_L22 n p1 (f_X5_bestPeriod_X81_22) nn v4 v5 v6 m7 = some (r, σ') → iw_V p l e rm_X5_bestPeriod s m ([.ref (G.2.1 0), .int p1] : List Value).toArray below meth c0 0 0 (MQ below (iw_Q (some (.int r)) G σ') ([.ref (G.2.1 0), .int p1] : List Value).toArray s 0 0 (iw_A G)) 6 G (iw_A G) m7 22 [(0, .ref (G.2.1 0)), (1, .int p1), (2, .int v4), (3, .int v5), (4, .int v6)] [] := by
      intro nn
      induction nn with
      | zero => intro v4 v5 v6 m7 h; exact absurd h (fun q => by cases q)
      | succ nn ih => intro v4 v5 v6 m7 h; exact vB22 (f_X5_bestPeriod_X81_22) (f_X5_bestPeriod_L22 n p1 (f_X5_bestPeriod_X81_22) nn) vX22 ih v4 v5 v6 m7 h
    exact iv_sub [3, 4, 2, 1, 0] rfl (vL22 n (1 : Int32) (-1 : Int32) (1 : Int32) σ h)
  · replace h := iw_ift h1 h
    refine iv_sipush (pc := 11) C (-1002 : Int32) dX5_bestPeriod_11 (by decide) ?_
    cases h
    exact iv_iret C hr hlk rfl rfl dX5_bestPeriod_14
theorem qd_X5_bestPeriod : yX5_bestPeriod.cls = RX5 ∧ yX5_bestPeriod.cls ≠ "java/lang/invoke/MethodHandle" ∧ yX5_bestPeriod.cls ≠ "java/lang/invoke/VarHandle" ∧ (parseMethodDescriptor yX5_bestPeriod.desc).map (fun d => d.parameters.length) = some 1 := by decide +kernel
def f_X5_undo (σ : iw_M) : Int32 × iw_M :=
iw_let2 (f_X0_restore 20 σ) fun v1 m2 =>
if v1 = (0 : Int32) then
(((-1003 : Int32), m2))
else
(((m2 4 2), m2))
abbrev rm_X5_undo : Room := { frames := 4, cells := 0, slots := 0, locals := 104 }
theorem lk_X5_undo_33 : Cond.fieldLink RX5 33 RX5 (TX5 3).2.1 (TX5 3).2.2.1 ∈ wsX5_undo := by decide +kernel
theorem lk_X5_undo_10 : Cond.fieldLink RX5 10 RX5 (TX5 0).2.1 (TX5 0).2.2.1 ∈ wsX5_undo := by decide +kernel
theorem lk_X5_undo_162 : (RX5, 162, RX0, (TX0 2).2.1, (TX0 2).2.2.1) ∈ iw_nf := by decide +kernel
theorem in_X5_undo_0 : ∀ w ∈ u_ws RX0 TX0 3, w ∈ wsX5_undo := by decide +kernel
theorem in_X5_undo_5 : ∀ w ∈ u_ws RX5 TX5 5, w ∈ wsX5_undo := by decide +kernel
set_option maxHeartbeats 4000000 in
set_option maxRecDepth 100000 in
theorem k_X5_undo (l : Launch) (G : iw_G) (hJ : iw_JX G) (σ : iw_M) {r : Int32} {σ' : iw_M} (h : f_X5_undo σ = (r, σ')) : iw_Ct l yX5_undo wsX5_undo rm_X5_undo G ([.ref (G.2.1 0)] : List Value) σ (some (.int r)) σ' := by
  refine iv_start (nL := 1) (own := RX5) (ret := (some .int)) (cc := cX5_undo) (by decide +kernel) rfl rfl hJ.1 (Nat.le_of_ble_eq_true rfl) ?_
  intro p e s m below meth c0 C hr hlk
  refine iv_sub (lv' := [(0, .ref (G.2.1 0))]) [0] rfl ?_
  unfold f_X5_undo at h
  refine iv_aload_n (pc := 0) C 0 dX5_undo_0 rfl rfl ?_
  refine iv_getf (pc := 1) (T := TX5) (N := 5) (ci := 5) C 0 3 in_X5_undo_5 (iw_ix hJ (by decide)) iw_Eo0 rfl (by decide) lk_X5_undo_33 rfl rfl dX5_undo_1 ?_
  refine iv_aload_n (pc := 4) C 0 dX5_undo_4 rfl rfl ?_
  refine iv_getf (pc := 5) (T := TX5) (N := 5) (ci := 5) C 0 0 in_X5_undo_5 (iw_ix hJ (by decide)) iw_Eo0 rfl (by decide) lk_X5_undo_10 rfl rfl dX5_undo_5 ?_
  obtain ⟨v1, m2, ev1, h⟩ := iw_let2e h
  refine iv_callV (pc := 8) (b := 4) (ci := 0) C [.ref (G.2.1 20)] (k_X0_restore l G hJ 20 iw_net_20 σ ev1) gX5_undo_X0_restore rfl qd_X0_restore ⟨rfl, rfl, Nat.le_of_ble_eq_true rfl, Nat.le_of_ble_eq_true rfl⟩ (iw_ix hJ (by decide)) iw_Eo4 rfl rfl rfl (Nat.le_of_ble_eq_true rfl) dX5_undo_8 ?_
  refine iv_if_eq (pc := 11) C 24 dX5_undo_11 (by decide) (fun h3 => ?_) (fun h3 => ?_)
  · replace h := iw_ift h3 h
    refine iv_sipush (pc := 24) C (-1003 : Int32) dX5_undo_24 (by decide) ?_
    cases h
    exact iv_iret C hr hlk rfl rfl dX5_undo_27
  · replace h := iw_iff h3 h
    refine iv_aload_n (pc := 14) C 0 dX5_undo_14 rfl rfl ?_
    refine iv_getf (pc := 15) (T := TX5) (N := 5) (ci := 5) C 0 3 in_X5_undo_5 (iw_ix hJ (by decide)) iw_Eo0 rfl (by decide) lk_X5_undo_33 rfl rfl dX5_undo_15 ?_
    refine iv_getfN (pc := 18) (T := TX0) (N := 3) (ci := 0) C 4 2 in_X5_undo_0 (iw_ix hJ (by decide)) iw_Eo4 rfl (by decide) lk_X5_undo_162 rfl rfl dX5_undo_18 ?_
    refine iv_goto (pc := 21) C 27 dX5_undo_21 (by decide) ?_
    cases h
    exact iv_iret C hr hlk rfl rfl dX5_undo_27
theorem qd_X5_undo : yX5_undo.cls = RX5 ∧ yX5_undo.cls ≠ "java/lang/invoke/MethodHandle" ∧ yX5_undo.cls ≠ "java/lang/invoke/VarHandle" ∧ (parseMethodDescriptor yX5_undo.desc).map (fun d => d.parameters.length) = some 0 := by decide +kernel
def f_X5_build (n : Nat) (σ : iw_M) : Option (Int32 × iw_M) :=
iw_b2 (f_X4_read n 20 σ) fun v1 m2 =>
if v1 = (0 : Int32) then
(some ((-1003 : Int32), m2))
else
(iw_let (f_X0_record 20 m2) fun m4 =>
iw_let (f_X1_copyFrom 20 36 m4) fun m5 =>
some ((m5 6 3), m5))
abbrev rm_X5_build : Room := { frames := 6, cells := 0, slots := 0, locals := 133 }
theorem lk_X5_build_40 : Cond.fieldLink RX5 40 RX5 (TX5 4).2.1 (TX5 4).2.2.1 ∈ wsX5_build := by decide +kernel
theorem lk_X5_build_10 : Cond.fieldLink RX5 10 RX5 (TX5 0).2.1 (TX5 0).2.2.1 ∈ wsX5_build := by decide +kernel
theorem lk_X5_build_33 : Cond.fieldLink RX5 33 RX5 (TX5 3).2.1 (TX5 3).2.2.1 ∈ wsX5_build := by decide +kernel
theorem lk_X5_build_179 : (RX5, 179, RX4, (TX4 0).2.1, (TX4 0).2.2.1) ∈ iw_nf := by decide +kernel
theorem lk_X5_build_180 : (RX5, 180, RX4, (TX4 3).2.1, (TX4 3).2.2.1) ∈ iw_nf := by decide +kernel
theorem in_X5_build_4 : ∀ w ∈ u_ws RX4 TX4 7, w ∈ wsX5_build := by decide +kernel
theorem in_X5_build_5 : ∀ w ∈ u_ws RX5 TX5 5, w ∈ wsX5_build := by decide +kernel
set_option maxHeartbeats 4000000 in
set_option maxRecDepth 100000 in
theorem k_X5_build (l : Launch) (G : iw_G) (hJ : iw_JX G) (n : Nat) (σ : iw_M) {r : Int32} {σ' : iw_M} (h : f_X5_build n σ = some (r, σ')) : iw_Ct l yX5_build wsX5_build rm_X5_build G ([.ref (G.2.1 0)] : List Value) σ (some (.int r)) σ' := by
  refine iv_start (nL := 1) (own := RX5) (ret := (some .int)) (cc := cX5_build) (by decide +kernel) rfl rfl hJ.1 (Nat.le_of_ble_eq_true rfl) ?_
  intro p e s m below meth c0 C hr hlk
  refine iv_sub (lv' := [(0, .ref (G.2.1 0))]) [0] rfl ?_
  unfold f_X5_build at h
  refine iv_aload_n (pc := 0) C 0 dX5_build_0 rfl rfl ?_
  refine iv_getf (pc := 1) (T := TX5) (N := 5) (ci := 5) C 0 4 in_X5_build_5 (iw_ix hJ (by decide)) iw_Eo0 rfl (by decide) lk_X5_build_40 rfl rfl dX5_build_1 ?_
  refine iv_aload_n (pc := 4) C 0 dX5_build_4 rfl rfl ?_
  refine iv_getf (pc := 5) (T := TX5) (N := 5) (ci := 5) C 0 0 in_X5_build_5 (iw_ix hJ (by decide)) iw_Eo0 rfl (by decide) lk_X5_build_10 rfl rfl dX5_build_5 ?_
  obtain ⟨v1, m2, ev1, h⟩ := iw_b2e h
  refine iv_callV (pc := 8) (b := 6) (ci := 4) C [.ref (G.2.1 20)] (k_X4_read l G hJ n 20 iw_net_20 σ ev1) gX5_build_X4_read rfl qd_X4_read ⟨rfl, rfl, Nat.le_of_ble_eq_true rfl, Nat.le_of_ble_eq_true rfl⟩ (iw_ix hJ (by decide)) iw_Eo6 rfl rfl rfl (Nat.le_of_ble_eq_true rfl) dX5_build_8 ?_
  refine iv_if_ne (pc := 11) C 18 dX5_build_11 (by decide) (fun h3 => ?_) (fun h3 => ?_)
  · replace h := iw_iff h3 h
    refine iv_aload_n (pc := 18) C 0 dX5_build_18 rfl rfl ?_
    refine iv_getf (pc := 19) (T := TX5) (N := 5) (ci := 5) C 0 3 in_X5_build_5 (iw_ix hJ (by decide)) iw_Eo0 rfl (by decide) lk_X5_build_33 rfl rfl dX5_build_19 ?_
    refine iv_aload_n (pc := 22) C 0 dX5_build_22 rfl rfl ?_
    refine iv_getf (pc := 23) (T := TX5) (N := 5) (ci := 5) C 0 0 in_X5_build_5 (iw_ix hJ (by decide)) iw_Eo0 rfl (by decide) lk_X5_build_10 rfl rfl dX5_build_23 ?_
    refine iv_callV (pc := 26) (b := 4) (ci := 0) C [.ref (G.2.1 20)] (k_X0_record l G hJ 20 iw_net_20 m2 rfl) gX5_build_X0_record rfl qd_X0_record ⟨rfl, rfl, Nat.le_of_ble_eq_true rfl, Nat.le_of_ble_eq_true rfl⟩ (iw_ix hJ (by decide)) iw_Eo4 rfl rfl rfl (Nat.le_of_ble_eq_true rfl) dX5_build_26 ?_
    refine iv_topm (fun m4 em4 => ?_)
    replace h := iw_lete em4 h
    refine iv_aload_n (pc := 29) C 0 dX5_build_29 rfl rfl ?_
    refine iv_getf (pc := 30) (T := TX5) (N := 5) (ci := 5) C 0 0 in_X5_build_5 (iw_ix hJ (by decide)) iw_Eo0 rfl (by decide) lk_X5_build_10 rfl rfl dX5_build_30 ?_
    refine iv_aload_n (pc := 33) C 0 dX5_build_33 rfl rfl ?_
    refine iv_getf (pc := 34) (T := TX5) (N := 5) (ci := 5) C 0 4 in_X5_build_5 (iw_ix hJ (by decide)) iw_Eo0 rfl (by decide) lk_X5_build_40 rfl rfl dX5_build_34 ?_
    refine iv_getfN (pc := 37) (T := TX4) (N := 7) (ci := 4) C 6 0 in_X5_build_4 (iw_ix hJ (by decide)) iw_Eo6 rfl (by decide) lk_X5_build_179 rfl rfl dX5_build_37 ?_
    refine iv_callV (pc := 40) (b := 20) (ci := 1) C [.ref (G.2.1 36)] (k_X1_copyFrom l G hJ 20 iw_net_20 36 iw_net_36 m4 rfl) gX5_build_X1_copyFrom rfl qd_X1_copyFrom ⟨rfl, rfl, Nat.le_of_ble_eq_true rfl, Nat.le_of_ble_eq_true rfl⟩ (iw_ix hJ (iw_nl iw_net_20)) (iw_E1 (iw_nk iw_net_20)) rfl rfl rfl (Nat.le_of_ble_eq_true rfl) dX5_build_40 ?_
    refine iv_topm (fun m5 em5 => ?_)
    replace h := iw_lete em5 h
    refine iv_aload_n (pc := 43) C 0 dX5_build_43 rfl rfl ?_
    refine iv_getf (pc := 44) (T := TX5) (N := 5) (ci := 5) C 0 4 in_X5_build_5 (iw_ix hJ (by decide)) iw_Eo0 rfl (by decide) lk_X5_build_40 rfl rfl dX5_build_44 ?_
    refine iv_getfN (pc := 47) (T := TX4) (N := 7) (ci := 4) C 6 3 in_X5_build_4 (iw_ix hJ (by decide)) iw_Eo6 rfl (by decide) lk_X5_build_180 rfl rfl dX5_build_47 ?_
    cases h
    exact iv_iret C hr hlk rfl rfl dX5_build_50
  · replace h := iw_ift h3 h
    refine iv_sipush (pc := 14) C (-1003 : Int32) dX5_build_14 (by decide) ?_
    cases h
    exact iv_iret C hr hlk rfl rfl dX5_build_17
theorem qd_X5_build : yX5_build.cls = RX5 ∧ yX5_build.cls ≠ "java/lang/invoke/MethodHandle" ∧ yX5_build.cls ≠ "java/lang/invoke/VarHandle" ∧ (parseMethodDescriptor yX5_build.desc).map (fun d => d.parameters.length) = some 0 := by decide +kernel
def f_X5_digest (n : Nat) (σ : iw_M) : Option (Int64) :=
(f_X1_hash n 20 σ).bind fun v1 =>
some v1
abbrev rm_X5_digest : Room := { frames := 4, cells := 0, slots := 0, locals := 98 }
theorem lk_X5_digest_10 : Cond.fieldLink RX5 10 RX5 (TX5 0).2.1 (TX5 0).2.2.1 ∈ wsX5_digest := by decide +kernel
theorem in_X5_digest_5 : ∀ w ∈ u_ws RX5 TX5 5, w ∈ wsX5_digest := by decide +kernel
set_option maxHeartbeats 4000000 in
set_option maxRecDepth 100000 in
theorem k_X5_digest (l : Launch) (G : iw_G) (hJ : iw_JX G) (n : Nat) (σ : iw_M) {r : Int64} (h : f_X5_digest n σ = some r) : iw_Ct l yX5_digest wsX5_digest rm_X5_digest G ([.ref (G.2.1 0)] : List Value) σ (some (.long r)) σ := by
  refine iv_start (nL := 1) (own := RX5) (ret := (some .long)) (cc := cX5_digest) (by decide +kernel) rfl rfl hJ.1 (Nat.le_of_ble_eq_true rfl) ?_
  intro p e s m below meth c0 C hr hlk
  refine iv_sub (lv' := [(0, .ref (G.2.1 0))]) [0] rfl ?_
  unfold f_X5_digest at h
  refine iv_aload_n (pc := 0) C 0 dX5_digest_0 rfl rfl ?_
  refine iv_getf (pc := 1) (T := TX5) (N := 5) (ci := 5) C 0 0 in_X5_digest_5 (iw_ix hJ (by decide)) iw_Eo0 rfl (by decide) lk_X5_digest_10 rfl rfl dX5_digest_1 ?_
  obtain ⟨v1, ev1, h⟩ := iw_be h
  refine iv_callV (pc := 4) (b := 20) (ci := 1) C [] (k_X1_hash l G hJ n 20 iw_net_20 σ ev1) gX5_digest_X1_hash rfl qd_X1_hash ⟨rfl, rfl, Nat.le_of_ble_eq_true rfl, Nat.le_of_ble_eq_true rfl⟩ (iw_ix hJ (iw_nl iw_net_20)) (iw_E1 (iw_nk iw_net_20)) rfl rfl rfl (Nat.le_of_ble_eq_true rfl) dX5_digest_4 ?_
  cases h
  exact iv_lret C hr hlk rfl rfl dX5_digest_7
theorem qd_X5_digest : yX5_digest.cls = RX5 ∧ yX5_digest.cls ≠ "java/lang/invoke/MethodHandle" ∧ yX5_digest.cls ≠ "java/lang/invoke/VarHandle" ∧ (parseMethodDescriptor yX5_digest.desc).map (fun d => d.parameters.length) = some 0 := by decide +kernel
