def f_X3_start (n : Nat) (c1 : Nat) (σ : iw_M) : Option (iw_M) :=
iw_let (f_X1_copyFrom 28 c1 σ) fun m1 =>
(f_X2_learn n 14 c1 m1).bind fun m2 =>
some m2
abbrev rm_X3_start : Room := { frames := 4, cells := 0, slots := 0, locals := 88 }
theorem lk_X3_start_12 : Cond.fieldLink RX3 12 RX3 (TX3 0).2.1 (TX3 0).2.2.1 ∈ wsX3_start := by decide +kernel
theorem lk_X3_start_21 : Cond.fieldLink RX3 21 RX3 (TX3 1).2.1 (TX3 1).2.2.1 ∈ wsX3_start := by decide +kernel
theorem in_X3_start_3 : ∀ w ∈ u_ws RX3 TX3 4, w ∈ wsX3_start := by decide +kernel
set_option maxHeartbeats 4000000 in
set_option maxRecDepth 100000 in
theorem k_X3_start (l : Launch) (G : iw_G) (hJ : iw_JX G) (n : Nat) (c1 : Nat) (hc1 : iw_net c1) (σ : iw_M) {σ' : iw_M} (h : f_X3_start n c1 σ = some σ') : iw_Ct l yX3_start wsX3_start rm_X3_start G ([.ref (G.2.1 1), .ref (G.2.1 c1)] : List Value) σ none σ' := by
  refine iv_start (nL := 2) (own := RX3) (ret := none) (cc := cX3_start) (by decide +kernel) rfl rfl hJ.1 (Nat.le_of_ble_eq_true rfl) ?_
  intro p e s m below meth c0 C hr hlk
  refine iv_sub (lv' := [(0, .ref (G.2.1 1)), (1, .ref (G.2.1 c1))]) [0, 1] rfl ?_
  unfold f_X3_start at h
  refine iv_aload_n (pc := 0) C 0 dX3_start_0 rfl rfl ?_
  refine iv_getf (pc := 1) (T := TX3) (N := 4) (ci := 3) C 1 0 in_X3_start_3 (iw_ix hJ (by decide)) iw_Eo1 rfl (by decide) lk_X3_start_12 rfl rfl dX3_start_1 ?_
  refine iv_aload_n (pc := 4) C 1 dX3_start_4 rfl rfl ?_
  refine iv_callV (pc := 5) (b := 28) (ci := 1) C [.ref (G.2.1 c1)] (k_X1_copyFrom l G hJ 28 iw_net_28 c1 hc1 σ rfl) gX3_start_X1_copyFrom rfl qd_X1_copyFrom ⟨rfl, rfl, Nat.le_of_ble_eq_true rfl, Nat.le_of_ble_eq_true rfl⟩ (iw_ix hJ (iw_nl iw_net_28)) (iw_E1 (iw_nk iw_net_28)) rfl rfl rfl (Nat.le_of_ble_eq_true rfl) dX3_start_5 ?_
  refine iv_topm (fun m1 em1 => ?_)
  replace h := iw_lete em1 h
  refine iv_aload_n (pc := 8) C 0 dX3_start_8 rfl rfl ?_
  refine iv_getf (pc := 9) (T := TX3) (N := 4) (ci := 3) C 1 1 in_X3_start_3 (iw_ix hJ (by decide)) iw_Eo1 rfl (by decide) lk_X3_start_21 rfl rfl dX3_start_9 ?_
  refine iv_aload_n (pc := 12) C 1 dX3_start_12 rfl rfl ?_
  obtain ⟨m2, em2, h⟩ := iw_be h
  refine iv_callV (pc := 13) (b := 14) (ci := 2) C [.ref (G.2.1 c1)] (k_X2_learn l G hJ n 14 iw_pth_14 c1 hc1 m1 em2) gX3_start_X2_learn rfl qd_X2_learn ⟨rfl, rfl, Nat.le_of_ble_eq_true rfl, Nat.le_of_ble_eq_true rfl⟩ (iw_ix hJ (iw_pl iw_pth_14)) (iw_E2 (iw_pk iw_pth_14)) rfl rfl rfl (Nat.le_of_ble_eq_true rfl) dX3_start_13 ?_
  cases h
  exact iv_vret C hr hlk rfl rfl dX3_start_16
theorem qd_X3_start : yX3_start.cls = RX3 ∧ yX3_start.cls ≠ "java/lang/invoke/MethodHandle" ∧ yX3_start.cls ≠ "java/lang/invoke/VarHandle" ∧ (parseMethodDescriptor yX3_start.desc).map (fun d => d.parameters.length) = some 1 := by decide +kernel
def f_X3_isExploringRound (n : Nat) (σ : iw_M) : Option (Int32) :=
(f_X1_number n 28 (4 : Int32) σ).bind fun v1 =>
if v1 ≤ (0 : Int32) then
(some (0 : Int32))
else
((f_X1_number n 28 (5 : Int32) σ).bind fun v3 =>
(iw_rem v3 v1).bind fun v4 =>
if v4 = (0 : Int32) then
(some (1 : Int32))
else
(some (0 : Int32)))
abbrev rm_X3_isExploringRound : Room := { frames := 3, cells := 0, slots := 0, locals := 64 }
theorem lk_X3_isExploringRound_12 : Cond.fieldLink RX3 12 RX3 (TX3 0).2.1 (TX3 0).2.2.1 ∈ wsX3_isExploringRound := by decide +kernel
theorem in_X3_isExploringRound_3 : ∀ w ∈ u_ws RX3 TX3 4, w ∈ wsX3_isExploringRound := by decide +kernel
set_option maxHeartbeats 4000000 in
set_option maxRecDepth 100000 in
theorem k_X3_isExploringRound (l : Launch) (G : iw_G) (hJ : iw_JX G) (n : Nat) (σ : iw_M) {r : Int32} (h : f_X3_isExploringRound n σ = some r) : iw_Ct l yX3_isExploringRound wsX3_isExploringRound rm_X3_isExploringRound G ([.ref (G.2.1 1)] : List Value) σ (some (.int r)) σ := by
  refine iv_start (nL := 2) (own := RX3) (ret := (some .boolean)) (cc := cX3_isExploringRound) (by decide +kernel) rfl rfl hJ.1 (Nat.le_of_ble_eq_true rfl) ?_
  intro p e s m below meth c0 C hr hlk
  refine iv_sub (lv' := [(0, .ref (G.2.1 1))]) [0] rfl ?_
  unfold f_X3_isExploringRound at h
  refine iv_aload_n (pc := 0) C 0 dX3_isExploringRound_0 rfl rfl ?_
  refine iv_getf (pc := 1) (T := TX3) (N := 4) (ci := 3) C 1 0 in_X3_isExploringRound_3 (iw_ix hJ (by decide)) iw_Eo1 rfl (by decide) lk_X3_isExploringRound_12 rfl rfl dX3_isExploringRound_1 ?_
  refine iv_iconst (pc := 4) C (4 : Int32) dX3_isExploringRound_4 (by decide) ?_
  obtain ⟨v1, ev1, h⟩ := iw_be h
  refine iv_callV (pc := 5) (b := 28) (ci := 1) C [.int (4 : Int32)] (k_X1_number l G hJ n 28 iw_net_28 (4 : Int32) σ ev1) gX3_isExploringRound_X1_number rfl qd_X1_number ⟨rfl, rfl, Nat.le_of_ble_eq_true rfl, Nat.le_of_ble_eq_true rfl⟩ (iw_ix hJ (iw_nl iw_net_28)) (iw_E1 (iw_nk iw_net_28)) rfl rfl rfl (Nat.le_of_ble_eq_true rfl) dX3_isExploringRound_5 ?_
  refine iv_istore_n (pc := 8) C [(1, .int v1), (0, .ref (G.2.1 1))] dX3_isExploringRound_8 rfl (by decide) rfl ?_
  refine iv_iload_n (pc := 9) C 0 dX3_isExploringRound_9 rfl rfl ?_
  refine iv_if_le (pc := 10) C 30 dX3_isExploringRound_10 (by decide) (fun h2 => ?_) (fun h2 => ?_)
  · replace h := iw_ift h2 h
    refine iv_iconst (pc := 30) C (0 : Int32) dX3_isExploringRound_30 (by decide) ?_
    cases h
    exact iv_zret C hr hlk rfl rfl dX3_isExploringRound_31
  · replace h := iw_iff h2 h
    refine iv_aload_n (pc := 13) C 1 dX3_isExploringRound_13 rfl rfl ?_
    refine iv_getf (pc := 14) (T := TX3) (N := 4) (ci := 3) C 1 0 in_X3_isExploringRound_3 (iw_ix hJ (by decide)) iw_Eo1 rfl (by decide) lk_X3_isExploringRound_12 rfl rfl dX3_isExploringRound_14 ?_
    refine iv_iconst (pc := 17) C (5 : Int32) dX3_isExploringRound_17 (by decide) ?_
    obtain ⟨v3, ev3, h⟩ := iw_be h
    refine iv_callV (pc := 18) (b := 28) (ci := 1) C [.int (5 : Int32)] (k_X1_number l G hJ n 28 iw_net_28 (5 : Int32) σ ev3) gX3_isExploringRound_X1_number rfl qd_X1_number ⟨rfl, rfl, Nat.le_of_ble_eq_true rfl, Nat.le_of_ble_eq_true rfl⟩ (iw_ix hJ (iw_nl iw_net_28)) (iw_E1 (iw_nk iw_net_28)) rfl rfl rfl (Nat.le_of_ble_eq_true rfl) dX3_isExploringRound_18 ?_
    refine iv_iload_n (pc := 21) C 0 dX3_isExploringRound_21 rfl rfl ?_
    obtain ⟨v4, ev4, h⟩ := iw_be h
    refine iv_rem (pc := 22) C ev4 dX3_isExploringRound_22 ?_
    refine iv_if_ne (pc := 23) C 30 dX3_isExploringRound_23 (by decide) (fun h5 => ?_) (fun h5 => ?_)
    · replace h := iw_iff h5 h
      refine iv_iconst (pc := 30) C (0 : Int32) dX3_isExploringRound_30 (by decide) ?_
      cases h
      exact iv_zret C hr hlk rfl rfl dX3_isExploringRound_31
    · replace h := iw_ift h5 h
      refine iv_iconst (pc := 26) C (1 : Int32) dX3_isExploringRound_26 (by decide) ?_
      refine iv_goto (pc := 27) C 31 dX3_isExploringRound_27 (by decide) ?_
      cases h
      exact iv_zret C hr hlk rfl rfl dX3_isExploringRound_31
theorem qd_X3_isExploringRound : yX3_isExploringRound.cls = RX3 ∧ yX3_isExploringRound.cls ≠ "java/lang/invoke/MethodHandle" ∧ yX3_isExploringRound.cls ≠ "java/lang/invoke/VarHandle" ∧ (parseMethodDescriptor yX3_isExploringRound.desc).map (fun d => d.parameters.length) = some 0 := by decide +kernel
def f_X3_traceBack_X52_14 (v2 : Int32) (m3 : iw_M) : Option (Int32 × iw_M) :=
some (v2, m3)
def f_X3_traceBack_B14 (p1 : Int32) (k14 : Int32 → iw_M → Option (Int32 × iw_M)) (r14 : Int32 → Int32 → iw_M → Option (Int32 × iw_M)) (v4 : Int32) (v5 : Int32) (m6 : iw_M) : Option (Int32 × iw_M) :=
if v4 = p1 then
(k14 v5 m6)
else
(if (10 : Int32) ≤ v5 then
(k14 v5 m6)
else
(iw_let (f_X2_nodeBefore 14 p1 v4 m6) fun v9 =>
iw_let (f_X5_put 2 v5 v9 m6) fun m10 =>
iw_let (v5 + (1 : Int32)) fun v11 =>
r14 v9 v11 m10))
def f_X3_traceBack_L14 (p1 : Int32) (k14 : Int32 → iw_M → Option (Int32 × iw_M)) (nn : Nat) : Int32 → Int32 → iw_M → Option (Int32 × iw_M) :=
iw_it (fun r14 => f_X3_traceBack_B14 p1 k14 r14) (fun _ _ _ => none) nn
def f_X3_traceBack (n : Nat) (p1 : Int32) (p2 : Int32) (σ : iw_M) : Option (Int32 × iw_M) :=
iw_let (f_X5_put 2 (0 : Int32) p2 σ) fun m1 =>
f_X3_traceBack_L14 p1 (f_X3_traceBack_X52_14) n p2 (1 : Int32) m1
abbrev rm_X3_traceBack : Room := { frames := 2, cells := 0, slots := 0, locals := 43 }
theorem lk_X3_traceBack_25 : Cond.fieldLink RX3 25 RX3 (TX3 2).2.1 (TX3 2).2.2.1 ∈ wsX3_traceBack := by decide +kernel
theorem si_X3_traceBack_X5_put : Cond.static yX5_put ∈ wsX3_traceBack ∧ Cond.initialized yX5_put.cls ∈ wsX3_traceBack := by decide +kernel
theorem lk_X3_traceBack_21 : Cond.fieldLink RX3 21 RX3 (TX3 1).2.1 (TX3 1).2.2.1 ∈ wsX3_traceBack := by decide +kernel
theorem in_X3_traceBack_3 : ∀ w ∈ u_ws RX3 TX3 4, w ∈ wsX3_traceBack := by decide +kernel
set_option maxHeartbeats 4000000 in
set_option maxRecDepth 100000 in
theorem k_X3_traceBack (l : Launch) (G : iw_G) (hJ : iw_JX G) (n : Nat) (p1 : Int32) (p2 : Int32) (σ : iw_M) {r : Int32} {σ' : iw_M} (h : f_X3_traceBack n p1 p2 σ = some (r, σ')) : iw_Ct l yX3_traceBack wsX3_traceBack rm_X3_traceBack G ([.ref (G.2.1 1), .int p1, .int p2] : List Value) σ (some (.int r)) σ' := by
  refine iv_start (nL := 5) (own := RX3) (ret := (some .int)) (cc := cX3_traceBack) (by decide +kernel) rfl rfl hJ.1 (Nat.le_of_ble_eq_true rfl) ?_
  intro p e s m below meth c0 C hr hlk
  refine iv_sub (lv' := [(0, .ref (G.2.1 1)), (1, .int p1), (2, .int p2)]) [0, 1, 2] rfl ?_
  unfold f_X3_traceBack at h
  refine iv_iload_n (pc := 0) C 2 dX3_traceBack_0 rfl rfl ?_
  refine iv_istore_n (pc := 1) C [(3, .int p2), (0, .ref (G.2.1 1)), (1, .int p1), (2, .int p2)] dX3_traceBack_1 rfl (by decide) rfl ?_
  refine iv_iconst (pc := 2) C (1 : Int32) dX3_traceBack_2 (by decide) ?_
  refine iv_istore (pc := 3) C [(4, .int (1 : Int32)), (3, .int p2), (0, .ref (G.2.1 1)), (1, .int p1), (2, .int p2)] dX3_traceBack_3 (by decide) rfl ?_
  refine iv_aload_n (pc := 5) C 2 dX3_traceBack_5 rfl rfl ?_
  refine iv_getf (pc := 6) (T := TX3) (N := 4) (ci := 3) C 1 2 in_X3_traceBack_3 (iw_ix hJ (by decide)) iw_Eo1 rfl (by decide) lk_X3_traceBack_25 rfl rfl dX3_traceBack_6 ?_
  refine iv_iconst (pc := 9) C (0 : Int32) dX3_traceBack_9 (by decide) ?_
  refine iv_iload_n (pc := 10) C 1 dX3_traceBack_10 rfl rfl ?_
  refine iv_callSN (pc := 11) C [.ref (G.2.1 2), .int (0 : Int32), .int p2] (k_X5_put l G hJ.1 2 (iw_lx hJ rfl (by decide)) (0 : Int32) p2 σ rfl) gX3_traceBack_X5_put_n133 rfl ne_RX3_133 si_X3_traceBack_X5_put qd_X5_put ⟨rfl, rfl, Nat.le_of_ble_eq_true rfl, Nat.le_of_ble_eq_true rfl⟩ rfl rfl (Nat.le_of_ble_eq_true rfl) dX3_traceBack_11 ?_
  refine iv_topm (fun m1 em1 => ?_)
  replace h := iw_lete em1 h
  have vX14 : ∀ (v2 : Int32) (m3 : iw_M), f_X3_traceBack_X52_14 v2 m3 = some (r, σ') → iw_V p l e rm_X3_traceBack s m ([.ref (G.2.1 1), .int p1, .int p2] : List Value).toArray below meth c0 0 0 (MQ below (iw_Q (some (.int r)) G σ') ([.ref (G.2.1 1), .int p1, .int p2] : List Value).toArray s 0 0 (iw_A G)) 5 G (iw_A G) m3 52 [(4, .int v2)] [] := by
    intro v2 m3 h
    unfold f_X3_traceBack_X52_14 at h
    refine iv_iload (pc := 52) C 0 dX3_traceBack_52 rfl ?_
    cases h
    exact iv_iret C hr hlk rfl rfl dX3_traceBack_54
  have vB14 : ∀ (k14 : Int32 → iw_M → Option (Int32 × iw_M)) (r14 : Int32 → Int32 → iw_M → Option (Int32 × iw_M)), (∀ (v2 : Int32) (m3 : iw_M), k14 v2 m3 = some (r, σ') → iw_V p l e rm_X3_traceBack s m ([.ref (G.2.1 1), .int p1, .int p2] : List Value).toArray below meth c0 0 0 (MQ below (iw_Q (some (.int r)) G σ') ([.ref (G.2.1 1), .int p1, .int p2] : List Value).toArray s 0 0 (iw_A G)) 5 G (iw_A G) m3 52 [(4, .int v2)] []) → (∀ (v4 : Int32) (v5 : Int32) (m6 : iw_M), r14 v4 v5 m6 = some (r, σ') → iw_V p l e rm_X3_traceBack s m ([.ref (G.2.1 1), .int p1, .int p2] : List Value).toArray below meth c0 0 0 (MQ below (iw_Q (some (.int r)) G σ') ([.ref (G.2.1 1), .int p1, .int p2] : List Value).toArray s 0 0 (iw_A G)) 5 G (iw_A G) m6 14 [(0, .ref (G.2.1 1)), (1, .int p1), (3, .int v4), (4, .int v5)] []) → ∀ (v4 : Int32) (v5 : Int32) (m6 : iw_M), f_X3_traceBack_B14 p1 k14 r14 v4 v5 m6 = some (r, σ') → iw_V p l e rm_X3_traceBack s m ([.ref (G.2.1 1), .int p1, .int p2] : List Value).toArray below meth c0 0 0 (MQ below (iw_Q (some (.int r)) G σ') ([.ref (G.2.1 1), .int p1, .int p2] : List Value).toArray s 0 0 (iw_A G)) 5 G (iw_A G) m6 14 [(0, .ref (G.2.1 1)), (1, .int p1), (3, .int v4), (4, .int v5)] [] := by
    intro k14 r14 hk14 hr14 v4 v5 m6 h
    unfold f_X3_traceBack_B14 at h
    refine iv_iload_n (pc := 14) C 2 dX3_traceBack_14 rfl rfl ?_
    refine iv_iload_n (pc := 15) C 1 dX3_traceBack_15 rfl rfl ?_
    refine iv_icmp_eq (pc := 16) C 52 dX3_traceBack_16 (by decide) (fun h7 => ?_) (fun h7 => ?_)
    · replace h := iw_ift h7 h
      exact iv_sub [3] rfl (hk14 v5 m6 h)
    · replace h := iw_iff h7 h
      refine iv_iload (pc := 19) C 3 dX3_traceBack_19 rfl ?_
      refine iv_bipush (pc := 21) C (10 : Int32) dX3_traceBack_21 (by decide) ?_
      refine iv_icmp_ge (pc := 23) C 52 dX3_traceBack_23 (by decide) (fun h8 => ?_) (fun h8 => ?_)
      · replace h := iw_ift h8 h
        exact iv_sub [3] rfl (hk14 v5 m6 h)
      · replace h := iw_iff h8 h
        refine iv_aload_n (pc := 26) C 0 dX3_traceBack_26 rfl rfl ?_
        refine iv_getf (pc := 27) (T := TX3) (N := 4) (ci := 3) C 1 1 in_X3_traceBack_3 (iw_ix hJ (by decide)) iw_Eo1 rfl (by decide) lk_X3_traceBack_21 rfl rfl dX3_traceBack_27 ?_
        refine iv_iload_n (pc := 30) C 1 dX3_traceBack_30 rfl rfl ?_
        refine iv_iload_n (pc := 31) C 2 dX3_traceBack_31 rfl rfl ?_
        refine iv_callV (pc := 32) (b := 14) (ci := 2) C [.int p1, .int v4] (k_X2_nodeBefore l G hJ 14 iw_pth_14 p1 v4 m6 rfl) gX3_traceBack_X2_nodeBefore rfl qd_X2_nodeBefore ⟨rfl, rfl, Nat.le_of_ble_eq_true rfl, Nat.le_of_ble_eq_true rfl⟩ (iw_ix hJ (iw_pl iw_pth_14)) (iw_E2 (iw_pk iw_pth_14)) rfl rfl rfl (Nat.le_of_ble_eq_true rfl) dX3_traceBack_32 ?_
        refine iv_topi (fun v9 ev9 => ?_)
        replace h := iw_lete ev9 h
        refine iv_istore_n (pc := 35) C [(3, .int v9), (0, .ref (G.2.1 1)), (1, .int p1), (4, .int v5)] dX3_traceBack_35 rfl (by decide) rfl ?_
        refine iv_aload_n (pc := 36) C 1 dX3_traceBack_36 rfl rfl ?_
        refine iv_getf (pc := 37) (T := TX3) (N := 4) (ci := 3) C 1 2 in_X3_traceBack_3 (iw_ix hJ (by decide)) iw_Eo1 rfl (by decide) lk_X3_traceBack_25 rfl rfl dX3_traceBack_37 ?_
        refine iv_iload (pc := 40) C 3 dX3_traceBack_40 rfl ?_
        refine iv_iload_n (pc := 42) C 0 dX3_traceBack_42 rfl rfl ?_
        refine iv_callSN (pc := 43) C [.ref (G.2.1 2), .int v5, .int v9] (k_X5_put l G hJ.1 2 (iw_lx hJ rfl (by decide)) v5 v9 m6 rfl) gX3_traceBack_X5_put_n133 rfl ne_RX3_133 si_X3_traceBack_X5_put qd_X5_put ⟨rfl, rfl, Nat.le_of_ble_eq_true rfl, Nat.le_of_ble_eq_true rfl⟩ rfl rfl (Nat.le_of_ble_eq_true rfl) dX3_traceBack_43 ?_
        refine iv_topm (fun m10 em10 => ?_)
        replace h := iw_lete em10 h
        obtain ⟨v11, ev11⟩ : ∃ y : Int32, y = v5 + (1 : Int32) := ⟨_, rfl⟩
        replace h := iw_lete ev11 h
        refine iv_iinc (pc := 46) C 3 v11 [(4, .int v11), (3, .int v9), (0, .ref (G.2.1 1)), (1, .int p1)] dX3_traceBack_46 rfl (by rw [ev11]; rfl) (by decide) rfl ?_
        refine iv_goto (pc := 49) C 14 dX3_traceBack_49 (by decide) ?_
        exact iv_sub [2, 3, 1, 0] rfl (hr14 v9 v11 m10 h)
  have vL14 : ∀ (nn : Nat) (v4 : Int32) (v5 : Int32) (m6 : iw_M), f_X3_traceBack_L14 p1 (f_X3_traceBack_X52_14) nn v4 v5 m6 = some (r, σ') → iw_V p l e rm_X3_traceBack s m ([.ref (G.2.1 1), .int p1, .int p2] : List Value).toArray below meth c0 0 0 (MQ below (iw_Q (some (.int r)) G σ') ([.ref (G.2.1 1), .int p1, .int p2] : List Value).toArray s 0 0 (iw_A G)) 5 G (iw_A G) m6 14 [(0, .ref (G.2.1 1)), (1, .int p1), (3, .int v4), (4, .int v5)] [] := by
    intro nn
    induction nn with
    | zero => intro v4 v5 m6 h; exact absurd h (fun q => by cases q)
    | succ nn ih => intro v4 v5 m6 h; exact vB14 (f_X3_traceBack_X52_14) (f_X3_traceBack_L14 p1 (f_X3_traceBack_X52_14) nn) vX14 ih v4 v5 m6 h
  exact iv_sub [2, 3, 1, 0] rfl (vL14 n p2 (1 : Int32) m1 h)
theorem qd_X3_traceBack : yX3_traceBack.cls = RX3 ∧ yX3_traceBack.cls ≠ "java/lang/invoke/MethodHandle" ∧ yX3_traceBack.cls ≠ "java/lang/invoke/VarHandle" ∧ (parseMethodDescriptor yX3_traceBack.desc).map (fun d => d.parameters.length) = some 2 := by decide +kernel
def f_X3_keptLinks_X51_5 (v1 : Int32) : Option (Int32) :=
some v1
def f_X3_keptLinks_J45 (r5 : Int32 → Int32 → Option (Int32)) (v3 : Int32) (v6 : Int32) : Option (Int32) :=
iw_let (v3 + (1 : Int32)) fun v7 =>
r5 v6 v7
def f_X3_keptLinks_B5 (n : Nat) (p1 : Int32) (p2 : Int32) (σ : iw_M) (k5 : Int32 → Option (Int32)) (r5 : Int32 → Int32 → Option (Int32)) (v2 : Int32) (v3 : Int32) : Option (Int32) :=
if p2 ≤ v3 then
(k5 v2)
else
((f_X1_goesOver n 28 p1 (f_X5_at 2 (v3 - (1 : Int32)) σ) (f_X5_at 2 v3 σ) σ).bind fun v5 =>
if v5 = (0 : Int32) then
(f_X3_keptLinks_J45 r5 v3 v2)
else
(iw_let (v2 + (1 : Int32)) fun v9 =>
f_X3_keptLinks_J45 r5 v3 v9))
def f_X3_keptLinks_L5 (n : Nat) (p1 : Int32) (p2 : Int32) (σ : iw_M) (k5 : Int32 → Option (Int32)) (nn : Nat) : Int32 → Int32 → Option (Int32) :=
iw_it (fun r5 => f_X3_keptLinks_B5 n p1 p2 σ k5 r5) (fun _ _ => none) nn
def f_X3_keptLinks (n : Nat) (p1 : Int32) (p2 : Int32) (σ : iw_M) : Option (Int32) :=
f_X3_keptLinks_L5 n p1 p2 σ (f_X3_keptLinks_X51_5) n (0 : Int32) (1 : Int32)
abbrev rm_X3_keptLinks : Room := { frames := 2, cells := 0, slots := 0, locals := 48 }
theorem lk_X3_keptLinks_12 : Cond.fieldLink RX3 12 RX3 (TX3 0).2.1 (TX3 0).2.2.1 ∈ wsX3_keptLinks := by decide +kernel
theorem lk_X3_keptLinks_25 : Cond.fieldLink RX3 25 RX3 (TX3 2).2.1 (TX3 2).2.2.1 ∈ wsX3_keptLinks := by decide +kernel
theorem si_X3_keptLinks_X5_at : Cond.static yX5_at ∈ wsX3_keptLinks ∧ Cond.initialized yX5_at.cls ∈ wsX3_keptLinks := by decide +kernel
theorem in_X3_keptLinks_3 : ∀ w ∈ u_ws RX3 TX3 4, w ∈ wsX3_keptLinks := by decide +kernel
set_option maxHeartbeats 4000000 in
set_option maxRecDepth 100000 in
theorem k_X3_keptLinks (l : Launch) (G : iw_G) (hJ : iw_JX G) (n : Nat) (p1 : Int32) (p2 : Int32) (σ : iw_M) {r : Int32} (h : f_X3_keptLinks n p1 p2 σ = some r) : iw_Ct l yX3_keptLinks wsX3_keptLinks rm_X3_keptLinks G ([.ref (G.2.1 1), .int p1, .int p2] : List Value) σ (some (.int r)) σ := by
  refine iv_start (nL := 5) (own := RX3) (ret := (some .int)) (cc := cX3_keptLinks) (by decide +kernel) rfl rfl hJ.1 (Nat.le_of_ble_eq_true rfl) ?_
  intro p e s m below meth c0 C hr hlk
  refine iv_sub (lv' := [(0, .ref (G.2.1 1)), (1, .int p1), (2, .int p2)]) [0, 1, 2] rfl ?_
  unfold f_X3_keptLinks at h
  refine iv_iconst (pc := 0) C (0 : Int32) dX3_keptLinks_0 (by decide) ?_
  refine iv_istore_n (pc := 1) C [(3, .int (0 : Int32)), (0, .ref (G.2.1 1)), (1, .int p1), (2, .int p2)] dX3_keptLinks_1 rfl (by decide) rfl ?_
  refine iv_iconst (pc := 2) C (1 : Int32) dX3_keptLinks_2 (by decide) ?_
  refine iv_istore (pc := 3) C [(4, .int (1 : Int32)), (3, .int (0 : Int32)), (0, .ref (G.2.1 1)), (1, .int p1), (2, .int p2)] dX3_keptLinks_3 (by decide) rfl ?_
  have vX5 : ∀ (v1 : Int32), f_X3_keptLinks_X51_5 v1 = some r → iw_V p l e rm_X3_keptLinks s m ([.ref (G.2.1 1), .int p1, .int p2] : List Value).toArray below meth c0 0 0 (MQ below (iw_Q (some (.int r)) G σ) ([.ref (G.2.1 1), .int p1, .int p2] : List Value).toArray s 0 0 (iw_A G)) 5 G (iw_A G) σ 51 [(3, .int v1)] [] := by
    intro v1 h
    unfold f_X3_keptLinks_X51_5 at h
    refine iv_iload_n (pc := 51) C 0 dX3_keptLinks_51 rfl rfl ?_
    cases h
    exact iv_iret C hr hlk rfl rfl dX3_keptLinks_52
  have vB5 : ∀ (k5 : Int32 → Option (Int32)) (r5 : Int32 → Int32 → Option (Int32)), (∀ (v1 : Int32), k5 v1 = some r → iw_V p l e rm_X3_keptLinks s m ([.ref (G.2.1 1), .int p1, .int p2] : List Value).toArray below meth c0 0 0 (MQ below (iw_Q (some (.int r)) G σ) ([.ref (G.2.1 1), .int p1, .int p2] : List Value).toArray s 0 0 (iw_A G)) 5 G (iw_A G) σ 51 [(3, .int v1)] []) → (∀ (v2 : Int32) (v3 : Int32), r5 v2 v3 = some r → iw_V p l e rm_X3_keptLinks s m ([.ref (G.2.1 1), .int p1, .int p2] : List Value).toArray below meth c0 0 0 (MQ below (iw_Q (some (.int r)) G σ) ([.ref (G.2.1 1), .int p1, .int p2] : List Value).toArray s 0 0 (iw_A G)) 5 G (iw_A G) σ 5 [(0, .ref (G.2.1 1)), (1, .int p1), (2, .int p2), (3, .int v2), (4, .int v3)] []) → ∀ (v2 : Int32) (v3 : Int32), f_X3_keptLinks_B5 n p1 p2 σ k5 r5 v2 v3 = some r → iw_V p l e rm_X3_keptLinks s m ([.ref (G.2.1 1), .int p1, .int p2] : List Value).toArray below meth c0 0 0 (MQ below (iw_Q (some (.int r)) G σ) ([.ref (G.2.1 1), .int p1, .int p2] : List Value).toArray s 0 0 (iw_A G)) 5 G (iw_A G) σ 5 [(0, .ref (G.2.1 1)), (1, .int p1), (2, .int p2), (3, .int v2), (4, .int v3)] [] := by
    intro k5 r5 hk5 hr5 v2 v3 h
    unfold f_X3_keptLinks_B5 at h
    refine iv_iload (pc := 5) C 4 dX3_keptLinks_5 rfl ?_
    refine iv_iload_n (pc := 7) C 2 dX3_keptLinks_7 rfl rfl ?_
    refine iv_icmp_ge (pc := 8) C 51 dX3_keptLinks_8 (by decide) (fun h4 => ?_) (fun h4 => ?_)
    · replace h := iw_ift h4 h
      exact iv_sub [3] rfl (hk5 v2 h)
    · replace h := iw_iff h4 h
      refine iv_aload_n (pc := 11) C 0 dX3_keptLinks_11 rfl rfl ?_
      refine iv_getf (pc := 12) (T := TX3) (N := 4) (ci := 3) C 1 0 in_X3_keptLinks_3 (iw_ix hJ (by decide)) iw_Eo1 rfl (by decide) lk_X3_keptLinks_12 rfl rfl dX3_keptLinks_12 ?_
      refine iv_iload_n (pc := 15) C 1 dX3_keptLinks_15 rfl rfl ?_
      refine iv_aload_n (pc := 16) C 0 dX3_keptLinks_16 rfl rfl ?_
      refine iv_getf (pc := 17) (T := TX3) (N := 4) (ci := 3) C 1 2 in_X3_keptLinks_3 (iw_ix hJ (by decide)) iw_Eo1 rfl (by decide) lk_X3_keptLinks_25 rfl rfl dX3_keptLinks_17 ?_
      refine iv_iload (pc := 20) C 4 dX3_keptLinks_20 rfl ?_
      refine iv_iconst (pc := 22) C (1 : Int32) dX3_keptLinks_22 (by decide) ?_
      refine iv_isub (pc := 23) C dX3_keptLinks_23 ?_
      refine iv_callSN (pc := 24) C [.ref (G.2.1 2), .int (v3 - (1 : Int32))] (k_X5_at l G hJ.1 2 (iw_lx hJ rfl (by decide)) (v3 - (1 : Int32)) σ rfl) gX3_keptLinks_X5_at_n140 rfl ne_RX3_140 si_X3_keptLinks_X5_at qd_X5_at ⟨rfl, rfl, Nat.le_of_ble_eq_true rfl, Nat.le_of_ble_eq_true rfl⟩ rfl rfl (Nat.le_of_ble_eq_true rfl) dX3_keptLinks_24 ?_
      refine iv_aload_n (pc := 27) C 0 dX3_keptLinks_27 rfl rfl ?_
      refine iv_getf (pc := 28) (T := TX3) (N := 4) (ci := 3) C 1 2 in_X3_keptLinks_3 (iw_ix hJ (by decide)) iw_Eo1 rfl (by decide) lk_X3_keptLinks_25 rfl rfl dX3_keptLinks_28 ?_
      refine iv_iload (pc := 31) C 4 dX3_keptLinks_31 rfl ?_
      refine iv_callSN (pc := 33) C [.ref (G.2.1 2), .int v3] (k_X5_at l G hJ.1 2 (iw_lx hJ rfl (by decide)) v3 σ rfl) gX3_keptLinks_X5_at_n140 rfl ne_RX3_140 si_X3_keptLinks_X5_at qd_X5_at ⟨rfl, rfl, Nat.le_of_ble_eq_true rfl, Nat.le_of_ble_eq_true rfl⟩ rfl rfl (Nat.le_of_ble_eq_true rfl) dX3_keptLinks_33 ?_
      obtain ⟨v5, ev5, h⟩ := iw_be h
      refine iv_callV (pc := 36) (b := 28) (ci := 1) C [.int p1, .int (f_X5_at 2 (v3 - (1 : Int32)) σ), .int (f_X5_at 2 v3 σ)] (k_X1_goesOver l G hJ n 28 iw_net_28 p1 (f_X5_at 2 (v3 - (1 : Int32)) σ) (f_X5_at 2 v3 σ) σ ev5) gX3_keptLinks_X1_goesOver rfl qd_X1_goesOver ⟨rfl, rfl, Nat.le_of_ble_eq_true rfl, Nat.le_of_ble_eq_true rfl⟩ (iw_ix hJ (iw_nl iw_net_28)) (iw_E1 (iw_nk iw_net_28)) rfl rfl rfl (Nat.le_of_ble_eq_true rfl) dX3_keptLinks_36 ?_
      have vJ45 : ∀ (v6 : Int32), f_X3_keptLinks_J45 r5 v3 v6 = some r → iw_V p l e rm_X3_keptLinks s m ([.ref (G.2.1 1), .int p1, .int p2] : List Value).toArray below meth c0 0 0 (MQ below (iw_Q (some (.int r)) G σ) ([.ref (G.2.1 1), .int p1, .int p2] : List Value).toArray s 0 0 (iw_A G)) 5 G (iw_A G) σ 45 [(0, .ref (G.2.1 1)), (1, .int p1), (2, .int p2), (3, .int v6), (4, .int v3)] [] := by
        intro v6 h
        unfold f_X3_keptLinks_J45 at h
        obtain ⟨v7, ev7⟩ : ∃ y : Int32, y = v3 + (1 : Int32) := ⟨_, rfl⟩
        replace h := iw_lete ev7 h
        refine iv_iinc (pc := 45) C 4 v7 [(4, .int v7), (0, .ref (G.2.1 1)), (1, .int p1), (2, .int p2), (3, .int v6)] dX3_keptLinks_45 rfl (by rw [ev7]; rfl) (by decide) rfl ?_
        refine iv_goto (pc := 48) C 5 dX3_keptLinks_48 (by decide) ?_
        exact iv_sub [1, 2, 3, 4, 0] rfl (hr5 v6 v7 h)
      refine iv_if_eq (pc := 39) C 45 dX3_keptLinks_39 (by decide) (fun h8 => ?_) (fun h8 => ?_)
      · replace h := iw_ift h8 h
        exact iv_sub [0, 1, 2, 3, 4] rfl (vJ45 v2 h)
      · replace h := iw_iff h8 h
        obtain ⟨v9, ev9⟩ : ∃ y : Int32, y = v2 + (1 : Int32) := ⟨_, rfl⟩
        replace h := iw_lete ev9 h
        refine iv_iinc (pc := 42) C 3 v9 [(3, .int v9), (0, .ref (G.2.1 1)), (1, .int p1), (2, .int p2), (4, .int v3)] dX3_keptLinks_42 rfl (by rw [ev9]; rfl) (by decide) rfl ?_
        exact iv_sub [1, 2, 3, 0, 4] rfl (vJ45 v9 h)
  have vL5 : ∀ (nn : Nat) (v2 : Int32) (v3 : Int32), f_X3_keptLinks_L5 n p1 p2 σ (f_X3_keptLinks_X51_5) nn v2 v3 = some r → iw_V p l e rm_X3_keptLinks s m ([.ref (G.2.1 1), .int p1, .int p2] : List Value).toArray below meth c0 0 0 (MQ below (iw_Q (some (.int r)) G σ) ([.ref (G.2.1 1), .int p1, .int p2] : List Value).toArray s 0 0 (iw_A G)) 5 G (iw_A G) σ 5 [(0, .ref (G.2.1 1)), (1, .int p1), (2, .int p2), (3, .int v2), (4, .int v3)] [] := by
    intro nn
    induction nn with
    | zero => intro v2 v3 h; exact absurd h (fun q => by cases q)
    | succ nn ih => intro v2 v3 h; exact vB5 (f_X3_keptLinks_X51_5) (f_X3_keptLinks_L5 n p1 p2 σ (f_X3_keptLinks_X51_5) nn) vX5 ih v2 v3 h
  exact iv_sub [2, 3, 4, 1, 0] rfl (vL5 n (0 : Int32) (1 : Int32) h)
theorem qd_X3_keptLinks : yX3_keptLinks.cls = RX3 ∧ yX3_keptLinks.cls ≠ "java/lang/invoke/MethodHandle" ∧ yX3_keptLinks.cls ≠ "java/lang/invoke/VarHandle" ∧ (parseMethodDescriptor yX3_keptLinks.desc).map (fun d => d.parameters.length) = some 2 := by decide +kernel
def f_X3_exploreWay_J75 (n : Nat) (p1 : Int32) (v4 : Int32) (m5 : iw_M) : Option (iw_M) :=
(f_X3_keptLinks n p1 v4 m5).bind fun v6 =>
iw_let (f_X1_raise 28 (7 : Int32) (1 : Int32) m5) fun m7 =>
iw_let (f_X1_raise 28 (8 : Int32) ((if (v4 - (1 : Int32)) < (0 : Int32) then (0 : Int32) else (v4 - (1 : Int32))) - v6) m7) fun m8 =>
iw_let (f_X1_raise 28 (9 : Int32) ((if ((f_X1_lengthOf 28 p1 m8) - (1 : Int32)) < (0 : Int32) then (0 : Int32) else ((f_X1_lengthOf 28 p1 m8) - (1 : Int32))) - v6) m8) fun m9 =>
(f_X1_setWay n 28 p1 2 v4 m9).bind fun m10 =>
some m10
def f_X3_exploreWay_X56_23 (n : Nat) (p1 : Int32) (p2 : Int32) (p3 : Int32) (v2 : Int32) (m3 : iw_M) : Option (iw_M) :=
if (f_X5_holds v2 p3) = (0 : Int32) then
(f_X3_exploreWay_J75 n p1 (0 : Int32) m3)
else
(iw_b2 (f_X3_traceBack n p2 p3 m3) fun v12 m13 =>
f_X3_exploreWay_J75 n p1 v12 m13)
def f_X3_exploreWay_J50 (r23 : Int32 → iw_M → Option (iw_M)) (v14 : Int32) (m17 : iw_M) : Option (iw_M) :=
iw_let (v14 + (1 : Int32)) fun v18 =>
r23 v18 m17
def f_X3_exploreWay_B23 (v2 : Int32) (k23 : iw_M → Option (iw_M)) (r23 : Int32 → iw_M → Option (iw_M)) (v14 : Int32) (m15 : iw_M) : Option (iw_M) :=
if (10 : Int32) ≤ v14 then
(k23 m15)
else
(if (f_X5_holds v2 v14) = (0 : Int32) then
(f_X3_exploreWay_J50 r23 v14 m15)
else
(iw_let (f_X1_spend 28 v14 (1 : Int32) m15) fun m20 =>
f_X3_exploreWay_J50 r23 v14 m20))
def f_X3_exploreWay_L23 (v2 : Int32) (k23 : iw_M → Option (iw_M)) (nn : Nat) : Int32 → iw_M → Option (iw_M) :=
iw_it (fun r23 => f_X3_exploreWay_B23 v2 k23 r23) (fun _ _ => none) nn
def f_X3_exploreWay (n : Nat) (p1 : Int32) (p2 : Int32) (p3 : Int32) (p4 : Int32) (σ : iw_M) : Option (iw_M) :=
(f_X2_explore n 14 p2 p4 σ).bind fun m1 =>
iw_let (f_X2_reachedFrom 14 p2 m1) fun v2 =>
f_X3_exploreWay_L23 v2 (f_X3_exploreWay_X56_23 n p1 p2 p3 v2) n (0 : Int32) m1
abbrev rm_X3_exploreWay : Room := { frames := 3, cells := 0, slots := 0, locals := 74 }
theorem lk_X3_exploreWay_21 : Cond.fieldLink RX3 21 RX3 (TX3 1).2.1 (TX3 1).2.2.1 ∈ wsX3_exploreWay := by decide +kernel
theorem si_X3_exploreWay_X5_holds : Cond.static yX5_holds ∈ wsX3_exploreWay ∧ Cond.initialized yX5_holds.cls ∈ wsX3_exploreWay := by decide +kernel
theorem lk_X3_exploreWay_12 : Cond.fieldLink RX3 12 RX3 (TX3 0).2.1 (TX3 0).2.2.1 ∈ wsX3_exploreWay := by decide +kernel
theorem jd_X3_exploreWay_124 : Cond.methodLink RX3 124 Lib.Math.max.name ∈ wsX3_exploreWay ∧ Cond.static Lib.Math.max.name ∈ wsX3_exploreWay ∧ Cond.initialized "java/lang/Math" ∈ wsX3_exploreWay ∧ Cond.code Lib.Math.max.name Lib.Math.max.code 2 (some .int) ∈ wsX3_exploreWay := by decide +kernel
theorem lk_X3_exploreWay_25 : Cond.fieldLink RX3 25 RX3 (TX3 2).2.1 (TX3 2).2.2.1 ∈ wsX3_exploreWay := by decide +kernel
theorem in_X3_exploreWay_3 : ∀ w ∈ u_ws RX3 TX3 4, w ∈ wsX3_exploreWay := by decide +kernel
set_option maxHeartbeats 4000000 in
set_option maxRecDepth 100000 in
theorem k_X3_exploreWay (l : Launch) (G : iw_G) (hJ : iw_JX G) (n : Nat) (p1 : Int32) (p2 : Int32) (p3 : Int32) (p4 : Int32) (σ : iw_M) {σ' : iw_M} (h : f_X3_exploreWay n p1 p2 p3 p4 σ = some σ') : iw_Ct l yX3_exploreWay wsX3_exploreWay rm_X3_exploreWay G ([.ref (G.2.1 1), .int p1, .int p2, .int p3, .int p4] : List Value) σ none σ' := by
  refine iv_start (nL := 8) (own := RX3) (ret := none) (cc := cX3_exploreWay) (by decide +kernel) rfl rfl hJ.1 (Nat.le_of_ble_eq_true rfl) ?_
  intro p e s m below meth c0 C hr hlk
  refine iv_sub (lv' := [(0, .ref (G.2.1 1)), (1, .int p1), (2, .int p2), (3, .int p3), (4, .int p4)]) [0, 1, 2, 3, 4] rfl ?_
  unfold f_X3_exploreWay at h
  refine iv_aload_n (pc := 0) C 0 dX3_exploreWay_0 rfl rfl ?_
  refine iv_getf (pc := 1) (T := TX3) (N := 4) (ci := 3) C 1 1 in_X3_exploreWay_3 (iw_ix hJ (by decide)) iw_Eo1 rfl (by decide) lk_X3_exploreWay_21 rfl rfl dX3_exploreWay_1 ?_
  refine iv_iload_n (pc := 4) C 2 dX3_exploreWay_4 rfl rfl ?_
  refine iv_iload (pc := 5) C 4 dX3_exploreWay_5 rfl ?_
  obtain ⟨m1, em1, h⟩ := iw_be h
  refine iv_callV (pc := 7) (b := 14) (ci := 2) C [.int p2, .int p4] (k_X2_explore l G hJ n 14 iw_pth_14 p2 p4 σ em1) gX3_exploreWay_X2_explore rfl qd_X2_explore ⟨rfl, rfl, Nat.le_of_ble_eq_true rfl, Nat.le_of_ble_eq_true rfl⟩ (iw_ix hJ (iw_pl iw_pth_14)) (iw_E2 (iw_pk iw_pth_14)) rfl rfl rfl (Nat.le_of_ble_eq_true rfl) dX3_exploreWay_7 ?_
  refine iv_aload_n (pc := 10) C 0 dX3_exploreWay_10 rfl rfl ?_
  refine iv_getf (pc := 11) (T := TX3) (N := 4) (ci := 3) C 1 1 in_X3_exploreWay_3 (iw_ix hJ (by decide)) iw_Eo1 rfl (by decide) lk_X3_exploreWay_21 rfl rfl dX3_exploreWay_11 ?_
  refine iv_iload_n (pc := 14) C 2 dX3_exploreWay_14 rfl rfl ?_
  refine iv_callV (pc := 15) (b := 14) (ci := 2) C [.int p2] (k_X2_reachedFrom l G hJ 14 iw_pth_14 p2 m1 rfl) gX3_exploreWay_X2_reachedFrom rfl qd_X2_reachedFrom ⟨rfl, rfl, Nat.le_of_ble_eq_true rfl, Nat.le_of_ble_eq_true rfl⟩ (iw_ix hJ (iw_pl iw_pth_14)) (iw_E2 (iw_pk iw_pth_14)) rfl rfl rfl (Nat.le_of_ble_eq_true rfl) dX3_exploreWay_15 ?_
  refine iv_topi (fun v2 ev2 => ?_)
  replace h := iw_lete ev2 h
  refine iv_istore (pc := 18) C [(5, .int v2), (0, .ref (G.2.1 1)), (1, .int p1), (2, .int p2), (3, .int p3), (4, .int p4)] dX3_exploreWay_18 (by decide) rfl ?_
  refine iv_iconst (pc := 20) C (0 : Int32) dX3_exploreWay_20 (by decide) ?_
  refine iv_istore (pc := 21) C [(6, .int (0 : Int32)), (5, .int v2), (0, .ref (G.2.1 1)), (1, .int p1), (2, .int p2), (3, .int p3), (4, .int p4)] dX3_exploreWay_21 (by decide) rfl ?_
  have vX23 : ∀ (m3 : iw_M), f_X3_exploreWay_X56_23 n p1 p2 p3 v2 m3 = some σ' → iw_V p l e rm_X3_exploreWay s m ([.ref (G.2.1 1), .int p1, .int p2, .int p3, .int p4] : List Value).toArray below meth c0 0 0 (MQ below (iw_Q none G σ') ([.ref (G.2.1 1), .int p1, .int p2, .int p3, .int p4] : List Value).toArray s 0 0 (iw_A G)) 8 G (iw_A G) m3 56 [(0, .ref (G.2.1 1)), (1, .int p1), (2, .int p2), (3, .int p3), (5, .int v2)] [] := by
    intro m3 h
    unfold f_X3_exploreWay_X56_23 at h
    refine iv_iload (pc := 56) C 4 dX3_exploreWay_56 rfl ?_
    refine iv_iload_n (pc := 58) C 3 dX3_exploreWay_58 rfl rfl ?_
    refine iv_callSN (pc := 59) C [.int v2, .int p3] (k_X5_holds l G hJ v2 p3 m3 rfl) gX3_exploreWay_X5_holds_n77 rfl ne_RX3_77 si_X3_exploreWay_X5_holds qd_X5_holds ⟨rfl, rfl, Nat.le_of_ble_eq_true rfl, Nat.le_of_ble_eq_true rfl⟩ rfl rfl (Nat.le_of_ble_eq_true rfl) dX3_exploreWay_59 ?_
    have vJ75 : ∀ (v4 : Int32) (m5 : iw_M), f_X3_exploreWay_J75 n p1 v4 m5 = some σ' → iw_V p l e rm_X3_exploreWay s m ([.ref (G.2.1 1), .int p1, .int p2, .int p3, .int p4] : List Value).toArray below meth c0 0 0 (MQ below (iw_Q none G σ') ([.ref (G.2.1 1), .int p1, .int p2, .int p3, .int p4] : List Value).toArray s 0 0 (iw_A G)) 8 G (iw_A G) m5 75 [(0, .ref (G.2.1 1)), (1, .int p1)] [.int v4] := by
      intro v4 m5 h
      unfold f_X3_exploreWay_J75 at h
      refine iv_istore (pc := 75) C [(6, .int v4), (0, .ref (G.2.1 1)), (1, .int p1)] dX3_exploreWay_75 (by decide) rfl ?_
      refine iv_aload_n (pc := 77) C 1 dX3_exploreWay_77 rfl rfl ?_
      refine iv_iload_n (pc := 78) C 2 dX3_exploreWay_78 rfl rfl ?_
      refine iv_iload (pc := 79) C 0 dX3_exploreWay_79 rfl ?_
      obtain ⟨v6, ev6, h⟩ := iw_be h
      refine iv_callV (pc := 81) (b := 1) (ci := 3) C [.int p1, .int v4] (k_X3_keptLinks l G hJ n p1 v4 m5 ev6) gX3_exploreWay_X3_keptLinks rfl qd_X3_keptLinks ⟨rfl, rfl, Nat.le_of_ble_eq_true rfl, Nat.le_of_ble_eq_true rfl⟩ (iw_ix hJ (by decide)) iw_Eo1 rfl rfl rfl (Nat.le_of_ble_eq_true rfl) dX3_exploreWay_81 ?_
      refine iv_istore (pc := 84) C [(7, .int v6), (6, .int v4), (0, .ref (G.2.1 1)), (1, .int p1)] dX3_exploreWay_84 (by decide) rfl ?_
      refine iv_aload_n (pc := 86) C 2 dX3_exploreWay_86 rfl rfl ?_
      refine iv_getf (pc := 87) (T := TX3) (N := 4) (ci := 3) C 1 0 in_X3_exploreWay_3 (iw_ix hJ (by decide)) iw_Eo1 rfl (by decide) lk_X3_exploreWay_12 rfl rfl dX3_exploreWay_87 ?_
      refine iv_bipush (pc := 90) C (7 : Int32) dX3_exploreWay_90 (by decide) ?_
      refine iv_iconst (pc := 92) C (1 : Int32) dX3_exploreWay_92 (by decide) ?_
      refine iv_callV (pc := 93) (b := 28) (ci := 1) C [.int (7 : Int32), .int (1 : Int32)] (k_X1_raise l G hJ 28 iw_net_28 (7 : Int32) (1 : Int32) m5 rfl) gX3_exploreWay_X1_raise rfl qd_X1_raise ⟨rfl, rfl, Nat.le_of_ble_eq_true rfl, Nat.le_of_ble_eq_true rfl⟩ (iw_ix hJ (iw_nl iw_net_28)) (iw_E1 (iw_nk iw_net_28)) rfl rfl rfl (Nat.le_of_ble_eq_true rfl) dX3_exploreWay_93 ?_
      refine iv_topm (fun m7 em7 => ?_)
      replace h := iw_lete em7 h
      refine iv_aload_n (pc := 96) C 2 dX3_exploreWay_96 rfl rfl ?_
      refine iv_getf (pc := 97) (T := TX3) (N := 4) (ci := 3) C 1 0 in_X3_exploreWay_3 (iw_ix hJ (by decide)) iw_Eo1 rfl (by decide) lk_X3_exploreWay_12 rfl rfl dX3_exploreWay_97 ?_
      refine iv_bipush (pc := 100) C (8 : Int32) dX3_exploreWay_100 (by decide) ?_
      refine iv_iload (pc := 102) C 1 dX3_exploreWay_102 rfl ?_
      refine iv_iconst (pc := 104) C (1 : Int32) dX3_exploreWay_104 (by decide) ?_
      refine iv_isub (pc := 105) C dX3_exploreWay_105 ?_
      refine iv_iconst (pc := 106) C (0 : Int32) dX3_exploreWay_106 (by decide) ?_
      refine iv_max (pc := 107) C jd_X3_exploreWay_124 ⟨Nat.le_of_ble_eq_true rfl, Nat.le_of_ble_eq_true rfl⟩ dX3_exploreWay_107 ?_
      refine iv_iload (pc := 110) C 0 dX3_exploreWay_110 rfl ?_
      refine iv_isub (pc := 112) C dX3_exploreWay_112 ?_
      refine iv_callV (pc := 113) (b := 28) (ci := 1) C [.int (8 : Int32), .int ((if (v4 - (1 : Int32)) < (0 : Int32) then (0 : Int32) else (v4 - (1 : Int32))) - v6)] (k_X1_raise l G hJ 28 iw_net_28 (8 : Int32) ((if (v4 - (1 : Int32)) < (0 : Int32) then (0 : Int32) else (v4 - (1 : Int32))) - v6) m7 rfl) gX3_exploreWay_X1_raise rfl qd_X1_raise ⟨rfl, rfl, Nat.le_of_ble_eq_true rfl, Nat.le_of_ble_eq_true rfl⟩ (iw_ix hJ (iw_nl iw_net_28)) (iw_E1 (iw_nk iw_net_28)) rfl rfl rfl (Nat.le_of_ble_eq_true rfl) dX3_exploreWay_113 ?_
      refine iv_topm (fun m8 em8 => ?_)
      replace h := iw_lete em8 h
      refine iv_aload_n (pc := 116) C 2 dX3_exploreWay_116 rfl rfl ?_
      refine iv_getf (pc := 117) (T := TX3) (N := 4) (ci := 3) C 1 0 in_X3_exploreWay_3 (iw_ix hJ (by decide)) iw_Eo1 rfl (by decide) lk_X3_exploreWay_12 rfl rfl dX3_exploreWay_117 ?_
      refine iv_bipush (pc := 120) C (9 : Int32) dX3_exploreWay_120 (by decide) ?_
      refine iv_aload_n (pc := 122) C 2 dX3_exploreWay_122 rfl rfl ?_
      refine iv_getf (pc := 123) (T := TX3) (N := 4) (ci := 3) C 1 0 in_X3_exploreWay_3 (iw_ix hJ (by decide)) iw_Eo1 rfl (by decide) lk_X3_exploreWay_12 rfl rfl dX3_exploreWay_123 ?_
      refine iv_iload_n (pc := 126) C 3 dX3_exploreWay_126 rfl rfl ?_
      refine iv_callV (pc := 127) (b := 28) (ci := 1) C [.int p1] (k_X1_lengthOf l G hJ 28 iw_net_28 p1 m8 rfl) gX3_exploreWay_X1_lengthOf rfl qd_X1_lengthOf ⟨rfl, rfl, Nat.le_of_ble_eq_true rfl, Nat.le_of_ble_eq_true rfl⟩ (iw_ix hJ (iw_nl iw_net_28)) (iw_E1 (iw_nk iw_net_28)) rfl rfl rfl (Nat.le_of_ble_eq_true rfl) dX3_exploreWay_127 ?_
      refine iv_iconst (pc := 130) C (1 : Int32) dX3_exploreWay_130 (by decide) ?_
      refine iv_isub (pc := 131) C dX3_exploreWay_131 ?_
      refine iv_iconst (pc := 132) C (0 : Int32) dX3_exploreWay_132 (by decide) ?_
      refine iv_max (pc := 133) C jd_X3_exploreWay_124 ⟨Nat.le_of_ble_eq_true rfl, Nat.le_of_ble_eq_true rfl⟩ dX3_exploreWay_133 ?_
      refine iv_iload (pc := 136) C 0 dX3_exploreWay_136 rfl ?_
      refine iv_isub (pc := 138) C dX3_exploreWay_138 ?_
      refine iv_callV (pc := 139) (b := 28) (ci := 1) C [.int (9 : Int32), .int ((if ((f_X1_lengthOf 28 p1 m8) - (1 : Int32)) < (0 : Int32) then (0 : Int32) else ((f_X1_lengthOf 28 p1 m8) - (1 : Int32))) - v6)] (k_X1_raise l G hJ 28 iw_net_28 (9 : Int32) ((if ((f_X1_lengthOf 28 p1 m8) - (1 : Int32)) < (0 : Int32) then (0 : Int32) else ((f_X1_lengthOf 28 p1 m8) - (1 : Int32))) - v6) m8 rfl) gX3_exploreWay_X1_raise rfl qd_X1_raise ⟨rfl, rfl, Nat.le_of_ble_eq_true rfl, Nat.le_of_ble_eq_true rfl⟩ (iw_ix hJ (iw_nl iw_net_28)) (iw_E1 (iw_nk iw_net_28)) rfl rfl rfl (Nat.le_of_ble_eq_true rfl) dX3_exploreWay_139 ?_
      refine iv_topm (fun m9 em9 => ?_)
      replace h := iw_lete em9 h
      refine iv_aload_n (pc := 142) C 2 dX3_exploreWay_142 rfl rfl ?_
      refine iv_getf (pc := 143) (T := TX3) (N := 4) (ci := 3) C 1 0 in_X3_exploreWay_3 (iw_ix hJ (by decide)) iw_Eo1 rfl (by decide) lk_X3_exploreWay_12 rfl rfl dX3_exploreWay_143 ?_
      refine iv_iload_n (pc := 146) C 3 dX3_exploreWay_146 rfl rfl ?_
      refine iv_aload_n (pc := 147) C 2 dX3_exploreWay_147 rfl rfl ?_
      refine iv_getf (pc := 148) (T := TX3) (N := 4) (ci := 3) C 1 2 in_X3_exploreWay_3 (iw_ix hJ (by decide)) iw_Eo1 rfl (by decide) lk_X3_exploreWay_25 rfl rfl dX3_exploreWay_148 ?_
      refine iv_iload (pc := 151) C 1 dX3_exploreWay_151 rfl ?_
      obtain ⟨m10, em10, h⟩ := iw_be h
      refine iv_callV (pc := 153) (b := 28) (ci := 1) C [.int p1, .ref (G.2.1 2), .int v4] (k_X1_setWay l G hJ n 28 iw_net_28 p1 2 (iw_lx hJ rfl (by decide)) v4 m9 em10) gX3_exploreWay_X1_setWay rfl qd_X1_setWay ⟨rfl, rfl, Nat.le_of_ble_eq_true rfl, Nat.le_of_ble_eq_true rfl⟩ (iw_ix hJ (iw_nl iw_net_28)) (iw_E1 (iw_nk iw_net_28)) rfl rfl rfl (Nat.le_of_ble_eq_true rfl) dX3_exploreWay_153 ?_
      cases h
      exact iv_vret C hr hlk rfl rfl dX3_exploreWay_156
    refine iv_if_eq (pc := 62) C 74 dX3_exploreWay_62 (by decide) (fun h11 => ?_) (fun h11 => ?_)
    · replace h := iw_ift h11 h
      refine iv_iconst (pc := 74) C (0 : Int32) dX3_exploreWay_74 (by decide) ?_
      exact iv_sub [0, 1] rfl (vJ75 (0 : Int32) m3 h)
    · replace h := iw_iff h11 h
      refine iv_aload_n (pc := 65) C 0 dX3_exploreWay_65 rfl rfl ?_
      refine iv_iload_n (pc := 66) C 2 dX3_exploreWay_66 rfl rfl ?_
      refine iv_iload_n (pc := 67) C 3 dX3_exploreWay_67 rfl rfl ?_
      obtain ⟨v12, m13, ev12, h⟩ := iw_b2e h
      refine iv_callV (pc := 68) (b := 1) (ci := 3) C [.int p2, .int p3] (k_X3_traceBack l G hJ n p2 p3 m3 ev12) gX3_exploreWay_X3_traceBack rfl qd_X3_traceBack ⟨rfl, rfl, Nat.le_of_ble_eq_true rfl, Nat.le_of_ble_eq_true rfl⟩ (iw_ix hJ (by decide)) iw_Eo1 rfl rfl rfl (Nat.le_of_ble_eq_true rfl) dX3_exploreWay_68 ?_
      refine iv_goto (pc := 71) C 75 dX3_exploreWay_71 (by decide) ?_
      exact iv_sub [0, 1] rfl (vJ75 v12 m13 h)
  have vB23 : ∀ (k23 : iw_M → Option (iw_M)) (r23 : Int32 → iw_M → Option (iw_M)), (∀ (m3 : iw_M), k23 m3 = some σ' → iw_V p l e rm_X3_exploreWay s m ([.ref (G.2.1 1), .int p1, .int p2, .int p3, .int p4] : List Value).toArray below meth c0 0 0 (MQ below (iw_Q none G σ') ([.ref (G.2.1 1), .int p1, .int p2, .int p3, .int p4] : List Value).toArray s 0 0 (iw_A G)) 8 G (iw_A G) m3 56 [(0, .ref (G.2.1 1)), (1, .int p1), (2, .int p2), (3, .int p3), (5, .int v2)] []) → (∀ (v14 : Int32) (m15 : iw_M), r23 v14 m15 = some σ' → iw_V p l e rm_X3_exploreWay s m ([.ref (G.2.1 1), .int p1, .int p2, .int p3, .int p4] : List Value).toArray below meth c0 0 0 (MQ below (iw_Q none G σ') ([.ref (G.2.1 1), .int p1, .int p2, .int p3, .int p4] : List Value).toArray s 0 0 (iw_A G)) 8 G (iw_A G) m15 23 [(0, .ref (G.2.1 1)), (1, .int p1), (2, .int p2), (3, .int p3), (5, .int v2), (6, .int v14)] []) → ∀ (v14 : Int32) (m15 : iw_M), f_X3_exploreWay_B23 v2 k23 r23 v14 m15 = some σ' → iw_V p l e rm_X3_exploreWay s m ([.ref (G.2.1 1), .int p1, .int p2, .int p3, .int p4] : List Value).toArray below meth c0 0 0 (MQ below (iw_Q none G σ') ([.ref (G.2.1 1), .int p1, .int p2, .int p3, .int p4] : List Value).toArray s 0 0 (iw_A G)) 8 G (iw_A G) m15 23 [(0, .ref (G.2.1 1)), (1, .int p1), (2, .int p2), (3, .int p3), (5, .int v2), (6, .int v14)] [] := by
    intro k23 r23 hk23 hr23 v14 m15 h
    unfold f_X3_exploreWay_B23 at h
    refine iv_iload (pc := 23) C 5 dX3_exploreWay_23 rfl ?_
    refine iv_bipush (pc := 25) C (10 : Int32) dX3_exploreWay_25 (by decide) ?_
    refine iv_icmp_ge (pc := 27) C 56 dX3_exploreWay_27 (by decide) (fun h16 => ?_) (fun h16 => ?_)
    · replace h := iw_ift h16 h
      exact iv_sub [0, 1, 2, 3, 4] rfl (hk23 m15 h)
    · replace h := iw_iff h16 h
      refine iv_iload (pc := 30) C 4 dX3_exploreWay_30 rfl ?_
      refine iv_iload (pc := 32) C 5 dX3_exploreWay_32 rfl ?_
      refine iv_callSN (pc := 34) C [.int v2, .int v14] (k_X5_holds l G hJ v2 v14 m15 rfl) gX3_exploreWay_X5_holds_n77 rfl ne_RX3_77 si_X3_exploreWay_X5_holds qd_X5_holds ⟨rfl, rfl, Nat.le_of_ble_eq_true rfl, Nat.le_of_ble_eq_true rfl⟩ rfl rfl (Nat.le_of_ble_eq_true rfl) dX3_exploreWay_34 ?_
      have vJ50 : ∀ (m17 : iw_M), f_X3_exploreWay_J50 r23 v14 m17 = some σ' → iw_V p l e rm_X3_exploreWay s m ([.ref (G.2.1 1), .int p1, .int p2, .int p3, .int p4] : List Value).toArray below meth c0 0 0 (MQ below (iw_Q none G σ') ([.ref (G.2.1 1), .int p1, .int p2, .int p3, .int p4] : List Value).toArray s 0 0 (iw_A G)) 8 G (iw_A G) m17 50 [(0, .ref (G.2.1 1)), (1, .int p1), (2, .int p2), (3, .int p3), (5, .int v2), (6, .int v14)] [] := by
        intro m17 h
        unfold f_X3_exploreWay_J50 at h
        obtain ⟨v18, ev18⟩ : ∃ y : Int32, y = v14 + (1 : Int32) := ⟨_, rfl⟩
        replace h := iw_lete ev18 h
        refine iv_iinc (pc := 50) C 5 v18 [(6, .int v18), (0, .ref (G.2.1 1)), (1, .int p1), (2, .int p2), (3, .int p3), (5, .int v2)] dX3_exploreWay_50 rfl (by rw [ev18]; rfl) (by decide) rfl ?_
        refine iv_goto (pc := 53) C 23 dX3_exploreWay_53 (by decide) ?_
        exact iv_sub [1, 2, 3, 4, 5, 0] rfl (hr23 v18 m17 h)
      refine iv_if_eq (pc := 37) C 50 dX3_exploreWay_37 (by decide) (fun h19 => ?_) (fun h19 => ?_)
      · replace h := iw_ift h19 h
        exact iv_sub [0, 1, 2, 3, 4, 5] rfl (vJ50 m15 h)
      · replace h := iw_iff h19 h
        refine iv_aload_n (pc := 40) C 0 dX3_exploreWay_40 rfl rfl ?_
        refine iv_getf (pc := 41) (T := TX3) (N := 4) (ci := 3) C 1 0 in_X3_exploreWay_3 (iw_ix hJ (by decide)) iw_Eo1 rfl (by decide) lk_X3_exploreWay_12 rfl rfl dX3_exploreWay_41 ?_
        refine iv_iload (pc := 44) C 5 dX3_exploreWay_44 rfl ?_
        refine iv_iconst (pc := 46) C (1 : Int32) dX3_exploreWay_46 (by decide) ?_
        refine iv_callV (pc := 47) (b := 28) (ci := 1) C [.int v14, .int (1 : Int32)] (k_X1_spend l G hJ 28 iw_net_28 v14 (1 : Int32) m15 rfl) gX3_exploreWay_X1_spend rfl qd_X1_spend ⟨rfl, rfl, Nat.le_of_ble_eq_true rfl, Nat.le_of_ble_eq_true rfl⟩ (iw_ix hJ (iw_nl iw_net_28)) (iw_E1 (iw_nk iw_net_28)) rfl rfl rfl (Nat.le_of_ble_eq_true rfl) dX3_exploreWay_47 ?_
        refine iv_topm (fun m20 em20 => ?_)
        replace h := iw_lete em20 h
        exact iv_sub [0, 1, 2, 3, 4, 5] rfl (vJ50 m20 h)
  have vL23 : ∀ (nn : Nat) (v14 : Int32) (m15 : iw_M), f_X3_exploreWay_L23 v2 (f_X3_exploreWay_X56_23 n p1 p2 p3 v2) nn v14 m15 = some σ' → iw_V p l e rm_X3_exploreWay s m ([.ref (G.2.1 1), .int p1, .int p2, .int p3, .int p4] : List Value).toArray below meth c0 0 0 (MQ below (iw_Q none G σ') ([.ref (G.2.1 1), .int p1, .int p2, .int p3, .int p4] : List Value).toArray s 0 0 (iw_A G)) 8 G (iw_A G) m15 23 [(0, .ref (G.2.1 1)), (1, .int p1), (2, .int p2), (3, .int p3), (5, .int v2), (6, .int v14)] [] := by
    intro nn
    induction nn with
    | zero => intro v14 m15 h; exact absurd h (fun q => by cases q)
    | succ nn ih => intro v14 m15 h; exact vB23 (f_X3_exploreWay_X56_23 n p1 p2 p3 v2) (f_X3_exploreWay_L23 v2 (f_X3_exploreWay_X56_23 n p1 p2 p3 v2) nn) vX23 ih v14 m15 h
  exact iv_sub [2, 3, 4, 5, 1, 0] rfl (vL23 n (0 : Int32) m1 h)
theorem qd_X3_exploreWay : yX3_exploreWay.cls = RX3 ∧ yX3_exploreWay.cls ≠ "java/lang/invoke/MethodHandle" ∧ yX3_exploreWay.cls ≠ "java/lang/invoke/VarHandle" ∧ (parseMethodDescriptor yX3_exploreWay.desc).map (fun d => d.parameters.length) = some 4 := by decide +kernel
def f_X3_send_X111_2 (m1 : iw_M) : Option (iw_M) :=
some m1
def f_X3_send_J105 (r2 : Int32 → iw_M → Option (iw_M)) (v2 : Int32) (m8 : iw_M) : Option (iw_M) :=
iw_let (v2 + (1 : Int32)) fun v9 =>
r2 v9 m8
def f_X3_send_B2 (p1 : Int32) (p2 : Int32) (k2 : iw_M → Option (iw_M)) (r2 : Int32 → iw_M → Option (iw_M)) (v2 : Int32) (m3 : iw_M) : Option (iw_M) :=
if (f_X1_lengthOf 28 p1 m3) ≤ v2 then
(k2 m3)
else
(iw_let (f_X1_nodeOf 28 p1 (v2 - (1 : Int32)) m3) fun v5 =>
iw_let (f_X1_nodeOf 28 p1 v2 m3) fun v6 =>
iw_let (f_X5_at 3 ((p2 * (10 : Int32)) + v5) m3) fun v7 =>
if (f_X5_holds v7 v6) = (0 : Int32) then
(iw_let (f_X5_put 3 ((p2 * (10 : Int32)) + v5) (v7 ||| ((1 : Int32) <<< (v6 &&& 31))) m3) fun m11 =>
iw_let (f_X1_spend 28 v5 (2 : Int32) m11) fun m12 =>
iw_let (f_X1_spend 28 v6 (1 : Int32) m12) fun m13 =>
f_X3_send_J105 r2 v2 m13)
else
(f_X3_send_J105 r2 v2 m3))
def f_X3_send_L2 (p1 : Int32) (p2 : Int32) (k2 : iw_M → Option (iw_M)) (nn : Nat) : Int32 → iw_M → Option (iw_M) :=
iw_it (fun r2 => f_X3_send_B2 p1 p2 k2 r2) (fun _ _ => none) nn
def f_X3_send (n : Nat) (p1 : Int32) (p2 : Int32) (σ : iw_M) : Option (iw_M) :=
f_X3_send_L2 p1 p2 (f_X3_send_X111_2) n (1 : Int32) σ
abbrev rm_X3_send : Room := { frames := 3, cells := 0, slots := 0, locals := 67 }
theorem lk_X3_send_12 : Cond.fieldLink RX3 12 RX3 (TX3 0).2.1 (TX3 0).2.2.1 ∈ wsX3_send := by decide +kernel
theorem lk_X3_send_29 : Cond.fieldLink RX3 29 RX3 (TX3 3).2.1 (TX3 3).2.2.1 ∈ wsX3_send := by decide +kernel
theorem si_X3_send_X5_at : Cond.static yX5_at ∈ wsX3_send ∧ Cond.initialized yX5_at.cls ∈ wsX3_send := by decide +kernel
theorem si_X3_send_X5_holds : Cond.static yX5_holds ∈ wsX3_send ∧ Cond.initialized yX5_holds.cls ∈ wsX3_send := by decide +kernel
theorem si_X3_send_X5_put : Cond.static yX5_put ∈ wsX3_send ∧ Cond.initialized yX5_put.cls ∈ wsX3_send := by decide +kernel
theorem in_X3_send_3 : ∀ w ∈ u_ws RX3 TX3 4, w ∈ wsX3_send := by decide +kernel
set_option maxHeartbeats 4000000 in
set_option maxRecDepth 100000 in
theorem k_X3_send (l : Launch) (G : iw_G) (hJ : iw_JX G) (n : Nat) (p1 : Int32) (p2 : Int32) (σ : iw_M) {σ' : iw_M} (h : f_X3_send n p1 p2 σ = some σ') : iw_Ct l yX3_send wsX3_send rm_X3_send G ([.ref (G.2.1 1), .int p1, .int p2] : List Value) σ none σ' := by
  refine iv_start (nL := 7) (own := RX3) (ret := none) (cc := cX3_send) (by decide +kernel) rfl rfl hJ.1 (Nat.le_of_ble_eq_true rfl) ?_
  intro p e s m below meth c0 C hr hlk
  refine iv_sub (lv' := [(0, .ref (G.2.1 1)), (1, .int p1), (2, .int p2)]) [0, 1, 2] rfl ?_
  unfold f_X3_send at h
  refine iv_iconst (pc := 0) C (1 : Int32) dX3_send_0 (by decide) ?_
  refine iv_istore_n (pc := 1) C [(3, .int (1 : Int32)), (0, .ref (G.2.1 1)), (1, .int p1), (2, .int p2)] dX3_send_1 rfl (by decide) rfl ?_
  have vX2 : ∀ (m1 : iw_M), f_X3_send_X111_2 m1 = some σ' → iw_V p l e rm_X3_send s m ([.ref (G.2.1 1), .int p1, .int p2] : List Value).toArray below meth c0 0 0 (MQ below (iw_Q none G σ') ([.ref (G.2.1 1), .int p1, .int p2] : List Value).toArray s 0 0 (iw_A G)) 7 G (iw_A G) m1 111 [] [] := by
    intro m1 h
    unfold f_X3_send_X111_2 at h
    cases h
    exact iv_vret C hr hlk rfl rfl dX3_send_111
  have vB2 : ∀ (k2 : iw_M → Option (iw_M)) (r2 : Int32 → iw_M → Option (iw_M)), (∀ (m1 : iw_M), k2 m1 = some σ' → iw_V p l e rm_X3_send s m ([.ref (G.2.1 1), .int p1, .int p2] : List Value).toArray below meth c0 0 0 (MQ below (iw_Q none G σ') ([.ref (G.2.1 1), .int p1, .int p2] : List Value).toArray s 0 0 (iw_A G)) 7 G (iw_A G) m1 111 [] []) → (∀ (v2 : Int32) (m3 : iw_M), r2 v2 m3 = some σ' → iw_V p l e rm_X3_send s m ([.ref (G.2.1 1), .int p1, .int p2] : List Value).toArray below meth c0 0 0 (MQ below (iw_Q none G σ') ([.ref (G.2.1 1), .int p1, .int p2] : List Value).toArray s 0 0 (iw_A G)) 7 G (iw_A G) m3 2 [(0, .ref (G.2.1 1)), (1, .int p1), (2, .int p2), (3, .int v2)] []) → ∀ (v2 : Int32) (m3 : iw_M), f_X3_send_B2 p1 p2 k2 r2 v2 m3 = some σ' → iw_V p l e rm_X3_send s m ([.ref (G.2.1 1), .int p1, .int p2] : List Value).toArray below meth c0 0 0 (MQ below (iw_Q none G σ') ([.ref (G.2.1 1), .int p1, .int p2] : List Value).toArray s 0 0 (iw_A G)) 7 G (iw_A G) m3 2 [(0, .ref (G.2.1 1)), (1, .int p1), (2, .int p2), (3, .int v2)] [] := by
    intro k2 r2 hk2 hr2 v2 m3 h
    unfold f_X3_send_B2 at h
    refine iv_iload_n (pc := 2) C 3 dX3_send_2 rfl rfl ?_
    refine iv_aload_n (pc := 3) C 0 dX3_send_3 rfl rfl ?_
    refine iv_getf (pc := 4) (T := TX3) (N := 4) (ci := 3) C 1 0 in_X3_send_3 (iw_ix hJ (by decide)) iw_Eo1 rfl (by decide) lk_X3_send_12 rfl rfl dX3_send_4 ?_
    refine iv_iload_n (pc := 7) C 1 dX3_send_7 rfl rfl ?_
    refine iv_callV (pc := 8) (b := 28) (ci := 1) C [.int p1] (k_X1_lengthOf l G hJ 28 iw_net_28 p1 m3 rfl) gX3_send_X1_lengthOf rfl qd_X1_lengthOf ⟨rfl, rfl, Nat.le_of_ble_eq_true rfl, Nat.le_of_ble_eq_true rfl⟩ (iw_ix hJ (iw_nl iw_net_28)) (iw_E1 (iw_nk iw_net_28)) rfl rfl rfl (Nat.le_of_ble_eq_true rfl) dX3_send_8 ?_
    refine iv_icmp_ge (pc := 11) C 111 dX3_send_11 (by decide) (fun h4 => ?_) (fun h4 => ?_)
    · replace h := iw_ift h4 h
      exact iv_sub [] rfl (hk2 m3 h)
    · replace h := iw_iff h4 h
      refine iv_aload_n (pc := 14) C 0 dX3_send_14 rfl rfl ?_
      refine iv_getf (pc := 15) (T := TX3) (N := 4) (ci := 3) C 1 0 in_X3_send_3 (iw_ix hJ (by decide)) iw_Eo1 rfl (by decide) lk_X3_send_12 rfl rfl dX3_send_15 ?_
      refine iv_iload_n (pc := 18) C 1 dX3_send_18 rfl rfl ?_
      refine iv_iload_n (pc := 19) C 3 dX3_send_19 rfl rfl ?_
      refine iv_iconst (pc := 20) C (1 : Int32) dX3_send_20 (by decide) ?_
      refine iv_isub (pc := 21) C dX3_send_21 ?_
      refine iv_callV (pc := 22) (b := 28) (ci := 1) C [.int p1, .int (v2 - (1 : Int32))] (k_X1_nodeOf l G hJ 28 iw_net_28 p1 (v2 - (1 : Int32)) m3 rfl) gX3_send_X1_nodeOf rfl qd_X1_nodeOf ⟨rfl, rfl, Nat.le_of_ble_eq_true rfl, Nat.le_of_ble_eq_true rfl⟩ (iw_ix hJ (iw_nl iw_net_28)) (iw_E1 (iw_nk iw_net_28)) rfl rfl rfl (Nat.le_of_ble_eq_true rfl) dX3_send_22 ?_
      refine iv_topi (fun v5 ev5 => ?_)
      replace h := iw_lete ev5 h
      refine iv_istore (pc := 25) C [(4, .int v5), (0, .ref (G.2.1 1)), (1, .int p1), (2, .int p2), (3, .int v2)] dX3_send_25 (by decide) rfl ?_
      refine iv_aload_n (pc := 27) C 1 dX3_send_27 rfl rfl ?_
      refine iv_getf (pc := 28) (T := TX3) (N := 4) (ci := 3) C 1 0 in_X3_send_3 (iw_ix hJ (by decide)) iw_Eo1 rfl (by decide) lk_X3_send_12 rfl rfl dX3_send_28 ?_
      refine iv_iload_n (pc := 31) C 2 dX3_send_31 rfl rfl ?_
      refine iv_iload_n (pc := 32) C 4 dX3_send_32 rfl rfl ?_
      refine iv_callV (pc := 33) (b := 28) (ci := 1) C [.int p1, .int v2] (k_X1_nodeOf l G hJ 28 iw_net_28 p1 v2 m3 rfl) gX3_send_X1_nodeOf rfl qd_X1_nodeOf ⟨rfl, rfl, Nat.le_of_ble_eq_true rfl, Nat.le_of_ble_eq_true rfl⟩ (iw_ix hJ (iw_nl iw_net_28)) (iw_E1 (iw_nk iw_net_28)) rfl rfl rfl (Nat.le_of_ble_eq_true rfl) dX3_send_33 ?_
      refine iv_topi (fun v6 ev6 => ?_)
      replace h := iw_lete ev6 h
      refine iv_istore (pc := 36) C [(5, .int v6), (4, .int v5), (0, .ref (G.2.1 1)), (1, .int p1), (2, .int p2), (3, .int v2)] dX3_send_36 (by decide) rfl ?_
      refine iv_aload_n (pc := 38) C 2 dX3_send_38 rfl rfl ?_
      refine iv_getf (pc := 39) (T := TX3) (N := 4) (ci := 3) C 1 3 in_X3_send_3 (iw_ix hJ (by decide)) iw_Eo1 rfl (by decide) lk_X3_send_29 rfl rfl dX3_send_39 ?_
      refine iv_iload_n (pc := 42) C 4 dX3_send_42 rfl rfl ?_
      refine iv_bipush (pc := 43) C (10 : Int32) dX3_send_43 (by decide) ?_
      refine iv_imul (pc := 45) C dX3_send_45 ?_
      refine iv_iload (pc := 46) C 1 dX3_send_46 rfl ?_
      refine iv_iadd (pc := 48) C dX3_send_48 ?_
      refine iv_callSN (pc := 49) C [.ref (G.2.1 3), .int ((p2 * (10 : Int32)) + v5)] (k_X5_at l G hJ.1 3 (iw_lx hJ rfl (by decide)) ((p2 * (10 : Int32)) + v5) m3 rfl) gX3_send_X5_at_n140 rfl ne_RX3_140 si_X3_send_X5_at qd_X5_at ⟨rfl, rfl, Nat.le_of_ble_eq_true rfl, Nat.le_of_ble_eq_true rfl⟩ rfl rfl (Nat.le_of_ble_eq_true rfl) dX3_send_49 ?_
      refine iv_topi (fun v7 ev7 => ?_)
      replace h := iw_lete ev7 h
      refine iv_istore (pc := 52) C [(6, .int v7), (5, .int v6), (4, .int v5), (0, .ref (G.2.1 1)), (1, .int p1), (2, .int p2), (3, .int v2)] dX3_send_52 (by decide) rfl ?_
      refine iv_iload (pc := 54) C 0 dX3_send_54 rfl ?_
      refine iv_iload (pc := 56) C 1 dX3_send_56 rfl ?_
      refine iv_callSN (pc := 58) C [.int v7, .int v6] (k_X5_holds l G hJ v7 v6 m3 rfl) gX3_send_X5_holds_n77 rfl ne_RX3_77 si_X3_send_X5_holds qd_X5_holds ⟨rfl, rfl, Nat.le_of_ble_eq_true rfl, Nat.le_of_ble_eq_true rfl⟩ rfl rfl (Nat.le_of_ble_eq_true rfl) dX3_send_58 ?_
      have vJ105 : ∀ (m8 : iw_M), f_X3_send_J105 r2 v2 m8 = some σ' → iw_V p l e rm_X3_send s m ([.ref (G.2.1 1), .int p1, .int p2] : List Value).toArray below meth c0 0 0 (MQ below (iw_Q none G σ') ([.ref (G.2.1 1), .int p1, .int p2] : List Value).toArray s 0 0 (iw_A G)) 7 G (iw_A G) m8 105 [(0, .ref (G.2.1 1)), (1, .int p1), (2, .int p2), (3, .int v2)] [] := by
        intro m8 h
        unfold f_X3_send_J105 at h
        obtain ⟨v9, ev9⟩ : ∃ y : Int32, y = v2 + (1 : Int32) := ⟨_, rfl⟩
        replace h := iw_lete ev9 h
        refine iv_iinc (pc := 105) C 3 v9 [(3, .int v9), (0, .ref (G.2.1 1)), (1, .int p1), (2, .int p2)] dX3_send_105 rfl (by rw [ev9]; rfl) (by decide) rfl ?_
        refine iv_goto (pc := 108) C 2 dX3_send_108 (by decide) ?_
        exact iv_sub [1, 2, 3, 0] rfl (hr2 v9 m8 h)
      refine iv_if_ne (pc := 61) C 105 dX3_send_61 (by decide) (fun h10 => ?_) (fun h10 => ?_)
      · replace h := iw_iff h10 h
        exact iv_sub [3, 4, 5, 6] rfl (vJ105 m3 h)
      · replace h := iw_ift h10 h
        refine iv_aload_n (pc := 64) C 3 dX3_send_64 rfl rfl ?_
        refine iv_getf (pc := 65) (T := TX3) (N := 4) (ci := 3) C 1 3 in_X3_send_3 (iw_ix hJ (by decide)) iw_Eo1 rfl (by decide) lk_X3_send_29 rfl rfl dX3_send_65 ?_
        refine iv_iload_n (pc := 68) C 5 dX3_send_68 rfl rfl ?_
        refine iv_bipush (pc := 69) C (10 : Int32) dX3_send_69 (by decide) ?_
        refine iv_imul (pc := 71) C dX3_send_71 ?_
        refine iv_iload (pc := 72) C 2 dX3_send_72 rfl ?_
        refine iv_iadd (pc := 74) C dX3_send_74 ?_
        refine iv_iload (pc := 75) C 0 dX3_send_75 rfl ?_
        refine iv_iconst (pc := 77) C (1 : Int32) dX3_send_77 (by decide) ?_
        refine iv_iload (pc := 78) C 1 dX3_send_78 rfl ?_
        refine iv_ishl (pc := 80) C dX3_send_80 ?_
        refine iv_ior (pc := 81) C dX3_send_81 ?_
        refine iv_callSN (pc := 82) C [.ref (G.2.1 3), .int ((p2 * (10 : Int32)) + v5), .int (v7 ||| ((1 : Int32) <<< (v6 &&& 31)))] (k_X5_put l G hJ.1 3 (iw_lx hJ rfl (by decide)) ((p2 * (10 : Int32)) + v5) (v7 ||| ((1 : Int32) <<< (v6 &&& 31))) m3 rfl) gX3_send_X5_put_n133 rfl ne_RX3_133 si_X3_send_X5_put qd_X5_put ⟨rfl, rfl, Nat.le_of_ble_eq_true rfl, Nat.le_of_ble_eq_true rfl⟩ rfl rfl (Nat.le_of_ble_eq_true rfl) dX3_send_82 ?_
        refine iv_topm (fun m11 em11 => ?_)
        replace h := iw_lete em11 h
        refine iv_aload_n (pc := 85) C 3 dX3_send_85 rfl rfl ?_
        refine iv_getf (pc := 86) (T := TX3) (N := 4) (ci := 3) C 1 0 in_X3_send_3 (iw_ix hJ (by decide)) iw_Eo1 rfl (by decide) lk_X3_send_12 rfl rfl dX3_send_86 ?_
        refine iv_iload (pc := 89) C 2 dX3_send_89 rfl ?_
        refine iv_iconst (pc := 91) C (2 : Int32) dX3_send_91 (by decide) ?_
        refine iv_callV (pc := 92) (b := 28) (ci := 1) C [.int v5, .int (2 : Int32)] (k_X1_spend l G hJ 28 iw_net_28 v5 (2 : Int32) m11 rfl) gX3_send_X1_spend rfl qd_X1_spend ⟨rfl, rfl, Nat.le_of_ble_eq_true rfl, Nat.le_of_ble_eq_true rfl⟩ (iw_ix hJ (iw_nl iw_net_28)) (iw_E1 (iw_nk iw_net_28)) rfl rfl rfl (Nat.le_of_ble_eq_true rfl) dX3_send_92 ?_
        refine iv_topm (fun m12 em12 => ?_)
        replace h := iw_lete em12 h
        refine iv_aload_n (pc := 95) C 3 dX3_send_95 rfl rfl ?_
        refine iv_getf (pc := 96) (T := TX3) (N := 4) (ci := 3) C 1 0 in_X3_send_3 (iw_ix hJ (by decide)) iw_Eo1 rfl (by decide) lk_X3_send_12 rfl rfl dX3_send_96 ?_
        refine iv_iload (pc := 99) C 1 dX3_send_99 rfl ?_
        refine iv_iconst (pc := 101) C (1 : Int32) dX3_send_101 (by decide) ?_
        refine iv_callV (pc := 102) (b := 28) (ci := 1) C [.int v6, .int (1 : Int32)] (k_X1_spend l G hJ 28 iw_net_28 v6 (1 : Int32) m12 rfl) gX3_send_X1_spend rfl qd_X1_spend ⟨rfl, rfl, Nat.le_of_ble_eq_true rfl, Nat.le_of_ble_eq_true rfl⟩ (iw_ix hJ (iw_nl iw_net_28)) (iw_E1 (iw_nk iw_net_28)) rfl rfl rfl (Nat.le_of_ble_eq_true rfl) dX3_send_102 ?_
        refine iv_topm (fun m13 em13 => ?_)
        replace h := iw_lete em13 h
        exact iv_sub [3, 4, 5, 6] rfl (vJ105 m13 h)
  have vL2 : ∀ (nn : Nat) (v2 : Int32) (m3 : iw_M), f_X3_send_L2 p1 p2 (f_X3_send_X111_2) nn v2 m3 = some σ' → iw_V p l e rm_X3_send s m ([.ref (G.2.1 1), .int p1, .int p2] : List Value).toArray below meth c0 0 0 (MQ below (iw_Q none G σ') ([.ref (G.2.1 1), .int p1, .int p2] : List Value).toArray s 0 0 (iw_A G)) 7 G (iw_A G) m3 2 [(0, .ref (G.2.1 1)), (1, .int p1), (2, .int p2), (3, .int v2)] [] := by
    intro nn
    induction nn with
    | zero => intro v2 m3 h; exact absurd h (fun q => by cases q)
    | succ nn ih => intro v2 m3 h; exact vB2 (f_X3_send_X111_2) (f_X3_send_L2 p1 p2 (f_X3_send_X111_2) nn) vX2 ih v2 m3 h
  exact iv_sub [1, 2, 3, 0] rfl (vL2 n (1 : Int32) σ h)
theorem qd_X3_send : yX3_send.cls = RX3 ∧ yX3_send.cls ≠ "java/lang/invoke/MethodHandle" ∧ yX3_send.cls ≠ "java/lang/invoke/VarHandle" ∧ (parseMethodDescriptor yX3_send.desc).map (fun d => d.parameters.length) = some 2 := by decide +kernel
def f_X3_takeTurn_J69 (σ : iw_M) (v1 : Int32) : Option (Int32 × iw_M) :=
iw_let (f_X1_dropWay 28 v1 σ) fun m6 =>
some ((0 : Int32), m6)
def f_X3_takeTurn_J114 (n : Nat) (p1 : Int32) (p2 : Int32) (v1 : Int32) (m11 : iw_M) : Option (Int32 × iw_M) :=
if (f_X1_lengthOf 28 v1 m11) = (0 : Int32) then
(some ((0 : Int32), m11))
else
((f_X3_send n v1 p2 m11).bind fun m13 =>
(f_X2_delayOf n 14 28 v1 m13).bind fun v14 =>
iw_let (f_X1_deliver 28 p1 v14 m13) fun m15 =>
some ((1 : Int32), m15))
def f_X3_takeTurn_J103 (n : Nat) (p1 : Int32) (p2 : Int32) (σ : iw_M) (v1 : Int32) (v2 : Int32) (v3 : Int32) (v4 : Int32) : Option (Int32 × iw_M) :=
(f_X3_exploreWay n v1 v2 v3 v4 σ).bind fun m16 =>
f_X3_takeTurn_J114 n p1 p2 v1 m16
def f_X3_takeTurn (n : Nat) (p1 : Int32) (p2 : Int32) (σ : iw_M) : Option (Int32 × iw_M) :=
iw_let (f_X5_wayOf p1 p2) fun v1 =>
iw_let (f_X1_sensorPart 28 p2 (0 : Int32) σ) fun v2 =>
(f_X1_interestPart n 28 p1 (0 : Int32) σ).bind fun v3 =>
(f_X1_aliveNodes n 28 σ).bind fun v4 =>
(f_X1_matches n 28 p2 p1 σ).bind fun v5 =>
if v5 = (0 : Int32) then
(f_X3_takeTurn_J69 σ v1)
else
(if (f_X5_holds v4 v2) = (0 : Int32) then
(f_X3_takeTurn_J69 σ v1)
else
(if (f_X5_holds v4 v3) = (0 : Int32) then
(f_X3_takeTurn_J69 σ v1)
else
((f_X3_isExploringRound n σ).bind fun v10 =>
if v10 = (0 : Int32) then
((f_X2_carry n 14 28 v1 v4 σ).bind fun v18 =>
if v18 = (0 : Int32) then
(f_X3_takeTurn_J103 n p1 p2 σ v1 v2 v3 v4)
else
(f_X3_takeTurn_J114 n p1 p2 v1 σ))
else
(f_X3_takeTurn_J103 n p1 p2 σ v1 v2 v3 v4))))
abbrev rm_X3_takeTurn : Room := { frames := 4, cells := 0, slots := 0, locals := 101 }
theorem si_X3_takeTurn_X5_wayOf : Cond.static yX5_wayOf ∈ wsX3_takeTurn ∧ Cond.initialized yX5_wayOf.cls ∈ wsX3_takeTurn := by decide +kernel
theorem lk_X3_takeTurn_12 : Cond.fieldLink RX3 12 RX3 (TX3 0).2.1 (TX3 0).2.2.1 ∈ wsX3_takeTurn := by decide +kernel
theorem si_X3_takeTurn_X5_holds : Cond.static yX5_holds ∈ wsX3_takeTurn ∧ Cond.initialized yX5_holds.cls ∈ wsX3_takeTurn := by decide +kernel
theorem lk_X3_takeTurn_21 : Cond.fieldLink RX3 21 RX3 (TX3 1).2.1 (TX3 1).2.2.1 ∈ wsX3_takeTurn := by decide +kernel
theorem in_X3_takeTurn_3 : ∀ w ∈ u_ws RX3 TX3 4, w ∈ wsX3_takeTurn := by decide +kernel
set_option maxHeartbeats 4000000 in
set_option maxRecDepth 100000 in
theorem k_X3_takeTurn (l : Launch) (G : iw_G) (hJ : iw_JX G) (n : Nat) (p1 : Int32) (p2 : Int32) (σ : iw_M) {r : Int32} {σ' : iw_M} (h : f_X3_takeTurn n p1 p2 σ = some (r, σ')) : iw_Ct l yX3_takeTurn wsX3_takeTurn rm_X3_takeTurn G ([.ref (G.2.1 1), .int p1, .int p2] : List Value) σ (some (.int r)) σ' := by
  refine iv_start (nL := 7) (own := RX3) (ret := (some .boolean)) (cc := cX3_takeTurn) (by decide +kernel) rfl rfl hJ.1 (Nat.le_of_ble_eq_true rfl) ?_
  intro p e s m below meth c0 C hr hlk
  refine iv_sub (lv' := [(0, .ref (G.2.1 1)), (1, .int p1), (2, .int p2)]) [0, 1, 2] rfl ?_
  unfold f_X3_takeTurn at h
  refine iv_iload_n (pc := 0) C 1 dX3_takeTurn_0 rfl rfl ?_
  refine iv_iload_n (pc := 1) C 2 dX3_takeTurn_1 rfl rfl ?_
  refine iv_callSN (pc := 2) C [.int p1, .int p2] (k_X5_wayOf l G hJ p1 p2 σ rfl) gX3_takeTurn_X5_wayOf_n60 rfl ne_RX3_60 si_X3_takeTurn_X5_wayOf qd_X5_wayOf ⟨rfl, rfl, Nat.le_of_ble_eq_true rfl, Nat.le_of_ble_eq_true rfl⟩ rfl rfl (Nat.le_of_ble_eq_true rfl) dX3_takeTurn_2 ?_
  refine iv_topi (fun v1 ev1 => ?_)
  replace h := iw_lete ev1 h
  refine iv_istore_n (pc := 5) C [(3, .int v1), (0, .ref (G.2.1 1)), (1, .int p1), (2, .int p2)] dX3_takeTurn_5 rfl (by decide) rfl ?_
  refine iv_aload_n (pc := 6) C 1 dX3_takeTurn_6 rfl rfl ?_
  refine iv_getf (pc := 7) (T := TX3) (N := 4) (ci := 3) C 1 0 in_X3_takeTurn_3 (iw_ix hJ (by decide)) iw_Eo1 rfl (by decide) lk_X3_takeTurn_12 rfl rfl dX3_takeTurn_7 ?_
  refine iv_iload_n (pc := 10) C 3 dX3_takeTurn_10 rfl rfl ?_
  refine iv_iconst (pc := 11) C (0 : Int32) dX3_takeTurn_11 (by decide) ?_
  refine iv_callV (pc := 12) (b := 28) (ci := 1) C [.int p2, .int (0 : Int32)] (k_X1_sensorPart l G hJ 28 iw_net_28 p2 (0 : Int32) σ rfl) gX3_takeTurn_X1_sensorPart rfl qd_X1_sensorPart ⟨rfl, rfl, Nat.le_of_ble_eq_true rfl, Nat.le_of_ble_eq_true rfl⟩ (iw_ix hJ (iw_nl iw_net_28)) (iw_E1 (iw_nk iw_net_28)) rfl rfl rfl (Nat.le_of_ble_eq_true rfl) dX3_takeTurn_12 ?_
  refine iv_topi (fun v2 ev2 => ?_)
  replace h := iw_lete ev2 h
  refine iv_istore (pc := 15) C [(4, .int v2), (3, .int v1), (0, .ref (G.2.1 1)), (1, .int p1), (2, .int p2)] dX3_takeTurn_15 (by decide) rfl ?_
  refine iv_aload_n (pc := 17) C 2 dX3_takeTurn_17 rfl rfl ?_
  refine iv_getf (pc := 18) (T := TX3) (N := 4) (ci := 3) C 1 0 in_X3_takeTurn_3 (iw_ix hJ (by decide)) iw_Eo1 rfl (by decide) lk_X3_takeTurn_12 rfl rfl dX3_takeTurn_18 ?_
  refine iv_iload_n (pc := 21) C 3 dX3_takeTurn_21 rfl rfl ?_
  refine iv_iconst (pc := 22) C (0 : Int32) dX3_takeTurn_22 (by decide) ?_
  obtain ⟨v3, ev3, h⟩ := iw_be h
  refine iv_callV (pc := 23) (b := 28) (ci := 1) C [.int p1, .int (0 : Int32)] (k_X1_interestPart l G hJ n 28 iw_net_28 p1 (0 : Int32) σ ev3) gX3_takeTurn_X1_interestPart rfl qd_X1_interestPart ⟨rfl, rfl, Nat.le_of_ble_eq_true rfl, Nat.le_of_ble_eq_true rfl⟩ (iw_ix hJ (iw_nl iw_net_28)) (iw_E1 (iw_nk iw_net_28)) rfl rfl rfl (Nat.le_of_ble_eq_true rfl) dX3_takeTurn_23 ?_
  refine iv_istore (pc := 26) C [(5, .int v3), (4, .int v2), (3, .int v1), (0, .ref (G.2.1 1)), (1, .int p1), (2, .int p2)] dX3_takeTurn_26 (by decide) rfl ?_
  refine iv_aload_n (pc := 28) C 3 dX3_takeTurn_28 rfl rfl ?_
  refine iv_getf (pc := 29) (T := TX3) (N := 4) (ci := 3) C 1 0 in_X3_takeTurn_3 (iw_ix hJ (by decide)) iw_Eo1 rfl (by decide) lk_X3_takeTurn_12 rfl rfl dX3_takeTurn_29 ?_
  obtain ⟨v4, ev4, h⟩ := iw_be h
  refine iv_callV (pc := 32) (b := 28) (ci := 1) C [] (k_X1_aliveNodes l G hJ n 28 iw_net_28 σ ev4) gX3_takeTurn_X1_aliveNodes rfl qd_X1_aliveNodes ⟨rfl, rfl, Nat.le_of_ble_eq_true rfl, Nat.le_of_ble_eq_true rfl⟩ (iw_ix hJ (iw_nl iw_net_28)) (iw_E1 (iw_nk iw_net_28)) rfl rfl rfl (Nat.le_of_ble_eq_true rfl) dX3_takeTurn_32 ?_
  refine iv_istore (pc := 35) C [(6, .int v4), (5, .int v3), (4, .int v2), (3, .int v1), (0, .ref (G.2.1 1)), (1, .int p1), (2, .int p2)] dX3_takeTurn_35 (by decide) rfl ?_
  refine iv_aload_n (pc := 37) C 4 dX3_takeTurn_37 rfl rfl ?_
  refine iv_getf (pc := 38) (T := TX3) (N := 4) (ci := 3) C 1 0 in_X3_takeTurn_3 (iw_ix hJ (by decide)) iw_Eo1 rfl (by decide) lk_X3_takeTurn_12 rfl rfl dX3_takeTurn_38 ?_
  refine iv_iload_n (pc := 41) C 6 dX3_takeTurn_41 rfl rfl ?_
  refine iv_iload_n (pc := 42) C 5 dX3_takeTurn_42 rfl rfl ?_
  obtain ⟨v5, ev5, h⟩ := iw_be h
  refine iv_callV (pc := 43) (b := 28) (ci := 1) C [.int p2, .int p1] (k_X1_matches l G hJ n 28 iw_net_28 p2 p1 σ ev5) gX3_takeTurn_X1_matches rfl qd_X1_matches ⟨rfl, rfl, Nat.le_of_ble_eq_true rfl, Nat.le_of_ble_eq_true rfl⟩ (iw_ix hJ (iw_nl iw_net_28)) (iw_E1 (iw_nk iw_net_28)) rfl rfl rfl (Nat.le_of_ble_eq_true rfl) dX3_takeTurn_43 ?_
  have vJ69 : f_X3_takeTurn_J69 σ v1  = some (r, σ') → iw_V p l e rm_X3_takeTurn s m ([.ref (G.2.1 1), .int p1, .int p2] : List Value).toArray below meth c0 0 0 (MQ below (iw_Q (some (.int r)) G σ') ([.ref (G.2.1 1), .int p1, .int p2] : List Value).toArray s 0 0 (iw_A G)) 7 G (iw_A G) σ 69 [(0, .ref (G.2.1 1)), (3, .int v1)] [] := by
    intro h
    unfold f_X3_takeTurn_J69 at h
    refine iv_aload_n (pc := 69) C 0 dX3_takeTurn_69 rfl rfl ?_
    refine iv_getf (pc := 70) (T := TX3) (N := 4) (ci := 3) C 1 0 in_X3_takeTurn_3 (iw_ix hJ (by decide)) iw_Eo1 rfl (by decide) lk_X3_takeTurn_12 rfl rfl dX3_takeTurn_70 ?_
    refine iv_iload_n (pc := 73) C 1 dX3_takeTurn_73 rfl rfl ?_
    refine iv_callV (pc := 74) (b := 28) (ci := 1) C [.int v1] (k_X1_dropWay l G hJ 28 iw_net_28 v1 σ rfl) gX3_takeTurn_X1_dropWay rfl qd_X1_dropWay ⟨rfl, rfl, Nat.le_of_ble_eq_true rfl, Nat.le_of_ble_eq_true rfl⟩ (iw_ix hJ (iw_nl iw_net_28)) (iw_E1 (iw_nk iw_net_28)) rfl rfl rfl (Nat.le_of_ble_eq_true rfl) dX3_takeTurn_74 ?_
    refine iv_topm (fun m6 em6 => ?_)
    replace h := iw_lete em6 h
    refine iv_iconst (pc := 77) C (0 : Int32) dX3_takeTurn_77 (by decide) ?_
    cases h
    exact iv_zret C hr hlk rfl rfl dX3_takeTurn_78
  refine iv_if_eq (pc := 46) C 69 dX3_takeTurn_46 (by decide) (fun h7 => ?_) (fun h7 => ?_)
  · replace h := iw_ift h7 h
    exact iv_sub [4, 3] rfl (vJ69 h)
  · replace h := iw_iff h7 h
    refine iv_iload (pc := 49) C 0 dX3_takeTurn_49 rfl ?_
    refine iv_iload (pc := 51) C 2 dX3_takeTurn_51 rfl ?_
    refine iv_callSN (pc := 53) C [.int v4, .int v2] (k_X5_holds l G hJ v4 v2 σ rfl) gX3_takeTurn_X5_holds_n77 rfl ne_RX3_77 si_X3_takeTurn_X5_holds qd_X5_holds ⟨rfl, rfl, Nat.le_of_ble_eq_true rfl, Nat.le_of_ble_eq_true rfl⟩ rfl rfl (Nat.le_of_ble_eq_true rfl) dX3_takeTurn_53 ?_
    refine iv_if_eq (pc := 56) C 69 dX3_takeTurn_56 (by decide) (fun h8 => ?_) (fun h8 => ?_)
    · replace h := iw_ift h8 h
      exact iv_sub [4, 3] rfl (vJ69 h)
    · replace h := iw_iff h8 h
      refine iv_iload (pc := 59) C 0 dX3_takeTurn_59 rfl ?_
      refine iv_iload (pc := 61) C 1 dX3_takeTurn_61 rfl ?_
      refine iv_callSN (pc := 63) C [.int v4, .int v3] (k_X5_holds l G hJ v4 v3 σ rfl) gX3_takeTurn_X5_holds_n77 rfl ne_RX3_77 si_X3_takeTurn_X5_holds qd_X5_holds ⟨rfl, rfl, Nat.le_of_ble_eq_true rfl, Nat.le_of_ble_eq_true rfl⟩ rfl rfl (Nat.le_of_ble_eq_true rfl) dX3_takeTurn_63 ?_
      refine iv_if_ne (pc := 66) C 79 dX3_takeTurn_66 (by decide) (fun h9 => ?_) (fun h9 => ?_)
      · replace h := iw_iff h9 h
        refine iv_aload_n (pc := 79) C 4 dX3_takeTurn_79 rfl rfl ?_
        obtain ⟨v10, ev10, h⟩ := iw_be h
        refine iv_callV (pc := 80) (b := 1) (ci := 3) C [] (k_X3_isExploringRound l G hJ n σ ev10) gX3_takeTurn_X3_isExploringRound rfl qd_X3_isExploringRound ⟨rfl, rfl, Nat.le_of_ble_eq_true rfl, Nat.le_of_ble_eq_true rfl⟩ (iw_ix hJ (by decide)) iw_Eo1 rfl rfl rfl (Nat.le_of_ble_eq_true rfl) dX3_takeTurn_80 ?_
        have vJ114 : ∀ (m11 : iw_M), f_X3_takeTurn_J114 n p1 p2 v1 m11 = some (r, σ') → iw_V p l e rm_X3_takeTurn s m ([.ref (G.2.1 1), .int p1, .int p2] : List Value).toArray below meth c0 0 0 (MQ below (iw_Q (some (.int r)) G σ') ([.ref (G.2.1 1), .int p1, .int p2] : List Value).toArray s 0 0 (iw_A G)) 7 G (iw_A G) m11 114 [(0, .ref (G.2.1 1)), (1, .int p1), (2, .int p2), (3, .int v1)] [] := by
          intro m11 h
          unfold f_X3_takeTurn_J114 at h
          refine iv_aload_n (pc := 114) C 0 dX3_takeTurn_114 rfl rfl ?_
          refine iv_getf (pc := 115) (T := TX3) (N := 4) (ci := 3) C 1 0 in_X3_takeTurn_3 (iw_ix hJ (by decide)) iw_Eo1 rfl (by decide) lk_X3_takeTurn_12 rfl rfl dX3_takeTurn_115 ?_
          refine iv_iload_n (pc := 118) C 3 dX3_takeTurn_118 rfl rfl ?_
          refine iv_callV (pc := 119) (b := 28) (ci := 1) C [.int v1] (k_X1_lengthOf l G hJ 28 iw_net_28 v1 m11 rfl) gX3_takeTurn_X1_lengthOf rfl qd_X1_lengthOf ⟨rfl, rfl, Nat.le_of_ble_eq_true rfl, Nat.le_of_ble_eq_true rfl⟩ (iw_ix hJ (iw_nl iw_net_28)) (iw_E1 (iw_nk iw_net_28)) rfl rfl rfl (Nat.le_of_ble_eq_true rfl) dX3_takeTurn_119 ?_
          refine iv_if_ne (pc := 122) C 127 dX3_takeTurn_122 (by decide) (fun h12 => ?_) (fun h12 => ?_)
          · replace h := iw_iff h12 h
            refine iv_aload_n (pc := 127) C 0 dX3_takeTurn_127 rfl rfl ?_
            refine iv_iload_n (pc := 128) C 3 dX3_takeTurn_128 rfl rfl ?_
            refine iv_iload_n (pc := 129) C 2 dX3_takeTurn_129 rfl rfl ?_
            obtain ⟨m13, em13, h⟩ := iw_be h
            refine iv_callV (pc := 130) (b := 1) (ci := 3) C [.int v1, .int p2] (k_X3_send l G hJ n v1 p2 m11 em13) gX3_takeTurn_X3_send rfl qd_X3_send ⟨rfl, rfl, Nat.le_of_ble_eq_true rfl, Nat.le_of_ble_eq_true rfl⟩ (iw_ix hJ (by decide)) iw_Eo1 rfl rfl rfl (Nat.le_of_ble_eq_true rfl) dX3_takeTurn_130 ?_
            refine iv_aload_n (pc := 133) C 0 dX3_takeTurn_133 rfl rfl ?_
            refine iv_getf (pc := 134) (T := TX3) (N := 4) (ci := 3) C 1 0 in_X3_takeTurn_3 (iw_ix hJ (by decide)) iw_Eo1 rfl (by decide) lk_X3_takeTurn_12 rfl rfl dX3_takeTurn_134 ?_
            refine iv_iload_n (pc := 137) C 1 dX3_takeTurn_137 rfl rfl ?_
            refine iv_aload_n (pc := 138) C 0 dX3_takeTurn_138 rfl rfl ?_
            refine iv_getf (pc := 139) (T := TX3) (N := 4) (ci := 3) C 1 1 in_X3_takeTurn_3 (iw_ix hJ (by decide)) iw_Eo1 rfl (by decide) lk_X3_takeTurn_21 rfl rfl dX3_takeTurn_139 ?_
            refine iv_aload_n (pc := 142) C 0 dX3_takeTurn_142 rfl rfl ?_
            refine iv_getf (pc := 143) (T := TX3) (N := 4) (ci := 3) C 1 0 in_X3_takeTurn_3 (iw_ix hJ (by decide)) iw_Eo1 rfl (by decide) lk_X3_takeTurn_12 rfl rfl dX3_takeTurn_143 ?_
            refine iv_iload_n (pc := 146) C 3 dX3_takeTurn_146 rfl rfl ?_
            obtain ⟨v14, ev14, h⟩ := iw_be h
            refine iv_callV (pc := 147) (b := 14) (ci := 2) C [.ref (G.2.1 28), .int v1] (k_X2_delayOf l G hJ n 14 iw_pth_14 28 iw_net_28 v1 m13 ev14) gX3_takeTurn_X2_delayOf rfl qd_X2_delayOf ⟨rfl, rfl, Nat.le_of_ble_eq_true rfl, Nat.le_of_ble_eq_true rfl⟩ (iw_ix hJ (iw_pl iw_pth_14)) (iw_E2 (iw_pk iw_pth_14)) rfl rfl rfl (Nat.le_of_ble_eq_true rfl) dX3_takeTurn_147 ?_
            refine iv_callV (pc := 150) (b := 28) (ci := 1) C [.int p1, .int v14] (k_X1_deliver l G hJ 28 iw_net_28 p1 v14 m13 rfl) gX3_takeTurn_X1_deliver rfl qd_X1_deliver ⟨rfl, rfl, Nat.le_of_ble_eq_true rfl, Nat.le_of_ble_eq_true rfl⟩ (iw_ix hJ (iw_nl iw_net_28)) (iw_E1 (iw_nk iw_net_28)) rfl rfl rfl (Nat.le_of_ble_eq_true rfl) dX3_takeTurn_150 ?_
            refine iv_topm (fun m15 em15 => ?_)
            replace h := iw_lete em15 h
            refine iv_iconst (pc := 153) C (1 : Int32) dX3_takeTurn_153 (by decide) ?_
            cases h
            exact iv_zret C hr hlk rfl rfl dX3_takeTurn_154
          · replace h := iw_ift h12 h
            refine iv_iconst (pc := 125) C (0 : Int32) dX3_takeTurn_125 (by decide) ?_
            cases h
            exact iv_zret C hr hlk rfl rfl dX3_takeTurn_126
        have vJ103 : f_X3_takeTurn_J103 n p1 p2 σ v1 v2 v3 v4  = some (r, σ') → iw_V p l e rm_X3_takeTurn s m ([.ref (G.2.1 1), .int p1, .int p2] : List Value).toArray below meth c0 0 0 (MQ below (iw_Q (some (.int r)) G σ') ([.ref (G.2.1 1), .int p1, .int p2] : List Value).toArray s 0 0 (iw_A G)) 7 G (iw_A G) σ 103 [(0, .ref (G.2.1 1)), (1, .int p1), (2, .int p2), (3, .int v1), (4, .int v2), (5, .int v3), (6, .int v4)] [] := by
          intro h
          unfold f_X3_takeTurn_J103 at h
          refine iv_aload_n (pc := 103) C 0 dX3_takeTurn_103 rfl rfl ?_
          refine iv_iload_n (pc := 104) C 3 dX3_takeTurn_104 rfl rfl ?_
          refine iv_iload (pc := 105) C 4 dX3_takeTurn_105 rfl ?_
          refine iv_iload (pc := 107) C 5 dX3_takeTurn_107 rfl ?_
          refine iv_iload (pc := 109) C 6 dX3_takeTurn_109 rfl ?_
          obtain ⟨m16, em16, h⟩ := iw_be h
          refine iv_callV (pc := 111) (b := 1) (ci := 3) C [.int v1, .int v2, .int v3, .int v4] (k_X3_exploreWay l G hJ n v1 v2 v3 v4 σ em16) gX3_takeTurn_X3_exploreWay rfl qd_X3_exploreWay ⟨rfl, rfl, Nat.le_of_ble_eq_true rfl, Nat.le_of_ble_eq_true rfl⟩ (iw_ix hJ (by decide)) iw_Eo1 rfl rfl rfl (Nat.le_of_ble_eq_true rfl) dX3_takeTurn_111 ?_
          exact iv_sub [0, 1, 2, 3] rfl (vJ114 m16 h)
        refine iv_if_ne (pc := 83) C 103 dX3_takeTurn_83 (by decide) (fun h17 => ?_) (fun h17 => ?_)
        · replace h := iw_iff h17 h
          exact iv_sub [4, 5, 6, 3, 2, 1, 0] rfl (vJ103 h)
        · replace h := iw_ift h17 h
          refine iv_aload_n (pc := 86) C 4 dX3_takeTurn_86 rfl rfl ?_
          refine iv_getf (pc := 87) (T := TX3) (N := 4) (ci := 3) C 1 1 in_X3_takeTurn_3 (iw_ix hJ (by decide)) iw_Eo1 rfl (by decide) lk_X3_takeTurn_21 rfl rfl dX3_takeTurn_87 ?_
          refine iv_aload_n (pc := 90) C 4 dX3_takeTurn_90 rfl rfl ?_
          refine iv_getf (pc := 91) (T := TX3) (N := 4) (ci := 3) C 1 0 in_X3_takeTurn_3 (iw_ix hJ (by decide)) iw_Eo1 rfl (by decide) lk_X3_takeTurn_12 rfl rfl dX3_takeTurn_91 ?_
          refine iv_iload_n (pc := 94) C 3 dX3_takeTurn_94 rfl rfl ?_
          refine iv_iload (pc := 95) C 0 dX3_takeTurn_95 rfl ?_
          obtain ⟨v18, ev18, h⟩ := iw_be h
          refine iv_callV (pc := 97) (b := 14) (ci := 2) C [.ref (G.2.1 28), .int v1, .int v4] (k_X2_carry l G hJ n 14 iw_pth_14 28 iw_net_28 v1 v4 σ ev18) gX3_takeTurn_X2_carry rfl qd_X2_carry ⟨rfl, rfl, Nat.le_of_ble_eq_true rfl, Nat.le_of_ble_eq_true rfl⟩ (iw_ix hJ (iw_pl iw_pth_14)) (iw_E2 (iw_pk iw_pth_14)) rfl rfl rfl (Nat.le_of_ble_eq_true rfl) dX3_takeTurn_97 ?_
          refine iv_if_ne (pc := 100) C 114 dX3_takeTurn_100 (by decide) (fun h19 => ?_) (fun h19 => ?_)
          · replace h := iw_iff h19 h
            exact iv_sub [4, 5, 6, 3] rfl (vJ114 σ h)
          · replace h := iw_ift h19 h
            exact iv_sub [4, 5, 6, 3, 2, 1, 0] rfl (vJ103 h)
      · replace h := iw_ift h9 h
        exact iv_sub [4, 3] rfl (vJ69 h)
theorem qd_X3_takeTurn : yX3_takeTurn.cls = RX3 ∧ yX3_takeTurn.cls ≠ "java/lang/invoke/MethodHandle" ∧ yX3_takeTurn.cls ≠ "java/lang/invoke/VarHandle" ∧ (parseMethodDescriptor yX3_takeTurn.desc).map (fun d => d.parameters.length) = some 2 := by decide +kernel
def f_X3_run_X97_4 (v1 : Int32) (m2 : iw_M) : Option (Int32 × iw_M) :=
some (v1, m2)
def f_X3_run_X82_27 (r4 : Int32 → Int32 → iw_M → Option (Int32 × iw_M)) (v4 : Int32) (v9 : Int32) (m10 : iw_M) : Option (Int32 × iw_M) :=
iw_let (f_X1_raise 28 (5 : Int32) (1 : Int32) m10) fun m11 =>
iw_let (v4 + (1 : Int32)) fun v12 =>
r4 v9 v12 m11
def f_X3_run_X76_43 (r27 : Int32 → Int32 → iw_M → Option (Int32 × iw_M)) (v14 : Int32) (v18 : Int32) (m19 : iw_M) : Option (Int32 × iw_M) :=
iw_let (v14 + (1 : Int32)) fun v20 =>
r27 v18 v20 m19
def f_X3_run_J70 (r43 : Int32 → Int32 → iw_M → Option (Int32 × iw_M)) (v22 : Int32) (m27 : iw_M) (v28 : Int32) : Option (Int32 × iw_M) :=
iw_let (v22 + (1 : Int32)) fun v29 =>
r43 v28 v29 m27
def f_X3_run_B43 (n : Nat) (v14 : Int32) (k43 : Int32 → iw_M → Option (Int32 × iw_M)) (r43 : Int32 → Int32 → iw_M → Option (Int32 × iw_M)) (v21 : Int32) (v22 : Int32) (m23 : iw_M) : Option (Int32 × iw_M) :=
(f_X1_number n 28 (2 : Int32) m23).bind fun v24 =>
if v24 ≤ v22 then
(k43 v21 m23)
else
(iw_b2 (f_X3_takeTurn n v14 v22 m23) fun v26 m27 =>
if v26 = (0 : Int32) then
(f_X3_run_J70 r43 v22 m27 v21)
else
(iw_let (v21 + (1 : Int32)) fun v31 =>
f_X3_run_J70 r43 v22 m27 v31))
def f_X3_run_L43 (n : Nat) (v14 : Int32) (k43 : Int32 → iw_M → Option (Int32 × iw_M)) (nn : Nat) : Int32 → Int32 → iw_M → Option (Int32 × iw_M) :=
iw_it (fun r43 => f_X3_run_B43 n v14 k43 r43) (fun _ _ _ => none) nn
def f_X3_run_B27 (n : Nat) (k27 : Int32 → iw_M → Option (Int32 × iw_M)) (r27 : Int32 → Int32 → iw_M → Option (Int32 × iw_M)) (v13 : Int32) (v14 : Int32) (m15 : iw_M) : Option (Int32 × iw_M) :=
(f_X1_number n 28 (3 : Int32) m15).bind fun v16 =>
if v16 ≤ v14 then
(k27 v13 m15)
else
(f_X3_run_L43 n v14 (f_X3_run_X76_43 r27 v14) n v13 (0 : Int32) m15)
def f_X3_run_L27 (n : Nat) (k27 : Int32 → iw_M → Option (Int32 × iw_M)) (nn : Nat) : Int32 → Int32 → iw_M → Option (Int32 × iw_M) :=
iw_it (fun r27 => f_X3_run_B27 n k27 r27) (fun _ _ _ => none) nn
def f_X3_run_B4 (n : Nat) (p1 : Int32) (k4 : Int32 → iw_M → Option (Int32 × iw_M)) (r4 : Int32 → Int32 → iw_M → Option (Int32 × iw_M)) (v3 : Int32) (v4 : Int32) (m5 : iw_M) : Option (Int32 × iw_M) :=
if p1 ≤ v4 then
(k4 v3 m5)
else
((f_X1_endInterests n 28 m5).bind fun m7 =>
(f_J7_fill_53178 n 3 (0 : Int32) m7).bind fun m8 =>
f_X3_run_L27 n (f_X3_run_X82_27 r4 v4) n v3 (0 : Int32) m8)
def f_X3_run_L4 (n : Nat) (p1 : Int32) (k4 : Int32 → iw_M → Option (Int32 × iw_M)) (nn : Nat) : Int32 → Int32 → iw_M → Option (Int32 × iw_M) :=
iw_it (fun r4 => f_X3_run_B4 n p1 k4 r4) (fun _ _ _ => none) nn
def f_X3_run (n : Nat) (p1 : Int32) (σ : iw_M) : Option (Int32 × iw_M) :=
f_X3_run_L4 n p1 (f_X3_run_X97_4) n (0 : Int32) (0 : Int32) σ
abbrev rm_X3_run : Room := { frames := 5, cells := 0, slots := 0, locals := 127 }
theorem lk_X3_run_12 : Cond.fieldLink RX3 12 RX3 (TX3 0).2.1 (TX3 0).2.2.1 ∈ wsX3_run := by decide +kernel
theorem lk_X3_run_29 : Cond.fieldLink RX3 29 RX3 (TX3 3).2.1 (TX3 3).2.2.1 ∈ wsX3_run := by decide +kernel
theorem in_X3_run_3 : ∀ w ∈ u_ws RX3 TX3 4, w ∈ wsX3_run := by decide +kernel
set_option maxHeartbeats 4000000 in
set_option maxRecDepth 100000 in
theorem k_X3_run (l : Launch) (G : iw_G) (hJ : iw_JX G) (n : Nat) (p1 : Int32) (σ : iw_M) {r : Int32} {σ' : iw_M} (h : f_X3_run n p1 σ = some (r, σ')) : iw_Ct l yX3_run wsX3_run rm_X3_run G ([.ref (G.2.1 1), .int p1] : List Value) σ (some (.int r)) σ' := by
  refine iv_start (nL := 6) (own := RX3) (ret := (some .int)) (cc := cX3_run) (by decide +kernel) rfl rfl hJ.1 (Nat.le_of_ble_eq_true rfl) ?_
  intro p e s m below meth c0 C hr hlk
  refine iv_sub (lv' := [(0, .ref (G.2.1 1)), (1, .int p1)]) [0, 1] rfl ?_
  unfold f_X3_run at h
  refine iv_iconst (pc := 0) C (0 : Int32) dX3_run_0 (by decide) ?_
  refine iv_istore_n (pc := 1) C [(2, .int (0 : Int32)), (0, .ref (G.2.1 1)), (1, .int p1)] dX3_run_1 rfl (by decide) rfl ?_
  refine iv_iconst (pc := 2) C (0 : Int32) dX3_run_2 (by decide) ?_
  refine iv_istore_n (pc := 3) C [(3, .int (0 : Int32)), (2, .int (0 : Int32)), (0, .ref (G.2.1 1)), (1, .int p1)] dX3_run_3 rfl (by decide) rfl ?_
  have vX4 : ∀ (v1 : Int32) (m2 : iw_M), f_X3_run_X97_4 v1 m2 = some (r, σ') → iw_V p l e rm_X3_run s m ([.ref (G.2.1 1), .int p1] : List Value).toArray below meth c0 0 0 (MQ below (iw_Q (some (.int r)) G σ') ([.ref (G.2.1 1), .int p1] : List Value).toArray s 0 0 (iw_A G)) 6 G (iw_A G) m2 97 [(2, .int v1)] [] := by
    intro v1 m2 h
    unfold f_X3_run_X97_4 at h
    refine iv_iload_n (pc := 97) C 0 dX3_run_97 rfl rfl ?_
    cases h
    exact iv_iret C hr hlk rfl rfl dX3_run_98
  have vB4 : ∀ (k4 : Int32 → iw_M → Option (Int32 × iw_M)) (r4 : Int32 → Int32 → iw_M → Option (Int32 × iw_M)), (∀ (v1 : Int32) (m2 : iw_M), k4 v1 m2 = some (r, σ') → iw_V p l e rm_X3_run s m ([.ref (G.2.1 1), .int p1] : List Value).toArray below meth c0 0 0 (MQ below (iw_Q (some (.int r)) G σ') ([.ref (G.2.1 1), .int p1] : List Value).toArray s 0 0 (iw_A G)) 6 G (iw_A G) m2 97 [(2, .int v1)] []) → (∀ (v3 : Int32) (v4 : Int32) (m5 : iw_M), r4 v3 v4 m5 = some (r, σ') → iw_V p l e rm_X3_run s m ([.ref (G.2.1 1), .int p1] : List Value).toArray below meth c0 0 0 (MQ below (iw_Q (some (.int r)) G σ') ([.ref (G.2.1 1), .int p1] : List Value).toArray s 0 0 (iw_A G)) 6 G (iw_A G) m5 4 [(0, .ref (G.2.1 1)), (1, .int p1), (2, .int v3), (3, .int v4)] []) → ∀ (v3 : Int32) (v4 : Int32) (m5 : iw_M), f_X3_run_B4 n p1 k4 r4 v3 v4 m5 = some (r, σ') → iw_V p l e rm_X3_run s m ([.ref (G.2.1 1), .int p1] : List Value).toArray below meth c0 0 0 (MQ below (iw_Q (some (.int r)) G σ') ([.ref (G.2.1 1), .int p1] : List Value).toArray s 0 0 (iw_A G)) 6 G (iw_A G) m5 4 [(0, .ref (G.2.1 1)), (1, .int p1), (2, .int v3), (3, .int v4)] [] := by
    intro k4 r4 hk4 hr4 v3 v4 m5 h
    unfold f_X3_run_B4 at h
    refine iv_iload_n (pc := 4) C 3 dX3_run_4 rfl rfl ?_
    refine iv_iload_n (pc := 5) C 1 dX3_run_5 rfl rfl ?_
    refine iv_icmp_ge (pc := 6) C 97 dX3_run_6 (by decide) (fun h6 => ?_) (fun h6 => ?_)
    · replace h := iw_ift h6 h
      exact iv_sub [2] rfl (hk4 v3 m5 h)
    · replace h := iw_iff h6 h
      refine iv_aload_n (pc := 9) C 0 dX3_run_9 rfl rfl ?_
      refine iv_getf (pc := 10) (T := TX3) (N := 4) (ci := 3) C 1 0 in_X3_run_3 (iw_ix hJ (by decide)) iw_Eo1 rfl (by decide) lk_X3_run_12 rfl rfl dX3_run_10 ?_
      obtain ⟨m7, em7, h⟩ := iw_be h
      refine iv_callV (pc := 13) (b := 28) (ci := 1) C [] (k_X1_endInterests l G hJ n 28 iw_net_28 m5 em7) gX3_run_X1_endInterests rfl qd_X1_endInterests ⟨rfl, rfl, Nat.le_of_ble_eq_true rfl, Nat.le_of_ble_eq_true rfl⟩ (iw_ix hJ (iw_nl iw_net_28)) (iw_E1 (iw_nk iw_net_28)) rfl rfl rfl (Nat.le_of_ble_eq_true rfl) dX3_run_13 ?_
      refine iv_aload_n (pc := 16) C 0 dX3_run_16 rfl rfl ?_
      refine iv_getf (pc := 17) (T := TX3) (N := 4) (ci := 3) C 1 3 in_X3_run_3 (iw_ix hJ (by decide)) iw_Eo1 rfl (by decide) lk_X3_run_29 rfl rfl dX3_run_17 ?_
      refine iv_iconst (pc := 20) C (0 : Int32) dX3_run_20 (by decide) ?_
      obtain ⟨m8, em8, h⟩ := iw_be h
      refine iv_callS (pc := 21) C [.ref (G.2.1 3), .int (0 : Int32)] (k_J7_fill_53178 l G hJ n 3 (iw_lx hJ rfl (by decide)) (0 : Int32) m7 em8) gX3_run_J7_fill_53178 rfl qd_J7_fill_53178 ⟨rfl, rfl, Nat.le_of_ble_eq_true rfl, Nat.le_of_ble_eq_true rfl⟩ rfl rfl (Nat.le_of_ble_eq_true rfl) dX3_run_21 ?_
      refine iv_iconst (pc := 24) C (0 : Int32) dX3_run_24 (by decide) ?_
      refine iv_istore (pc := 25) C [(4, .int (0 : Int32)), (0, .ref (G.2.1 1)), (1, .int p1), (2, .int v3), (3, .int v4)] dX3_run_25 (by decide) rfl ?_
      have vX27 : ∀ (v9 : Int32) (m10 : iw_M), f_X3_run_X82_27 r4 v4 v9 m10 = some (r, σ') → iw_V p l e rm_X3_run s m ([.ref (G.2.1 1), .int p1] : List Value).toArray below meth c0 0 0 (MQ below (iw_Q (some (.int r)) G σ') ([.ref (G.2.1 1), .int p1] : List Value).toArray s 0 0 (iw_A G)) 6 G (iw_A G) m10 82 [(0, .ref (G.2.1 1)), (1, .int p1), (2, .int v9), (3, .int v4)] [] := by
        intro v9 m10 h
        unfold f_X3_run_X82_27 at h
        refine iv_aload_n (pc := 82) C 0 dX3_run_82 rfl rfl ?_
        refine iv_getf (pc := 83) (T := TX3) (N := 4) (ci := 3) C 1 0 in_X3_run_3 (iw_ix hJ (by decide)) iw_Eo1 rfl (by decide) lk_X3_run_12 rfl rfl dX3_run_83 ?_
        refine iv_iconst (pc := 86) C (5 : Int32) dX3_run_86 (by decide) ?_
        refine iv_iconst (pc := 87) C (1 : Int32) dX3_run_87 (by decide) ?_
        refine iv_callV (pc := 88) (b := 28) (ci := 1) C [.int (5 : Int32), .int (1 : Int32)] (k_X1_raise l G hJ 28 iw_net_28 (5 : Int32) (1 : Int32) m10 rfl) gX3_run_X1_raise rfl qd_X1_raise ⟨rfl, rfl, Nat.le_of_ble_eq_true rfl, Nat.le_of_ble_eq_true rfl⟩ (iw_ix hJ (iw_nl iw_net_28)) (iw_E1 (iw_nk iw_net_28)) rfl rfl rfl (Nat.le_of_ble_eq_true rfl) dX3_run_88 ?_
        refine iv_topm (fun m11 em11 => ?_)
        replace h := iw_lete em11 h
        obtain ⟨v12, ev12⟩ : ∃ y : Int32, y = v4 + (1 : Int32) := ⟨_, rfl⟩
        replace h := iw_lete ev12 h
        refine iv_iinc (pc := 91) C 3 v12 [(3, .int v12), (0, .ref (G.2.1 1)), (1, .int p1), (2, .int v9)] dX3_run_91 rfl (by rw [ev12]; rfl) (by decide) rfl ?_
        refine iv_goto (pc := 94) C 4 dX3_run_94 (by decide) ?_
        exact iv_sub [1, 2, 3, 0] rfl (hr4 v9 v12 m11 h)
      have vB27 : ∀ (k27 : Int32 → iw_M → Option (Int32 × iw_M)) (r27 : Int32 → Int32 → iw_M → Option (Int32 × iw_M)), (∀ (v9 : Int32) (m10 : iw_M), k27 v9 m10 = some (r, σ') → iw_V p l e rm_X3_run s m ([.ref (G.2.1 1), .int p1] : List Value).toArray below meth c0 0 0 (MQ below (iw_Q (some (.int r)) G σ') ([.ref (G.2.1 1), .int p1] : List Value).toArray s 0 0 (iw_A G)) 6 G (iw_A G) m10 82 [(0, .ref (G.2.1 1)), (1, .int p1), (2, .int v9), (3, .int v4)] []) → (∀ (v13 : Int32) (v14 : Int32) (m15 : iw_M), r27 v13 v14 m15 = some (r, σ') → iw_V p l e rm_X3_run s m ([.ref (G.2.1 1), .int p1] : List Value).toArray below meth c0 0 0 (MQ below (iw_Q (some (.int r)) G σ') ([.ref (G.2.1 1), .int p1] : List Value).toArray s 0 0 (iw_A G)) 6 G (iw_A G) m15 27 [(0, .ref (G.2.1 1)), (1, .int p1), (2, .int v13), (3, .int v4), (4, .int v14)] []) → ∀ (v13 : Int32) (v14 : Int32) (m15 : iw_M), f_X3_run_B27 n k27 r27 v13 v14 m15 = some (r, σ') → iw_V p l e rm_X3_run s m ([.ref (G.2.1 1), .int p1] : List Value).toArray below meth c0 0 0 (MQ below (iw_Q (some (.int r)) G σ') ([.ref (G.2.1 1), .int p1] : List Value).toArray s 0 0 (iw_A G)) 6 G (iw_A G) m15 27 [(0, .ref (G.2.1 1)), (1, .int p1), (2, .int v13), (3, .int v4), (4, .int v14)] [] := by
        intro k27 r27 hk27 hr27 v13 v14 m15 h
        unfold f_X3_run_B27 at h
        refine iv_iload (pc := 27) C 4 dX3_run_27 rfl ?_
        refine iv_aload_n (pc := 29) C 0 dX3_run_29 rfl rfl ?_
        refine iv_getf (pc := 30) (T := TX3) (N := 4) (ci := 3) C 1 0 in_X3_run_3 (iw_ix hJ (by decide)) iw_Eo1 rfl (by decide) lk_X3_run_12 rfl rfl dX3_run_30 ?_
        refine iv_iconst (pc := 33) C (3 : Int32) dX3_run_33 (by decide) ?_
        obtain ⟨v16, ev16, h⟩ := iw_be h
        refine iv_callV (pc := 34) (b := 28) (ci := 1) C [.int (3 : Int32)] (k_X1_number l G hJ n 28 iw_net_28 (3 : Int32) m15 ev16) gX3_run_X1_number rfl qd_X1_number ⟨rfl, rfl, Nat.le_of_ble_eq_true rfl, Nat.le_of_ble_eq_true rfl⟩ (iw_ix hJ (iw_nl iw_net_28)) (iw_E1 (iw_nk iw_net_28)) rfl rfl rfl (Nat.le_of_ble_eq_true rfl) dX3_run_34 ?_
        refine iv_icmp_ge (pc := 37) C 82 dX3_run_37 (by decide) (fun h17 => ?_) (fun h17 => ?_)
        · replace h := iw_ift h17 h
          exact iv_sub [0, 1, 2, 3] rfl (hk27 v13 m15 h)
        · replace h := iw_iff h17 h
          refine iv_iconst (pc := 40) C (0 : Int32) dX3_run_40 (by decide) ?_
          refine iv_istore (pc := 41) C [(5, .int (0 : Int32)), (0, .ref (G.2.1 1)), (1, .int p1), (2, .int v13), (3, .int v4), (4, .int v14)] dX3_run_41 (by decide) rfl ?_
          have vX43 : ∀ (v18 : Int32) (m19 : iw_M), f_X3_run_X76_43 r27 v14 v18 m19 = some (r, σ') → iw_V p l e rm_X3_run s m ([.ref (G.2.1 1), .int p1] : List Value).toArray below meth c0 0 0 (MQ below (iw_Q (some (.int r)) G σ') ([.ref (G.2.1 1), .int p1] : List Value).toArray s 0 0 (iw_A G)) 6 G (iw_A G) m19 76 [(0, .ref (G.2.1 1)), (1, .int p1), (2, .int v18), (3, .int v4), (4, .int v14)] [] := by
            intro v18 m19 h
            unfold f_X3_run_X76_43 at h
            obtain ⟨v20, ev20⟩ : ∃ y : Int32, y = v14 + (1 : Int32) := ⟨_, rfl⟩
            replace h := iw_lete ev20 h
            refine iv_iinc (pc := 76) C 4 v20 [(4, .int v20), (0, .ref (G.2.1 1)), (1, .int p1), (2, .int v18), (3, .int v4)] dX3_run_76 rfl (by rw [ev20]; rfl) (by decide) rfl ?_
            refine iv_goto (pc := 79) C 27 dX3_run_79 (by decide) ?_
            exact iv_sub [1, 2, 3, 4, 0] rfl (hr27 v18 v20 m19 h)
          have vB43 : ∀ (k43 : Int32 → iw_M → Option (Int32 × iw_M)) (r43 : Int32 → Int32 → iw_M → Option (Int32 × iw_M)), (∀ (v18 : Int32) (m19 : iw_M), k43 v18 m19 = some (r, σ') → iw_V p l e rm_X3_run s m ([.ref (G.2.1 1), .int p1] : List Value).toArray below meth c0 0 0 (MQ below (iw_Q (some (.int r)) G σ') ([.ref (G.2.1 1), .int p1] : List Value).toArray s 0 0 (iw_A G)) 6 G (iw_A G) m19 76 [(0, .ref (G.2.1 1)), (1, .int p1), (2, .int v18), (3, .int v4), (4, .int v14)] []) → (∀ (v21 : Int32) (v22 : Int32) (m23 : iw_M), r43 v21 v22 m23 = some (r, σ') → iw_V p l e rm_X3_run s m ([.ref (G.2.1 1), .int p1] : List Value).toArray below meth c0 0 0 (MQ below (iw_Q (some (.int r)) G σ') ([.ref (G.2.1 1), .int p1] : List Value).toArray s 0 0 (iw_A G)) 6 G (iw_A G) m23 43 [(0, .ref (G.2.1 1)), (1, .int p1), (2, .int v21), (3, .int v4), (4, .int v14), (5, .int v22)] []) → ∀ (v21 : Int32) (v22 : Int32) (m23 : iw_M), f_X3_run_B43 n v14 k43 r43 v21 v22 m23 = some (r, σ') → iw_V p l e rm_X3_run s m ([.ref (G.2.1 1), .int p1] : List Value).toArray below meth c0 0 0 (MQ below (iw_Q (some (.int r)) G σ') ([.ref (G.2.1 1), .int p1] : List Value).toArray s 0 0 (iw_A G)) 6 G (iw_A G) m23 43 [(0, .ref (G.2.1 1)), (1, .int p1), (2, .int v21), (3, .int v4), (4, .int v14), (5, .int v22)] [] := by
            intro k43 r43 hk43 hr43 v21 v22 m23 h
            unfold f_X3_run_B43 at h
            refine iv_iload (pc := 43) C 5 dX3_run_43 rfl ?_
            refine iv_aload_n (pc := 45) C 0 dX3_run_45 rfl rfl ?_
            refine iv_getf (pc := 46) (T := TX3) (N := 4) (ci := 3) C 1 0 in_X3_run_3 (iw_ix hJ (by decide)) iw_Eo1 rfl (by decide) lk_X3_run_12 rfl rfl dX3_run_46 ?_
            refine iv_iconst (pc := 49) C (2 : Int32) dX3_run_49 (by decide) ?_
            obtain ⟨v24, ev24, h⟩ := iw_be h
            refine iv_callV (pc := 50) (b := 28) (ci := 1) C [.int (2 : Int32)] (k_X1_number l G hJ n 28 iw_net_28 (2 : Int32) m23 ev24) gX3_run_X1_number rfl qd_X1_number ⟨rfl, rfl, Nat.le_of_ble_eq_true rfl, Nat.le_of_ble_eq_true rfl⟩ (iw_ix hJ (iw_nl iw_net_28)) (iw_E1 (iw_nk iw_net_28)) rfl rfl rfl (Nat.le_of_ble_eq_true rfl) dX3_run_50 ?_
            refine iv_icmp_ge (pc := 53) C 76 dX3_run_53 (by decide) (fun h25 => ?_) (fun h25 => ?_)
            · replace h := iw_ift h25 h
              exact iv_sub [0, 1, 2, 3, 4] rfl (hk43 v21 m23 h)
            · replace h := iw_iff h25 h
              refine iv_aload_n (pc := 56) C 0 dX3_run_56 rfl rfl ?_
              refine iv_iload (pc := 57) C 4 dX3_run_57 rfl ?_
              refine iv_iload (pc := 59) C 5 dX3_run_59 rfl ?_
              obtain ⟨v26, m27, ev26, h⟩ := iw_b2e h
              refine iv_callV (pc := 61) (b := 1) (ci := 3) C [.int v14, .int v22] (k_X3_takeTurn l G hJ n v14 v22 m23 ev26) gX3_run_X3_takeTurn rfl qd_X3_takeTurn ⟨rfl, rfl, Nat.le_of_ble_eq_true rfl, Nat.le_of_ble_eq_true rfl⟩ (iw_ix hJ (by decide)) iw_Eo1 rfl rfl rfl (Nat.le_of_ble_eq_true rfl) dX3_run_61 ?_
              have vJ70 : ∀ (v28 : Int32), f_X3_run_J70 r43 v22 m27 v28 = some (r, σ') → iw_V p l e rm_X3_run s m ([.ref (G.2.1 1), .int p1] : List Value).toArray below meth c0 0 0 (MQ below (iw_Q (some (.int r)) G σ') ([.ref (G.2.1 1), .int p1] : List Value).toArray s 0 0 (iw_A G)) 6 G (iw_A G) m27 70 [(0, .ref (G.2.1 1)), (1, .int p1), (2, .int v28), (3, .int v4), (4, .int v14), (5, .int v22)] [] := by
                intro v28 h
                unfold f_X3_run_J70 at h
                obtain ⟨v29, ev29⟩ : ∃ y : Int32, y = v22 + (1 : Int32) := ⟨_, rfl⟩
                replace h := iw_lete ev29 h
                refine iv_iinc (pc := 70) C 5 v29 [(5, .int v29), (0, .ref (G.2.1 1)), (1, .int p1), (2, .int v28), (3, .int v4), (4, .int v14)] dX3_run_70 rfl (by rw [ev29]; rfl) (by decide) rfl ?_
                refine iv_goto (pc := 73) C 43 dX3_run_73 (by decide) ?_
                exact iv_sub [1, 2, 3, 4, 5, 0] rfl (hr43 v28 v29 m27 h)
              refine iv_if_eq (pc := 64) C 70 dX3_run_64 (by decide) (fun h30 => ?_) (fun h30 => ?_)
              · replace h := iw_ift h30 h
                exact iv_sub [0, 1, 2, 3, 4, 5] rfl (vJ70 v21 h)
              · replace h := iw_iff h30 h
                obtain ⟨v31, ev31⟩ : ∃ y : Int32, y = v21 + (1 : Int32) := ⟨_, rfl⟩
                replace h := iw_lete ev31 h
                refine iv_iinc (pc := 67) C 2 v31 [(2, .int v31), (0, .ref (G.2.1 1)), (1, .int p1), (3, .int v4), (4, .int v14), (5, .int v22)] dX3_run_67 rfl (by rw [ev31]; rfl) (by decide) rfl ?_
                exact iv_sub [1, 2, 0, 3, 4, 5] rfl (vJ70 v31 h)
          have vL43 : ∀ (nn : Nat) (v21 : Int32) (v22 : Int32) (m23 : iw_M), f_X3_run_L43 n v14 (f_X3_run_X76_43 r27 v14) nn v21 v22 m23 = some (r, σ') → iw_V p l e rm_X3_run s m ([.ref (G.2.1 1), .int p1] : List Value).toArray below meth c0 0 0 (MQ below (iw_Q (some (.int r)) G σ') ([.ref (G.2.1 1), .int p1] : List Value).toArray s 0 0 (iw_A G)) 6 G (iw_A G) m23 43 [(0, .ref (G.2.1 1)), (1, .int p1), (2, .int v21), (3, .int v4), (4, .int v14), (5, .int v22)] [] := by
            intro nn
            induction nn with
            | zero => intro v21 v22 m23 h; exact absurd h (fun q => by cases q)
            | succ nn ih => intro v21 v22 m23 h; exact vB43 (f_X3_run_X76_43 r27 v14) (f_X3_run_L43 n v14 (f_X3_run_X76_43 r27 v14) nn) vX43 ih v21 v22 m23 h
          exact iv_sub [1, 2, 3, 4, 5, 0] rfl (vL43 n v13 (0 : Int32) m15 h)
      have vL27 : ∀ (nn : Nat) (v13 : Int32) (v14 : Int32) (m15 : iw_M), f_X3_run_L27 n (f_X3_run_X82_27 r4 v4) nn v13 v14 m15 = some (r, σ') → iw_V p l e rm_X3_run s m ([.ref (G.2.1 1), .int p1] : List Value).toArray below meth c0 0 0 (MQ below (iw_Q (some (.int r)) G σ') ([.ref (G.2.1 1), .int p1] : List Value).toArray s 0 0 (iw_A G)) 6 G (iw_A G) m15 27 [(0, .ref (G.2.1 1)), (1, .int p1), (2, .int v13), (3, .int v4), (4, .int v14)] [] := by
        intro nn
        induction nn with
        | zero => intro v13 v14 m15 h; exact absurd h (fun q => by cases q)
        | succ nn ih => intro v13 v14 m15 h; exact vB27 (f_X3_run_X82_27 r4 v4) (f_X3_run_L27 n (f_X3_run_X82_27 r4 v4) nn) vX27 ih v13 v14 m15 h
      exact iv_sub [1, 2, 3, 4, 0] rfl (vL27 n v3 (0 : Int32) m8 h)
  have vL4 : ∀ (nn : Nat) (v3 : Int32) (v4 : Int32) (m5 : iw_M), f_X3_run_L4 n p1 (f_X3_run_X97_4) nn v3 v4 m5 = some (r, σ') → iw_V p l e rm_X3_run s m ([.ref (G.2.1 1), .int p1] : List Value).toArray below meth c0 0 0 (MQ below (iw_Q (some (.int r)) G σ') ([.ref (G.2.1 1), .int p1] : List Value).toArray s 0 0 (iw_A G)) 6 G (iw_A G) m5 4 [(0, .ref (G.2.1 1)), (1, .int p1), (2, .int v3), (3, .int v4)] [] := by
    intro nn
    induction nn with
    | zero => intro v3 v4 m5 h; exact absurd h (fun q => by cases q)
    | succ nn ih => intro v3 v4 m5 h; exact vB4 (f_X3_run_X97_4) (f_X3_run_L4 n p1 (f_X3_run_X97_4) nn) vX4 ih v3 v4 m5 h
  exact iv_sub [2, 3, 1, 0] rfl (vL4 n (0 : Int32) (0 : Int32) σ h)
theorem qd_X3_run : yX3_run.cls = RX3 ∧ yX3_run.cls ≠ "java/lang/invoke/MethodHandle" ∧ yX3_run.cls ≠ "java/lang/invoke/VarHandle" ∧ (parseMethodDescriptor yX3_run.desc).map (fun d => d.parameters.length) = some 1 := by decide +kernel
