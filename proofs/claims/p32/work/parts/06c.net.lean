def f_X1_copyFrom (c : Nat) (c1 : Nat) (σ : iw_M) : iw_M :=
iw_let (f_X5_copy (c1 + 1) (c + 1) σ) fun m1 =>
iw_let (f_X5_copy (c1 + 2) (c + 2) m1) fun m2 =>
iw_let (f_X5_copy (c1 + 3) (c + 3) m2) fun m3 =>
iw_let (f_X5_copy (c1 + 4) (c + 4) m3) fun m4 =>
iw_let (f_X5_copy (c1 + 5) (c + 5) m4) fun m5 =>
iw_let (f_X5_copy (c1 + 6) (c + 6) m5) fun m6 =>
iw_let (f_X5_copy (c1 + 7) (c + 7) m6) fun m7 =>
m7
abbrev rm_X1_copyFrom : Room := { frames := 2, cells := 0, slots := 0, locals := 61 }
theorem lk_X1_copyFrom_9 : Cond.fieldLink RX1 9 RX1 (TX1 0).2.1 (TX1 0).2.2.1 ∈ wsX1_copyFrom := by decide +kernel
theorem si_X1_copyFrom_X5_copy : Cond.static yX5_copy ∈ wsX1_copyFrom ∧ Cond.initialized yX5_copy.cls ∈ wsX1_copyFrom := by decide +kernel
theorem lk_X1_copyFrom_15 : Cond.fieldLink RX1 15 RX1 (TX1 1).2.1 (TX1 1).2.2.1 ∈ wsX1_copyFrom := by decide +kernel
theorem lk_X1_copyFrom_18 : Cond.fieldLink RX1 18 RX1 (TX1 2).2.1 (TX1 2).2.2.1 ∈ wsX1_copyFrom := by decide +kernel
theorem lk_X1_copyFrom_21 : Cond.fieldLink RX1 21 RX1 (TX1 3).2.1 (TX1 3).2.2.1 ∈ wsX1_copyFrom := by decide +kernel
theorem lk_X1_copyFrom_24 : Cond.fieldLink RX1 24 RX1 (TX1 4).2.1 (TX1 4).2.2.1 ∈ wsX1_copyFrom := by decide +kernel
theorem lk_X1_copyFrom_27 : Cond.fieldLink RX1 27 RX1 (TX1 5).2.1 (TX1 5).2.2.1 ∈ wsX1_copyFrom := by decide +kernel
theorem lk_X1_copyFrom_30 : Cond.fieldLink RX1 30 RX1 (TX1 6).2.1 (TX1 6).2.2.1 ∈ wsX1_copyFrom := by decide +kernel
theorem in_X1_copyFrom_1 : ∀ w ∈ u_ws RX1 TX1 7, w ∈ wsX1_copyFrom := by decide +kernel
set_option maxHeartbeats 4000000 in
set_option maxRecDepth 100000 in
theorem k_X1_copyFrom (l : Launch) (G : iw_G) (hJ : iw_JX G) (c : Nat) (hc : iw_net c) (c1 : Nat) (hc1 : iw_net c1) (σ : iw_M) {σ' : iw_M} (h : f_X1_copyFrom c c1 σ = σ') : iw_Ct l yX1_copyFrom wsX1_copyFrom rm_X1_copyFrom G ([.ref (G.2.1 c), .ref (G.2.1 c1)] : List Value) σ none σ' := by
  refine iv_start (nL := 2) (own := RX1) (ret := none) (cc := cX1_copyFrom) (by decide +kernel) rfl rfl hJ.1 (Nat.le_of_ble_eq_true rfl) ?_
  intro p e s m below meth c0 C hr hlk
  refine iv_sub (lv' := [(0, .ref (G.2.1 c)), (1, .ref (G.2.1 c1))]) [0, 1] rfl ?_
  unfold f_X1_copyFrom at h
  refine iv_aload_n (pc := 0) C 1 dX1_copyFrom_0 rfl rfl ?_
  refine iv_getf (pc := 1) (T := TX1) (N := 7) (ci := 1) C c1 0 in_X1_copyFrom_1 (iw_ix hJ (iw_nl hc1)) (iw_E1 (iw_nk hc1)) rfl (by decide) lk_X1_copyFrom_9 rfl rfl dX1_copyFrom_1 ?_
  refine iv_aload_n (pc := 4) C 0 dX1_copyFrom_4 rfl rfl ?_
  refine iv_getf (pc := 5) (T := TX1) (N := 7) (ci := 1) C c 0 in_X1_copyFrom_1 (iw_ix hJ (iw_nl hc)) (iw_E1 (iw_nk hc)) rfl (by decide) lk_X1_copyFrom_9 rfl rfl dX1_copyFrom_5 ?_
  refine iv_callSN (pc := 8) C [.ref (G.2.1 (c1 + 1)), .ref (G.2.1 (c + 1))] (k_X5_copy l G hJ (c1 + 1) (iw_na1 hJ hc1) (c + 1) (iw_na1 hJ hc) σ rfl) gX1_copyFrom_X5_copy_n37 rfl ne_RX1_37 si_X1_copyFrom_X5_copy qd_X5_copy ⟨rfl, rfl, Nat.le_of_ble_eq_true rfl, Nat.le_of_ble_eq_true rfl⟩ rfl rfl (Nat.le_of_ble_eq_true rfl) dX1_copyFrom_8 ?_
  refine iv_topm (fun m1 em1 => ?_)
  replace h := iw_lete em1 h
  refine iv_aload_n (pc := 11) C 1 dX1_copyFrom_11 rfl rfl ?_
  refine iv_getf (pc := 12) (T := TX1) (N := 7) (ci := 1) C c1 1 in_X1_copyFrom_1 (iw_ix hJ (iw_nl hc1)) (iw_E1 (iw_nk hc1)) rfl (by decide) lk_X1_copyFrom_15 rfl rfl dX1_copyFrom_12 ?_
  refine iv_aload_n (pc := 15) C 0 dX1_copyFrom_15 rfl rfl ?_
  refine iv_getf (pc := 16) (T := TX1) (N := 7) (ci := 1) C c 1 in_X1_copyFrom_1 (iw_ix hJ (iw_nl hc)) (iw_E1 (iw_nk hc)) rfl (by decide) lk_X1_copyFrom_15 rfl rfl dX1_copyFrom_16 ?_
  refine iv_callSN (pc := 19) C [.ref (G.2.1 (c1 + 2)), .ref (G.2.1 (c + 2))] (k_X5_copy l G hJ (c1 + 2) (iw_na2 hJ hc1) (c + 2) (iw_na2 hJ hc) m1 rfl) gX1_copyFrom_X5_copy_n37 rfl ne_RX1_37 si_X1_copyFrom_X5_copy qd_X5_copy ⟨rfl, rfl, Nat.le_of_ble_eq_true rfl, Nat.le_of_ble_eq_true rfl⟩ rfl rfl (Nat.le_of_ble_eq_true rfl) dX1_copyFrom_19 ?_
  refine iv_topm (fun m2 em2 => ?_)
  replace h := iw_lete em2 h
  refine iv_aload_n (pc := 22) C 1 dX1_copyFrom_22 rfl rfl ?_
  refine iv_getf (pc := 23) (T := TX1) (N := 7) (ci := 1) C c1 2 in_X1_copyFrom_1 (iw_ix hJ (iw_nl hc1)) (iw_E1 (iw_nk hc1)) rfl (by decide) lk_X1_copyFrom_18 rfl rfl dX1_copyFrom_23 ?_
  refine iv_aload_n (pc := 26) C 0 dX1_copyFrom_26 rfl rfl ?_
  refine iv_getf (pc := 27) (T := TX1) (N := 7) (ci := 1) C c 2 in_X1_copyFrom_1 (iw_ix hJ (iw_nl hc)) (iw_E1 (iw_nk hc)) rfl (by decide) lk_X1_copyFrom_18 rfl rfl dX1_copyFrom_27 ?_
  refine iv_callSN (pc := 30) C [.ref (G.2.1 (c1 + 3)), .ref (G.2.1 (c + 3))] (k_X5_copy l G hJ (c1 + 3) (iw_na3 hJ hc1) (c + 3) (iw_na3 hJ hc) m2 rfl) gX1_copyFrom_X5_copy_n37 rfl ne_RX1_37 si_X1_copyFrom_X5_copy qd_X5_copy ⟨rfl, rfl, Nat.le_of_ble_eq_true rfl, Nat.le_of_ble_eq_true rfl⟩ rfl rfl (Nat.le_of_ble_eq_true rfl) dX1_copyFrom_30 ?_
  refine iv_topm (fun m3 em3 => ?_)
  replace h := iw_lete em3 h
  refine iv_aload_n (pc := 33) C 1 dX1_copyFrom_33 rfl rfl ?_
  refine iv_getf (pc := 34) (T := TX1) (N := 7) (ci := 1) C c1 3 in_X1_copyFrom_1 (iw_ix hJ (iw_nl hc1)) (iw_E1 (iw_nk hc1)) rfl (by decide) lk_X1_copyFrom_21 rfl rfl dX1_copyFrom_34 ?_
  refine iv_aload_n (pc := 37) C 0 dX1_copyFrom_37 rfl rfl ?_
  refine iv_getf (pc := 38) (T := TX1) (N := 7) (ci := 1) C c 3 in_X1_copyFrom_1 (iw_ix hJ (iw_nl hc)) (iw_E1 (iw_nk hc)) rfl (by decide) lk_X1_copyFrom_21 rfl rfl dX1_copyFrom_38 ?_
  refine iv_callSN (pc := 41) C [.ref (G.2.1 (c1 + 4)), .ref (G.2.1 (c + 4))] (k_X5_copy l G hJ (c1 + 4) (iw_na4 hJ hc1) (c + 4) (iw_na4 hJ hc) m3 rfl) gX1_copyFrom_X5_copy_n37 rfl ne_RX1_37 si_X1_copyFrom_X5_copy qd_X5_copy ⟨rfl, rfl, Nat.le_of_ble_eq_true rfl, Nat.le_of_ble_eq_true rfl⟩ rfl rfl (Nat.le_of_ble_eq_true rfl) dX1_copyFrom_41 ?_
  refine iv_topm (fun m4 em4 => ?_)
  replace h := iw_lete em4 h
  refine iv_aload_n (pc := 44) C 1 dX1_copyFrom_44 rfl rfl ?_
  refine iv_getf (pc := 45) (T := TX1) (N := 7) (ci := 1) C c1 4 in_X1_copyFrom_1 (iw_ix hJ (iw_nl hc1)) (iw_E1 (iw_nk hc1)) rfl (by decide) lk_X1_copyFrom_24 rfl rfl dX1_copyFrom_45 ?_
  refine iv_aload_n (pc := 48) C 0 dX1_copyFrom_48 rfl rfl ?_
  refine iv_getf (pc := 49) (T := TX1) (N := 7) (ci := 1) C c 4 in_X1_copyFrom_1 (iw_ix hJ (iw_nl hc)) (iw_E1 (iw_nk hc)) rfl (by decide) lk_X1_copyFrom_24 rfl rfl dX1_copyFrom_49 ?_
  refine iv_callSN (pc := 52) C [.ref (G.2.1 (c1 + 5)), .ref (G.2.1 (c + 5))] (k_X5_copy l G hJ (c1 + 5) (iw_na5 hJ hc1) (c + 5) (iw_na5 hJ hc) m4 rfl) gX1_copyFrom_X5_copy_n37 rfl ne_RX1_37 si_X1_copyFrom_X5_copy qd_X5_copy ⟨rfl, rfl, Nat.le_of_ble_eq_true rfl, Nat.le_of_ble_eq_true rfl⟩ rfl rfl (Nat.le_of_ble_eq_true rfl) dX1_copyFrom_52 ?_
  refine iv_topm (fun m5 em5 => ?_)
  replace h := iw_lete em5 h
  refine iv_aload_n (pc := 55) C 1 dX1_copyFrom_55 rfl rfl ?_
  refine iv_getf (pc := 56) (T := TX1) (N := 7) (ci := 1) C c1 5 in_X1_copyFrom_1 (iw_ix hJ (iw_nl hc1)) (iw_E1 (iw_nk hc1)) rfl (by decide) lk_X1_copyFrom_27 rfl rfl dX1_copyFrom_56 ?_
  refine iv_aload_n (pc := 59) C 0 dX1_copyFrom_59 rfl rfl ?_
  refine iv_getf (pc := 60) (T := TX1) (N := 7) (ci := 1) C c 5 in_X1_copyFrom_1 (iw_ix hJ (iw_nl hc)) (iw_E1 (iw_nk hc)) rfl (by decide) lk_X1_copyFrom_27 rfl rfl dX1_copyFrom_60 ?_
  refine iv_callSN (pc := 63) C [.ref (G.2.1 (c1 + 6)), .ref (G.2.1 (c + 6))] (k_X5_copy l G hJ (c1 + 6) (iw_na6 hJ hc1) (c + 6) (iw_na6 hJ hc) m5 rfl) gX1_copyFrom_X5_copy_n37 rfl ne_RX1_37 si_X1_copyFrom_X5_copy qd_X5_copy ⟨rfl, rfl, Nat.le_of_ble_eq_true rfl, Nat.le_of_ble_eq_true rfl⟩ rfl rfl (Nat.le_of_ble_eq_true rfl) dX1_copyFrom_63 ?_
  refine iv_topm (fun m6 em6 => ?_)
  replace h := iw_lete em6 h
  refine iv_aload_n (pc := 66) C 1 dX1_copyFrom_66 rfl rfl ?_
  refine iv_getf (pc := 67) (T := TX1) (N := 7) (ci := 1) C c1 6 in_X1_copyFrom_1 (iw_ix hJ (iw_nl hc1)) (iw_E1 (iw_nk hc1)) rfl (by decide) lk_X1_copyFrom_30 rfl rfl dX1_copyFrom_67 ?_
  refine iv_aload_n (pc := 70) C 0 dX1_copyFrom_70 rfl rfl ?_
  refine iv_getf (pc := 71) (T := TX1) (N := 7) (ci := 1) C c 6 in_X1_copyFrom_1 (iw_ix hJ (iw_nl hc)) (iw_E1 (iw_nk hc)) rfl (by decide) lk_X1_copyFrom_30 rfl rfl dX1_copyFrom_71 ?_
  refine iv_callSN (pc := 74) C [.ref (G.2.1 (c1 + 7)), .ref (G.2.1 (c + 7))] (k_X5_copy l G hJ (c1 + 7) (iw_na7 hJ hc1) (c + 7) (iw_na7 hJ hc) m6 rfl) gX1_copyFrom_X5_copy_n37 rfl ne_RX1_37 si_X1_copyFrom_X5_copy qd_X5_copy ⟨rfl, rfl, Nat.le_of_ble_eq_true rfl, Nat.le_of_ble_eq_true rfl⟩ rfl rfl (Nat.le_of_ble_eq_true rfl) dX1_copyFrom_74 ?_
  refine iv_topm (fun m7 em7 => ?_)
  replace h := iw_lete em7 h
  cases h
  exact iv_vret C hr hlk rfl rfl dX1_copyFrom_77
theorem qd_X1_copyFrom : yX1_copyFrom.cls = RX1 ∧ yX1_copyFrom.cls ≠ "java/lang/invoke/MethodHandle" ∧ yX1_copyFrom.cls ≠ "java/lang/invoke/VarHandle" ∧ (parseMethodDescriptor yX1_copyFrom.desc).map (fun d => d.parameters.length) = some 1 := by decide +kernel
def f_X1_aliveNodes_X39_4 (v1 : Int32) : Option (Int32) :=
some v1
def f_X1_aliveNodes_J33 (r4 : Int32 → Int32 → Option (Int32)) (v3 : Int32) (v5 : Int32) : Option (Int32) :=
iw_let (v3 + (1 : Int32)) fun v6 =>
r4 v5 v6
def f_X1_aliveNodes_B4 (c : Nat) (σ : iw_M) (k4 : Int32 → Option (Int32)) (r4 : Int32 → Int32 → Option (Int32)) (v2 : Int32) (v3 : Int32) : Option (Int32) :=
if (f_X5_at (c + 1) (0 : Int32) σ) ≤ v3 then
(k4 v2)
else
(if (f_X5_at (c + 2) v3 σ) ≤ (0 : Int32) then
(f_X1_aliveNodes_J33 r4 v3 v2)
else
(iw_let (v2 ||| ((1 : Int32) <<< (v3 &&& 31))) fun v8 =>
f_X1_aliveNodes_J33 r4 v3 v8))
def f_X1_aliveNodes_L4 (c : Nat) (σ : iw_M) (k4 : Int32 → Option (Int32)) (nn : Nat) : Int32 → Int32 → Option (Int32) :=
iw_it (fun r4 => f_X1_aliveNodes_B4 c σ k4 r4) (fun _ _ => none) nn
def f_X1_aliveNodes (n : Nat) (c : Nat) (σ : iw_M) : Option (Int32) :=
f_X1_aliveNodes_L4 c σ (f_X1_aliveNodes_X39_4) n (0 : Int32) (0 : Int32)
abbrev rm_X1_aliveNodes : Room := { frames := 1, cells := 0, slots := 0, locals := 21 }
theorem lk_X1_aliveNodes_9 : Cond.fieldLink RX1 9 RX1 (TX1 0).2.1 (TX1 0).2.2.1 ∈ wsX1_aliveNodes := by decide +kernel
theorem si_X1_aliveNodes_X5_at : Cond.static yX5_at ∈ wsX1_aliveNodes ∧ Cond.initialized yX5_at.cls ∈ wsX1_aliveNodes := by decide +kernel
theorem lk_X1_aliveNodes_15 : Cond.fieldLink RX1 15 RX1 (TX1 1).2.1 (TX1 1).2.2.1 ∈ wsX1_aliveNodes := by decide +kernel
theorem in_X1_aliveNodes_1 : ∀ w ∈ u_ws RX1 TX1 7, w ∈ wsX1_aliveNodes := by decide +kernel
set_option maxHeartbeats 4000000 in
set_option maxRecDepth 100000 in
theorem k_X1_aliveNodes (l : Launch) (G : iw_G) (hJ : iw_JX G) (n : Nat) (c : Nat) (hc : iw_net c) (σ : iw_M) {r : Int32} (h : f_X1_aliveNodes n c σ = some r) : iw_Ct l yX1_aliveNodes wsX1_aliveNodes rm_X1_aliveNodes G ([.ref (G.2.1 c)] : List Value) σ (some (.int r)) σ := by
  refine iv_start (nL := 3) (own := RX1) (ret := (some .int)) (cc := cX1_aliveNodes) (by decide +kernel) rfl rfl hJ.1 (Nat.le_of_ble_eq_true rfl) ?_
  intro p e s m below meth c0 C hr hlk
  refine iv_sub (lv' := [(0, .ref (G.2.1 c))]) [0] rfl ?_
  unfold f_X1_aliveNodes at h
  refine iv_iconst (pc := 0) C (0 : Int32) dX1_aliveNodes_0 (by decide) ?_
  refine iv_istore_n (pc := 1) C [(1, .int (0 : Int32)), (0, .ref (G.2.1 c))] dX1_aliveNodes_1 rfl (by decide) rfl ?_
  refine iv_iconst (pc := 2) C (0 : Int32) dX1_aliveNodes_2 (by decide) ?_
  refine iv_istore_n (pc := 3) C [(2, .int (0 : Int32)), (1, .int (0 : Int32)), (0, .ref (G.2.1 c))] dX1_aliveNodes_3 rfl (by decide) rfl ?_
  have vX4 : ∀ (v1 : Int32), f_X1_aliveNodes_X39_4 v1 = some r → iw_V p l e rm_X1_aliveNodes s m ([.ref (G.2.1 c)] : List Value).toArray below meth c0 0 0 (MQ below (iw_Q (some (.int r)) G σ) ([.ref (G.2.1 c)] : List Value).toArray s 0 0 (iw_A G)) 3 G (iw_A G) σ 39 [(1, .int v1)] [] := by
    intro v1 h
    unfold f_X1_aliveNodes_X39_4 at h
    refine iv_iload_n (pc := 39) C 0 dX1_aliveNodes_39 rfl rfl ?_
    cases h
    exact iv_iret C hr hlk rfl rfl dX1_aliveNodes_40
  have vB4 : ∀ (k4 : Int32 → Option (Int32)) (r4 : Int32 → Int32 → Option (Int32)), (∀ (v1 : Int32), k4 v1 = some r → iw_V p l e rm_X1_aliveNodes s m ([.ref (G.2.1 c)] : List Value).toArray below meth c0 0 0 (MQ below (iw_Q (some (.int r)) G σ) ([.ref (G.2.1 c)] : List Value).toArray s 0 0 (iw_A G)) 3 G (iw_A G) σ 39 [(1, .int v1)] []) → (∀ (v2 : Int32) (v3 : Int32), r4 v2 v3 = some r → iw_V p l e rm_X1_aliveNodes s m ([.ref (G.2.1 c)] : List Value).toArray below meth c0 0 0 (MQ below (iw_Q (some (.int r)) G σ) ([.ref (G.2.1 c)] : List Value).toArray s 0 0 (iw_A G)) 3 G (iw_A G) σ 4 [(0, .ref (G.2.1 c)), (1, .int v2), (2, .int v3)] []) → ∀ (v2 : Int32) (v3 : Int32), f_X1_aliveNodes_B4 c σ k4 r4 v2 v3 = some r → iw_V p l e rm_X1_aliveNodes s m ([.ref (G.2.1 c)] : List Value).toArray below meth c0 0 0 (MQ below (iw_Q (some (.int r)) G σ) ([.ref (G.2.1 c)] : List Value).toArray s 0 0 (iw_A G)) 3 G (iw_A G) σ 4 [(0, .ref (G.2.1 c)), (1, .int v2), (2, .int v3)] [] := by
    intro k4 r4 hk4 hr4 v2 v3 h
    unfold f_X1_aliveNodes_B4 at h
    refine iv_iload_n (pc := 4) C 2 dX1_aliveNodes_4 rfl rfl ?_
    refine iv_aload_n (pc := 5) C 0 dX1_aliveNodes_5 rfl rfl ?_
    refine iv_getf (pc := 6) (T := TX1) (N := 7) (ci := 1) C c 0 in_X1_aliveNodes_1 (iw_ix hJ (iw_nl hc)) (iw_E1 (iw_nk hc)) rfl (by decide) lk_X1_aliveNodes_9 rfl rfl dX1_aliveNodes_6 ?_
    refine iv_iconst (pc := 9) C (0 : Int32) dX1_aliveNodes_9 (by decide) ?_
    refine iv_callSN (pc := 10) C [.ref (G.2.1 (c + 1)), .int (0 : Int32)] (k_X5_at l G hJ.1 (c + 1) (iw_na1 hJ hc) (0 : Int32) σ rfl) gX1_aliveNodes_X5_at_n51 rfl ne_RX1_51 si_X1_aliveNodes_X5_at qd_X5_at ⟨rfl, rfl, Nat.le_of_ble_eq_true rfl, Nat.le_of_ble_eq_true rfl⟩ rfl rfl (Nat.le_of_ble_eq_true rfl) dX1_aliveNodes_10 ?_
    refine iv_icmp_ge (pc := 13) C 39 dX1_aliveNodes_13 (by decide) (fun h4 => ?_) (fun h4 => ?_)
    · replace h := iw_ift h4 h
      exact iv_sub [1] rfl (hk4 v2 h)
    · replace h := iw_iff h4 h
      refine iv_aload_n (pc := 16) C 0 dX1_aliveNodes_16 rfl rfl ?_
      refine iv_getf (pc := 17) (T := TX1) (N := 7) (ci := 1) C c 1 in_X1_aliveNodes_1 (iw_ix hJ (iw_nl hc)) (iw_E1 (iw_nk hc)) rfl (by decide) lk_X1_aliveNodes_15 rfl rfl dX1_aliveNodes_17 ?_
      refine iv_iload_n (pc := 20) C 2 dX1_aliveNodes_20 rfl rfl ?_
      refine iv_callSN (pc := 21) C [.ref (G.2.1 (c + 2)), .int v3] (k_X5_at l G hJ.1 (c + 2) (iw_na2 hJ hc) v3 σ rfl) gX1_aliveNodes_X5_at_n51 rfl ne_RX1_51 si_X1_aliveNodes_X5_at qd_X5_at ⟨rfl, rfl, Nat.le_of_ble_eq_true rfl, Nat.le_of_ble_eq_true rfl⟩ rfl rfl (Nat.le_of_ble_eq_true rfl) dX1_aliveNodes_21 ?_
      have vJ33 : ∀ (v5 : Int32), f_X1_aliveNodes_J33 r4 v3 v5 = some r → iw_V p l e rm_X1_aliveNodes s m ([.ref (G.2.1 c)] : List Value).toArray below meth c0 0 0 (MQ below (iw_Q (some (.int r)) G σ) ([.ref (G.2.1 c)] : List Value).toArray s 0 0 (iw_A G)) 3 G (iw_A G) σ 33 [(0, .ref (G.2.1 c)), (1, .int v5), (2, .int v3)] [] := by
        intro v5 h
        unfold f_X1_aliveNodes_J33 at h
        obtain ⟨v6, ev6⟩ : ∃ y : Int32, y = v3 + (1 : Int32) := ⟨_, rfl⟩
        replace h := iw_lete ev6 h
        refine iv_iinc (pc := 33) C 2 v6 [(2, .int v6), (0, .ref (G.2.1 c)), (1, .int v5)] dX1_aliveNodes_33 rfl (by rw [ev6]; rfl) (by decide) rfl ?_
        refine iv_goto (pc := 36) C 4 dX1_aliveNodes_36 (by decide) ?_
        exact iv_sub [1, 2, 0] rfl (hr4 v5 v6 h)
      refine iv_if_le (pc := 24) C 33 dX1_aliveNodes_24 (by decide) (fun h7 => ?_) (fun h7 => ?_)
      · replace h := iw_ift h7 h
        exact iv_sub [0, 1, 2] rfl (vJ33 v2 h)
      · replace h := iw_iff h7 h
        refine iv_iload_n (pc := 27) C 1 dX1_aliveNodes_27 rfl rfl ?_
        refine iv_iconst (pc := 28) C (1 : Int32) dX1_aliveNodes_28 (by decide) ?_
        refine iv_iload_n (pc := 29) C 2 dX1_aliveNodes_29 rfl rfl ?_
        refine iv_ishl (pc := 30) C dX1_aliveNodes_30 ?_
        refine iv_ior (pc := 31) C dX1_aliveNodes_31 ?_
        refine iv_topi (fun v8 ev8 => ?_)
        replace h := iw_lete ev8 h
        refine iv_istore_n (pc := 32) C [(1, .int v8), (0, .ref (G.2.1 c)), (2, .int v3)] dX1_aliveNodes_32 rfl (by decide) rfl ?_
        exact iv_sub [1, 0, 2] rfl (vJ33 v8 h)
  have vL4 : ∀ (nn : Nat) (v2 : Int32) (v3 : Int32), f_X1_aliveNodes_L4 c σ (f_X1_aliveNodes_X39_4) nn v2 v3 = some r → iw_V p l e rm_X1_aliveNodes s m ([.ref (G.2.1 c)] : List Value).toArray below meth c0 0 0 (MQ below (iw_Q (some (.int r)) G σ) ([.ref (G.2.1 c)] : List Value).toArray s 0 0 (iw_A G)) 3 G (iw_A G) σ 4 [(0, .ref (G.2.1 c)), (1, .int v2), (2, .int v3)] [] := by
    intro nn
    induction nn with
    | zero => intro v2 v3 h; exact absurd h (fun q => by cases q)
    | succ nn ih => intro v2 v3 h; exact vB4 (f_X1_aliveNodes_X39_4) (f_X1_aliveNodes_L4 c σ (f_X1_aliveNodes_X39_4) nn) vX4 ih v2 v3 h
  exact iv_sub [2, 1, 0] rfl (vL4 n (0 : Int32) (0 : Int32) h)
theorem qd_X1_aliveNodes : yX1_aliveNodes.cls = RX1 ∧ yX1_aliveNodes.cls ≠ "java/lang/invoke/MethodHandle" ∧ yX1_aliveNodes.cls ≠ "java/lang/invoke/VarHandle" ∧ (parseMethodDescriptor yX1_aliveNodes.desc).map (fun d => d.parameters.length) = some 0 := by decide +kernel
def f_X1_number (n : Nat) (c : Nat) (p1 : Int32) (σ : iw_M) : Option (Int32) :=
if p1 = (6 : Int32) then
((f_X1_aliveNodes n c σ).bind fun v2 =>
some (f_J6_bitCount_0f7a4 v2))
else
(some (f_X5_at (c + 1) p1 σ))
abbrev rm_X1_number : Room := { frames := 2, cells := 0, slots := 0, locals := 43 }
theorem lk_X1_number_9 : Cond.fieldLink RX1 9 RX1 (TX1 0).2.1 (TX1 0).2.2.1 ∈ wsX1_number := by decide +kernel
theorem si_X1_number_X5_at : Cond.static yX5_at ∈ wsX1_number ∧ Cond.initialized yX5_at.cls ∈ wsX1_number := by decide +kernel
theorem in_X1_number_1 : ∀ w ∈ u_ws RX1 TX1 7, w ∈ wsX1_number := by decide +kernel
set_option maxHeartbeats 4000000 in
set_option maxRecDepth 100000 in
theorem k_X1_number (l : Launch) (G : iw_G) (hJ : iw_JX G) (n : Nat) (c : Nat) (hc : iw_net c) (p1 : Int32) (σ : iw_M) {r : Int32} (h : f_X1_number n c p1 σ = some r) : iw_Ct l yX1_number wsX1_number rm_X1_number G ([.ref (G.2.1 c), .int p1] : List Value) σ (some (.int r)) σ := by
  refine iv_start (nL := 2) (own := RX1) (ret := (some .int)) (cc := cX1_number) (by decide +kernel) rfl rfl hJ.1 (Nat.le_of_ble_eq_true rfl) ?_
  intro p e s m below meth c0 C hr hlk
  refine iv_sub (lv' := [(0, .ref (G.2.1 c)), (1, .int p1)]) [0, 1] rfl ?_
  unfold f_X1_number at h
  refine iv_iload_n (pc := 0) C 1 dX1_number_0 rfl rfl ?_
  refine iv_bipush (pc := 1) C (6 : Int32) dX1_number_1 (by decide) ?_
  refine iv_icmp_ne (pc := 3) C 16 dX1_number_3 (by decide) (fun h1 => ?_) (fun h1 => ?_)
  · replace h := iw_iff h1 h
    refine iv_aload_n (pc := 16) C 0 dX1_number_16 rfl rfl ?_
    refine iv_getf (pc := 17) (T := TX1) (N := 7) (ci := 1) C c 0 in_X1_number_1 (iw_ix hJ (iw_nl hc)) (iw_E1 (iw_nk hc)) rfl (by decide) lk_X1_number_9 rfl rfl dX1_number_17 ?_
    refine iv_iload_n (pc := 20) C 1 dX1_number_20 rfl rfl ?_
    refine iv_callSN (pc := 21) C [.ref (G.2.1 (c + 1)), .int p1] (k_X5_at l G hJ.1 (c + 1) (iw_na1 hJ hc) p1 σ rfl) gX1_number_X5_at_n51 rfl ne_RX1_51 si_X1_number_X5_at qd_X5_at ⟨rfl, rfl, Nat.le_of_ble_eq_true rfl, Nat.le_of_ble_eq_true rfl⟩ rfl rfl (Nat.le_of_ble_eq_true rfl) dX1_number_21 ?_
    cases h
    exact iv_iret C hr hlk rfl rfl dX1_number_24
  · replace h := iw_ift h1 h
    refine iv_aload_n (pc := 6) C 0 dX1_number_6 rfl rfl ?_
    obtain ⟨v2, ev2, h⟩ := iw_be h
    refine iv_callV (pc := 7) (b := c) (ci := 1) C [] (k_X1_aliveNodes l G hJ n c hc σ ev2) gX1_number_X1_aliveNodes rfl qd_X1_aliveNodes ⟨rfl, rfl, Nat.le_of_ble_eq_true rfl, Nat.le_of_ble_eq_true rfl⟩ (iw_ix hJ (iw_nl hc)) (iw_E1 (iw_nk hc)) rfl rfl rfl (Nat.le_of_ble_eq_true rfl) dX1_number_7 ?_
    refine iv_callS (pc := 10) C [.int v2] (k_J6_bitCount_0f7a4 l G hJ v2 σ rfl) gX1_number_J6_bitCount_0f7a4 rfl qd_J6_bitCount_0f7a4 ⟨rfl, rfl, Nat.le_of_ble_eq_true rfl, Nat.le_of_ble_eq_true rfl⟩ rfl rfl (Nat.le_of_ble_eq_true rfl) dX1_number_10 ?_
    refine iv_goto (pc := 13) C 24 dX1_number_13 (by decide) ?_
    cases h
    exact iv_iret C hr hlk rfl rfl dX1_number_24
theorem qd_X1_number : yX1_number.cls = RX1 ∧ yX1_number.cls ≠ "java/lang/invoke/MethodHandle" ∧ yX1_number.cls ≠ "java/lang/invoke/VarHandle" ∧ (parseMethodDescriptor yX1_number.desc).map (fun d => d.parameters.length) = some 1 := by decide +kernel
def f_X1_setNumber (c : Nat) (p1 : Int32) (p2 : Int32) (σ : iw_M) : iw_M :=
iw_let (f_X5_put (c + 1) p1 p2 σ) fun m1 =>
m1
abbrev rm_X1_setNumber : Room := { frames := 1, cells := 0, slots := 0, locals := 22 }
theorem lk_X1_setNumber_9 : Cond.fieldLink RX1 9 RX1 (TX1 0).2.1 (TX1 0).2.2.1 ∈ wsX1_setNumber := by decide +kernel
theorem si_X1_setNumber_X5_put : Cond.static yX5_put ∈ wsX1_setNumber ∧ Cond.initialized yX5_put.cls ∈ wsX1_setNumber := by decide +kernel
theorem in_X1_setNumber_1 : ∀ w ∈ u_ws RX1 TX1 7, w ∈ wsX1_setNumber := by decide +kernel
set_option maxHeartbeats 4000000 in
set_option maxRecDepth 100000 in
theorem k_X1_setNumber (l : Launch) (G : iw_G) (hJ : iw_JX G) (c : Nat) (hc : iw_net c) (p1 : Int32) (p2 : Int32) (σ : iw_M) {σ' : iw_M} (h : f_X1_setNumber c p1 p2 σ = σ') : iw_Ct l yX1_setNumber wsX1_setNumber rm_X1_setNumber G ([.ref (G.2.1 c), .int p1, .int p2] : List Value) σ none σ' := by
  refine iv_start (nL := 3) (own := RX1) (ret := none) (cc := cX1_setNumber) (by decide +kernel) rfl rfl hJ.1 (Nat.le_of_ble_eq_true rfl) ?_
  intro p e s m below meth c0 C hr hlk
  refine iv_sub (lv' := [(0, .ref (G.2.1 c)), (1, .int p1), (2, .int p2)]) [0, 1, 2] rfl ?_
  unfold f_X1_setNumber at h
  refine iv_aload_n (pc := 0) C 0 dX1_setNumber_0 rfl rfl ?_
  refine iv_getf (pc := 1) (T := TX1) (N := 7) (ci := 1) C c 0 in_X1_setNumber_1 (iw_ix hJ (iw_nl hc)) (iw_E1 (iw_nk hc)) rfl (by decide) lk_X1_setNumber_9 rfl rfl dX1_setNumber_1 ?_
  refine iv_iload_n (pc := 4) C 1 dX1_setNumber_4 rfl rfl ?_
  refine iv_iload_n (pc := 5) C 2 dX1_setNumber_5 rfl rfl ?_
  refine iv_callSN (pc := 6) C [.ref (G.2.1 (c + 1)), .int p1, .int p2] (k_X5_put l G hJ.1 (c + 1) (iw_na1 hJ hc) p1 p2 σ rfl) gX1_setNumber_X5_put_n33 rfl ne_RX1_33 si_X1_setNumber_X5_put qd_X5_put ⟨rfl, rfl, Nat.le_of_ble_eq_true rfl, Nat.le_of_ble_eq_true rfl⟩ rfl rfl (Nat.le_of_ble_eq_true rfl) dX1_setNumber_6 ?_
  refine iv_topm (fun m1 em1 => ?_)
  replace h := iw_lete em1 h
  cases h
  exact iv_vret C hr hlk rfl rfl dX1_setNumber_9
theorem qd_X1_setNumber : yX1_setNumber.cls = RX1 ∧ yX1_setNumber.cls ≠ "java/lang/invoke/MethodHandle" ∧ yX1_setNumber.cls ≠ "java/lang/invoke/VarHandle" ∧ (parseMethodDescriptor yX1_setNumber.desc).map (fun d => d.parameters.length) = some 2 := by decide +kernel
def f_X1_raise (c : Nat) (p1 : Int32) (p2 : Int32) (σ : iw_M) : iw_M :=
iw_let (f_X5_increase (c + 1) p1 p2 σ) fun m1 =>
m1
abbrev rm_X1_raise : Room := { frames := 2, cells := 0, slots := 0, locals := 44 }
theorem lk_X1_raise_9 : Cond.fieldLink RX1 9 RX1 (TX1 0).2.1 (TX1 0).2.2.1 ∈ wsX1_raise := by decide +kernel
theorem si_X1_raise_X5_increase : Cond.static yX5_increase ∈ wsX1_raise ∧ Cond.initialized yX5_increase.cls ∈ wsX1_raise := by decide +kernel
theorem in_X1_raise_1 : ∀ w ∈ u_ws RX1 TX1 7, w ∈ wsX1_raise := by decide +kernel
set_option maxHeartbeats 4000000 in
set_option maxRecDepth 100000 in
theorem k_X1_raise (l : Launch) (G : iw_G) (hJ : iw_JX G) (c : Nat) (hc : iw_net c) (p1 : Int32) (p2 : Int32) (σ : iw_M) {σ' : iw_M} (h : f_X1_raise c p1 p2 σ = σ') : iw_Ct l yX1_raise wsX1_raise rm_X1_raise G ([.ref (G.2.1 c), .int p1, .int p2] : List Value) σ none σ' := by
  refine iv_start (nL := 3) (own := RX1) (ret := none) (cc := cX1_raise) (by decide +kernel) rfl rfl hJ.1 (Nat.le_of_ble_eq_true rfl) ?_
  intro p e s m below meth c0 C hr hlk
  refine iv_sub (lv' := [(0, .ref (G.2.1 c)), (1, .int p1), (2, .int p2)]) [0, 1, 2] rfl ?_
  unfold f_X1_raise at h
  refine iv_aload_n (pc := 0) C 0 dX1_raise_0 rfl rfl ?_
  refine iv_getf (pc := 1) (T := TX1) (N := 7) (ci := 1) C c 0 in_X1_raise_1 (iw_ix hJ (iw_nl hc)) (iw_E1 (iw_nk hc)) rfl (by decide) lk_X1_raise_9 rfl rfl dX1_raise_1 ?_
  refine iv_iload_n (pc := 4) C 1 dX1_raise_4 rfl rfl ?_
  refine iv_iload_n (pc := 5) C 2 dX1_raise_5 rfl rfl ?_
  refine iv_callSN (pc := 6) C [.ref (G.2.1 (c + 1)), .int p1, .int p2] (k_X5_increase l G hJ (c + 1) (iw_na1 hJ hc) p1 p2 σ rfl) gX1_raise_X5_increase_n55 rfl ne_RX1_55 si_X1_raise_X5_increase qd_X5_increase ⟨rfl, rfl, Nat.le_of_ble_eq_true rfl, Nat.le_of_ble_eq_true rfl⟩ rfl rfl (Nat.le_of_ble_eq_true rfl) dX1_raise_6 ?_
  refine iv_topm (fun m1 em1 => ?_)
  replace h := iw_lete em1 h
  cases h
  exact iv_vret C hr hlk rfl rfl dX1_raise_9
theorem qd_X1_raise : yX1_raise.cls = RX1 ∧ yX1_raise.cls ≠ "java/lang/invoke/MethodHandle" ∧ yX1_raise.cls ≠ "java/lang/invoke/VarHandle" ∧ (parseMethodDescriptor yX1_raise.desc).map (fun d => d.parameters.length) = some 2 := by decide +kernel
def f_X1_has (c : Nat) (p1 : Int32) (p2 : Int32) (σ : iw_M) : Int32 :=
if p2 < (0 : Int32) then
((0 : Int32))
else
(if (f_X5_at (c + 1) p1 σ) ≤ p2 then
((0 : Int32))
else
((1 : Int32)))
abbrev rm_X1_has : Room := { frames := 1, cells := 0, slots := 0, locals := 21 }
theorem lk_X1_has_9 : Cond.fieldLink RX1 9 RX1 (TX1 0).2.1 (TX1 0).2.2.1 ∈ wsX1_has := by decide +kernel
theorem si_X1_has_X5_at : Cond.static yX5_at ∈ wsX1_has ∧ Cond.initialized yX5_at.cls ∈ wsX1_has := by decide +kernel
theorem in_X1_has_1 : ∀ w ∈ u_ws RX1 TX1 7, w ∈ wsX1_has := by decide +kernel
set_option maxHeartbeats 4000000 in
set_option maxRecDepth 100000 in
theorem k_X1_has (l : Launch) (G : iw_G) (hJ : iw_JX G) (c : Nat) (hc : iw_net c) (p1 : Int32) (p2 : Int32) (σ : iw_M) {r : Int32} (h : f_X1_has c p1 p2 σ = r) : iw_Ct l yX1_has wsX1_has rm_X1_has G ([.ref (G.2.1 c), .int p1, .int p2] : List Value) σ (some (.int r)) σ := by
  refine iv_start (nL := 3) (own := RX1) (ret := (some .boolean)) (cc := cX1_has) (by decide +kernel) rfl rfl hJ.1 (Nat.le_of_ble_eq_true rfl) ?_
  intro p e s m below meth c0 C hr hlk
  refine iv_sub (lv' := [(0, .ref (G.2.1 c)), (1, .int p1), (2, .int p2)]) [0, 1, 2] rfl ?_
  unfold f_X1_has at h
  refine iv_iload_n (pc := 0) C 2 dX1_has_0 rfl rfl ?_
  refine iv_if_lt (pc := 1) C 20 dX1_has_1 (by decide) (fun h1 => ?_) (fun h1 => ?_)
  · replace h := iw_ift h1 h
    refine iv_iconst (pc := 20) C (0 : Int32) dX1_has_20 (by decide) ?_
    cases h
    exact iv_zret C hr hlk rfl rfl dX1_has_21
  · replace h := iw_iff h1 h
    refine iv_iload_n (pc := 4) C 2 dX1_has_4 rfl rfl ?_
    refine iv_aload_n (pc := 5) C 0 dX1_has_5 rfl rfl ?_
    refine iv_getf (pc := 6) (T := TX1) (N := 7) (ci := 1) C c 0 in_X1_has_1 (iw_ix hJ (iw_nl hc)) (iw_E1 (iw_nk hc)) rfl (by decide) lk_X1_has_9 rfl rfl dX1_has_6 ?_
    refine iv_iload_n (pc := 9) C 1 dX1_has_9 rfl rfl ?_
    refine iv_callSN (pc := 10) C [.ref (G.2.1 (c + 1)), .int p1] (k_X5_at l G hJ.1 (c + 1) (iw_na1 hJ hc) p1 σ rfl) gX1_has_X5_at_n51 rfl ne_RX1_51 si_X1_has_X5_at qd_X5_at ⟨rfl, rfl, Nat.le_of_ble_eq_true rfl, Nat.le_of_ble_eq_true rfl⟩ rfl rfl (Nat.le_of_ble_eq_true rfl) dX1_has_10 ?_
    refine iv_icmp_ge (pc := 13) C 20 dX1_has_13 (by decide) (fun h2 => ?_) (fun h2 => ?_)
    · replace h := iw_ift h2 h
      refine iv_iconst (pc := 20) C (0 : Int32) dX1_has_20 (by decide) ?_
      cases h
      exact iv_zret C hr hlk rfl rfl dX1_has_21
    · replace h := iw_iff h2 h
      refine iv_iconst (pc := 16) C (1 : Int32) dX1_has_16 (by decide) ?_
      refine iv_goto (pc := 17) C 21 dX1_has_17 (by decide) ?_
      cases h
      exact iv_zret C hr hlk rfl rfl dX1_has_21
theorem qd_X1_has : yX1_has.cls = RX1 ∧ yX1_has.cls ≠ "java/lang/invoke/MethodHandle" ∧ yX1_has.cls ≠ "java/lang/invoke/VarHandle" ∧ (parseMethodDescriptor yX1_has.desc).map (fun d => d.parameters.length) = some 2 := by decide +kernel
def f_X1_energyOf (c : Nat) (p1 : Int32) (σ : iw_M) : Int32 :=
(f_X5_at (c + 2) p1 σ)
abbrev rm_X1_energyOf : Room := { frames := 1, cells := 0, slots := 0, locals := 21 }
theorem lk_X1_energyOf_15 : Cond.fieldLink RX1 15 RX1 (TX1 1).2.1 (TX1 1).2.2.1 ∈ wsX1_energyOf := by decide +kernel
theorem si_X1_energyOf_X5_at : Cond.static yX5_at ∈ wsX1_energyOf ∧ Cond.initialized yX5_at.cls ∈ wsX1_energyOf := by decide +kernel
theorem in_X1_energyOf_1 : ∀ w ∈ u_ws RX1 TX1 7, w ∈ wsX1_energyOf := by decide +kernel
set_option maxHeartbeats 4000000 in
set_option maxRecDepth 100000 in
theorem k_X1_energyOf (l : Launch) (G : iw_G) (hJ : iw_JX G) (c : Nat) (hc : iw_net c) (p1 : Int32) (σ : iw_M) {r : Int32} (h : f_X1_energyOf c p1 σ = r) : iw_Ct l yX1_energyOf wsX1_energyOf rm_X1_energyOf G ([.ref (G.2.1 c), .int p1] : List Value) σ (some (.int r)) σ := by
  refine iv_start (nL := 2) (own := RX1) (ret := (some .int)) (cc := cX1_energyOf) (by decide +kernel) rfl rfl hJ.1 (Nat.le_of_ble_eq_true rfl) ?_
  intro p e s m below meth c0 C hr hlk
  refine iv_sub (lv' := [(0, .ref (G.2.1 c)), (1, .int p1)]) [0, 1] rfl ?_
  unfold f_X1_energyOf at h
  refine iv_aload_n (pc := 0) C 0 dX1_energyOf_0 rfl rfl ?_
  refine iv_getf (pc := 1) (T := TX1) (N := 7) (ci := 1) C c 1 in_X1_energyOf_1 (iw_ix hJ (iw_nl hc)) (iw_E1 (iw_nk hc)) rfl (by decide) lk_X1_energyOf_15 rfl rfl dX1_energyOf_1 ?_
  refine iv_iload_n (pc := 4) C 1 dX1_energyOf_4 rfl rfl ?_
  refine iv_callSN (pc := 5) C [.ref (G.2.1 (c + 2)), .int p1] (k_X5_at l G hJ.1 (c + 2) (iw_na2 hJ hc) p1 σ rfl) gX1_energyOf_X5_at_n51 rfl ne_RX1_51 si_X1_energyOf_X5_at qd_X5_at ⟨rfl, rfl, Nat.le_of_ble_eq_true rfl, Nat.le_of_ble_eq_true rfl⟩ rfl rfl (Nat.le_of_ble_eq_true rfl) dX1_energyOf_5 ?_
  cases h
  exact iv_iret C hr hlk rfl rfl dX1_energyOf_8
theorem qd_X1_energyOf : yX1_energyOf.cls = RX1 ∧ yX1_energyOf.cls ≠ "java/lang/invoke/MethodHandle" ∧ yX1_energyOf.cls ≠ "java/lang/invoke/VarHandle" ∧ (parseMethodDescriptor yX1_energyOf.desc).map (fun d => d.parameters.length) = some 1 := by decide +kernel
def f_X1_setEnergy (c : Nat) (p1 : Int32) (p2 : Int32) (σ : iw_M) : iw_M :=
iw_let (f_X5_put (c + 2) p1 p2 σ) fun m1 =>
m1
abbrev rm_X1_setEnergy : Room := { frames := 1, cells := 0, slots := 0, locals := 22 }
theorem lk_X1_setEnergy_15 : Cond.fieldLink RX1 15 RX1 (TX1 1).2.1 (TX1 1).2.2.1 ∈ wsX1_setEnergy := by decide +kernel
theorem si_X1_setEnergy_X5_put : Cond.static yX5_put ∈ wsX1_setEnergy ∧ Cond.initialized yX5_put.cls ∈ wsX1_setEnergy := by decide +kernel
theorem in_X1_setEnergy_1 : ∀ w ∈ u_ws RX1 TX1 7, w ∈ wsX1_setEnergy := by decide +kernel
set_option maxHeartbeats 4000000 in
set_option maxRecDepth 100000 in
theorem k_X1_setEnergy (l : Launch) (G : iw_G) (hJ : iw_JX G) (c : Nat) (hc : iw_net c) (p1 : Int32) (p2 : Int32) (σ : iw_M) {σ' : iw_M} (h : f_X1_setEnergy c p1 p2 σ = σ') : iw_Ct l yX1_setEnergy wsX1_setEnergy rm_X1_setEnergy G ([.ref (G.2.1 c), .int p1, .int p2] : List Value) σ none σ' := by
  refine iv_start (nL := 3) (own := RX1) (ret := none) (cc := cX1_setEnergy) (by decide +kernel) rfl rfl hJ.1 (Nat.le_of_ble_eq_true rfl) ?_
  intro p e s m below meth c0 C hr hlk
  refine iv_sub (lv' := [(0, .ref (G.2.1 c)), (1, .int p1), (2, .int p2)]) [0, 1, 2] rfl ?_
  unfold f_X1_setEnergy at h
  refine iv_aload_n (pc := 0) C 0 dX1_setEnergy_0 rfl rfl ?_
  refine iv_getf (pc := 1) (T := TX1) (N := 7) (ci := 1) C c 1 in_X1_setEnergy_1 (iw_ix hJ (iw_nl hc)) (iw_E1 (iw_nk hc)) rfl (by decide) lk_X1_setEnergy_15 rfl rfl dX1_setEnergy_1 ?_
  refine iv_iload_n (pc := 4) C 1 dX1_setEnergy_4 rfl rfl ?_
  refine iv_iload_n (pc := 5) C 2 dX1_setEnergy_5 rfl rfl ?_
  refine iv_callSN (pc := 6) C [.ref (G.2.1 (c + 2)), .int p1, .int p2] (k_X5_put l G hJ.1 (c + 2) (iw_na2 hJ hc) p1 p2 σ rfl) gX1_setEnergy_X5_put_n33 rfl ne_RX1_33 si_X1_setEnergy_X5_put qd_X5_put ⟨rfl, rfl, Nat.le_of_ble_eq_true rfl, Nat.le_of_ble_eq_true rfl⟩ rfl rfl (Nat.le_of_ble_eq_true rfl) dX1_setEnergy_6 ?_
  refine iv_topm (fun m1 em1 => ?_)
  replace h := iw_lete em1 h
  cases h
  exact iv_vret C hr hlk rfl rfl dX1_setEnergy_9
theorem qd_X1_setEnergy : yX1_setEnergy.cls = RX1 ∧ yX1_setEnergy.cls ≠ "java/lang/invoke/MethodHandle" ∧ yX1_setEnergy.cls ≠ "java/lang/invoke/VarHandle" ∧ (parseMethodDescriptor yX1_setEnergy.desc).map (fun d => d.parameters.length) = some 2 := by decide +kernel
def f_X1_spend (c : Nat) (p1 : Int32) (p2 : Int32) (σ : iw_M) : iw_M :=
iw_let (if (f_X5_at (c + 2) p1 σ) < p2 then (f_X5_at (c + 2) p1 σ) else p2) fun v1 =>
iw_let (f_X5_increase (c + 2) p1 (-v1) σ) fun m2 =>
iw_let (f_X5_increase (c + 1) (10 : Int32) v1 m2) fun m3 =>
m3
abbrev rm_X1_spend : Room := { frames := 2, cells := 0, slots := 0, locals := 44 }
theorem lk_X1_spend_15 : Cond.fieldLink RX1 15 RX1 (TX1 1).2.1 (TX1 1).2.2.1 ∈ wsX1_spend := by decide +kernel
theorem si_X1_spend_X5_at : Cond.static yX5_at ∈ wsX1_spend ∧ Cond.initialized yX5_at.cls ∈ wsX1_spend := by decide +kernel
theorem jd_X1_spend_58 : Cond.methodLink RX1 58 Lib.Math.min.name ∈ wsX1_spend ∧ Cond.static Lib.Math.min.name ∈ wsX1_spend ∧ Cond.initialized "java/lang/Math" ∈ wsX1_spend ∧ Cond.code Lib.Math.min.name Lib.Math.min.code 2 (some .int) ∈ wsX1_spend := by decide +kernel
theorem si_X1_spend_X5_increase : Cond.static yX5_increase ∈ wsX1_spend ∧ Cond.initialized yX5_increase.cls ∈ wsX1_spend := by decide +kernel
theorem lk_X1_spend_9 : Cond.fieldLink RX1 9 RX1 (TX1 0).2.1 (TX1 0).2.2.1 ∈ wsX1_spend := by decide +kernel
theorem in_X1_spend_1 : ∀ w ∈ u_ws RX1 TX1 7, w ∈ wsX1_spend := by decide +kernel
set_option maxHeartbeats 4000000 in
set_option maxRecDepth 100000 in
theorem k_X1_spend (l : Launch) (G : iw_G) (hJ : iw_JX G) (c : Nat) (hc : iw_net c) (p1 : Int32) (p2 : Int32) (σ : iw_M) {σ' : iw_M} (h : f_X1_spend c p1 p2 σ = σ') : iw_Ct l yX1_spend wsX1_spend rm_X1_spend G ([.ref (G.2.1 c), .int p1, .int p2] : List Value) σ none σ' := by
  refine iv_start (nL := 4) (own := RX1) (ret := none) (cc := cX1_spend) (by decide +kernel) rfl rfl hJ.1 (Nat.le_of_ble_eq_true rfl) ?_
  intro p e s m below meth c0 C hr hlk
  refine iv_sub (lv' := [(0, .ref (G.2.1 c)), (1, .int p1), (2, .int p2)]) [0, 1, 2] rfl ?_
  unfold f_X1_spend at h
  refine iv_iload_n (pc := 0) C 2 dX1_spend_0 rfl rfl ?_
  refine iv_aload_n (pc := 1) C 0 dX1_spend_1 rfl rfl ?_
  refine iv_getf (pc := 2) (T := TX1) (N := 7) (ci := 1) C c 1 in_X1_spend_1 (iw_ix hJ (iw_nl hc)) (iw_E1 (iw_nk hc)) rfl (by decide) lk_X1_spend_15 rfl rfl dX1_spend_2 ?_
  refine iv_iload_n (pc := 5) C 1 dX1_spend_5 rfl rfl ?_
  refine iv_callSN (pc := 6) C [.ref (G.2.1 (c + 2)), .int p1] (k_X5_at l G hJ.1 (c + 2) (iw_na2 hJ hc) p1 σ rfl) gX1_spend_X5_at_n51 rfl ne_RX1_51 si_X1_spend_X5_at qd_X5_at ⟨rfl, rfl, Nat.le_of_ble_eq_true rfl, Nat.le_of_ble_eq_true rfl⟩ rfl rfl (Nat.le_of_ble_eq_true rfl) dX1_spend_6 ?_
  refine iv_min (pc := 9) C jd_X1_spend_58 ⟨Nat.le_of_ble_eq_true rfl, Nat.le_of_ble_eq_true rfl⟩ dX1_spend_9 ?_
  refine iv_topi (fun v1 ev1 => ?_)
  replace h := iw_lete ev1 h
  refine iv_istore_n (pc := 12) C [(3, .int v1), (0, .ref (G.2.1 c)), (1, .int p1), (2, .int p2)] dX1_spend_12 rfl (by decide) rfl ?_
  refine iv_aload_n (pc := 13) C 1 dX1_spend_13 rfl rfl ?_
  refine iv_getf (pc := 14) (T := TX1) (N := 7) (ci := 1) C c 1 in_X1_spend_1 (iw_ix hJ (iw_nl hc)) (iw_E1 (iw_nk hc)) rfl (by decide) lk_X1_spend_15 rfl rfl dX1_spend_14 ?_
  refine iv_iload_n (pc := 17) C 2 dX1_spend_17 rfl rfl ?_
  refine iv_iload_n (pc := 18) C 0 dX1_spend_18 rfl rfl ?_
  refine iv_ineg (pc := 19) C dX1_spend_19 ?_
  refine iv_callSN (pc := 20) C [.ref (G.2.1 (c + 2)), .int p1, .int (-v1)] (k_X5_increase l G hJ (c + 2) (iw_na2 hJ hc) p1 (-v1) σ rfl) gX1_spend_X5_increase_n55 rfl ne_RX1_55 si_X1_spend_X5_increase qd_X5_increase ⟨rfl, rfl, Nat.le_of_ble_eq_true rfl, Nat.le_of_ble_eq_true rfl⟩ rfl rfl (Nat.le_of_ble_eq_true rfl) dX1_spend_20 ?_
  refine iv_topm (fun m2 em2 => ?_)
  replace h := iw_lete em2 h
  refine iv_aload_n (pc := 23) C 1 dX1_spend_23 rfl rfl ?_
  refine iv_getf (pc := 24) (T := TX1) (N := 7) (ci := 1) C c 0 in_X1_spend_1 (iw_ix hJ (iw_nl hc)) (iw_E1 (iw_nk hc)) rfl (by decide) lk_X1_spend_9 rfl rfl dX1_spend_24 ?_
  refine iv_bipush (pc := 27) C (10 : Int32) dX1_spend_27 (by decide) ?_
  refine iv_iload_n (pc := 29) C 0 dX1_spend_29 rfl rfl ?_
  refine iv_callSN (pc := 30) C [.ref (G.2.1 (c + 1)), .int (10 : Int32), .int v1] (k_X5_increase l G hJ (c + 1) (iw_na1 hJ hc) (10 : Int32) v1 m2 rfl) gX1_spend_X5_increase_n55 rfl ne_RX1_55 si_X1_spend_X5_increase qd_X5_increase ⟨rfl, rfl, Nat.le_of_ble_eq_true rfl, Nat.le_of_ble_eq_true rfl⟩ rfl rfl (Nat.le_of_ble_eq_true rfl) dX1_spend_30 ?_
  refine iv_topm (fun m3 em3 => ?_)
  replace h := iw_lete em3 h
  cases h
  exact iv_vret C hr hlk rfl rfl dX1_spend_33
theorem qd_X1_spend : yX1_spend.cls = RX1 ∧ yX1_spend.cls ≠ "java/lang/invoke/MethodHandle" ∧ yX1_spend.cls ≠ "java/lang/invoke/VarHandle" ∧ (parseMethodDescriptor yX1_spend.desc).map (fun d => d.parameters.length) = some 2 := by decide +kernel
def f_X1_appendNode (c : Nat) (p1 : Int32) (σ : iw_M) : Int32 × iw_M :=
iw_let (f_X5_at (c + 1) (0 : Int32) σ) fun v1 =>
iw_let (f_X5_put (c + 2) v1 p1 σ) fun m2 =>
iw_let (f_X5_put (c + 1) (0 : Int32) (v1 + (1 : Int32)) m2) fun m3 =>
(v1, m3)
abbrev rm_X1_appendNode : Room := { frames := 1, cells := 0, slots := 0, locals := 22 }
theorem lk_X1_appendNode_9 : Cond.fieldLink RX1 9 RX1 (TX1 0).2.1 (TX1 0).2.2.1 ∈ wsX1_appendNode := by decide +kernel
theorem si_X1_appendNode_X5_at : Cond.static yX5_at ∈ wsX1_appendNode ∧ Cond.initialized yX5_at.cls ∈ wsX1_appendNode := by decide +kernel
theorem lk_X1_appendNode_15 : Cond.fieldLink RX1 15 RX1 (TX1 1).2.1 (TX1 1).2.2.1 ∈ wsX1_appendNode := by decide +kernel
theorem si_X1_appendNode_X5_put : Cond.static yX5_put ∈ wsX1_appendNode ∧ Cond.initialized yX5_put.cls ∈ wsX1_appendNode := by decide +kernel
theorem in_X1_appendNode_1 : ∀ w ∈ u_ws RX1 TX1 7, w ∈ wsX1_appendNode := by decide +kernel
set_option maxHeartbeats 4000000 in
set_option maxRecDepth 100000 in
theorem k_X1_appendNode (l : Launch) (G : iw_G) (hJ : iw_JX G) (c : Nat) (hc : iw_net c) (p1 : Int32) (σ : iw_M) {r : Int32} {σ' : iw_M} (h : f_X1_appendNode c p1 σ = (r, σ')) : iw_Ct l yX1_appendNode wsX1_appendNode rm_X1_appendNode G ([.ref (G.2.1 c), .int p1] : List Value) σ (some (.int r)) σ' := by
  refine iv_start (nL := 3) (own := RX1) (ret := (some .int)) (cc := cX1_appendNode) (by decide +kernel) rfl rfl hJ.1 (Nat.le_of_ble_eq_true rfl) ?_
  intro p e s m below meth c0 C hr hlk
  refine iv_sub (lv' := [(0, .ref (G.2.1 c)), (1, .int p1)]) [0, 1] rfl ?_
  unfold f_X1_appendNode at h
  refine iv_aload_n (pc := 0) C 0 dX1_appendNode_0 rfl rfl ?_
  refine iv_getf (pc := 1) (T := TX1) (N := 7) (ci := 1) C c 0 in_X1_appendNode_1 (iw_ix hJ (iw_nl hc)) (iw_E1 (iw_nk hc)) rfl (by decide) lk_X1_appendNode_9 rfl rfl dX1_appendNode_1 ?_
  refine iv_iconst (pc := 4) C (0 : Int32) dX1_appendNode_4 (by decide) ?_
  refine iv_callSN (pc := 5) C [.ref (G.2.1 (c + 1)), .int (0 : Int32)] (k_X5_at l G hJ.1 (c + 1) (iw_na1 hJ hc) (0 : Int32) σ rfl) gX1_appendNode_X5_at_n51 rfl ne_RX1_51 si_X1_appendNode_X5_at qd_X5_at ⟨rfl, rfl, Nat.le_of_ble_eq_true rfl, Nat.le_of_ble_eq_true rfl⟩ rfl rfl (Nat.le_of_ble_eq_true rfl) dX1_appendNode_5 ?_
  refine iv_topi (fun v1 ev1 => ?_)
  replace h := iw_lete ev1 h
  refine iv_istore_n (pc := 8) C [(2, .int v1), (0, .ref (G.2.1 c)), (1, .int p1)] dX1_appendNode_8 rfl (by decide) rfl ?_
  refine iv_aload_n (pc := 9) C 1 dX1_appendNode_9 rfl rfl ?_
  refine iv_getf (pc := 10) (T := TX1) (N := 7) (ci := 1) C c 1 in_X1_appendNode_1 (iw_ix hJ (iw_nl hc)) (iw_E1 (iw_nk hc)) rfl (by decide) lk_X1_appendNode_15 rfl rfl dX1_appendNode_10 ?_
  refine iv_iload_n (pc := 13) C 0 dX1_appendNode_13 rfl rfl ?_
  refine iv_iload_n (pc := 14) C 2 dX1_appendNode_14 rfl rfl ?_
  refine iv_callSN (pc := 15) C [.ref (G.2.1 (c + 2)), .int v1, .int p1] (k_X5_put l G hJ.1 (c + 2) (iw_na2 hJ hc) v1 p1 σ rfl) gX1_appendNode_X5_put_n33 rfl ne_RX1_33 si_X1_appendNode_X5_put qd_X5_put ⟨rfl, rfl, Nat.le_of_ble_eq_true rfl, Nat.le_of_ble_eq_true rfl⟩ rfl rfl (Nat.le_of_ble_eq_true rfl) dX1_appendNode_15 ?_
  refine iv_topm (fun m2 em2 => ?_)
  replace h := iw_lete em2 h
  refine iv_aload_n (pc := 18) C 1 dX1_appendNode_18 rfl rfl ?_
  refine iv_getf (pc := 19) (T := TX1) (N := 7) (ci := 1) C c 0 in_X1_appendNode_1 (iw_ix hJ (iw_nl hc)) (iw_E1 (iw_nk hc)) rfl (by decide) lk_X1_appendNode_9 rfl rfl dX1_appendNode_19 ?_
  refine iv_iconst (pc := 22) C (0 : Int32) dX1_appendNode_22 (by decide) ?_
  refine iv_iload_n (pc := 23) C 0 dX1_appendNode_23 rfl rfl ?_
  refine iv_iconst (pc := 24) C (1 : Int32) dX1_appendNode_24 (by decide) ?_
  refine iv_iadd (pc := 25) C dX1_appendNode_25 ?_
  refine iv_callSN (pc := 26) C [.ref (G.2.1 (c + 1)), .int (0 : Int32), .int (v1 + (1 : Int32))] (k_X5_put l G hJ.1 (c + 1) (iw_na1 hJ hc) (0 : Int32) (v1 + (1 : Int32)) m2 rfl) gX1_appendNode_X5_put_n33 rfl ne_RX1_33 si_X1_appendNode_X5_put qd_X5_put ⟨rfl, rfl, Nat.le_of_ble_eq_true rfl, Nat.le_of_ble_eq_true rfl⟩ rfl rfl (Nat.le_of_ble_eq_true rfl) dX1_appendNode_26 ?_
  refine iv_topm (fun m3 em3 => ?_)
  replace h := iw_lete em3 h
  refine iv_iload_n (pc := 29) C 0 dX1_appendNode_29 rfl rfl ?_
  cases h
  exact iv_iret C hr hlk rfl rfl dX1_appendNode_30
theorem qd_X1_appendNode : yX1_appendNode.cls = RX1 ∧ yX1_appendNode.cls ≠ "java/lang/invoke/MethodHandle" ∧ yX1_appendNode.cls ≠ "java/lang/invoke/VarHandle" ∧ (parseMethodDescriptor yX1_appendNode.desc).map (fun d => d.parameters.length) = some 1 := by decide +kernel
def f_X1_appendLink (c : Nat) (p1 : Int32) (p2 : Int32) (p3 : Int32) (σ : iw_M) : Int32 × iw_M :=
iw_let (f_X5_at (c + 1) (1 : Int32) σ) fun v1 =>
iw_let (f_X5_put (c + 3) ((v1 * (3 : Int32)) + (0 : Int32)) p1 σ) fun m2 =>
iw_let (f_X5_put (c + 3) ((v1 * (3 : Int32)) + (1 : Int32)) p2 m2) fun m3 =>
iw_let (f_X5_put (c + 3) ((v1 * (3 : Int32)) + (2 : Int32)) p3 m3) fun m4 =>
iw_let (f_X5_put (c + 1) (1 : Int32) (v1 + (1 : Int32)) m4) fun m5 =>
(v1, m5)
abbrev rm_X1_appendLink : Room := { frames := 1, cells := 0, slots := 0, locals := 22 }
theorem lk_X1_appendLink_9 : Cond.fieldLink RX1 9 RX1 (TX1 0).2.1 (TX1 0).2.2.1 ∈ wsX1_appendLink := by decide +kernel
theorem si_X1_appendLink_X5_at : Cond.static yX5_at ∈ wsX1_appendLink ∧ Cond.initialized yX5_at.cls ∈ wsX1_appendLink := by decide +kernel
theorem lk_X1_appendLink_18 : Cond.fieldLink RX1 18 RX1 (TX1 2).2.1 (TX1 2).2.2.1 ∈ wsX1_appendLink := by decide +kernel
theorem si_X1_appendLink_X5_put : Cond.static yX5_put ∈ wsX1_appendLink ∧ Cond.initialized yX5_put.cls ∈ wsX1_appendLink := by decide +kernel
theorem in_X1_appendLink_1 : ∀ w ∈ u_ws RX1 TX1 7, w ∈ wsX1_appendLink := by decide +kernel
set_option maxHeartbeats 4000000 in
set_option maxRecDepth 100000 in
theorem k_X1_appendLink (l : Launch) (G : iw_G) (hJ : iw_JX G) (c : Nat) (hc : iw_net c) (p1 : Int32) (p2 : Int32) (p3 : Int32) (σ : iw_M) {r : Int32} {σ' : iw_M} (h : f_X1_appendLink c p1 p2 p3 σ = (r, σ')) : iw_Ct l yX1_appendLink wsX1_appendLink rm_X1_appendLink G ([.ref (G.2.1 c), .int p1, .int p2, .int p3] : List Value) σ (some (.int r)) σ' := by
  refine iv_start (nL := 5) (own := RX1) (ret := (some .int)) (cc := cX1_appendLink) (by decide +kernel) rfl rfl hJ.1 (Nat.le_of_ble_eq_true rfl) ?_
  intro p e s m below meth c0 C hr hlk
  refine iv_sub (lv' := [(0, .ref (G.2.1 c)), (1, .int p1), (2, .int p2), (3, .int p3)]) [0, 1, 2, 3] rfl ?_
  unfold f_X1_appendLink at h
  refine iv_aload_n (pc := 0) C 0 dX1_appendLink_0 rfl rfl ?_
  refine iv_getf (pc := 1) (T := TX1) (N := 7) (ci := 1) C c 0 in_X1_appendLink_1 (iw_ix hJ (iw_nl hc)) (iw_E1 (iw_nk hc)) rfl (by decide) lk_X1_appendLink_9 rfl rfl dX1_appendLink_1 ?_
  refine iv_iconst (pc := 4) C (1 : Int32) dX1_appendLink_4 (by decide) ?_
  refine iv_callSN (pc := 5) C [.ref (G.2.1 (c + 1)), .int (1 : Int32)] (k_X5_at l G hJ.1 (c + 1) (iw_na1 hJ hc) (1 : Int32) σ rfl) gX1_appendLink_X5_at_n51 rfl ne_RX1_51 si_X1_appendLink_X5_at qd_X5_at ⟨rfl, rfl, Nat.le_of_ble_eq_true rfl, Nat.le_of_ble_eq_true rfl⟩ rfl rfl (Nat.le_of_ble_eq_true rfl) dX1_appendLink_5 ?_
  refine iv_topi (fun v1 ev1 => ?_)
  replace h := iw_lete ev1 h
  refine iv_istore (pc := 8) C [(4, .int v1), (0, .ref (G.2.1 c)), (1, .int p1), (2, .int p2), (3, .int p3)] dX1_appendLink_8 (by decide) rfl ?_
  refine iv_aload_n (pc := 10) C 1 dX1_appendLink_10 rfl rfl ?_
  refine iv_getf (pc := 11) (T := TX1) (N := 7) (ci := 1) C c 2 in_X1_appendLink_1 (iw_ix hJ (iw_nl hc)) (iw_E1 (iw_nk hc)) rfl (by decide) lk_X1_appendLink_18 rfl rfl dX1_appendLink_11 ?_
  refine iv_iload (pc := 14) C 0 dX1_appendLink_14 rfl ?_
  refine iv_iconst (pc := 16) C (3 : Int32) dX1_appendLink_16 (by decide) ?_
  refine iv_imul (pc := 17) C dX1_appendLink_17 ?_
  refine iv_iconst (pc := 18) C (0 : Int32) dX1_appendLink_18 (by decide) ?_
  refine iv_iadd (pc := 19) C dX1_appendLink_19 ?_
  refine iv_iload_n (pc := 20) C 2 dX1_appendLink_20 rfl rfl ?_
  refine iv_callSN (pc := 21) C [.ref (G.2.1 (c + 3)), .int ((v1 * (3 : Int32)) + (0 : Int32)), .int p1] (k_X5_put l G hJ.1 (c + 3) (iw_na3 hJ hc) ((v1 * (3 : Int32)) + (0 : Int32)) p1 σ rfl) gX1_appendLink_X5_put_n33 rfl ne_RX1_33 si_X1_appendLink_X5_put qd_X5_put ⟨rfl, rfl, Nat.le_of_ble_eq_true rfl, Nat.le_of_ble_eq_true rfl⟩ rfl rfl (Nat.le_of_ble_eq_true rfl) dX1_appendLink_21 ?_
  refine iv_topm (fun m2 em2 => ?_)
  replace h := iw_lete em2 h
  refine iv_aload_n (pc := 24) C 1 dX1_appendLink_24 rfl rfl ?_
  refine iv_getf (pc := 25) (T := TX1) (N := 7) (ci := 1) C c 2 in_X1_appendLink_1 (iw_ix hJ (iw_nl hc)) (iw_E1 (iw_nk hc)) rfl (by decide) lk_X1_appendLink_18 rfl rfl dX1_appendLink_25 ?_
  refine iv_iload (pc := 28) C 0 dX1_appendLink_28 rfl ?_
  refine iv_iconst (pc := 30) C (3 : Int32) dX1_appendLink_30 (by decide) ?_
  refine iv_imul (pc := 31) C dX1_appendLink_31 ?_
  refine iv_iconst (pc := 32) C (1 : Int32) dX1_appendLink_32 (by decide) ?_
  refine iv_iadd (pc := 33) C dX1_appendLink_33 ?_
  refine iv_iload_n (pc := 34) C 3 dX1_appendLink_34 rfl rfl ?_
  refine iv_callSN (pc := 35) C [.ref (G.2.1 (c + 3)), .int ((v1 * (3 : Int32)) + (1 : Int32)), .int p2] (k_X5_put l G hJ.1 (c + 3) (iw_na3 hJ hc) ((v1 * (3 : Int32)) + (1 : Int32)) p2 m2 rfl) gX1_appendLink_X5_put_n33 rfl ne_RX1_33 si_X1_appendLink_X5_put qd_X5_put ⟨rfl, rfl, Nat.le_of_ble_eq_true rfl, Nat.le_of_ble_eq_true rfl⟩ rfl rfl (Nat.le_of_ble_eq_true rfl) dX1_appendLink_35 ?_
  refine iv_topm (fun m3 em3 => ?_)
  replace h := iw_lete em3 h
  refine iv_aload_n (pc := 38) C 1 dX1_appendLink_38 rfl rfl ?_
  refine iv_getf (pc := 39) (T := TX1) (N := 7) (ci := 1) C c 2 in_X1_appendLink_1 (iw_ix hJ (iw_nl hc)) (iw_E1 (iw_nk hc)) rfl (by decide) lk_X1_appendLink_18 rfl rfl dX1_appendLink_39 ?_
  refine iv_iload (pc := 42) C 0 dX1_appendLink_42 rfl ?_
  refine iv_iconst (pc := 44) C (3 : Int32) dX1_appendLink_44 (by decide) ?_
  refine iv_imul (pc := 45) C dX1_appendLink_45 ?_
  refine iv_iconst (pc := 46) C (2 : Int32) dX1_appendLink_46 (by decide) ?_
  refine iv_iadd (pc := 47) C dX1_appendLink_47 ?_
  refine iv_iload_n (pc := 48) C 4 dX1_appendLink_48 rfl rfl ?_
  refine iv_callSN (pc := 49) C [.ref (G.2.1 (c + 3)), .int ((v1 * (3 : Int32)) + (2 : Int32)), .int p3] (k_X5_put l G hJ.1 (c + 3) (iw_na3 hJ hc) ((v1 * (3 : Int32)) + (2 : Int32)) p3 m3 rfl) gX1_appendLink_X5_put_n33 rfl ne_RX1_33 si_X1_appendLink_X5_put qd_X5_put ⟨rfl, rfl, Nat.le_of_ble_eq_true rfl, Nat.le_of_ble_eq_true rfl⟩ rfl rfl (Nat.le_of_ble_eq_true rfl) dX1_appendLink_49 ?_
  refine iv_topm (fun m4 em4 => ?_)
  replace h := iw_lete em4 h
  refine iv_aload_n (pc := 52) C 1 dX1_appendLink_52 rfl rfl ?_
  refine iv_getf (pc := 53) (T := TX1) (N := 7) (ci := 1) C c 0 in_X1_appendLink_1 (iw_ix hJ (iw_nl hc)) (iw_E1 (iw_nk hc)) rfl (by decide) lk_X1_appendLink_9 rfl rfl dX1_appendLink_53 ?_
  refine iv_iconst (pc := 56) C (1 : Int32) dX1_appendLink_56 (by decide) ?_
  refine iv_iload (pc := 57) C 0 dX1_appendLink_57 rfl ?_
  refine iv_iconst (pc := 59) C (1 : Int32) dX1_appendLink_59 (by decide) ?_
  refine iv_iadd (pc := 60) C dX1_appendLink_60 ?_
  refine iv_callSN (pc := 61) C [.ref (G.2.1 (c + 1)), .int (1 : Int32), .int (v1 + (1 : Int32))] (k_X5_put l G hJ.1 (c + 1) (iw_na1 hJ hc) (1 : Int32) (v1 + (1 : Int32)) m4 rfl) gX1_appendLink_X5_put_n33 rfl ne_RX1_33 si_X1_appendLink_X5_put qd_X5_put ⟨rfl, rfl, Nat.le_of_ble_eq_true rfl, Nat.le_of_ble_eq_true rfl⟩ rfl rfl (Nat.le_of_ble_eq_true rfl) dX1_appendLink_61 ?_
  refine iv_topm (fun m5 em5 => ?_)
  replace h := iw_lete em5 h
  refine iv_iload (pc := 64) C 0 dX1_appendLink_64 rfl ?_
  cases h
  exact iv_iret C hr hlk rfl rfl dX1_appendLink_66
theorem qd_X1_appendLink : yX1_appendLink.cls = RX1 ∧ yX1_appendLink.cls ≠ "java/lang/invoke/MethodHandle" ∧ yX1_appendLink.cls ≠ "java/lang/invoke/VarHandle" ∧ (parseMethodDescriptor yX1_appendLink.desc).map (fun d => d.parameters.length) = some 3 := by decide +kernel
def f_X1_removeLink (n : Nat) (c : Nat) (p1 : Int32) (σ : iw_M) : Option (Int32 × iw_M) :=
(f_X5_removePiece n (c + 3) (3 : Int32) p1 σ).bind fun m1 =>
iw_let (f_X5_increase (c + 1) (1 : Int32) (-1 : Int32) m1) fun m2 =>
some ((f_X5_at (c + 1) (1 : Int32) m2), m2)
abbrev rm_X1_removeLink : Room := { frames := 2, cells := 0, slots := 0, locals := 45 }
theorem lk_X1_removeLink_18 : Cond.fieldLink RX1 18 RX1 (TX1 2).2.1 (TX1 2).2.2.1 ∈ wsX1_removeLink := by decide +kernel
theorem si_X1_removeLink_X5_removePiece : Cond.static yX5_removePiece ∈ wsX1_removeLink ∧ Cond.initialized yX5_removePiece.cls ∈ wsX1_removeLink := by decide +kernel
theorem lk_X1_removeLink_9 : Cond.fieldLink RX1 9 RX1 (TX1 0).2.1 (TX1 0).2.2.1 ∈ wsX1_removeLink := by decide +kernel
theorem si_X1_removeLink_X5_increase : Cond.static yX5_increase ∈ wsX1_removeLink ∧ Cond.initialized yX5_increase.cls ∈ wsX1_removeLink := by decide +kernel
theorem si_X1_removeLink_X5_at : Cond.static yX5_at ∈ wsX1_removeLink ∧ Cond.initialized yX5_at.cls ∈ wsX1_removeLink := by decide +kernel
theorem in_X1_removeLink_1 : ∀ w ∈ u_ws RX1 TX1 7, w ∈ wsX1_removeLink := by decide +kernel
set_option maxHeartbeats 4000000 in
set_option maxRecDepth 100000 in
theorem k_X1_removeLink (l : Launch) (G : iw_G) (hJ : iw_JX G) (n : Nat) (c : Nat) (hc : iw_net c) (p1 : Int32) (σ : iw_M) {r : Int32} {σ' : iw_M} (h : f_X1_removeLink n c p1 σ = some (r, σ')) : iw_Ct l yX1_removeLink wsX1_removeLink rm_X1_removeLink G ([.ref (G.2.1 c), .int p1] : List Value) σ (some (.int r)) σ' := by
  refine iv_start (nL := 2) (own := RX1) (ret := (some .int)) (cc := cX1_removeLink) (by decide +kernel) rfl rfl hJ.1 (Nat.le_of_ble_eq_true rfl) ?_
  intro p e s m below meth c0 C hr hlk
  refine iv_sub (lv' := [(0, .ref (G.2.1 c)), (1, .int p1)]) [0, 1] rfl ?_
  unfold f_X1_removeLink at h
  refine iv_aload_n (pc := 0) C 0 dX1_removeLink_0 rfl rfl ?_
  refine iv_getf (pc := 1) (T := TX1) (N := 7) (ci := 1) C c 2 in_X1_removeLink_1 (iw_ix hJ (iw_nl hc)) (iw_E1 (iw_nk hc)) rfl (by decide) lk_X1_removeLink_18 rfl rfl dX1_removeLink_1 ?_
  refine iv_iconst (pc := 4) C (3 : Int32) dX1_removeLink_4 (by decide) ?_
  refine iv_iload_n (pc := 5) C 1 dX1_removeLink_5 rfl rfl ?_
  obtain ⟨m1, em1, h⟩ := iw_be h
  refine iv_callSN (pc := 6) C [.ref (G.2.1 (c + 3)), .int (3 : Int32), .int p1] (k_X5_removePiece l G hJ n (c + 3) (iw_na3 hJ hc) (3 : Int32) p1 σ em1) gX1_removeLink_X5_removePiece_n64 rfl ne_RX1_64 si_X1_removeLink_X5_removePiece qd_X5_removePiece ⟨rfl, rfl, Nat.le_of_ble_eq_true rfl, Nat.le_of_ble_eq_true rfl⟩ rfl rfl (Nat.le_of_ble_eq_true rfl) dX1_removeLink_6 ?_
  refine iv_aload_n (pc := 9) C 0 dX1_removeLink_9 rfl rfl ?_
  refine iv_getf (pc := 10) (T := TX1) (N := 7) (ci := 1) C c 0 in_X1_removeLink_1 (iw_ix hJ (iw_nl hc)) (iw_E1 (iw_nk hc)) rfl (by decide) lk_X1_removeLink_9 rfl rfl dX1_removeLink_10 ?_
  refine iv_iconst (pc := 13) C (1 : Int32) dX1_removeLink_13 (by decide) ?_
  refine iv_iconst (pc := 14) C (-1 : Int32) dX1_removeLink_14 (by decide) ?_
  refine iv_callSN (pc := 15) C [.ref (G.2.1 (c + 1)), .int (1 : Int32), .int (-1 : Int32)] (k_X5_increase l G hJ (c + 1) (iw_na1 hJ hc) (1 : Int32) (-1 : Int32) m1 rfl) gX1_removeLink_X5_increase_n55 rfl ne_RX1_55 si_X1_removeLink_X5_increase qd_X5_increase ⟨rfl, rfl, Nat.le_of_ble_eq_true rfl, Nat.le_of_ble_eq_true rfl⟩ rfl rfl (Nat.le_of_ble_eq_true rfl) dX1_removeLink_15 ?_
  refine iv_topm (fun m2 em2 => ?_)
  replace h := iw_lete em2 h
  refine iv_aload_n (pc := 18) C 0 dX1_removeLink_18 rfl rfl ?_
  refine iv_getf (pc := 19) (T := TX1) (N := 7) (ci := 1) C c 0 in_X1_removeLink_1 (iw_ix hJ (iw_nl hc)) (iw_E1 (iw_nk hc)) rfl (by decide) lk_X1_removeLink_9 rfl rfl dX1_removeLink_19 ?_
  refine iv_iconst (pc := 22) C (1 : Int32) dX1_removeLink_22 (by decide) ?_
  refine iv_callSN (pc := 23) C [.ref (G.2.1 (c + 1)), .int (1 : Int32)] (k_X5_at l G hJ.1 (c + 1) (iw_na1 hJ hc) (1 : Int32) m2 rfl) gX1_removeLink_X5_at_n51 rfl ne_RX1_51 si_X1_removeLink_X5_at qd_X5_at ⟨rfl, rfl, Nat.le_of_ble_eq_true rfl, Nat.le_of_ble_eq_true rfl⟩ rfl rfl (Nat.le_of_ble_eq_true rfl) dX1_removeLink_23 ?_
  cases h
  exact iv_iret C hr hlk rfl rfl dX1_removeLink_26
theorem qd_X1_removeLink : yX1_removeLink.cls = RX1 ∧ yX1_removeLink.cls ≠ "java/lang/invoke/MethodHandle" ∧ yX1_removeLink.cls ≠ "java/lang/invoke/VarHandle" ∧ (parseMethodDescriptor yX1_removeLink.desc).map (fun d => d.parameters.length) = some 1 := by decide +kernel
def f_X1_partOfLink (c : Nat) (p1 : Int32) (p2 : Int32) (σ : iw_M) : Int32 :=
(f_X5_at (c + 3) ((p1 * (3 : Int32)) + p2) σ)
abbrev rm_X1_partOfLink : Room := { frames := 1, cells := 0, slots := 0, locals := 21 }
theorem lk_X1_partOfLink_18 : Cond.fieldLink RX1 18 RX1 (TX1 2).2.1 (TX1 2).2.2.1 ∈ wsX1_partOfLink := by decide +kernel
theorem si_X1_partOfLink_X5_at : Cond.static yX5_at ∈ wsX1_partOfLink ∧ Cond.initialized yX5_at.cls ∈ wsX1_partOfLink := by decide +kernel
theorem in_X1_partOfLink_1 : ∀ w ∈ u_ws RX1 TX1 7, w ∈ wsX1_partOfLink := by decide +kernel
set_option maxHeartbeats 4000000 in
set_option maxRecDepth 100000 in
theorem k_X1_partOfLink (l : Launch) (G : iw_G) (hJ : iw_JX G) (c : Nat) (hc : iw_net c) (p1 : Int32) (p2 : Int32) (σ : iw_M) {r : Int32} (h : f_X1_partOfLink c p1 p2 σ = r) : iw_Ct l yX1_partOfLink wsX1_partOfLink rm_X1_partOfLink G ([.ref (G.2.1 c), .int p1, .int p2] : List Value) σ (some (.int r)) σ := by
  refine iv_start (nL := 3) (own := RX1) (ret := (some .int)) (cc := cX1_partOfLink) (by decide +kernel) rfl rfl hJ.1 (Nat.le_of_ble_eq_true rfl) ?_
  intro p e s m below meth c0 C hr hlk
  refine iv_sub (lv' := [(0, .ref (G.2.1 c)), (1, .int p1), (2, .int p2)]) [0, 1, 2] rfl ?_
  unfold f_X1_partOfLink at h
  refine iv_aload_n (pc := 0) C 0 dX1_partOfLink_0 rfl rfl ?_
  refine iv_getf (pc := 1) (T := TX1) (N := 7) (ci := 1) C c 2 in_X1_partOfLink_1 (iw_ix hJ (iw_nl hc)) (iw_E1 (iw_nk hc)) rfl (by decide) lk_X1_partOfLink_18 rfl rfl dX1_partOfLink_1 ?_
  refine iv_iload_n (pc := 4) C 1 dX1_partOfLink_4 rfl rfl ?_
  refine iv_iconst (pc := 5) C (3 : Int32) dX1_partOfLink_5 (by decide) ?_
  refine iv_imul (pc := 6) C dX1_partOfLink_6 ?_
  refine iv_iload_n (pc := 7) C 2 dX1_partOfLink_7 rfl rfl ?_
  refine iv_iadd (pc := 8) C dX1_partOfLink_8 ?_
  refine iv_callSN (pc := 9) C [.ref (G.2.1 (c + 3)), .int ((p1 * (3 : Int32)) + p2)] (k_X5_at l G hJ.1 (c + 3) (iw_na3 hJ hc) ((p1 * (3 : Int32)) + p2) σ rfl) gX1_partOfLink_X5_at_n51 rfl ne_RX1_51 si_X1_partOfLink_X5_at qd_X5_at ⟨rfl, rfl, Nat.le_of_ble_eq_true rfl, Nat.le_of_ble_eq_true rfl⟩ rfl rfl (Nat.le_of_ble_eq_true rfl) dX1_partOfLink_9 ?_
  cases h
  exact iv_iret C hr hlk rfl rfl dX1_partOfLink_12
theorem qd_X1_partOfLink : yX1_partOfLink.cls = RX1 ∧ yX1_partOfLink.cls ≠ "java/lang/invoke/MethodHandle" ∧ yX1_partOfLink.cls ≠ "java/lang/invoke/VarHandle" ∧ (parseMethodDescriptor yX1_partOfLink.desc).map (fun d => d.parameters.length) = some 2 := by decide +kernel
def f_X1_isPair_J10 (p1 : Int32) (p2 : Int32) (p3 : Int32) (p4 : Int32) : Int32 :=
if p1 = p4 then
(if p2 = p3 then
((1 : Int32))
else
((0 : Int32)))
else
((0 : Int32))
def f_X1_isPair (p1 : Int32) (p2 : Int32) (p3 : Int32) (p4 : Int32) : Int32 :=
if p1 = p3 then
(if p2 = p4 then
((1 : Int32))
else
(f_X1_isPair_J10 p1 p2 p3 p4))
else
(f_X1_isPair_J10 p1 p2 p3 p4)
abbrev rm_X1_isPair : Room := { frames := 0, cells := 0, slots := 0, locals := 0 }
set_option maxHeartbeats 4000000 in
set_option maxRecDepth 100000 in
theorem k_X1_isPair (l : Launch) (G : iw_G) (hJ : iw_JX G) (p1 : Int32) (p2 : Int32) (p3 : Int32) (p4 : Int32) (σ : iw_M) {r : Int32} (h : f_X1_isPair p1 p2 p3 p4 = r) : iw_Ct l yX1_isPair wsX1_isPair rm_X1_isPair G ([.int p1, .int p2, .int p3, .int p4] : List Value) σ (some (.int r)) σ := by
  refine iv_start (nL := 4) (own := RX1) (ret := (some .boolean)) (cc := cX1_isPair) (by decide +kernel) rfl rfl hJ.1 (Nat.le_of_ble_eq_true rfl) ?_
  intro p e s m below meth c0 C hr hlk
  refine iv_sub (lv' := [(0, .int p1), (1, .int p2), (2, .int p3), (3, .int p4)]) [0, 1, 2, 3] rfl ?_
  unfold f_X1_isPair at h
  refine iv_iload_n (pc := 0) C 0 dX1_isPair_0 rfl rfl ?_
  refine iv_iload_n (pc := 1) C 2 dX1_isPair_1 rfl rfl ?_
  have vJ10 : f_X1_isPair_J10 p1 p2 p3 p4  = r → iw_V p l e rm_X1_isPair s m ([.int p1, .int p2, .int p3, .int p4] : List Value).toArray below meth c0 0 0 (MQ below (iw_Q (some (.int r)) G σ) ([.int p1, .int p2, .int p3, .int p4] : List Value).toArray s 0 0 (iw_A G)) 4 G (iw_A G) σ 10 [(0, .int p1), (1, .int p2), (2, .int p3), (3, .int p4)] [] := by
    intro h
    unfold f_X1_isPair_J10 at h
    refine iv_iload_n (pc := 10) C 0 dX1_isPair_10 rfl rfl ?_
    refine iv_iload_n (pc := 11) C 3 dX1_isPair_11 rfl rfl ?_
    refine iv_icmp_ne (pc := 12) C 24 dX1_isPair_12 (by decide) (fun h1 => ?_) (fun h1 => ?_)
    · replace h := iw_iff h1 h
      refine iv_iconst (pc := 24) C (0 : Int32) dX1_isPair_24 (by decide) ?_
      cases h
      exact iv_zret C hr hlk rfl rfl dX1_isPair_25
    · replace h := iw_ift h1 h
      refine iv_iload_n (pc := 15) C 1 dX1_isPair_15 rfl rfl ?_
      refine iv_iload_n (pc := 16) C 2 dX1_isPair_16 rfl rfl ?_
      refine iv_icmp_ne (pc := 17) C 24 dX1_isPair_17 (by decide) (fun h2 => ?_) (fun h2 => ?_)
      · replace h := iw_iff h2 h
        refine iv_iconst (pc := 24) C (0 : Int32) dX1_isPair_24 (by decide) ?_
        cases h
        exact iv_zret C hr hlk rfl rfl dX1_isPair_25
      · replace h := iw_ift h2 h
        refine iv_iconst (pc := 20) C (1 : Int32) dX1_isPair_20 (by decide) ?_
        refine iv_goto (pc := 21) C 25 dX1_isPair_21 (by decide) ?_
        cases h
        exact iv_zret C hr hlk rfl rfl dX1_isPair_25
  refine iv_icmp_ne (pc := 2) C 10 dX1_isPair_2 (by decide) (fun h3 => ?_) (fun h3 => ?_)
  · replace h := iw_iff h3 h
    exact iv_sub [0, 1, 2, 3] rfl (vJ10 h)
  · replace h := iw_ift h3 h
    refine iv_iload_n (pc := 5) C 1 dX1_isPair_5 rfl rfl ?_
    refine iv_iload_n (pc := 6) C 3 dX1_isPair_6 rfl rfl ?_
    refine iv_icmp_eq (pc := 7) C 20 dX1_isPair_7 (by decide) (fun h4 => ?_) (fun h4 => ?_)
    · replace h := iw_ift h4 h
      refine iv_iconst (pc := 20) C (1 : Int32) dX1_isPair_20 (by decide) ?_
      refine iv_goto (pc := 21) C 25 dX1_isPair_21 (by decide) ?_
      cases h
      exact iv_zret C hr hlk rfl rfl dX1_isPair_25
    · replace h := iw_iff h4 h
      exact iv_sub [0, 1, 2, 3] rfl (vJ10 h)
theorem qd_X1_isPair : yX1_isPair.cls ≠ "java/lang/invoke/MethodHandle" ∧ yX1_isPair.cls ≠ "java/lang/invoke/VarHandle" ∧ (parseMethodDescriptor yX1_isPair.desc).map (fun d => d.parameters.length) = some 4 := by decide +kernel
def f_X1_areLinked_X42_2  : Option (Int32) :=
some (0 : Int32)
def f_X1_areLinked_B2 (c : Nat) (p1 : Int32) (p2 : Int32) (σ : iw_M) (k2 : Option (Int32)) (r2 : Int32 → Option (Int32)) (v1 : Int32) : Option (Int32) :=
if (f_X5_at (c + 1) (1 : Int32) σ) ≤ v1 then
(k2)
else
(if (f_X1_isPair (f_X1_partOfLink c v1 (0 : Int32) σ) (f_X1_partOfLink c v1 (1 : Int32) σ) p1 p2) = (0 : Int32) then
(iw_let (v1 + (1 : Int32)) fun v4 =>
r2 v4)
else
(some (1 : Int32)))
def f_X1_areLinked_L2 (c : Nat) (p1 : Int32) (p2 : Int32) (σ : iw_M) (k2 : Option (Int32)) (nn : Nat) : Int32 → Option (Int32) :=
iw_it (fun r2 => f_X1_areLinked_B2 c p1 p2 σ k2 r2) (fun _ => none) nn
def f_X1_areLinked (n : Nat) (c : Nat) (p1 : Int32) (p2 : Int32) (σ : iw_M) : Option (Int32) :=
f_X1_areLinked_L2 c p1 p2 σ (f_X1_areLinked_X42_2) n (0 : Int32)
abbrev rm_X1_areLinked : Room := { frames := 2, cells := 0, slots := 0, locals := 43 }
theorem lk_X1_areLinked_9 : Cond.fieldLink RX1 9 RX1 (TX1 0).2.1 (TX1 0).2.2.1 ∈ wsX1_areLinked := by decide +kernel
theorem si_X1_areLinked_X5_at : Cond.static yX5_at ∈ wsX1_areLinked ∧ Cond.initialized yX5_at.cls ∈ wsX1_areLinked := by decide +kernel
theorem in_X1_areLinked_1 : ∀ w ∈ u_ws RX1 TX1 7, w ∈ wsX1_areLinked := by decide +kernel
set_option maxHeartbeats 4000000 in
set_option maxRecDepth 100000 in
theorem k_X1_areLinked (l : Launch) (G : iw_G) (hJ : iw_JX G) (n : Nat) (c : Nat) (hc : iw_net c) (p1 : Int32) (p2 : Int32) (σ : iw_M) {r : Int32} (h : f_X1_areLinked n c p1 p2 σ = some r) : iw_Ct l yX1_areLinked wsX1_areLinked rm_X1_areLinked G ([.ref (G.2.1 c), .int p1, .int p2] : List Value) σ (some (.int r)) σ := by
  refine iv_start (nL := 4) (own := RX1) (ret := (some .boolean)) (cc := cX1_areLinked) (by decide +kernel) rfl rfl hJ.1 (Nat.le_of_ble_eq_true rfl) ?_
  intro p e s m below meth c0 C hr hlk
  refine iv_sub (lv' := [(0, .ref (G.2.1 c)), (1, .int p1), (2, .int p2)]) [0, 1, 2] rfl ?_
  unfold f_X1_areLinked at h
  refine iv_iconst (pc := 0) C (0 : Int32) dX1_areLinked_0 (by decide) ?_
  refine iv_istore_n (pc := 1) C [(3, .int (0 : Int32)), (0, .ref (G.2.1 c)), (1, .int p1), (2, .int p2)] dX1_areLinked_1 rfl (by decide) rfl ?_
  have vX2 : f_X1_areLinked_X42_2  = some r → iw_V p l e rm_X1_areLinked s m ([.ref (G.2.1 c), .int p1, .int p2] : List Value).toArray below meth c0 0 0 (MQ below (iw_Q (some (.int r)) G σ) ([.ref (G.2.1 c), .int p1, .int p2] : List Value).toArray s 0 0 (iw_A G)) 4 G (iw_A G) σ 42 [] [] := by
    intro h
    unfold f_X1_areLinked_X42_2 at h
    refine iv_iconst (pc := 42) C (0 : Int32) dX1_areLinked_42 (by decide) ?_
    cases h
    exact iv_zret C hr hlk rfl rfl dX1_areLinked_43
  have vB2 : ∀ (k2 : Option (Int32)) (r2 : Int32 → Option (Int32)), (k2  = some r → iw_V p l e rm_X1_areLinked s m ([.ref (G.2.1 c), .int p1, .int p2] : List Value).toArray below meth c0 0 0 (MQ below (iw_Q (some (.int r)) G σ) ([.ref (G.2.1 c), .int p1, .int p2] : List Value).toArray s 0 0 (iw_A G)) 4 G (iw_A G) σ 42 [] []) → (∀ (v1 : Int32), r2 v1 = some r → iw_V p l e rm_X1_areLinked s m ([.ref (G.2.1 c), .int p1, .int p2] : List Value).toArray below meth c0 0 0 (MQ below (iw_Q (some (.int r)) G σ) ([.ref (G.2.1 c), .int p1, .int p2] : List Value).toArray s 0 0 (iw_A G)) 4 G (iw_A G) σ 2 [(0, .ref (G.2.1 c)), (1, .int p1), (2, .int p2), (3, .int v1)] []) → ∀ (v1 : Int32), f_X1_areLinked_B2 c p1 p2 σ k2 r2 v1 = some r → iw_V p l e rm_X1_areLinked s m ([.ref (G.2.1 c), .int p1, .int p2] : List Value).toArray below meth c0 0 0 (MQ below (iw_Q (some (.int r)) G σ) ([.ref (G.2.1 c), .int p1, .int p2] : List Value).toArray s 0 0 (iw_A G)) 4 G (iw_A G) σ 2 [(0, .ref (G.2.1 c)), (1, .int p1), (2, .int p2), (3, .int v1)] [] := by
    intro k2 r2 hk2 hr2 v1 h
    unfold f_X1_areLinked_B2 at h
    refine iv_iload_n (pc := 2) C 3 dX1_areLinked_2 rfl rfl ?_
    refine iv_aload_n (pc := 3) C 0 dX1_areLinked_3 rfl rfl ?_
    refine iv_getf (pc := 4) (T := TX1) (N := 7) (ci := 1) C c 0 in_X1_areLinked_1 (iw_ix hJ (iw_nl hc)) (iw_E1 (iw_nk hc)) rfl (by decide) lk_X1_areLinked_9 rfl rfl dX1_areLinked_4 ?_
    refine iv_iconst (pc := 7) C (1 : Int32) dX1_areLinked_7 (by decide) ?_
    refine iv_callSN (pc := 8) C [.ref (G.2.1 (c + 1)), .int (1 : Int32)] (k_X5_at l G hJ.1 (c + 1) (iw_na1 hJ hc) (1 : Int32) σ rfl) gX1_areLinked_X5_at_n51 rfl ne_RX1_51 si_X1_areLinked_X5_at qd_X5_at ⟨rfl, rfl, Nat.le_of_ble_eq_true rfl, Nat.le_of_ble_eq_true rfl⟩ rfl rfl (Nat.le_of_ble_eq_true rfl) dX1_areLinked_8 ?_
    refine iv_icmp_ge (pc := 11) C 42 dX1_areLinked_11 (by decide) (fun h2 => ?_) (fun h2 => ?_)
    · replace h := iw_ift h2 h
      exact iv_sub [] rfl (hk2 h)
    · replace h := iw_iff h2 h
      refine iv_aload_n (pc := 14) C 0 dX1_areLinked_14 rfl rfl ?_
      refine iv_iload_n (pc := 15) C 3 dX1_areLinked_15 rfl rfl ?_
      refine iv_iconst (pc := 16) C (0 : Int32) dX1_areLinked_16 (by decide) ?_
      refine iv_callV (pc := 17) (b := c) (ci := 1) C [.int v1, .int (0 : Int32)] (k_X1_partOfLink l G hJ c hc v1 (0 : Int32) σ rfl) gX1_areLinked_X1_partOfLink rfl qd_X1_partOfLink ⟨rfl, rfl, Nat.le_of_ble_eq_true rfl, Nat.le_of_ble_eq_true rfl⟩ (iw_ix hJ (iw_nl hc)) (iw_E1 (iw_nk hc)) rfl rfl rfl (Nat.le_of_ble_eq_true rfl) dX1_areLinked_17 ?_
      refine iv_aload_n (pc := 20) C 0 dX1_areLinked_20 rfl rfl ?_
      refine iv_iload_n (pc := 21) C 3 dX1_areLinked_21 rfl rfl ?_
      refine iv_iconst (pc := 22) C (1 : Int32) dX1_areLinked_22 (by decide) ?_
      refine iv_callV (pc := 23) (b := c) (ci := 1) C [.int v1, .int (1 : Int32)] (k_X1_partOfLink l G hJ c hc v1 (1 : Int32) σ rfl) gX1_areLinked_X1_partOfLink rfl qd_X1_partOfLink ⟨rfl, rfl, Nat.le_of_ble_eq_true rfl, Nat.le_of_ble_eq_true rfl⟩ (iw_ix hJ (iw_nl hc)) (iw_E1 (iw_nk hc)) rfl rfl rfl (Nat.le_of_ble_eq_true rfl) dX1_areLinked_23 ?_
      refine iv_iload_n (pc := 26) C 1 dX1_areLinked_26 rfl rfl ?_
      refine iv_iload_n (pc := 27) C 2 dX1_areLinked_27 rfl rfl ?_
      refine iv_callS (pc := 28) C [.int (f_X1_partOfLink c v1 (0 : Int32) σ), .int (f_X1_partOfLink c v1 (1 : Int32) σ), .int p1, .int p2] (k_X1_isPair l G hJ (f_X1_partOfLink c v1 (0 : Int32) σ) (f_X1_partOfLink c v1 (1 : Int32) σ) p1 p2 σ rfl) gX1_areLinked_X1_isPair rfl qd_X1_isPair ⟨rfl, rfl, Nat.le_of_ble_eq_true rfl, Nat.le_of_ble_eq_true rfl⟩ rfl rfl (Nat.le_of_ble_eq_true rfl) dX1_areLinked_28 ?_
      refine iv_if_eq (pc := 31) C 36 dX1_areLinked_31 (by decide) (fun h3 => ?_) (fun h3 => ?_)
      · replace h := iw_ift h3 h
        obtain ⟨v4, ev4⟩ : ∃ y : Int32, y = v1 + (1 : Int32) := ⟨_, rfl⟩
        replace h := iw_lete ev4 h
        refine iv_iinc (pc := 36) C 3 v4 [(3, .int v4), (0, .ref (G.2.1 c)), (1, .int p1), (2, .int p2)] dX1_areLinked_36 rfl (by rw [ev4]; rfl) (by decide) rfl ?_
        refine iv_goto (pc := 39) C 2 dX1_areLinked_39 (by decide) ?_
        exact iv_sub [1, 2, 3, 0] rfl (hr2 v4 h)
      · replace h := iw_iff h3 h
        refine iv_iconst (pc := 34) C (1 : Int32) dX1_areLinked_34 (by decide) ?_
        cases h
        exact iv_zret C hr hlk rfl rfl dX1_areLinked_35
  have vL2 : ∀ (nn : Nat) (v1 : Int32), f_X1_areLinked_L2 c p1 p2 σ (f_X1_areLinked_X42_2) nn v1 = some r → iw_V p l e rm_X1_areLinked s m ([.ref (G.2.1 c), .int p1, .int p2] : List Value).toArray below meth c0 0 0 (MQ below (iw_Q (some (.int r)) G σ) ([.ref (G.2.1 c), .int p1, .int p2] : List Value).toArray s 0 0 (iw_A G)) 4 G (iw_A G) σ 2 [(0, .ref (G.2.1 c)), (1, .int p1), (2, .int p2), (3, .int v1)] [] := by
    intro nn
    induction nn with
    | zero => intro v1 h; exact absurd h (fun q => by cases q)
    | succ nn ih => intro v1 h; exact vB2 (f_X1_areLinked_X42_2) (f_X1_areLinked_L2 c p1 p2 σ (f_X1_areLinked_X42_2) nn) vX2 ih v1 h
  exact iv_sub [1, 2, 3, 0] rfl (vL2 n (0 : Int32) h)
theorem qd_X1_areLinked : yX1_areLinked.cls = RX1 ∧ yX1_areLinked.cls ≠ "java/lang/invoke/MethodHandle" ∧ yX1_areLinked.cls ≠ "java/lang/invoke/VarHandle" ∧ (parseMethodDescriptor yX1_areLinked.desc).map (fun d => d.parameters.length) = some 2 := by decide +kernel
def f_X1_appendSensor (c : Nat) (p1 : Int32) (p2 : Int32) (p3 : Int32) (σ : iw_M) : Int32 × iw_M :=
iw_let (f_X5_at (c + 1) (2 : Int32) σ) fun v1 =>
iw_let (f_X5_put (c + 4) ((v1 * (3 : Int32)) + (0 : Int32)) p1 σ) fun m2 =>
iw_let (f_X5_put (c + 4) ((v1 * (3 : Int32)) + (1 : Int32)) p2 m2) fun m3 =>
iw_let (f_X5_put (c + 4) ((v1 * (3 : Int32)) + (2 : Int32)) p3 m3) fun m4 =>
iw_let (f_X5_put (c + 1) (2 : Int32) (v1 + (1 : Int32)) m4) fun m5 =>
(v1, m5)
abbrev rm_X1_appendSensor : Room := { frames := 1, cells := 0, slots := 0, locals := 22 }
theorem lk_X1_appendSensor_9 : Cond.fieldLink RX1 9 RX1 (TX1 0).2.1 (TX1 0).2.2.1 ∈ wsX1_appendSensor := by decide +kernel
theorem si_X1_appendSensor_X5_at : Cond.static yX5_at ∈ wsX1_appendSensor ∧ Cond.initialized yX5_at.cls ∈ wsX1_appendSensor := by decide +kernel
theorem lk_X1_appendSensor_21 : Cond.fieldLink RX1 21 RX1 (TX1 3).2.1 (TX1 3).2.2.1 ∈ wsX1_appendSensor := by decide +kernel
theorem si_X1_appendSensor_X5_put : Cond.static yX5_put ∈ wsX1_appendSensor ∧ Cond.initialized yX5_put.cls ∈ wsX1_appendSensor := by decide +kernel
theorem in_X1_appendSensor_1 : ∀ w ∈ u_ws RX1 TX1 7, w ∈ wsX1_appendSensor := by decide +kernel
set_option maxHeartbeats 4000000 in
set_option maxRecDepth 100000 in
theorem k_X1_appendSensor (l : Launch) (G : iw_G) (hJ : iw_JX G) (c : Nat) (hc : iw_net c) (p1 : Int32) (p2 : Int32) (p3 : Int32) (σ : iw_M) {r : Int32} {σ' : iw_M} (h : f_X1_appendSensor c p1 p2 p3 σ = (r, σ')) : iw_Ct l yX1_appendSensor wsX1_appendSensor rm_X1_appendSensor G ([.ref (G.2.1 c), .int p1, .int p2, .int p3] : List Value) σ (some (.int r)) σ' := by
  refine iv_start (nL := 5) (own := RX1) (ret := (some .int)) (cc := cX1_appendSensor) (by decide +kernel) rfl rfl hJ.1 (Nat.le_of_ble_eq_true rfl) ?_
  intro p e s m below meth c0 C hr hlk
  refine iv_sub (lv' := [(0, .ref (G.2.1 c)), (1, .int p1), (2, .int p2), (3, .int p3)]) [0, 1, 2, 3] rfl ?_
  unfold f_X1_appendSensor at h
  refine iv_aload_n (pc := 0) C 0 dX1_appendSensor_0 rfl rfl ?_
  refine iv_getf (pc := 1) (T := TX1) (N := 7) (ci := 1) C c 0 in_X1_appendSensor_1 (iw_ix hJ (iw_nl hc)) (iw_E1 (iw_nk hc)) rfl (by decide) lk_X1_appendSensor_9 rfl rfl dX1_appendSensor_1 ?_
  refine iv_iconst (pc := 4) C (2 : Int32) dX1_appendSensor_4 (by decide) ?_
  refine iv_callSN (pc := 5) C [.ref (G.2.1 (c + 1)), .int (2 : Int32)] (k_X5_at l G hJ.1 (c + 1) (iw_na1 hJ hc) (2 : Int32) σ rfl) gX1_appendSensor_X5_at_n51 rfl ne_RX1_51 si_X1_appendSensor_X5_at qd_X5_at ⟨rfl, rfl, Nat.le_of_ble_eq_true rfl, Nat.le_of_ble_eq_true rfl⟩ rfl rfl (Nat.le_of_ble_eq_true rfl) dX1_appendSensor_5 ?_
  refine iv_topi (fun v1 ev1 => ?_)
  replace h := iw_lete ev1 h
  refine iv_istore (pc := 8) C [(4, .int v1), (0, .ref (G.2.1 c)), (1, .int p1), (2, .int p2), (3, .int p3)] dX1_appendSensor_8 (by decide) rfl ?_
  refine iv_aload_n (pc := 10) C 1 dX1_appendSensor_10 rfl rfl ?_
  refine iv_getf (pc := 11) (T := TX1) (N := 7) (ci := 1) C c 3 in_X1_appendSensor_1 (iw_ix hJ (iw_nl hc)) (iw_E1 (iw_nk hc)) rfl (by decide) lk_X1_appendSensor_21 rfl rfl dX1_appendSensor_11 ?_
  refine iv_iload (pc := 14) C 0 dX1_appendSensor_14 rfl ?_
  refine iv_iconst (pc := 16) C (3 : Int32) dX1_appendSensor_16 (by decide) ?_
  refine iv_imul (pc := 17) C dX1_appendSensor_17 ?_
  refine iv_iconst (pc := 18) C (0 : Int32) dX1_appendSensor_18 (by decide) ?_
  refine iv_iadd (pc := 19) C dX1_appendSensor_19 ?_
  refine iv_iload_n (pc := 20) C 2 dX1_appendSensor_20 rfl rfl ?_
  refine iv_callSN (pc := 21) C [.ref (G.2.1 (c + 4)), .int ((v1 * (3 : Int32)) + (0 : Int32)), .int p1] (k_X5_put l G hJ.1 (c + 4) (iw_na4 hJ hc) ((v1 * (3 : Int32)) + (0 : Int32)) p1 σ rfl) gX1_appendSensor_X5_put_n33 rfl ne_RX1_33 si_X1_appendSensor_X5_put qd_X5_put ⟨rfl, rfl, Nat.le_of_ble_eq_true rfl, Nat.le_of_ble_eq_true rfl⟩ rfl rfl (Nat.le_of_ble_eq_true rfl) dX1_appendSensor_21 ?_
  refine iv_topm (fun m2 em2 => ?_)
  replace h := iw_lete em2 h
  refine iv_aload_n (pc := 24) C 1 dX1_appendSensor_24 rfl rfl ?_
  refine iv_getf (pc := 25) (T := TX1) (N := 7) (ci := 1) C c 3 in_X1_appendSensor_1 (iw_ix hJ (iw_nl hc)) (iw_E1 (iw_nk hc)) rfl (by decide) lk_X1_appendSensor_21 rfl rfl dX1_appendSensor_25 ?_
  refine iv_iload (pc := 28) C 0 dX1_appendSensor_28 rfl ?_
  refine iv_iconst (pc := 30) C (3 : Int32) dX1_appendSensor_30 (by decide) ?_
  refine iv_imul (pc := 31) C dX1_appendSensor_31 ?_
  refine iv_iconst (pc := 32) C (1 : Int32) dX1_appendSensor_32 (by decide) ?_
  refine iv_iadd (pc := 33) C dX1_appendSensor_33 ?_
  refine iv_iload_n (pc := 34) C 3 dX1_appendSensor_34 rfl rfl ?_
  refine iv_callSN (pc := 35) C [.ref (G.2.1 (c + 4)), .int ((v1 * (3 : Int32)) + (1 : Int32)), .int p2] (k_X5_put l G hJ.1 (c + 4) (iw_na4 hJ hc) ((v1 * (3 : Int32)) + (1 : Int32)) p2 m2 rfl) gX1_appendSensor_X5_put_n33 rfl ne_RX1_33 si_X1_appendSensor_X5_put qd_X5_put ⟨rfl, rfl, Nat.le_of_ble_eq_true rfl, Nat.le_of_ble_eq_true rfl⟩ rfl rfl (Nat.le_of_ble_eq_true rfl) dX1_appendSensor_35 ?_
  refine iv_topm (fun m3 em3 => ?_)
  replace h := iw_lete em3 h
  refine iv_aload_n (pc := 38) C 1 dX1_appendSensor_38 rfl rfl ?_
  refine iv_getf (pc := 39) (T := TX1) (N := 7) (ci := 1) C c 3 in_X1_appendSensor_1 (iw_ix hJ (iw_nl hc)) (iw_E1 (iw_nk hc)) rfl (by decide) lk_X1_appendSensor_21 rfl rfl dX1_appendSensor_39 ?_
  refine iv_iload (pc := 42) C 0 dX1_appendSensor_42 rfl ?_
  refine iv_iconst (pc := 44) C (3 : Int32) dX1_appendSensor_44 (by decide) ?_
  refine iv_imul (pc := 45) C dX1_appendSensor_45 ?_
  refine iv_iconst (pc := 46) C (2 : Int32) dX1_appendSensor_46 (by decide) ?_
  refine iv_iadd (pc := 47) C dX1_appendSensor_47 ?_
  refine iv_iload_n (pc := 48) C 4 dX1_appendSensor_48 rfl rfl ?_
  refine iv_callSN (pc := 49) C [.ref (G.2.1 (c + 4)), .int ((v1 * (3 : Int32)) + (2 : Int32)), .int p3] (k_X5_put l G hJ.1 (c + 4) (iw_na4 hJ hc) ((v1 * (3 : Int32)) + (2 : Int32)) p3 m3 rfl) gX1_appendSensor_X5_put_n33 rfl ne_RX1_33 si_X1_appendSensor_X5_put qd_X5_put ⟨rfl, rfl, Nat.le_of_ble_eq_true rfl, Nat.le_of_ble_eq_true rfl⟩ rfl rfl (Nat.le_of_ble_eq_true rfl) dX1_appendSensor_49 ?_
  refine iv_topm (fun m4 em4 => ?_)
  replace h := iw_lete em4 h
  refine iv_aload_n (pc := 52) C 1 dX1_appendSensor_52 rfl rfl ?_
  refine iv_getf (pc := 53) (T := TX1) (N := 7) (ci := 1) C c 0 in_X1_appendSensor_1 (iw_ix hJ (iw_nl hc)) (iw_E1 (iw_nk hc)) rfl (by decide) lk_X1_appendSensor_9 rfl rfl dX1_appendSensor_53 ?_
  refine iv_iconst (pc := 56) C (2 : Int32) dX1_appendSensor_56 (by decide) ?_
  refine iv_iload (pc := 57) C 0 dX1_appendSensor_57 rfl ?_
  refine iv_iconst (pc := 59) C (1 : Int32) dX1_appendSensor_59 (by decide) ?_
  refine iv_iadd (pc := 60) C dX1_appendSensor_60 ?_
  refine iv_callSN (pc := 61) C [.ref (G.2.1 (c + 1)), .int (2 : Int32), .int (v1 + (1 : Int32))] (k_X5_put l G hJ.1 (c + 1) (iw_na1 hJ hc) (2 : Int32) (v1 + (1 : Int32)) m4 rfl) gX1_appendSensor_X5_put_n33 rfl ne_RX1_33 si_X1_appendSensor_X5_put qd_X5_put ⟨rfl, rfl, Nat.le_of_ble_eq_true rfl, Nat.le_of_ble_eq_true rfl⟩ rfl rfl (Nat.le_of_ble_eq_true rfl) dX1_appendSensor_61 ?_
  refine iv_topm (fun m5 em5 => ?_)
  replace h := iw_lete em5 h
  refine iv_iload (pc := 64) C 0 dX1_appendSensor_64 rfl ?_
  cases h
  exact iv_iret C hr hlk rfl rfl dX1_appendSensor_66
theorem qd_X1_appendSensor : yX1_appendSensor.cls = RX1 ∧ yX1_appendSensor.cls ≠ "java/lang/invoke/MethodHandle" ∧ yX1_appendSensor.cls ≠ "java/lang/invoke/VarHandle" ∧ (parseMethodDescriptor yX1_appendSensor.desc).map (fun d => d.parameters.length) = some 3 := by decide +kernel
def f_X1_sensorPart (c : Nat) (p1 : Int32) (p2 : Int32) (σ : iw_M) : Int32 :=
(f_X5_at (c + 4) ((p1 * (3 : Int32)) + p2) σ)
abbrev rm_X1_sensorPart : Room := { frames := 1, cells := 0, slots := 0, locals := 21 }
theorem lk_X1_sensorPart_21 : Cond.fieldLink RX1 21 RX1 (TX1 3).2.1 (TX1 3).2.2.1 ∈ wsX1_sensorPart := by decide +kernel
theorem si_X1_sensorPart_X5_at : Cond.static yX5_at ∈ wsX1_sensorPart ∧ Cond.initialized yX5_at.cls ∈ wsX1_sensorPart := by decide +kernel
theorem in_X1_sensorPart_1 : ∀ w ∈ u_ws RX1 TX1 7, w ∈ wsX1_sensorPart := by decide +kernel
set_option maxHeartbeats 4000000 in
set_option maxRecDepth 100000 in
theorem k_X1_sensorPart (l : Launch) (G : iw_G) (hJ : iw_JX G) (c : Nat) (hc : iw_net c) (p1 : Int32) (p2 : Int32) (σ : iw_M) {r : Int32} (h : f_X1_sensorPart c p1 p2 σ = r) : iw_Ct l yX1_sensorPart wsX1_sensorPart rm_X1_sensorPart G ([.ref (G.2.1 c), .int p1, .int p2] : List Value) σ (some (.int r)) σ := by
  refine iv_start (nL := 3) (own := RX1) (ret := (some .int)) (cc := cX1_sensorPart) (by decide +kernel) rfl rfl hJ.1 (Nat.le_of_ble_eq_true rfl) ?_
  intro p e s m below meth c0 C hr hlk
  refine iv_sub (lv' := [(0, .ref (G.2.1 c)), (1, .int p1), (2, .int p2)]) [0, 1, 2] rfl ?_
  unfold f_X1_sensorPart at h
  refine iv_aload_n (pc := 0) C 0 dX1_sensorPart_0 rfl rfl ?_
  refine iv_getf (pc := 1) (T := TX1) (N := 7) (ci := 1) C c 3 in_X1_sensorPart_1 (iw_ix hJ (iw_nl hc)) (iw_E1 (iw_nk hc)) rfl (by decide) lk_X1_sensorPart_21 rfl rfl dX1_sensorPart_1 ?_
  refine iv_iload_n (pc := 4) C 1 dX1_sensorPart_4 rfl rfl ?_
  refine iv_iconst (pc := 5) C (3 : Int32) dX1_sensorPart_5 (by decide) ?_
  refine iv_imul (pc := 6) C dX1_sensorPart_6 ?_
  refine iv_iload_n (pc := 7) C 2 dX1_sensorPart_7 rfl rfl ?_
  refine iv_iadd (pc := 8) C dX1_sensorPart_8 ?_
  refine iv_callSN (pc := 9) C [.ref (G.2.1 (c + 4)), .int ((p1 * (3 : Int32)) + p2)] (k_X5_at l G hJ.1 (c + 4) (iw_na4 hJ hc) ((p1 * (3 : Int32)) + p2) σ rfl) gX1_sensorPart_X5_at_n51 rfl ne_RX1_51 si_X1_sensorPart_X5_at qd_X5_at ⟨rfl, rfl, Nat.le_of_ble_eq_true rfl, Nat.le_of_ble_eq_true rfl⟩ rfl rfl (Nat.le_of_ble_eq_true rfl) dX1_sensorPart_9 ?_
  cases h
  exact iv_iret C hr hlk rfl rfl dX1_sensorPart_12
theorem qd_X1_sensorPart : yX1_sensorPart.cls = RX1 ∧ yX1_sensorPart.cls ≠ "java/lang/invoke/MethodHandle" ∧ yX1_sensorPart.cls ≠ "java/lang/invoke/VarHandle" ∧ (parseMethodDescriptor yX1_sensorPart.desc).map (fun d => d.parameters.length) = some 2 := by decide +kernel
def f_X1_setValue (c : Nat) (p1 : Int32) (p2 : Int32) (σ : iw_M) : iw_M :=
iw_let (f_X5_put (c + 4) ((p1 * (3 : Int32)) + (2 : Int32)) p2 σ) fun m1 =>
m1
abbrev rm_X1_setValue : Room := { frames := 1, cells := 0, slots := 0, locals := 22 }
theorem lk_X1_setValue_21 : Cond.fieldLink RX1 21 RX1 (TX1 3).2.1 (TX1 3).2.2.1 ∈ wsX1_setValue := by decide +kernel
theorem si_X1_setValue_X5_put : Cond.static yX5_put ∈ wsX1_setValue ∧ Cond.initialized yX5_put.cls ∈ wsX1_setValue := by decide +kernel
theorem in_X1_setValue_1 : ∀ w ∈ u_ws RX1 TX1 7, w ∈ wsX1_setValue := by decide +kernel
set_option maxHeartbeats 4000000 in
set_option maxRecDepth 100000 in
theorem k_X1_setValue (l : Launch) (G : iw_G) (hJ : iw_JX G) (c : Nat) (hc : iw_net c) (p1 : Int32) (p2 : Int32) (σ : iw_M) {σ' : iw_M} (h : f_X1_setValue c p1 p2 σ = σ') : iw_Ct l yX1_setValue wsX1_setValue rm_X1_setValue G ([.ref (G.2.1 c), .int p1, .int p2] : List Value) σ none σ' := by
  refine iv_start (nL := 3) (own := RX1) (ret := none) (cc := cX1_setValue) (by decide +kernel) rfl rfl hJ.1 (Nat.le_of_ble_eq_true rfl) ?_
  intro p e s m below meth c0 C hr hlk
  refine iv_sub (lv' := [(0, .ref (G.2.1 c)), (1, .int p1), (2, .int p2)]) [0, 1, 2] rfl ?_
  unfold f_X1_setValue at h
  refine iv_aload_n (pc := 0) C 0 dX1_setValue_0 rfl rfl ?_
  refine iv_getf (pc := 1) (T := TX1) (N := 7) (ci := 1) C c 3 in_X1_setValue_1 (iw_ix hJ (iw_nl hc)) (iw_E1 (iw_nk hc)) rfl (by decide) lk_X1_setValue_21 rfl rfl dX1_setValue_1 ?_
  refine iv_iload_n (pc := 4) C 1 dX1_setValue_4 rfl rfl ?_
  refine iv_iconst (pc := 5) C (3 : Int32) dX1_setValue_5 (by decide) ?_
  refine iv_imul (pc := 6) C dX1_setValue_6 ?_
  refine iv_iconst (pc := 7) C (2 : Int32) dX1_setValue_7 (by decide) ?_
  refine iv_iadd (pc := 8) C dX1_setValue_8 ?_
  refine iv_iload_n (pc := 9) C 2 dX1_setValue_9 rfl rfl ?_
  refine iv_callSN (pc := 10) C [.ref (G.2.1 (c + 4)), .int ((p1 * (3 : Int32)) + (2 : Int32)), .int p2] (k_X5_put l G hJ.1 (c + 4) (iw_na4 hJ hc) ((p1 * (3 : Int32)) + (2 : Int32)) p2 σ rfl) gX1_setValue_X5_put_n33 rfl ne_RX1_33 si_X1_setValue_X5_put qd_X5_put ⟨rfl, rfl, Nat.le_of_ble_eq_true rfl, Nat.le_of_ble_eq_true rfl⟩ rfl rfl (Nat.le_of_ble_eq_true rfl) dX1_setValue_10 ?_
  refine iv_topm (fun m1 em1 => ?_)
  replace h := iw_lete em1 h
  cases h
  exact iv_vret C hr hlk rfl rfl dX1_setValue_13
theorem qd_X1_setValue : yX1_setValue.cls = RX1 ∧ yX1_setValue.cls ≠ "java/lang/invoke/MethodHandle" ∧ yX1_setValue.cls ≠ "java/lang/invoke/VarHandle" ∧ (parseMethodDescriptor yX1_setValue.desc).map (fun d => d.parameters.length) = some 2 := by decide +kernel
def f_X1_appendInterest_X149_121 (c : Nat) (v1 : Int32) (m9 : iw_M) : Option (Int32 × iw_M) :=
iw_let (f_X5_put (c + 1) (3 : Int32) (v1 + (1 : Int32)) m9) fun m10 =>
some (v1, m10)
def f_X1_appendInterest_B121 (c : Nat) (v1 : Int32) (k121 : iw_M → Option (Int32 × iw_M)) (r121 : Int32 → iw_M → Option (Int32 × iw_M)) (v11 : Int32) (m12 : iw_M) : Option (Int32 × iw_M) :=
if (6 : Int32) ≤ v11 then
(k121 m12)
else
(iw_let (f_X5_put (c + 6) (f_X5_wayOf v1 v11) (0 : Int32) m12) fun m14 =>
iw_let (v11 + (1 : Int32)) fun v15 =>
r121 v15 m14)
def f_X1_appendInterest_L121 (c : Nat) (v1 : Int32) (k121 : iw_M → Option (Int32 × iw_M)) (nn : Nat) : Int32 → iw_M → Option (Int32 × iw_M) :=
iw_it (fun r121 => f_X1_appendInterest_B121 c v1 k121 r121) (fun _ _ => none) nn
def f_X1_appendInterest (n : Nat) (c : Nat) (p1 : Int32) (p2 : Int32) (p3 : Int32) (p4 : Int32) (p5 : Int32) (σ : iw_M) : Option (Int32 × iw_M) :=
iw_let (f_X5_at (c + 1) (3 : Int32) σ) fun v1 =>
iw_let (f_X5_put (c + 5) ((v1 * (7 : Int32)) + (0 : Int32)) p1 σ) fun m2 =>
iw_let (f_X5_put (c + 5) ((v1 * (7 : Int32)) + (1 : Int32)) p2 m2) fun m3 =>
iw_let (f_X5_put (c + 5) ((v1 * (7 : Int32)) + (2 : Int32)) p3 m3) fun m4 =>
iw_let (f_X5_put (c + 5) ((v1 * (7 : Int32)) + (3 : Int32)) p4 m4) fun m5 =>
iw_let (f_X5_put (c + 5) ((v1 * (7 : Int32)) + (4 : Int32)) p5 m5) fun m6 =>
iw_let (f_X5_put (c + 5) ((v1 * (7 : Int32)) + (5 : Int32)) (0 : Int32) m6) fun m7 =>
iw_let (f_X5_put (c + 5) ((v1 * (7 : Int32)) + (6 : Int32)) (0 : Int32) m7) fun m8 =>
f_X1_appendInterest_L121 c v1 (f_X1_appendInterest_X149_121 c v1) n (0 : Int32) m8
abbrev rm_X1_appendInterest : Room := { frames := 1, cells := 0, slots := 0, locals := 22 }
theorem lk_X1_appendInterest_9 : Cond.fieldLink RX1 9 RX1 (TX1 0).2.1 (TX1 0).2.2.1 ∈ wsX1_appendInterest := by decide +kernel
theorem si_X1_appendInterest_X5_at : Cond.static yX5_at ∈ wsX1_appendInterest ∧ Cond.initialized yX5_at.cls ∈ wsX1_appendInterest := by decide +kernel
theorem lk_X1_appendInterest_24 : Cond.fieldLink RX1 24 RX1 (TX1 4).2.1 (TX1 4).2.2.1 ∈ wsX1_appendInterest := by decide +kernel
theorem si_X1_appendInterest_X5_put : Cond.static yX5_put ∈ wsX1_appendInterest ∧ Cond.initialized yX5_put.cls ∈ wsX1_appendInterest := by decide +kernel
theorem lk_X1_appendInterest_27 : Cond.fieldLink RX1 27 RX1 (TX1 5).2.1 (TX1 5).2.2.1 ∈ wsX1_appendInterest := by decide +kernel
theorem si_X1_appendInterest_X5_wayOf : Cond.static yX5_wayOf ∈ wsX1_appendInterest ∧ Cond.initialized yX5_wayOf.cls ∈ wsX1_appendInterest := by decide +kernel
theorem in_X1_appendInterest_1 : ∀ w ∈ u_ws RX1 TX1 7, w ∈ wsX1_appendInterest := by decide +kernel
set_option maxHeartbeats 4000000 in
set_option maxRecDepth 100000 in
theorem k_X1_appendInterest (l : Launch) (G : iw_G) (hJ : iw_JX G) (n : Nat) (c : Nat) (hc : iw_net c) (p1 : Int32) (p2 : Int32) (p3 : Int32) (p4 : Int32) (p5 : Int32) (σ : iw_M) {r : Int32} {σ' : iw_M} (h : f_X1_appendInterest n c p1 p2 p3 p4 p5 σ = some (r, σ')) : iw_Ct l yX1_appendInterest wsX1_appendInterest rm_X1_appendInterest G ([.ref (G.2.1 c), .int p1, .int p2, .int p3, .int p4, .int p5] : List Value) σ (some (.int r)) σ' := by
  refine iv_start (nL := 8) (own := RX1) (ret := (some .int)) (cc := cX1_appendInterest) (by decide +kernel) rfl rfl hJ.1 (Nat.le_of_ble_eq_true rfl) ?_
  intro p e s m below meth c0 C hr hlk
  refine iv_sub (lv' := [(0, .ref (G.2.1 c)), (1, .int p1), (2, .int p2), (3, .int p3), (4, .int p4), (5, .int p5)]) [0, 1, 2, 3, 4, 5] rfl ?_
  unfold f_X1_appendInterest at h
  refine iv_aload_n (pc := 0) C 0 dX1_appendInterest_0 rfl rfl ?_
  refine iv_getf (pc := 1) (T := TX1) (N := 7) (ci := 1) C c 0 in_X1_appendInterest_1 (iw_ix hJ (iw_nl hc)) (iw_E1 (iw_nk hc)) rfl (by decide) lk_X1_appendInterest_9 rfl rfl dX1_appendInterest_1 ?_
  refine iv_iconst (pc := 4) C (3 : Int32) dX1_appendInterest_4 (by decide) ?_
  refine iv_callSN (pc := 5) C [.ref (G.2.1 (c + 1)), .int (3 : Int32)] (k_X5_at l G hJ.1 (c + 1) (iw_na1 hJ hc) (3 : Int32) σ rfl) gX1_appendInterest_X5_at_n51 rfl ne_RX1_51 si_X1_appendInterest_X5_at qd_X5_at ⟨rfl, rfl, Nat.le_of_ble_eq_true rfl, Nat.le_of_ble_eq_true rfl⟩ rfl rfl (Nat.le_of_ble_eq_true rfl) dX1_appendInterest_5 ?_
  refine iv_topi (fun v1 ev1 => ?_)
  replace h := iw_lete ev1 h
  refine iv_istore (pc := 8) C [(6, .int v1), (0, .ref (G.2.1 c)), (1, .int p1), (2, .int p2), (3, .int p3), (4, .int p4), (5, .int p5)] dX1_appendInterest_8 (by decide) rfl ?_
  refine iv_aload_n (pc := 10) C 1 dX1_appendInterest_10 rfl rfl ?_
  refine iv_getf (pc := 11) (T := TX1) (N := 7) (ci := 1) C c 4 in_X1_appendInterest_1 (iw_ix hJ (iw_nl hc)) (iw_E1 (iw_nk hc)) rfl (by decide) lk_X1_appendInterest_24 rfl rfl dX1_appendInterest_11 ?_
  refine iv_iload (pc := 14) C 0 dX1_appendInterest_14 rfl ?_
  refine iv_bipush (pc := 16) C (7 : Int32) dX1_appendInterest_16 (by decide) ?_
  refine iv_imul (pc := 18) C dX1_appendInterest_18 ?_
  refine iv_iconst (pc := 19) C (0 : Int32) dX1_appendInterest_19 (by decide) ?_
  refine iv_iadd (pc := 20) C dX1_appendInterest_20 ?_
  refine iv_iload_n (pc := 21) C 2 dX1_appendInterest_21 rfl rfl ?_
  refine iv_callSN (pc := 22) C [.ref (G.2.1 (c + 5)), .int ((v1 * (7 : Int32)) + (0 : Int32)), .int p1] (k_X5_put l G hJ.1 (c + 5) (iw_na5 hJ hc) ((v1 * (7 : Int32)) + (0 : Int32)) p1 σ rfl) gX1_appendInterest_X5_put_n33 rfl ne_RX1_33 si_X1_appendInterest_X5_put qd_X5_put ⟨rfl, rfl, Nat.le_of_ble_eq_true rfl, Nat.le_of_ble_eq_true rfl⟩ rfl rfl (Nat.le_of_ble_eq_true rfl) dX1_appendInterest_22 ?_
  refine iv_topm (fun m2 em2 => ?_)
  replace h := iw_lete em2 h
  refine iv_aload_n (pc := 25) C 1 dX1_appendInterest_25 rfl rfl ?_
  refine iv_getf (pc := 26) (T := TX1) (N := 7) (ci := 1) C c 4 in_X1_appendInterest_1 (iw_ix hJ (iw_nl hc)) (iw_E1 (iw_nk hc)) rfl (by decide) lk_X1_appendInterest_24 rfl rfl dX1_appendInterest_26 ?_
  refine iv_iload (pc := 29) C 0 dX1_appendInterest_29 rfl ?_
  refine iv_bipush (pc := 31) C (7 : Int32) dX1_appendInterest_31 (by decide) ?_
  refine iv_imul (pc := 33) C dX1_appendInterest_33 ?_
  refine iv_iconst (pc := 34) C (1 : Int32) dX1_appendInterest_34 (by decide) ?_
  refine iv_iadd (pc := 35) C dX1_appendInterest_35 ?_
  refine iv_iload_n (pc := 36) C 3 dX1_appendInterest_36 rfl rfl ?_
  refine iv_callSN (pc := 37) C [.ref (G.2.1 (c + 5)), .int ((v1 * (7 : Int32)) + (1 : Int32)), .int p2] (k_X5_put l G hJ.1 (c + 5) (iw_na5 hJ hc) ((v1 * (7 : Int32)) + (1 : Int32)) p2 m2 rfl) gX1_appendInterest_X5_put_n33 rfl ne_RX1_33 si_X1_appendInterest_X5_put qd_X5_put ⟨rfl, rfl, Nat.le_of_ble_eq_true rfl, Nat.le_of_ble_eq_true rfl⟩ rfl rfl (Nat.le_of_ble_eq_true rfl) dX1_appendInterest_37 ?_
  refine iv_topm (fun m3 em3 => ?_)
  replace h := iw_lete em3 h
  refine iv_aload_n (pc := 40) C 1 dX1_appendInterest_40 rfl rfl ?_
  refine iv_getf (pc := 41) (T := TX1) (N := 7) (ci := 1) C c 4 in_X1_appendInterest_1 (iw_ix hJ (iw_nl hc)) (iw_E1 (iw_nk hc)) rfl (by decide) lk_X1_appendInterest_24 rfl rfl dX1_appendInterest_41 ?_
  refine iv_iload (pc := 44) C 0 dX1_appendInterest_44 rfl ?_
  refine iv_bipush (pc := 46) C (7 : Int32) dX1_appendInterest_46 (by decide) ?_
  refine iv_imul (pc := 48) C dX1_appendInterest_48 ?_
  refine iv_iconst (pc := 49) C (2 : Int32) dX1_appendInterest_49 (by decide) ?_
  refine iv_iadd (pc := 50) C dX1_appendInterest_50 ?_
  refine iv_iload_n (pc := 51) C 4 dX1_appendInterest_51 rfl rfl ?_
  refine iv_callSN (pc := 52) C [.ref (G.2.1 (c + 5)), .int ((v1 * (7 : Int32)) + (2 : Int32)), .int p3] (k_X5_put l G hJ.1 (c + 5) (iw_na5 hJ hc) ((v1 * (7 : Int32)) + (2 : Int32)) p3 m3 rfl) gX1_appendInterest_X5_put_n33 rfl ne_RX1_33 si_X1_appendInterest_X5_put qd_X5_put ⟨rfl, rfl, Nat.le_of_ble_eq_true rfl, Nat.le_of_ble_eq_true rfl⟩ rfl rfl (Nat.le_of_ble_eq_true rfl) dX1_appendInterest_52 ?_
  refine iv_topm (fun m4 em4 => ?_)
  replace h := iw_lete em4 h
  refine iv_aload_n (pc := 55) C 1 dX1_appendInterest_55 rfl rfl ?_
  refine iv_getf (pc := 56) (T := TX1) (N := 7) (ci := 1) C c 4 in_X1_appendInterest_1 (iw_ix hJ (iw_nl hc)) (iw_E1 (iw_nk hc)) rfl (by decide) lk_X1_appendInterest_24 rfl rfl dX1_appendInterest_56 ?_
  refine iv_iload (pc := 59) C 0 dX1_appendInterest_59 rfl ?_
  refine iv_bipush (pc := 61) C (7 : Int32) dX1_appendInterest_61 (by decide) ?_
  refine iv_imul (pc := 63) C dX1_appendInterest_63 ?_
  refine iv_iconst (pc := 64) C (3 : Int32) dX1_appendInterest_64 (by decide) ?_
  refine iv_iadd (pc := 65) C dX1_appendInterest_65 ?_
  refine iv_iload (pc := 66) C 5 dX1_appendInterest_66 rfl ?_
  refine iv_callSN (pc := 68) C [.ref (G.2.1 (c + 5)), .int ((v1 * (7 : Int32)) + (3 : Int32)), .int p4] (k_X5_put l G hJ.1 (c + 5) (iw_na5 hJ hc) ((v1 * (7 : Int32)) + (3 : Int32)) p4 m4 rfl) gX1_appendInterest_X5_put_n33 rfl ne_RX1_33 si_X1_appendInterest_X5_put qd_X5_put ⟨rfl, rfl, Nat.le_of_ble_eq_true rfl, Nat.le_of_ble_eq_true rfl⟩ rfl rfl (Nat.le_of_ble_eq_true rfl) dX1_appendInterest_68 ?_
  refine iv_topm (fun m5 em5 => ?_)
  replace h := iw_lete em5 h
  refine iv_aload_n (pc := 71) C 1 dX1_appendInterest_71 rfl rfl ?_
  refine iv_getf (pc := 72) (T := TX1) (N := 7) (ci := 1) C c 4 in_X1_appendInterest_1 (iw_ix hJ (iw_nl hc)) (iw_E1 (iw_nk hc)) rfl (by decide) lk_X1_appendInterest_24 rfl rfl dX1_appendInterest_72 ?_
  refine iv_iload (pc := 75) C 0 dX1_appendInterest_75 rfl ?_
  refine iv_bipush (pc := 77) C (7 : Int32) dX1_appendInterest_77 (by decide) ?_
  refine iv_imul (pc := 79) C dX1_appendInterest_79 ?_
  refine iv_iconst (pc := 80) C (4 : Int32) dX1_appendInterest_80 (by decide) ?_
  refine iv_iadd (pc := 81) C dX1_appendInterest_81 ?_
  refine iv_iload (pc := 82) C 6 dX1_appendInterest_82 rfl ?_
  refine iv_callSN (pc := 84) C [.ref (G.2.1 (c + 5)), .int ((v1 * (7 : Int32)) + (4 : Int32)), .int p5] (k_X5_put l G hJ.1 (c + 5) (iw_na5 hJ hc) ((v1 * (7 : Int32)) + (4 : Int32)) p5 m5 rfl) gX1_appendInterest_X5_put_n33 rfl ne_RX1_33 si_X1_appendInterest_X5_put qd_X5_put ⟨rfl, rfl, Nat.le_of_ble_eq_true rfl, Nat.le_of_ble_eq_true rfl⟩ rfl rfl (Nat.le_of_ble_eq_true rfl) dX1_appendInterest_84 ?_
  refine iv_topm (fun m6 em6 => ?_)
  replace h := iw_lete em6 h
  refine iv_aload_n (pc := 87) C 1 dX1_appendInterest_87 rfl rfl ?_
  refine iv_getf (pc := 88) (T := TX1) (N := 7) (ci := 1) C c 4 in_X1_appendInterest_1 (iw_ix hJ (iw_nl hc)) (iw_E1 (iw_nk hc)) rfl (by decide) lk_X1_appendInterest_24 rfl rfl dX1_appendInterest_88 ?_
  refine iv_iload (pc := 91) C 0 dX1_appendInterest_91 rfl ?_
  refine iv_bipush (pc := 93) C (7 : Int32) dX1_appendInterest_93 (by decide) ?_
  refine iv_imul (pc := 95) C dX1_appendInterest_95 ?_
  refine iv_iconst (pc := 96) C (5 : Int32) dX1_appendInterest_96 (by decide) ?_
  refine iv_iadd (pc := 97) C dX1_appendInterest_97 ?_
  refine iv_iconst (pc := 98) C (0 : Int32) dX1_appendInterest_98 (by decide) ?_
  refine iv_callSN (pc := 99) C [.ref (G.2.1 (c + 5)), .int ((v1 * (7 : Int32)) + (5 : Int32)), .int (0 : Int32)] (k_X5_put l G hJ.1 (c + 5) (iw_na5 hJ hc) ((v1 * (7 : Int32)) + (5 : Int32)) (0 : Int32) m6 rfl) gX1_appendInterest_X5_put_n33 rfl ne_RX1_33 si_X1_appendInterest_X5_put qd_X5_put ⟨rfl, rfl, Nat.le_of_ble_eq_true rfl, Nat.le_of_ble_eq_true rfl⟩ rfl rfl (Nat.le_of_ble_eq_true rfl) dX1_appendInterest_99 ?_
  refine iv_topm (fun m7 em7 => ?_)
  replace h := iw_lete em7 h
  refine iv_aload_n (pc := 102) C 1 dX1_appendInterest_102 rfl rfl ?_
  refine iv_getf (pc := 103) (T := TX1) (N := 7) (ci := 1) C c 4 in_X1_appendInterest_1 (iw_ix hJ (iw_nl hc)) (iw_E1 (iw_nk hc)) rfl (by decide) lk_X1_appendInterest_24 rfl rfl dX1_appendInterest_103 ?_
  refine iv_iload (pc := 106) C 0 dX1_appendInterest_106 rfl ?_
  refine iv_bipush (pc := 108) C (7 : Int32) dX1_appendInterest_108 (by decide) ?_
  refine iv_imul (pc := 110) C dX1_appendInterest_110 ?_
  refine iv_bipush (pc := 111) C (6 : Int32) dX1_appendInterest_111 (by decide) ?_
  refine iv_iadd (pc := 113) C dX1_appendInterest_113 ?_
  refine iv_iconst (pc := 114) C (0 : Int32) dX1_appendInterest_114 (by decide) ?_
  refine iv_callSN (pc := 115) C [.ref (G.2.1 (c + 5)), .int ((v1 * (7 : Int32)) + (6 : Int32)), .int (0 : Int32)] (k_X5_put l G hJ.1 (c + 5) (iw_na5 hJ hc) ((v1 * (7 : Int32)) + (6 : Int32)) (0 : Int32) m7 rfl) gX1_appendInterest_X5_put_n33 rfl ne_RX1_33 si_X1_appendInterest_X5_put qd_X5_put ⟨rfl, rfl, Nat.le_of_ble_eq_true rfl, Nat.le_of_ble_eq_true rfl⟩ rfl rfl (Nat.le_of_ble_eq_true rfl) dX1_appendInterest_115 ?_
  refine iv_topm (fun m8 em8 => ?_)
  replace h := iw_lete em8 h
  refine iv_iconst (pc := 118) C (0 : Int32) dX1_appendInterest_118 (by decide) ?_
  refine iv_istore (pc := 119) C [(7, .int (0 : Int32)), (6, .int v1), (0, .ref (G.2.1 c)), (1, .int p1), (2, .int p2), (3, .int p3), (4, .int p4), (5, .int p5)] dX1_appendInterest_119 (by decide) rfl ?_
  have vX121 : ∀ (m9 : iw_M), f_X1_appendInterest_X149_121 c v1 m9 = some (r, σ') → iw_V p l e rm_X1_appendInterest s m ([.ref (G.2.1 c), .int p1, .int p2, .int p3, .int p4, .int p5] : List Value).toArray below meth c0 0 0 (MQ below (iw_Q (some (.int r)) G σ') ([.ref (G.2.1 c), .int p1, .int p2, .int p3, .int p4, .int p5] : List Value).toArray s 0 0 (iw_A G)) 8 G (iw_A G) m9 149 [(0, .ref (G.2.1 c)), (6, .int v1)] [] := by
    intro m9 h
    unfold f_X1_appendInterest_X149_121 at h
    refine iv_aload_n (pc := 149) C 0 dX1_appendInterest_149 rfl rfl ?_
    refine iv_getf (pc := 150) (T := TX1) (N := 7) (ci := 1) C c 0 in_X1_appendInterest_1 (iw_ix hJ (iw_nl hc)) (iw_E1 (iw_nk hc)) rfl (by decide) lk_X1_appendInterest_9 rfl rfl dX1_appendInterest_150 ?_
    refine iv_iconst (pc := 153) C (3 : Int32) dX1_appendInterest_153 (by decide) ?_
    refine iv_iload (pc := 154) C 1 dX1_appendInterest_154 rfl ?_
    refine iv_iconst (pc := 156) C (1 : Int32) dX1_appendInterest_156 (by decide) ?_
    refine iv_iadd (pc := 157) C dX1_appendInterest_157 ?_
    refine iv_callSN (pc := 158) C [.ref (G.2.1 (c + 1)), .int (3 : Int32), .int (v1 + (1 : Int32))] (k_X5_put l G hJ.1 (c + 1) (iw_na1 hJ hc) (3 : Int32) (v1 + (1 : Int32)) m9 rfl) gX1_appendInterest_X5_put_n33 rfl ne_RX1_33 si_X1_appendInterest_X5_put qd_X5_put ⟨rfl, rfl, Nat.le_of_ble_eq_true rfl, Nat.le_of_ble_eq_true rfl⟩ rfl rfl (Nat.le_of_ble_eq_true rfl) dX1_appendInterest_158 ?_
    refine iv_topm (fun m10 em10 => ?_)
    replace h := iw_lete em10 h
    refine iv_iload (pc := 161) C 1 dX1_appendInterest_161 rfl ?_
    cases h
    exact iv_iret C hr hlk rfl rfl dX1_appendInterest_163
  have vB121 : ∀ (k121 : iw_M → Option (Int32 × iw_M)) (r121 : Int32 → iw_M → Option (Int32 × iw_M)), (∀ (m9 : iw_M), k121 m9 = some (r, σ') → iw_V p l e rm_X1_appendInterest s m ([.ref (G.2.1 c), .int p1, .int p2, .int p3, .int p4, .int p5] : List Value).toArray below meth c0 0 0 (MQ below (iw_Q (some (.int r)) G σ') ([.ref (G.2.1 c), .int p1, .int p2, .int p3, .int p4, .int p5] : List Value).toArray s 0 0 (iw_A G)) 8 G (iw_A G) m9 149 [(0, .ref (G.2.1 c)), (6, .int v1)] []) → (∀ (v11 : Int32) (m12 : iw_M), r121 v11 m12 = some (r, σ') → iw_V p l e rm_X1_appendInterest s m ([.ref (G.2.1 c), .int p1, .int p2, .int p3, .int p4, .int p5] : List Value).toArray below meth c0 0 0 (MQ below (iw_Q (some (.int r)) G σ') ([.ref (G.2.1 c), .int p1, .int p2, .int p3, .int p4, .int p5] : List Value).toArray s 0 0 (iw_A G)) 8 G (iw_A G) m12 121 [(0, .ref (G.2.1 c)), (6, .int v1), (7, .int v11)] []) → ∀ (v11 : Int32) (m12 : iw_M), f_X1_appendInterest_B121 c v1 k121 r121 v11 m12 = some (r, σ') → iw_V p l e rm_X1_appendInterest s m ([.ref (G.2.1 c), .int p1, .int p2, .int p3, .int p4, .int p5] : List Value).toArray below meth c0 0 0 (MQ below (iw_Q (some (.int r)) G σ') ([.ref (G.2.1 c), .int p1, .int p2, .int p3, .int p4, .int p5] : List Value).toArray s 0 0 (iw_A G)) 8 G (iw_A G) m12 121 [(0, .ref (G.2.1 c)), (6, .int v1), (7, .int v11)] [] := by
    intro k121 r121 hk121 hr121 v11 m12 h
    unfold f_X1_appendInterest_B121 at h
    refine iv_iload (pc := 121) C 2 dX1_appendInterest_121 rfl ?_
    refine iv_bipush (pc := 123) C (6 : Int32) dX1_appendInterest_123 (by decide) ?_
    refine iv_icmp_ge (pc := 125) C 149 dX1_appendInterest_125 (by decide) (fun h13 => ?_) (fun h13 => ?_)
    · replace h := iw_ift h13 h
      exact iv_sub [0, 1] rfl (hk121 m12 h)
    · replace h := iw_iff h13 h
      refine iv_aload_n (pc := 128) C 0 dX1_appendInterest_128 rfl rfl ?_
      refine iv_getf (pc := 129) (T := TX1) (N := 7) (ci := 1) C c 5 in_X1_appendInterest_1 (iw_ix hJ (iw_nl hc)) (iw_E1 (iw_nk hc)) rfl (by decide) lk_X1_appendInterest_27 rfl rfl dX1_appendInterest_129 ?_
      refine iv_iload (pc := 132) C 1 dX1_appendInterest_132 rfl ?_
      refine iv_iload (pc := 134) C 2 dX1_appendInterest_134 rfl ?_
      refine iv_callSN (pc := 136) C [.int v1, .int v11] (k_X5_wayOf l G hJ v1 v11 m12 rfl) gX1_appendInterest_X5_wayOf_n74 rfl ne_RX1_74 si_X1_appendInterest_X5_wayOf qd_X5_wayOf ⟨rfl, rfl, Nat.le_of_ble_eq_true rfl, Nat.le_of_ble_eq_true rfl⟩ rfl rfl (Nat.le_of_ble_eq_true rfl) dX1_appendInterest_136 ?_
      refine iv_iconst (pc := 139) C (0 : Int32) dX1_appendInterest_139 (by decide) ?_
      refine iv_callSN (pc := 140) C [.ref (G.2.1 (c + 6)), .int (f_X5_wayOf v1 v11), .int (0 : Int32)] (k_X5_put l G hJ.1 (c + 6) (iw_na6 hJ hc) (f_X5_wayOf v1 v11) (0 : Int32) m12 rfl) gX1_appendInterest_X5_put_n33 rfl ne_RX1_33 si_X1_appendInterest_X5_put qd_X5_put ⟨rfl, rfl, Nat.le_of_ble_eq_true rfl, Nat.le_of_ble_eq_true rfl⟩ rfl rfl (Nat.le_of_ble_eq_true rfl) dX1_appendInterest_140 ?_
      refine iv_topm (fun m14 em14 => ?_)
      replace h := iw_lete em14 h
      obtain ⟨v15, ev15⟩ : ∃ y : Int32, y = v11 + (1 : Int32) := ⟨_, rfl⟩
      replace h := iw_lete ev15 h
      refine iv_iinc (pc := 143) C 2 v15 [(7, .int v15), (0, .ref (G.2.1 c)), (6, .int v1)] dX1_appendInterest_143 rfl (by rw [ev15]; rfl) (by decide) rfl ?_
      refine iv_goto (pc := 146) C 121 dX1_appendInterest_146 (by decide) ?_
      exact iv_sub [1, 2, 0] rfl (hr121 v15 m14 h)
  have vL121 : ∀ (nn : Nat) (v11 : Int32) (m12 : iw_M), f_X1_appendInterest_L121 c v1 (f_X1_appendInterest_X149_121 c v1) nn v11 m12 = some (r, σ') → iw_V p l e rm_X1_appendInterest s m ([.ref (G.2.1 c), .int p1, .int p2, .int p3, .int p4, .int p5] : List Value).toArray below meth c0 0 0 (MQ below (iw_Q (some (.int r)) G σ') ([.ref (G.2.1 c), .int p1, .int p2, .int p3, .int p4, .int p5] : List Value).toArray s 0 0 (iw_A G)) 8 G (iw_A G) m12 121 [(0, .ref (G.2.1 c)), (6, .int v1), (7, .int v11)] [] := by
    intro nn
    induction nn with
    | zero => intro v11 m12 h; exact absurd h (fun q => by cases q)
    | succ nn ih => intro v11 m12 h; exact vB121 (f_X1_appendInterest_X149_121 c v1) (f_X1_appendInterest_L121 c v1 (f_X1_appendInterest_X149_121 c v1) nn) vX121 ih v11 m12 h
  exact iv_sub [2, 1, 0] rfl (vL121 n (0 : Int32) m8 h)
theorem qd_X1_appendInterest : yX1_appendInterest.cls = RX1 ∧ yX1_appendInterest.cls ≠ "java/lang/invoke/MethodHandle" ∧ yX1_appendInterest.cls ≠ "java/lang/invoke/VarHandle" ∧ (parseMethodDescriptor yX1_appendInterest.desc).map (fun d => d.parameters.length) = some 5 := by decide +kernel
def f_X1_removeInterest (n : Nat) (c : Nat) (p1 : Int32) (σ : iw_M) : Option (iw_M) :=
(f_X5_removePiece n (c + 5) (7 : Int32) p1 σ).bind fun m1 =>
(f_X5_removePiece n (c + 6) (6 : Int32) p1 m1).bind fun m2 =>
(f_X5_removePiece n (c + 7) (60 : Int32) p1 m2).bind fun m3 =>
iw_let (f_X5_increase (c + 1) (3 : Int32) (-1 : Int32) m3) fun m4 =>
some m4
abbrev rm_X1_removeInterest : Room := { frames := 2, cells := 0, slots := 0, locals := 45 }
theorem lk_X1_removeInterest_24 : Cond.fieldLink RX1 24 RX1 (TX1 4).2.1 (TX1 4).2.2.1 ∈ wsX1_removeInterest := by decide +kernel
theorem si_X1_removeInterest_X5_removePiece : Cond.static yX5_removePiece ∈ wsX1_removeInterest ∧ Cond.initialized yX5_removePiece.cls ∈ wsX1_removeInterest := by decide +kernel
theorem lk_X1_removeInterest_27 : Cond.fieldLink RX1 27 RX1 (TX1 5).2.1 (TX1 5).2.2.1 ∈ wsX1_removeInterest := by decide +kernel
theorem lk_X1_removeInterest_30 : Cond.fieldLink RX1 30 RX1 (TX1 6).2.1 (TX1 6).2.2.1 ∈ wsX1_removeInterest := by decide +kernel
theorem lk_X1_removeInterest_9 : Cond.fieldLink RX1 9 RX1 (TX1 0).2.1 (TX1 0).2.2.1 ∈ wsX1_removeInterest := by decide +kernel
theorem si_X1_removeInterest_X5_increase : Cond.static yX5_increase ∈ wsX1_removeInterest ∧ Cond.initialized yX5_increase.cls ∈ wsX1_removeInterest := by decide +kernel
theorem in_X1_removeInterest_1 : ∀ w ∈ u_ws RX1 TX1 7, w ∈ wsX1_removeInterest := by decide +kernel
set_option maxHeartbeats 4000000 in
set_option maxRecDepth 100000 in
theorem k_X1_removeInterest (l : Launch) (G : iw_G) (hJ : iw_JX G) (n : Nat) (c : Nat) (hc : iw_net c) (p1 : Int32) (σ : iw_M) {σ' : iw_M} (h : f_X1_removeInterest n c p1 σ = some σ') : iw_Ct l yX1_removeInterest wsX1_removeInterest rm_X1_removeInterest G ([.ref (G.2.1 c), .int p1] : List Value) σ none σ' := by
  refine iv_start (nL := 2) (own := RX1) (ret := none) (cc := cX1_removeInterest) (by decide +kernel) rfl rfl hJ.1 (Nat.le_of_ble_eq_true rfl) ?_
  intro p e s m below meth c0 C hr hlk
  refine iv_sub (lv' := [(0, .ref (G.2.1 c)), (1, .int p1)]) [0, 1] rfl ?_
  unfold f_X1_removeInterest at h
  refine iv_aload_n (pc := 0) C 0 dX1_removeInterest_0 rfl rfl ?_
  refine iv_getf (pc := 1) (T := TX1) (N := 7) (ci := 1) C c 4 in_X1_removeInterest_1 (iw_ix hJ (iw_nl hc)) (iw_E1 (iw_nk hc)) rfl (by decide) lk_X1_removeInterest_24 rfl rfl dX1_removeInterest_1 ?_
  refine iv_bipush (pc := 4) C (7 : Int32) dX1_removeInterest_4 (by decide) ?_
  refine iv_iload_n (pc := 6) C 1 dX1_removeInterest_6 rfl rfl ?_
  obtain ⟨m1, em1, h⟩ := iw_be h
  refine iv_callSN (pc := 7) C [.ref (G.2.1 (c + 5)), .int (7 : Int32), .int p1] (k_X5_removePiece l G hJ n (c + 5) (iw_na5 hJ hc) (7 : Int32) p1 σ em1) gX1_removeInterest_X5_removePiece_n64 rfl ne_RX1_64 si_X1_removeInterest_X5_removePiece qd_X5_removePiece ⟨rfl, rfl, Nat.le_of_ble_eq_true rfl, Nat.le_of_ble_eq_true rfl⟩ rfl rfl (Nat.le_of_ble_eq_true rfl) dX1_removeInterest_7 ?_
  refine iv_aload_n (pc := 10) C 0 dX1_removeInterest_10 rfl rfl ?_
  refine iv_getf (pc := 11) (T := TX1) (N := 7) (ci := 1) C c 5 in_X1_removeInterest_1 (iw_ix hJ (iw_nl hc)) (iw_E1 (iw_nk hc)) rfl (by decide) lk_X1_removeInterest_27 rfl rfl dX1_removeInterest_11 ?_
  refine iv_bipush (pc := 14) C (6 : Int32) dX1_removeInterest_14 (by decide) ?_
  refine iv_iload_n (pc := 16) C 1 dX1_removeInterest_16 rfl rfl ?_
  obtain ⟨m2, em2, h⟩ := iw_be h
  refine iv_callSN (pc := 17) C [.ref (G.2.1 (c + 6)), .int (6 : Int32), .int p1] (k_X5_removePiece l G hJ n (c + 6) (iw_na6 hJ hc) (6 : Int32) p1 m1 em2) gX1_removeInterest_X5_removePiece_n64 rfl ne_RX1_64 si_X1_removeInterest_X5_removePiece qd_X5_removePiece ⟨rfl, rfl, Nat.le_of_ble_eq_true rfl, Nat.le_of_ble_eq_true rfl⟩ rfl rfl (Nat.le_of_ble_eq_true rfl) dX1_removeInterest_17 ?_
  refine iv_aload_n (pc := 20) C 0 dX1_removeInterest_20 rfl rfl ?_
  refine iv_getf (pc := 21) (T := TX1) (N := 7) (ci := 1) C c 6 in_X1_removeInterest_1 (iw_ix hJ (iw_nl hc)) (iw_E1 (iw_nk hc)) rfl (by decide) lk_X1_removeInterest_30 rfl rfl dX1_removeInterest_21 ?_
  refine iv_bipush (pc := 24) C (60 : Int32) dX1_removeInterest_24 (by decide) ?_
  refine iv_iload_n (pc := 26) C 1 dX1_removeInterest_26 rfl rfl ?_
  obtain ⟨m3, em3, h⟩ := iw_be h
  refine iv_callSN (pc := 27) C [.ref (G.2.1 (c + 7)), .int (60 : Int32), .int p1] (k_X5_removePiece l G hJ n (c + 7) (iw_na7 hJ hc) (60 : Int32) p1 m2 em3) gX1_removeInterest_X5_removePiece_n64 rfl ne_RX1_64 si_X1_removeInterest_X5_removePiece qd_X5_removePiece ⟨rfl, rfl, Nat.le_of_ble_eq_true rfl, Nat.le_of_ble_eq_true rfl⟩ rfl rfl (Nat.le_of_ble_eq_true rfl) dX1_removeInterest_27 ?_
  refine iv_aload_n (pc := 30) C 0 dX1_removeInterest_30 rfl rfl ?_
  refine iv_getf (pc := 31) (T := TX1) (N := 7) (ci := 1) C c 0 in_X1_removeInterest_1 (iw_ix hJ (iw_nl hc)) (iw_E1 (iw_nk hc)) rfl (by decide) lk_X1_removeInterest_9 rfl rfl dX1_removeInterest_31 ?_
  refine iv_iconst (pc := 34) C (3 : Int32) dX1_removeInterest_34 (by decide) ?_
  refine iv_iconst (pc := 35) C (-1 : Int32) dX1_removeInterest_35 (by decide) ?_
  refine iv_callSN (pc := 36) C [.ref (G.2.1 (c + 1)), .int (3 : Int32), .int (-1 : Int32)] (k_X5_increase l G hJ (c + 1) (iw_na1 hJ hc) (3 : Int32) (-1 : Int32) m3 rfl) gX1_removeInterest_X5_increase_n55 rfl ne_RX1_55 si_X1_removeInterest_X5_increase qd_X5_increase ⟨rfl, rfl, Nat.le_of_ble_eq_true rfl, Nat.le_of_ble_eq_true rfl⟩ rfl rfl (Nat.le_of_ble_eq_true rfl) dX1_removeInterest_36 ?_
  refine iv_topm (fun m4 em4 => ?_)
  replace h := iw_lete em4 h
  cases h
  exact iv_vret C hr hlk rfl rfl dX1_removeInterest_39
theorem qd_X1_removeInterest : yX1_removeInterest.cls = RX1 ∧ yX1_removeInterest.cls ≠ "java/lang/invoke/MethodHandle" ∧ yX1_removeInterest.cls ≠ "java/lang/invoke/VarHandle" ∧ (parseMethodDescriptor yX1_removeInterest.desc).map (fun d => d.parameters.length) = some 1 := by decide +kernel
def f_X1_waysOf_X40_4 (v1 : Int32) : Option (Int32) :=
some v1
def f_X1_waysOf_J34 (r4 : Int32 → Int32 → Option (Int32)) (v3 : Int32) (v5 : Int32) : Option (Int32) :=
iw_let (v3 + (1 : Int32)) fun v6 =>
r4 v5 v6
def f_X1_waysOf_B4 (c : Nat) (p1 : Int32) (σ : iw_M) (k4 : Int32 → Option (Int32)) (r4 : Int32 → Int32 → Option (Int32)) (v2 : Int32) (v3 : Int32) : Option (Int32) :=
if (f_X5_at (c + 1) (2 : Int32) σ) ≤ v3 then
(k4 v2)
else
(if (f_X5_at (c + 6) (f_X5_wayOf p1 v3) σ) ≤ (0 : Int32) then
(f_X1_waysOf_J34 r4 v3 v2)
else
(iw_let (v2 + (1 : Int32)) fun v8 =>
f_X1_waysOf_J34 r4 v3 v8))
def f_X1_waysOf_L4 (c : Nat) (p1 : Int32) (σ : iw_M) (k4 : Int32 → Option (Int32)) (nn : Nat) : Int32 → Int32 → Option (Int32) :=
iw_it (fun r4 => f_X1_waysOf_B4 c p1 σ k4 r4) (fun _ _ => none) nn
def f_X1_waysOf (n : Nat) (c : Nat) (p1 : Int32) (σ : iw_M) : Option (Int32) :=
f_X1_waysOf_L4 c p1 σ (f_X1_waysOf_X40_4) n (0 : Int32) (0 : Int32)
abbrev rm_X1_waysOf : Room := { frames := 1, cells := 0, slots := 0, locals := 21 }
theorem lk_X1_waysOf_9 : Cond.fieldLink RX1 9 RX1 (TX1 0).2.1 (TX1 0).2.2.1 ∈ wsX1_waysOf := by decide +kernel
theorem si_X1_waysOf_X5_at : Cond.static yX5_at ∈ wsX1_waysOf ∧ Cond.initialized yX5_at.cls ∈ wsX1_waysOf := by decide +kernel
theorem lk_X1_waysOf_27 : Cond.fieldLink RX1 27 RX1 (TX1 5).2.1 (TX1 5).2.2.1 ∈ wsX1_waysOf := by decide +kernel
theorem si_X1_waysOf_X5_wayOf : Cond.static yX5_wayOf ∈ wsX1_waysOf ∧ Cond.initialized yX5_wayOf.cls ∈ wsX1_waysOf := by decide +kernel
theorem in_X1_waysOf_1 : ∀ w ∈ u_ws RX1 TX1 7, w ∈ wsX1_waysOf := by decide +kernel
set_option maxHeartbeats 4000000 in
set_option maxRecDepth 100000 in
theorem k_X1_waysOf (l : Launch) (G : iw_G) (hJ : iw_JX G) (n : Nat) (c : Nat) (hc : iw_net c) (p1 : Int32) (σ : iw_M) {r : Int32} (h : f_X1_waysOf n c p1 σ = some r) : iw_Ct l yX1_waysOf wsX1_waysOf rm_X1_waysOf G ([.ref (G.2.1 c), .int p1] : List Value) σ (some (.int r)) σ := by
  refine iv_start (nL := 4) (own := RX1) (ret := (some .int)) (cc := cX1_waysOf) (by decide +kernel) rfl rfl hJ.1 (Nat.le_of_ble_eq_true rfl) ?_
  intro p e s m below meth c0 C hr hlk
  refine iv_sub (lv' := [(0, .ref (G.2.1 c)), (1, .int p1)]) [0, 1] rfl ?_
  unfold f_X1_waysOf at h
  refine iv_iconst (pc := 0) C (0 : Int32) dX1_waysOf_0 (by decide) ?_
  refine iv_istore_n (pc := 1) C [(2, .int (0 : Int32)), (0, .ref (G.2.1 c)), (1, .int p1)] dX1_waysOf_1 rfl (by decide) rfl ?_
  refine iv_iconst (pc := 2) C (0 : Int32) dX1_waysOf_2 (by decide) ?_
  refine iv_istore_n (pc := 3) C [(3, .int (0 : Int32)), (2, .int (0 : Int32)), (0, .ref (G.2.1 c)), (1, .int p1)] dX1_waysOf_3 rfl (by decide) rfl ?_
  have vX4 : ∀ (v1 : Int32), f_X1_waysOf_X40_4 v1 = some r → iw_V p l e rm_X1_waysOf s m ([.ref (G.2.1 c), .int p1] : List Value).toArray below meth c0 0 0 (MQ below (iw_Q (some (.int r)) G σ) ([.ref (G.2.1 c), .int p1] : List Value).toArray s 0 0 (iw_A G)) 4 G (iw_A G) σ 40 [(2, .int v1)] [] := by
    intro v1 h
    unfold f_X1_waysOf_X40_4 at h
    refine iv_iload_n (pc := 40) C 0 dX1_waysOf_40 rfl rfl ?_
    cases h
    exact iv_iret C hr hlk rfl rfl dX1_waysOf_41
  have vB4 : ∀ (k4 : Int32 → Option (Int32)) (r4 : Int32 → Int32 → Option (Int32)), (∀ (v1 : Int32), k4 v1 = some r → iw_V p l e rm_X1_waysOf s m ([.ref (G.2.1 c), .int p1] : List Value).toArray below meth c0 0 0 (MQ below (iw_Q (some (.int r)) G σ) ([.ref (G.2.1 c), .int p1] : List Value).toArray s 0 0 (iw_A G)) 4 G (iw_A G) σ 40 [(2, .int v1)] []) → (∀ (v2 : Int32) (v3 : Int32), r4 v2 v3 = some r → iw_V p l e rm_X1_waysOf s m ([.ref (G.2.1 c), .int p1] : List Value).toArray below meth c0 0 0 (MQ below (iw_Q (some (.int r)) G σ) ([.ref (G.2.1 c), .int p1] : List Value).toArray s 0 0 (iw_A G)) 4 G (iw_A G) σ 4 [(0, .ref (G.2.1 c)), (1, .int p1), (2, .int v2), (3, .int v3)] []) → ∀ (v2 : Int32) (v3 : Int32), f_X1_waysOf_B4 c p1 σ k4 r4 v2 v3 = some r → iw_V p l e rm_X1_waysOf s m ([.ref (G.2.1 c), .int p1] : List Value).toArray below meth c0 0 0 (MQ below (iw_Q (some (.int r)) G σ) ([.ref (G.2.1 c), .int p1] : List Value).toArray s 0 0 (iw_A G)) 4 G (iw_A G) σ 4 [(0, .ref (G.2.1 c)), (1, .int p1), (2, .int v2), (3, .int v3)] [] := by
    intro k4 r4 hk4 hr4 v2 v3 h
    unfold f_X1_waysOf_B4 at h
    refine iv_iload_n (pc := 4) C 3 dX1_waysOf_4 rfl rfl ?_
    refine iv_aload_n (pc := 5) C 0 dX1_waysOf_5 rfl rfl ?_
    refine iv_getf (pc := 6) (T := TX1) (N := 7) (ci := 1) C c 0 in_X1_waysOf_1 (iw_ix hJ (iw_nl hc)) (iw_E1 (iw_nk hc)) rfl (by decide) lk_X1_waysOf_9 rfl rfl dX1_waysOf_6 ?_
    refine iv_iconst (pc := 9) C (2 : Int32) dX1_waysOf_9 (by decide) ?_
    refine iv_callSN (pc := 10) C [.ref (G.2.1 (c + 1)), .int (2 : Int32)] (k_X5_at l G hJ.1 (c + 1) (iw_na1 hJ hc) (2 : Int32) σ rfl) gX1_waysOf_X5_at_n51 rfl ne_RX1_51 si_X1_waysOf_X5_at qd_X5_at ⟨rfl, rfl, Nat.le_of_ble_eq_true rfl, Nat.le_of_ble_eq_true rfl⟩ rfl rfl (Nat.le_of_ble_eq_true rfl) dX1_waysOf_10 ?_
    refine iv_icmp_ge (pc := 13) C 40 dX1_waysOf_13 (by decide) (fun h4 => ?_) (fun h4 => ?_)
    · replace h := iw_ift h4 h
      exact iv_sub [2] rfl (hk4 v2 h)
    · replace h := iw_iff h4 h
      refine iv_aload_n (pc := 16) C 0 dX1_waysOf_16 rfl rfl ?_
      refine iv_getf (pc := 17) (T := TX1) (N := 7) (ci := 1) C c 5 in_X1_waysOf_1 (iw_ix hJ (iw_nl hc)) (iw_E1 (iw_nk hc)) rfl (by decide) lk_X1_waysOf_27 rfl rfl dX1_waysOf_17 ?_
      refine iv_iload_n (pc := 20) C 1 dX1_waysOf_20 rfl rfl ?_
      refine iv_iload_n (pc := 21) C 3 dX1_waysOf_21 rfl rfl ?_
      refine iv_callSN (pc := 22) C [.int p1, .int v3] (k_X5_wayOf l G hJ p1 v3 σ rfl) gX1_waysOf_X5_wayOf_n74 rfl ne_RX1_74 si_X1_waysOf_X5_wayOf qd_X5_wayOf ⟨rfl, rfl, Nat.le_of_ble_eq_true rfl, Nat.le_of_ble_eq_true rfl⟩ rfl rfl (Nat.le_of_ble_eq_true rfl) dX1_waysOf_22 ?_
      refine iv_callSN (pc := 25) C [.ref (G.2.1 (c + 6)), .int (f_X5_wayOf p1 v3)] (k_X5_at l G hJ.1 (c + 6) (iw_na6 hJ hc) (f_X5_wayOf p1 v3) σ rfl) gX1_waysOf_X5_at_n51 rfl ne_RX1_51 si_X1_waysOf_X5_at qd_X5_at ⟨rfl, rfl, Nat.le_of_ble_eq_true rfl, Nat.le_of_ble_eq_true rfl⟩ rfl rfl (Nat.le_of_ble_eq_true rfl) dX1_waysOf_25 ?_
      have vJ34 : ∀ (v5 : Int32), f_X1_waysOf_J34 r4 v3 v5 = some r → iw_V p l e rm_X1_waysOf s m ([.ref (G.2.1 c), .int p1] : List Value).toArray below meth c0 0 0 (MQ below (iw_Q (some (.int r)) G σ) ([.ref (G.2.1 c), .int p1] : List Value).toArray s 0 0 (iw_A G)) 4 G (iw_A G) σ 34 [(0, .ref (G.2.1 c)), (1, .int p1), (2, .int v5), (3, .int v3)] [] := by
        intro v5 h
        unfold f_X1_waysOf_J34 at h
        obtain ⟨v6, ev6⟩ : ∃ y : Int32, y = v3 + (1 : Int32) := ⟨_, rfl⟩
        replace h := iw_lete ev6 h
        refine iv_iinc (pc := 34) C 3 v6 [(3, .int v6), (0, .ref (G.2.1 c)), (1, .int p1), (2, .int v5)] dX1_waysOf_34 rfl (by rw [ev6]; rfl) (by decide) rfl ?_
        refine iv_goto (pc := 37) C 4 dX1_waysOf_37 (by decide) ?_
        exact iv_sub [1, 2, 3, 0] rfl (hr4 v5 v6 h)
      refine iv_if_le (pc := 28) C 34 dX1_waysOf_28 (by decide) (fun h7 => ?_) (fun h7 => ?_)
      · replace h := iw_ift h7 h
        exact iv_sub [0, 1, 2, 3] rfl (vJ34 v2 h)
      · replace h := iw_iff h7 h
        obtain ⟨v8, ev8⟩ : ∃ y : Int32, y = v2 + (1 : Int32) := ⟨_, rfl⟩
        replace h := iw_lete ev8 h
        refine iv_iinc (pc := 31) C 2 v8 [(2, .int v8), (0, .ref (G.2.1 c)), (1, .int p1), (3, .int v3)] dX1_waysOf_31 rfl (by rw [ev8]; rfl) (by decide) rfl ?_
        exact iv_sub [1, 2, 0, 3] rfl (vJ34 v8 h)
  have vL4 : ∀ (nn : Nat) (v2 : Int32) (v3 : Int32), f_X1_waysOf_L4 c p1 σ (f_X1_waysOf_X40_4) nn v2 v3 = some r → iw_V p l e rm_X1_waysOf s m ([.ref (G.2.1 c), .int p1] : List Value).toArray below meth c0 0 0 (MQ below (iw_Q (some (.int r)) G σ) ([.ref (G.2.1 c), .int p1] : List Value).toArray s 0 0 (iw_A G)) 4 G (iw_A G) σ 4 [(0, .ref (G.2.1 c)), (1, .int p1), (2, .int v2), (3, .int v3)] [] := by
    intro nn
    induction nn with
    | zero => intro v2 v3 h; exact absurd h (fun q => by cases q)
    | succ nn ih => intro v2 v3 h; exact vB4 (f_X1_waysOf_X40_4) (f_X1_waysOf_L4 c p1 σ (f_X1_waysOf_X40_4) nn) vX4 ih v2 v3 h
  exact iv_sub [2, 3, 1, 0] rfl (vL4 n (0 : Int32) (0 : Int32) h)
theorem qd_X1_waysOf : yX1_waysOf.cls = RX1 ∧ yX1_waysOf.cls ≠ "java/lang/invoke/MethodHandle" ∧ yX1_waysOf.cls ≠ "java/lang/invoke/VarHandle" ∧ (parseMethodDescriptor yX1_waysOf.desc).map (fun d => d.parameters.length) = some 1 := by decide +kernel
def f_X1_interestPart (n : Nat) (c : Nat) (p1 : Int32) (p2 : Int32) (σ : iw_M) : Option (Int32) :=
if p2 = (7 : Int32) then
((f_X1_waysOf n c p1 σ).bind fun v2 =>
some v2)
else
(some (f_X5_at (c + 5) ((p1 * (7 : Int32)) + p2) σ))
abbrev rm_X1_interestPart : Room := { frames := 2, cells := 0, slots := 0, locals := 44 }
theorem lk_X1_interestPart_24 : Cond.fieldLink RX1 24 RX1 (TX1 4).2.1 (TX1 4).2.2.1 ∈ wsX1_interestPart := by decide +kernel
theorem si_X1_interestPart_X5_at : Cond.static yX5_at ∈ wsX1_interestPart ∧ Cond.initialized yX5_at.cls ∈ wsX1_interestPart := by decide +kernel
theorem in_X1_interestPart_1 : ∀ w ∈ u_ws RX1 TX1 7, w ∈ wsX1_interestPart := by decide +kernel
set_option maxHeartbeats 4000000 in
set_option maxRecDepth 100000 in
theorem k_X1_interestPart (l : Launch) (G : iw_G) (hJ : iw_JX G) (n : Nat) (c : Nat) (hc : iw_net c) (p1 : Int32) (p2 : Int32) (σ : iw_M) {r : Int32} (h : f_X1_interestPart n c p1 p2 σ = some r) : iw_Ct l yX1_interestPart wsX1_interestPart rm_X1_interestPart G ([.ref (G.2.1 c), .int p1, .int p2] : List Value) σ (some (.int r)) σ := by
  refine iv_start (nL := 3) (own := RX1) (ret := (some .int)) (cc := cX1_interestPart) (by decide +kernel) rfl rfl hJ.1 (Nat.le_of_ble_eq_true rfl) ?_
  intro p e s m below meth c0 C hr hlk
  refine iv_sub (lv' := [(0, .ref (G.2.1 c)), (1, .int p1), (2, .int p2)]) [0, 1, 2] rfl ?_
  unfold f_X1_interestPart at h
  refine iv_iload_n (pc := 0) C 2 dX1_interestPart_0 rfl rfl ?_
  refine iv_bipush (pc := 1) C (7 : Int32) dX1_interestPart_1 (by decide) ?_
  refine iv_icmp_ne (pc := 3) C 14 dX1_interestPart_3 (by decide) (fun h1 => ?_) (fun h1 => ?_)
  · replace h := iw_iff h1 h
    refine iv_aload_n (pc := 14) C 0 dX1_interestPart_14 rfl rfl ?_
    refine iv_getf (pc := 15) (T := TX1) (N := 7) (ci := 1) C c 4 in_X1_interestPart_1 (iw_ix hJ (iw_nl hc)) (iw_E1 (iw_nk hc)) rfl (by decide) lk_X1_interestPart_24 rfl rfl dX1_interestPart_15 ?_
    refine iv_iload_n (pc := 18) C 1 dX1_interestPart_18 rfl rfl ?_
    refine iv_bipush (pc := 19) C (7 : Int32) dX1_interestPart_19 (by decide) ?_
    refine iv_imul (pc := 21) C dX1_interestPart_21 ?_
    refine iv_iload_n (pc := 22) C 2 dX1_interestPart_22 rfl rfl ?_
    refine iv_iadd (pc := 23) C dX1_interestPart_23 ?_
    refine iv_callSN (pc := 24) C [.ref (G.2.1 (c + 5)), .int ((p1 * (7 : Int32)) + p2)] (k_X5_at l G hJ.1 (c + 5) (iw_na5 hJ hc) ((p1 * (7 : Int32)) + p2) σ rfl) gX1_interestPart_X5_at_n51 rfl ne_RX1_51 si_X1_interestPart_X5_at qd_X5_at ⟨rfl, rfl, Nat.le_of_ble_eq_true rfl, Nat.le_of_ble_eq_true rfl⟩ rfl rfl (Nat.le_of_ble_eq_true rfl) dX1_interestPart_24 ?_
    cases h
    exact iv_iret C hr hlk rfl rfl dX1_interestPart_27
  · replace h := iw_ift h1 h
    refine iv_aload_n (pc := 6) C 0 dX1_interestPart_6 rfl rfl ?_
    refine iv_iload_n (pc := 7) C 1 dX1_interestPart_7 rfl rfl ?_
    obtain ⟨v2, ev2, h⟩ := iw_be h
    refine iv_callV (pc := 8) (b := c) (ci := 1) C [.int p1] (k_X1_waysOf l G hJ n c hc p1 σ ev2) gX1_interestPart_X1_waysOf rfl qd_X1_waysOf ⟨rfl, rfl, Nat.le_of_ble_eq_true rfl, Nat.le_of_ble_eq_true rfl⟩ (iw_ix hJ (iw_nl hc)) (iw_E1 (iw_nk hc)) rfl rfl rfl (Nat.le_of_ble_eq_true rfl) dX1_interestPart_8 ?_
    refine iv_goto (pc := 11) C 27 dX1_interestPart_11 (by decide) ?_
    cases h
    exact iv_iret C hr hlk rfl rfl dX1_interestPart_27
theorem qd_X1_interestPart : yX1_interestPart.cls = RX1 ∧ yX1_interestPart.cls ≠ "java/lang/invoke/MethodHandle" ∧ yX1_interestPart.cls ≠ "java/lang/invoke/VarHandle" ∧ (parseMethodDescriptor yX1_interestPart.desc).map (fun d => d.parameters.length) = some 2 := by decide +kernel
def f_X1_endInterests_X53_11 (m2 : iw_M) : Option (iw_M) :=
some m2
def f_X1_endInterests_J47 (r11 : Int32 → iw_M → Option (iw_M)) (v3 : Int32) (m7 : iw_M) : Option (iw_M) :=
iw_let (v3 + (-1 : Int32)) fun v8 =>
r11 v8 m7
def f_X1_endInterests_B11 (n : Nat) (c : Nat) (k11 : iw_M → Option (iw_M)) (r11 : Int32 → iw_M → Option (iw_M)) (v3 : Int32) (m4 : iw_M) : Option (iw_M) :=
if v3 < (0 : Int32) then
(k11 m4)
else
((f_X1_interestPart n c v3 (4 : Int32) m4).bind fun v6 =>
if (f_X5_at (c + 1) (5 : Int32) m4) ≤ v6 then
(f_X1_endInterests_J47 r11 v3 m4)
else
((f_X1_removeInterest n c v3 m4).bind fun m10 =>
iw_let (f_X5_increase (c + 1) (11 : Int32) (1 : Int32) m10) fun m11 =>
f_X1_endInterests_J47 r11 v3 m11))
def f_X1_endInterests_L11 (n : Nat) (c : Nat) (k11 : iw_M → Option (iw_M)) (nn : Nat) : Int32 → iw_M → Option (iw_M) :=
iw_it (fun r11 => f_X1_endInterests_B11 n c k11 r11) (fun _ _ => none) nn
def f_X1_endInterests (n : Nat) (c : Nat) (σ : iw_M) : Option (iw_M) :=
iw_let ((f_X5_at (c + 1) (3 : Int32) σ) - (1 : Int32)) fun v1 =>
f_X1_endInterests_L11 n c (f_X1_endInterests_X53_11) n v1 σ
abbrev rm_X1_endInterests : Room := { frames := 3, cells := 0, slots := 0, locals := 66 }
theorem lk_X1_endInterests_9 : Cond.fieldLink RX1 9 RX1 (TX1 0).2.1 (TX1 0).2.2.1 ∈ wsX1_endInterests := by decide +kernel
theorem si_X1_endInterests_X5_at : Cond.static yX5_at ∈ wsX1_endInterests ∧ Cond.initialized yX5_at.cls ∈ wsX1_endInterests := by decide +kernel
theorem si_X1_endInterests_X5_increase : Cond.static yX5_increase ∈ wsX1_endInterests ∧ Cond.initialized yX5_increase.cls ∈ wsX1_endInterests := by decide +kernel
theorem in_X1_endInterests_1 : ∀ w ∈ u_ws RX1 TX1 7, w ∈ wsX1_endInterests := by decide +kernel
set_option maxHeartbeats 4000000 in
set_option maxRecDepth 100000 in
theorem k_X1_endInterests (l : Launch) (G : iw_G) (hJ : iw_JX G) (n : Nat) (c : Nat) (hc : iw_net c) (σ : iw_M) {σ' : iw_M} (h : f_X1_endInterests n c σ = some σ') : iw_Ct l yX1_endInterests wsX1_endInterests rm_X1_endInterests G ([.ref (G.2.1 c)] : List Value) σ none σ' := by
  refine iv_start (nL := 2) (own := RX1) (ret := none) (cc := cX1_endInterests) (by decide +kernel) rfl rfl hJ.1 (Nat.le_of_ble_eq_true rfl) ?_
  intro p e s m below meth c0 C hr hlk
  refine iv_sub (lv' := [(0, .ref (G.2.1 c))]) [0] rfl ?_
  unfold f_X1_endInterests at h
  refine iv_aload_n (pc := 0) C 0 dX1_endInterests_0 rfl rfl ?_
  refine iv_getf (pc := 1) (T := TX1) (N := 7) (ci := 1) C c 0 in_X1_endInterests_1 (iw_ix hJ (iw_nl hc)) (iw_E1 (iw_nk hc)) rfl (by decide) lk_X1_endInterests_9 rfl rfl dX1_endInterests_1 ?_
  refine iv_iconst (pc := 4) C (3 : Int32) dX1_endInterests_4 (by decide) ?_
  refine iv_callSN (pc := 5) C [.ref (G.2.1 (c + 1)), .int (3 : Int32)] (k_X5_at l G hJ.1 (c + 1) (iw_na1 hJ hc) (3 : Int32) σ rfl) gX1_endInterests_X5_at_n51 rfl ne_RX1_51 si_X1_endInterests_X5_at qd_X5_at ⟨rfl, rfl, Nat.le_of_ble_eq_true rfl, Nat.le_of_ble_eq_true rfl⟩ rfl rfl (Nat.le_of_ble_eq_true rfl) dX1_endInterests_5 ?_
  refine iv_iconst (pc := 8) C (1 : Int32) dX1_endInterests_8 (by decide) ?_
  refine iv_isub (pc := 9) C dX1_endInterests_9 ?_
  refine iv_topi (fun v1 ev1 => ?_)
  replace h := iw_lete ev1 h
  refine iv_istore_n (pc := 10) C [(1, .int v1), (0, .ref (G.2.1 c))] dX1_endInterests_10 rfl (by decide) rfl ?_
  have vX11 : ∀ (m2 : iw_M), f_X1_endInterests_X53_11 m2 = some σ' → iw_V p l e rm_X1_endInterests s m ([.ref (G.2.1 c)] : List Value).toArray below meth c0 0 0 (MQ below (iw_Q none G σ') ([.ref (G.2.1 c)] : List Value).toArray s 0 0 (iw_A G)) 2 G (iw_A G) m2 53 [] [] := by
    intro m2 h
    unfold f_X1_endInterests_X53_11 at h
    cases h
    exact iv_vret C hr hlk rfl rfl dX1_endInterests_53
  have vB11 : ∀ (k11 : iw_M → Option (iw_M)) (r11 : Int32 → iw_M → Option (iw_M)), (∀ (m2 : iw_M), k11 m2 = some σ' → iw_V p l e rm_X1_endInterests s m ([.ref (G.2.1 c)] : List Value).toArray below meth c0 0 0 (MQ below (iw_Q none G σ') ([.ref (G.2.1 c)] : List Value).toArray s 0 0 (iw_A G)) 2 G (iw_A G) m2 53 [] []) → (∀ (v3 : Int32) (m4 : iw_M), r11 v3 m4 = some σ' → iw_V p l e rm_X1_endInterests s m ([.ref (G.2.1 c)] : List Value).toArray below meth c0 0 0 (MQ below (iw_Q none G σ') ([.ref (G.2.1 c)] : List Value).toArray s 0 0 (iw_A G)) 2 G (iw_A G) m4 11 [(0, .ref (G.2.1 c)), (1, .int v3)] []) → ∀ (v3 : Int32) (m4 : iw_M), f_X1_endInterests_B11 n c k11 r11 v3 m4 = some σ' → iw_V p l e rm_X1_endInterests s m ([.ref (G.2.1 c)] : List Value).toArray below meth c0 0 0 (MQ below (iw_Q none G σ') ([.ref (G.2.1 c)] : List Value).toArray s 0 0 (iw_A G)) 2 G (iw_A G) m4 11 [(0, .ref (G.2.1 c)), (1, .int v3)] [] := by
    intro k11 r11 hk11 hr11 v3 m4 h
    unfold f_X1_endInterests_B11 at h
    refine iv_iload_n (pc := 11) C 1 dX1_endInterests_11 rfl rfl ?_
    refine iv_if_lt (pc := 12) C 53 dX1_endInterests_12 (by decide) (fun h5 => ?_) (fun h5 => ?_)
    · replace h := iw_ift h5 h
      exact iv_sub [] rfl (hk11 m4 h)
    · replace h := iw_iff h5 h
      refine iv_aload_n (pc := 15) C 0 dX1_endInterests_15 rfl rfl ?_
      refine iv_iload_n (pc := 16) C 1 dX1_endInterests_16 rfl rfl ?_
      refine iv_iconst (pc := 17) C (4 : Int32) dX1_endInterests_17 (by decide) ?_
      obtain ⟨v6, ev6, h⟩ := iw_be h
      refine iv_callV (pc := 18) (b := c) (ci := 1) C [.int v3, .int (4 : Int32)] (k_X1_interestPart l G hJ n c hc v3 (4 : Int32) m4 ev6) gX1_endInterests_X1_interestPart rfl qd_X1_interestPart ⟨rfl, rfl, Nat.le_of_ble_eq_true rfl, Nat.le_of_ble_eq_true rfl⟩ (iw_ix hJ (iw_nl hc)) (iw_E1 (iw_nk hc)) rfl rfl rfl (Nat.le_of_ble_eq_true rfl) dX1_endInterests_18 ?_
      refine iv_aload_n (pc := 21) C 0 dX1_endInterests_21 rfl rfl ?_
      refine iv_getf (pc := 22) (T := TX1) (N := 7) (ci := 1) C c 0 in_X1_endInterests_1 (iw_ix hJ (iw_nl hc)) (iw_E1 (iw_nk hc)) rfl (by decide) lk_X1_endInterests_9 rfl rfl dX1_endInterests_22 ?_
      refine iv_iconst (pc := 25) C (5 : Int32) dX1_endInterests_25 (by decide) ?_
      refine iv_callSN (pc := 26) C [.ref (G.2.1 (c + 1)), .int (5 : Int32)] (k_X5_at l G hJ.1 (c + 1) (iw_na1 hJ hc) (5 : Int32) m4 rfl) gX1_endInterests_X5_at_n51 rfl ne_RX1_51 si_X1_endInterests_X5_at qd_X5_at ⟨rfl, rfl, Nat.le_of_ble_eq_true rfl, Nat.le_of_ble_eq_true rfl⟩ rfl rfl (Nat.le_of_ble_eq_true rfl) dX1_endInterests_26 ?_
      have vJ47 : ∀ (m7 : iw_M), f_X1_endInterests_J47 r11 v3 m7 = some σ' → iw_V p l e rm_X1_endInterests s m ([.ref (G.2.1 c)] : List Value).toArray below meth c0 0 0 (MQ below (iw_Q none G σ') ([.ref (G.2.1 c)] : List Value).toArray s 0 0 (iw_A G)) 2 G (iw_A G) m7 47 [(0, .ref (G.2.1 c)), (1, .int v3)] [] := by
        intro m7 h
        unfold f_X1_endInterests_J47 at h
        obtain ⟨v8, ev8⟩ : ∃ y : Int32, y = v3 + (-1 : Int32) := ⟨_, rfl⟩
        replace h := iw_lete ev8 h
        refine iv_iinc (pc := 47) C 1 v8 [(1, .int v8), (0, .ref (G.2.1 c))] dX1_endInterests_47 rfl (by rw [ev8]; rfl) (by decide) rfl ?_
        refine iv_goto (pc := 50) C 11 dX1_endInterests_50 (by decide) ?_
        exact iv_sub [1, 0] rfl (hr11 v8 m7 h)
      refine iv_icmp_ge (pc := 29) C 47 dX1_endInterests_29 (by decide) (fun h9 => ?_) (fun h9 => ?_)
      · replace h := iw_ift h9 h
        exact iv_sub [0, 1] rfl (vJ47 m4 h)
      · replace h := iw_iff h9 h
        refine iv_aload_n (pc := 32) C 0 dX1_endInterests_32 rfl rfl ?_
        refine iv_iload_n (pc := 33) C 1 dX1_endInterests_33 rfl rfl ?_
        obtain ⟨m10, em10, h⟩ := iw_be h
        refine iv_callV (pc := 34) (b := c) (ci := 1) C [.int v3] (k_X1_removeInterest l G hJ n c hc v3 m4 em10) gX1_endInterests_X1_removeInterest rfl qd_X1_removeInterest ⟨rfl, rfl, Nat.le_of_ble_eq_true rfl, Nat.le_of_ble_eq_true rfl⟩ (iw_ix hJ (iw_nl hc)) (iw_E1 (iw_nk hc)) rfl rfl rfl (Nat.le_of_ble_eq_true rfl) dX1_endInterests_34 ?_
        refine iv_aload_n (pc := 37) C 0 dX1_endInterests_37 rfl rfl ?_
        refine iv_getf (pc := 38) (T := TX1) (N := 7) (ci := 1) C c 0 in_X1_endInterests_1 (iw_ix hJ (iw_nl hc)) (iw_E1 (iw_nk hc)) rfl (by decide) lk_X1_endInterests_9 rfl rfl dX1_endInterests_38 ?_
        refine iv_bipush (pc := 41) C (11 : Int32) dX1_endInterests_41 (by decide) ?_
        refine iv_iconst (pc := 43) C (1 : Int32) dX1_endInterests_43 (by decide) ?_
        refine iv_callSN (pc := 44) C [.ref (G.2.1 (c + 1)), .int (11 : Int32), .int (1 : Int32)] (k_X5_increase l G hJ (c + 1) (iw_na1 hJ hc) (11 : Int32) (1 : Int32) m10 rfl) gX1_endInterests_X5_increase_n55 rfl ne_RX1_55 si_X1_endInterests_X5_increase qd_X5_increase ⟨rfl, rfl, Nat.le_of_ble_eq_true rfl, Nat.le_of_ble_eq_true rfl⟩ rfl rfl (Nat.le_of_ble_eq_true rfl) dX1_endInterests_44 ?_
        refine iv_topm (fun m11 em11 => ?_)
        replace h := iw_lete em11 h
        exact iv_sub [0, 1] rfl (vJ47 m11 h)
  have vL11 : ∀ (nn : Nat) (v3 : Int32) (m4 : iw_M), f_X1_endInterests_L11 n c (f_X1_endInterests_X53_11) nn v3 m4 = some σ' → iw_V p l e rm_X1_endInterests s m ([.ref (G.2.1 c)] : List Value).toArray below meth c0 0 0 (MQ below (iw_Q none G σ') ([.ref (G.2.1 c)] : List Value).toArray s 0 0 (iw_A G)) 2 G (iw_A G) m4 11 [(0, .ref (G.2.1 c)), (1, .int v3)] [] := by
    intro nn
    induction nn with
    | zero => intro v3 m4 h; exact absurd h (fun q => by cases q)
    | succ nn ih => intro v3 m4 h; exact vB11 (f_X1_endInterests_X53_11) (f_X1_endInterests_L11 n c (f_X1_endInterests_X53_11) nn) vX11 ih v3 m4 h
  exact iv_sub [1, 0] rfl (vL11 n v1 σ h)
theorem qd_X1_endInterests : yX1_endInterests.cls = RX1 ∧ yX1_endInterests.cls ≠ "java/lang/invoke/MethodHandle" ∧ yX1_endInterests.cls ≠ "java/lang/invoke/VarHandle" ∧ (parseMethodDescriptor yX1_endInterests.desc).map (fun d => d.parameters.length) = some 0 := by decide +kernel
def f_X1_deliver (c : Nat) (p1 : Int32) (p2 : Int32) (σ : iw_M) : iw_M :=
iw_let (f_X5_increase (c + 5) ((p1 * (7 : Int32)) + (5 : Int32)) (1 : Int32) σ) fun m1 =>
iw_let (f_X5_increase (c + 5) ((p1 * (7 : Int32)) + (6 : Int32)) p2 m1) fun m2 =>
m2
abbrev rm_X1_deliver : Room := { frames := 2, cells := 0, slots := 0, locals := 44 }
theorem lk_X1_deliver_24 : Cond.fieldLink RX1 24 RX1 (TX1 4).2.1 (TX1 4).2.2.1 ∈ wsX1_deliver := by decide +kernel
theorem si_X1_deliver_X5_increase : Cond.static yX5_increase ∈ wsX1_deliver ∧ Cond.initialized yX5_increase.cls ∈ wsX1_deliver := by decide +kernel
theorem in_X1_deliver_1 : ∀ w ∈ u_ws RX1 TX1 7, w ∈ wsX1_deliver := by decide +kernel
set_option maxHeartbeats 4000000 in
set_option maxRecDepth 100000 in
theorem k_X1_deliver (l : Launch) (G : iw_G) (hJ : iw_JX G) (c : Nat) (hc : iw_net c) (p1 : Int32) (p2 : Int32) (σ : iw_M) {σ' : iw_M} (h : f_X1_deliver c p1 p2 σ = σ') : iw_Ct l yX1_deliver wsX1_deliver rm_X1_deliver G ([.ref (G.2.1 c), .int p1, .int p2] : List Value) σ none σ' := by
  refine iv_start (nL := 3) (own := RX1) (ret := none) (cc := cX1_deliver) (by decide +kernel) rfl rfl hJ.1 (Nat.le_of_ble_eq_true rfl) ?_
  intro p e s m below meth c0 C hr hlk
  refine iv_sub (lv' := [(0, .ref (G.2.1 c)), (1, .int p1), (2, .int p2)]) [0, 1, 2] rfl ?_
  unfold f_X1_deliver at h
  refine iv_aload_n (pc := 0) C 0 dX1_deliver_0 rfl rfl ?_
  refine iv_getf (pc := 1) (T := TX1) (N := 7) (ci := 1) C c 4 in_X1_deliver_1 (iw_ix hJ (iw_nl hc)) (iw_E1 (iw_nk hc)) rfl (by decide) lk_X1_deliver_24 rfl rfl dX1_deliver_1 ?_
  refine iv_iload_n (pc := 4) C 1 dX1_deliver_4 rfl rfl ?_
  refine iv_bipush (pc := 5) C (7 : Int32) dX1_deliver_5 (by decide) ?_
  refine iv_imul (pc := 7) C dX1_deliver_7 ?_
  refine iv_iconst (pc := 8) C (5 : Int32) dX1_deliver_8 (by decide) ?_
  refine iv_iadd (pc := 9) C dX1_deliver_9 ?_
  refine iv_iconst (pc := 10) C (1 : Int32) dX1_deliver_10 (by decide) ?_
  refine iv_callSN (pc := 11) C [.ref (G.2.1 (c + 5)), .int ((p1 * (7 : Int32)) + (5 : Int32)), .int (1 : Int32)] (k_X5_increase l G hJ (c + 5) (iw_na5 hJ hc) ((p1 * (7 : Int32)) + (5 : Int32)) (1 : Int32) σ rfl) gX1_deliver_X5_increase_n55 rfl ne_RX1_55 si_X1_deliver_X5_increase qd_X5_increase ⟨rfl, rfl, Nat.le_of_ble_eq_true rfl, Nat.le_of_ble_eq_true rfl⟩ rfl rfl (Nat.le_of_ble_eq_true rfl) dX1_deliver_11 ?_
  refine iv_topm (fun m1 em1 => ?_)
  replace h := iw_lete em1 h
  refine iv_aload_n (pc := 14) C 0 dX1_deliver_14 rfl rfl ?_
  refine iv_getf (pc := 15) (T := TX1) (N := 7) (ci := 1) C c 4 in_X1_deliver_1 (iw_ix hJ (iw_nl hc)) (iw_E1 (iw_nk hc)) rfl (by decide) lk_X1_deliver_24 rfl rfl dX1_deliver_15 ?_
  refine iv_iload_n (pc := 18) C 1 dX1_deliver_18 rfl rfl ?_
  refine iv_bipush (pc := 19) C (7 : Int32) dX1_deliver_19 (by decide) ?_
  refine iv_imul (pc := 21) C dX1_deliver_21 ?_
  refine iv_bipush (pc := 22) C (6 : Int32) dX1_deliver_22 (by decide) ?_
  refine iv_iadd (pc := 24) C dX1_deliver_24 ?_
  refine iv_iload_n (pc := 25) C 2 dX1_deliver_25 rfl rfl ?_
  refine iv_callSN (pc := 26) C [.ref (G.2.1 (c + 5)), .int ((p1 * (7 : Int32)) + (6 : Int32)), .int p2] (k_X5_increase l G hJ (c + 5) (iw_na5 hJ hc) ((p1 * (7 : Int32)) + (6 : Int32)) p2 m1 rfl) gX1_deliver_X5_increase_n55 rfl ne_RX1_55 si_X1_deliver_X5_increase qd_X5_increase ⟨rfl, rfl, Nat.le_of_ble_eq_true rfl, Nat.le_of_ble_eq_true rfl⟩ rfl rfl (Nat.le_of_ble_eq_true rfl) dX1_deliver_26 ?_
  refine iv_topm (fun m2 em2 => ?_)
  replace h := iw_lete em2 h
  cases h
  exact iv_vret C hr hlk rfl rfl dX1_deliver_29
theorem qd_X1_deliver : yX1_deliver.cls = RX1 ∧ yX1_deliver.cls ≠ "java/lang/invoke/MethodHandle" ∧ yX1_deliver.cls ≠ "java/lang/invoke/VarHandle" ∧ (parseMethodDescriptor yX1_deliver.desc).map (fun d => d.parameters.length) = some 2 := by decide +kernel
def f_X1_matches (n : Nat) (c : Nat) (p1 : Int32) (p2 : Int32) (σ : iw_M) : Option (Int32) :=
(f_X1_interestPart n c p2 (1 : Int32) σ).bind fun v1 =>
if (f_X1_sensorPart c p1 (1 : Int32) σ) = v1 then
((f_X1_interestPart n c p2 (2 : Int32) σ).bind fun v3 =>
(f_X1_interestPart n c p2 (3 : Int32) σ).bind fun v4 =>
if (f_X5_isWithin (f_X1_sensorPart c p1 (2 : Int32) σ) v3 v4) = (0 : Int32) then
(some (0 : Int32))
else
(some (1 : Int32)))
else
(some (0 : Int32))
abbrev rm_X1_matches : Room := { frames := 3, cells := 0, slots := 0, locals := 66 }
theorem si_X1_matches_X5_isWithin : Cond.static yX5_isWithin ∈ wsX1_matches ∧ Cond.initialized yX5_isWithin.cls ∈ wsX1_matches := by decide +kernel
set_option maxHeartbeats 4000000 in
set_option maxRecDepth 100000 in
theorem k_X1_matches (l : Launch) (G : iw_G) (hJ : iw_JX G) (n : Nat) (c : Nat) (hc : iw_net c) (p1 : Int32) (p2 : Int32) (σ : iw_M) {r : Int32} (h : f_X1_matches n c p1 p2 σ = some r) : iw_Ct l yX1_matches wsX1_matches rm_X1_matches G ([.ref (G.2.1 c), .int p1, .int p2] : List Value) σ (some (.int r)) σ := by
  refine iv_start (nL := 3) (own := RX1) (ret := (some .boolean)) (cc := cX1_matches) (by decide +kernel) rfl rfl hJ.1 (Nat.le_of_ble_eq_true rfl) ?_
  intro p e s m below meth c0 C hr hlk
  refine iv_sub (lv' := [(0, .ref (G.2.1 c)), (1, .int p1), (2, .int p2)]) [0, 1, 2] rfl ?_
  unfold f_X1_matches at h
  refine iv_aload_n (pc := 0) C 0 dX1_matches_0 rfl rfl ?_
  refine iv_iload_n (pc := 1) C 1 dX1_matches_1 rfl rfl ?_
  refine iv_iconst (pc := 2) C (1 : Int32) dX1_matches_2 (by decide) ?_
  refine iv_callV (pc := 3) (b := c) (ci := 1) C [.int p1, .int (1 : Int32)] (k_X1_sensorPart l G hJ c hc p1 (1 : Int32) σ rfl) gX1_matches_X1_sensorPart rfl qd_X1_sensorPart ⟨rfl, rfl, Nat.le_of_ble_eq_true rfl, Nat.le_of_ble_eq_true rfl⟩ (iw_ix hJ (iw_nl hc)) (iw_E1 (iw_nk hc)) rfl rfl rfl (Nat.le_of_ble_eq_true rfl) dX1_matches_3 ?_
  refine iv_aload_n (pc := 6) C 0 dX1_matches_6 rfl rfl ?_
  refine iv_iload_n (pc := 7) C 2 dX1_matches_7 rfl rfl ?_
  refine iv_iconst (pc := 8) C (1 : Int32) dX1_matches_8 (by decide) ?_
  obtain ⟨v1, ev1, h⟩ := iw_be h
  refine iv_callV (pc := 9) (b := c) (ci := 1) C [.int p2, .int (1 : Int32)] (k_X1_interestPart l G hJ n c hc p2 (1 : Int32) σ ev1) gX1_matches_X1_interestPart rfl qd_X1_interestPart ⟨rfl, rfl, Nat.le_of_ble_eq_true rfl, Nat.le_of_ble_eq_true rfl⟩ (iw_ix hJ (iw_nl hc)) (iw_E1 (iw_nk hc)) rfl rfl rfl (Nat.le_of_ble_eq_true rfl) dX1_matches_9 ?_
  refine iv_icmp_ne (pc := 12) C 43 dX1_matches_12 (by decide) (fun h2 => ?_) (fun h2 => ?_)
  · replace h := iw_iff h2 h
    refine iv_iconst (pc := 43) C (0 : Int32) dX1_matches_43 (by decide) ?_
    cases h
    exact iv_zret C hr hlk rfl rfl dX1_matches_44
  · replace h := iw_ift h2 h
    refine iv_aload_n (pc := 15) C 0 dX1_matches_15 rfl rfl ?_
    refine iv_iload_n (pc := 16) C 1 dX1_matches_16 rfl rfl ?_
    refine iv_iconst (pc := 17) C (2 : Int32) dX1_matches_17 (by decide) ?_
    refine iv_callV (pc := 18) (b := c) (ci := 1) C [.int p1, .int (2 : Int32)] (k_X1_sensorPart l G hJ c hc p1 (2 : Int32) σ rfl) gX1_matches_X1_sensorPart rfl qd_X1_sensorPart ⟨rfl, rfl, Nat.le_of_ble_eq_true rfl, Nat.le_of_ble_eq_true rfl⟩ (iw_ix hJ (iw_nl hc)) (iw_E1 (iw_nk hc)) rfl rfl rfl (Nat.le_of_ble_eq_true rfl) dX1_matches_18 ?_
    refine iv_aload_n (pc := 21) C 0 dX1_matches_21 rfl rfl ?_
    refine iv_iload_n (pc := 22) C 2 dX1_matches_22 rfl rfl ?_
    refine iv_iconst (pc := 23) C (2 : Int32) dX1_matches_23 (by decide) ?_
    obtain ⟨v3, ev3, h⟩ := iw_be h
    refine iv_callV (pc := 24) (b := c) (ci := 1) C [.int p2, .int (2 : Int32)] (k_X1_interestPart l G hJ n c hc p2 (2 : Int32) σ ev3) gX1_matches_X1_interestPart rfl qd_X1_interestPart ⟨rfl, rfl, Nat.le_of_ble_eq_true rfl, Nat.le_of_ble_eq_true rfl⟩ (iw_ix hJ (iw_nl hc)) (iw_E1 (iw_nk hc)) rfl rfl rfl (Nat.le_of_ble_eq_true rfl) dX1_matches_24 ?_
    refine iv_aload_n (pc := 27) C 0 dX1_matches_27 rfl rfl ?_
    refine iv_iload_n (pc := 28) C 2 dX1_matches_28 rfl rfl ?_
    refine iv_iconst (pc := 29) C (3 : Int32) dX1_matches_29 (by decide) ?_
    obtain ⟨v4, ev4, h⟩ := iw_be h
    refine iv_callV (pc := 30) (b := c) (ci := 1) C [.int p2, .int (3 : Int32)] (k_X1_interestPart l G hJ n c hc p2 (3 : Int32) σ ev4) gX1_matches_X1_interestPart rfl qd_X1_interestPart ⟨rfl, rfl, Nat.le_of_ble_eq_true rfl, Nat.le_of_ble_eq_true rfl⟩ (iw_ix hJ (iw_nl hc)) (iw_E1 (iw_nk hc)) rfl rfl rfl (Nat.le_of_ble_eq_true rfl) dX1_matches_30 ?_
    refine iv_callSN (pc := 33) C [.int (f_X1_sensorPart c p1 (2 : Int32) σ), .int v3, .int v4] (k_X5_isWithin l G hJ (f_X1_sensorPart c p1 (2 : Int32) σ) v3 v4 σ rfl) gX1_matches_X5_isWithin_n90 rfl ne_RX1_90 si_X1_matches_X5_isWithin qd_X5_isWithin ⟨rfl, rfl, Nat.le_of_ble_eq_true rfl, Nat.le_of_ble_eq_true rfl⟩ rfl rfl (Nat.le_of_ble_eq_true rfl) dX1_matches_33 ?_
    refine iv_if_eq (pc := 36) C 43 dX1_matches_36 (by decide) (fun h5 => ?_) (fun h5 => ?_)
    · replace h := iw_ift h5 h
      refine iv_iconst (pc := 43) C (0 : Int32) dX1_matches_43 (by decide) ?_
      cases h
      exact iv_zret C hr hlk rfl rfl dX1_matches_44
    · replace h := iw_iff h5 h
      refine iv_iconst (pc := 39) C (1 : Int32) dX1_matches_39 (by decide) ?_
      refine iv_goto (pc := 40) C 44 dX1_matches_40 (by decide) ?_
      cases h
      exact iv_zret C hr hlk rfl rfl dX1_matches_44
theorem qd_X1_matches : yX1_matches.cls = RX1 ∧ yX1_matches.cls ≠ "java/lang/invoke/MethodHandle" ∧ yX1_matches.cls ≠ "java/lang/invoke/VarHandle" ∧ (parseMethodDescriptor yX1_matches.desc).map (fun d => d.parameters.length) = some 2 := by decide +kernel
def f_X1_lengthOf (c : Nat) (p1 : Int32) (σ : iw_M) : Int32 :=
(f_X5_at (c + 6) p1 σ)
abbrev rm_X1_lengthOf : Room := { frames := 1, cells := 0, slots := 0, locals := 21 }
theorem lk_X1_lengthOf_27 : Cond.fieldLink RX1 27 RX1 (TX1 5).2.1 (TX1 5).2.2.1 ∈ wsX1_lengthOf := by decide +kernel
theorem si_X1_lengthOf_X5_at : Cond.static yX5_at ∈ wsX1_lengthOf ∧ Cond.initialized yX5_at.cls ∈ wsX1_lengthOf := by decide +kernel
theorem in_X1_lengthOf_1 : ∀ w ∈ u_ws RX1 TX1 7, w ∈ wsX1_lengthOf := by decide +kernel
set_option maxHeartbeats 4000000 in
set_option maxRecDepth 100000 in
theorem k_X1_lengthOf (l : Launch) (G : iw_G) (hJ : iw_JX G) (c : Nat) (hc : iw_net c) (p1 : Int32) (σ : iw_M) {r : Int32} (h : f_X1_lengthOf c p1 σ = r) : iw_Ct l yX1_lengthOf wsX1_lengthOf rm_X1_lengthOf G ([.ref (G.2.1 c), .int p1] : List Value) σ (some (.int r)) σ := by
  refine iv_start (nL := 2) (own := RX1) (ret := (some .int)) (cc := cX1_lengthOf) (by decide +kernel) rfl rfl hJ.1 (Nat.le_of_ble_eq_true rfl) ?_
  intro p e s m below meth c0 C hr hlk
  refine iv_sub (lv' := [(0, .ref (G.2.1 c)), (1, .int p1)]) [0, 1] rfl ?_
  unfold f_X1_lengthOf at h
  refine iv_aload_n (pc := 0) C 0 dX1_lengthOf_0 rfl rfl ?_
  refine iv_getf (pc := 1) (T := TX1) (N := 7) (ci := 1) C c 5 in_X1_lengthOf_1 (iw_ix hJ (iw_nl hc)) (iw_E1 (iw_nk hc)) rfl (by decide) lk_X1_lengthOf_27 rfl rfl dX1_lengthOf_1 ?_
  refine iv_iload_n (pc := 4) C 1 dX1_lengthOf_4 rfl rfl ?_
  refine iv_callSN (pc := 5) C [.ref (G.2.1 (c + 6)), .int p1] (k_X5_at l G hJ.1 (c + 6) (iw_na6 hJ hc) p1 σ rfl) gX1_lengthOf_X5_at_n51 rfl ne_RX1_51 si_X1_lengthOf_X5_at qd_X5_at ⟨rfl, rfl, Nat.le_of_ble_eq_true rfl, Nat.le_of_ble_eq_true rfl⟩ rfl rfl (Nat.le_of_ble_eq_true rfl) dX1_lengthOf_5 ?_
  cases h
  exact iv_iret C hr hlk rfl rfl dX1_lengthOf_8
theorem qd_X1_lengthOf : yX1_lengthOf.cls = RX1 ∧ yX1_lengthOf.cls ≠ "java/lang/invoke/MethodHandle" ∧ yX1_lengthOf.cls ≠ "java/lang/invoke/VarHandle" ∧ (parseMethodDescriptor yX1_lengthOf.desc).map (fun d => d.parameters.length) = some 1 := by decide +kernel
def f_X1_nodeOf (c : Nat) (p1 : Int32) (p2 : Int32) (σ : iw_M) : Int32 :=
(f_X5_at (c + 7) ((p1 * (10 : Int32)) + p2) σ)
abbrev rm_X1_nodeOf : Room := { frames := 1, cells := 0, slots := 0, locals := 21 }
theorem lk_X1_nodeOf_30 : Cond.fieldLink RX1 30 RX1 (TX1 6).2.1 (TX1 6).2.2.1 ∈ wsX1_nodeOf := by decide +kernel
theorem si_X1_nodeOf_X5_at : Cond.static yX5_at ∈ wsX1_nodeOf ∧ Cond.initialized yX5_at.cls ∈ wsX1_nodeOf := by decide +kernel
theorem in_X1_nodeOf_1 : ∀ w ∈ u_ws RX1 TX1 7, w ∈ wsX1_nodeOf := by decide +kernel
set_option maxHeartbeats 4000000 in
set_option maxRecDepth 100000 in
theorem k_X1_nodeOf (l : Launch) (G : iw_G) (hJ : iw_JX G) (c : Nat) (hc : iw_net c) (p1 : Int32) (p2 : Int32) (σ : iw_M) {r : Int32} (h : f_X1_nodeOf c p1 p2 σ = r) : iw_Ct l yX1_nodeOf wsX1_nodeOf rm_X1_nodeOf G ([.ref (G.2.1 c), .int p1, .int p2] : List Value) σ (some (.int r)) σ := by
  refine iv_start (nL := 3) (own := RX1) (ret := (some .int)) (cc := cX1_nodeOf) (by decide +kernel) rfl rfl hJ.1 (Nat.le_of_ble_eq_true rfl) ?_
  intro p e s m below meth c0 C hr hlk
  refine iv_sub (lv' := [(0, .ref (G.2.1 c)), (1, .int p1), (2, .int p2)]) [0, 1, 2] rfl ?_
  unfold f_X1_nodeOf at h
  refine iv_aload_n (pc := 0) C 0 dX1_nodeOf_0 rfl rfl ?_
  refine iv_getf (pc := 1) (T := TX1) (N := 7) (ci := 1) C c 6 in_X1_nodeOf_1 (iw_ix hJ (iw_nl hc)) (iw_E1 (iw_nk hc)) rfl (by decide) lk_X1_nodeOf_30 rfl rfl dX1_nodeOf_1 ?_
  refine iv_iload_n (pc := 4) C 1 dX1_nodeOf_4 rfl rfl ?_
  refine iv_bipush (pc := 5) C (10 : Int32) dX1_nodeOf_5 (by decide) ?_
  refine iv_imul (pc := 7) C dX1_nodeOf_7 ?_
  refine iv_iload_n (pc := 8) C 2 dX1_nodeOf_8 rfl rfl ?_
  refine iv_iadd (pc := 9) C dX1_nodeOf_9 ?_
  refine iv_callSN (pc := 10) C [.ref (G.2.1 (c + 7)), .int ((p1 * (10 : Int32)) + p2)] (k_X5_at l G hJ.1 (c + 7) (iw_na7 hJ hc) ((p1 * (10 : Int32)) + p2) σ rfl) gX1_nodeOf_X5_at_n51 rfl ne_RX1_51 si_X1_nodeOf_X5_at qd_X5_at ⟨rfl, rfl, Nat.le_of_ble_eq_true rfl, Nat.le_of_ble_eq_true rfl⟩ rfl rfl (Nat.le_of_ble_eq_true rfl) dX1_nodeOf_10 ?_
  cases h
  exact iv_iret C hr hlk rfl rfl dX1_nodeOf_13
theorem qd_X1_nodeOf : yX1_nodeOf.cls = RX1 ∧ yX1_nodeOf.cls ≠ "java/lang/invoke/MethodHandle" ∧ yX1_nodeOf.cls ≠ "java/lang/invoke/VarHandle" ∧ (parseMethodDescriptor yX1_nodeOf.desc).map (fun d => d.parameters.length) = some 2 := by decide +kernel
def f_X1_setWay_X48_12 (m2 : iw_M) : Option (iw_M) :=
some m2
def f_X1_setWay_B12 (c : Nat) (p1 : Int32) (a2 : Nat) (p3 : Int32) (k12 : iw_M → Option (iw_M)) (r12 : Int32 → iw_M → Option (iw_M)) (v3 : Int32) (m4 : iw_M) : Option (iw_M) :=
if p3 ≤ v3 then
(k12 m4)
else
(iw_let (f_X5_put (c + 7) ((p1 * (10 : Int32)) + v3) (f_X5_at a2 ((p3 - (1 : Int32)) - v3) m4) m4) fun m6 =>
iw_let (v3 + (1 : Int32)) fun v7 =>
r12 v7 m6)
def f_X1_setWay_L12 (c : Nat) (p1 : Int32) (a2 : Nat) (p3 : Int32) (k12 : iw_M → Option (iw_M)) (nn : Nat) : Int32 → iw_M → Option (iw_M) :=
iw_it (fun r12 => f_X1_setWay_B12 c p1 a2 p3 k12 r12) (fun _ _ => none) nn
def f_X1_setWay (n : Nat) (c : Nat) (p1 : Int32) (a2 : Nat) (p3 : Int32) (σ : iw_M) : Option (iw_M) :=
iw_let (f_X5_put (c + 6) p1 p3 σ) fun m1 =>
f_X1_setWay_L12 c p1 a2 p3 (f_X1_setWay_X48_12) n (0 : Int32) m1
abbrev rm_X1_setWay : Room := { frames := 1, cells := 0, slots := 0, locals := 22 }
theorem lk_X1_setWay_27 : Cond.fieldLink RX1 27 RX1 (TX1 5).2.1 (TX1 5).2.2.1 ∈ wsX1_setWay := by decide +kernel
theorem si_X1_setWay_X5_put : Cond.static yX5_put ∈ wsX1_setWay ∧ Cond.initialized yX5_put.cls ∈ wsX1_setWay := by decide +kernel
theorem lk_X1_setWay_30 : Cond.fieldLink RX1 30 RX1 (TX1 6).2.1 (TX1 6).2.2.1 ∈ wsX1_setWay := by decide +kernel
theorem si_X1_setWay_X5_at : Cond.static yX5_at ∈ wsX1_setWay ∧ Cond.initialized yX5_at.cls ∈ wsX1_setWay := by decide +kernel
theorem in_X1_setWay_1 : ∀ w ∈ u_ws RX1 TX1 7, w ∈ wsX1_setWay := by decide +kernel
set_option maxHeartbeats 4000000 in
set_option maxRecDepth 100000 in
theorem k_X1_setWay (l : Launch) (G : iw_G) (hJ : iw_JX G) (n : Nat) (c : Nat) (hc : iw_net c) (p1 : Int32) (a2 : Nat) (ha2 : iw_ia G a2) (p3 : Int32) (σ : iw_M) {σ' : iw_M} (h : f_X1_setWay n c p1 a2 p3 σ = some σ') : iw_Ct l yX1_setWay wsX1_setWay rm_X1_setWay G ([.ref (G.2.1 c), .int p1, .ref (G.2.1 a2), .int p3] : List Value) σ none σ' := by
  refine iv_start (nL := 5) (own := RX1) (ret := none) (cc := cX1_setWay) (by decide +kernel) rfl rfl hJ.1 (Nat.le_of_ble_eq_true rfl) ?_
  intro p e s m below meth c0 C hr hlk
  refine iv_sub (lv' := [(0, .ref (G.2.1 c)), (1, .int p1), (2, .ref (G.2.1 a2)), (3, .int p3)]) [0, 1, 2, 3] rfl ?_
  unfold f_X1_setWay at h
  refine iv_aload_n (pc := 0) C 0 dX1_setWay_0 rfl rfl ?_
  refine iv_getf (pc := 1) (T := TX1) (N := 7) (ci := 1) C c 5 in_X1_setWay_1 (iw_ix hJ (iw_nl hc)) (iw_E1 (iw_nk hc)) rfl (by decide) lk_X1_setWay_27 rfl rfl dX1_setWay_1 ?_
  refine iv_iload_n (pc := 4) C 1 dX1_setWay_4 rfl rfl ?_
  refine iv_iload_n (pc := 5) C 3 dX1_setWay_5 rfl rfl ?_
  refine iv_callSN (pc := 6) C [.ref (G.2.1 (c + 6)), .int p1, .int p3] (k_X5_put l G hJ.1 (c + 6) (iw_na6 hJ hc) p1 p3 σ rfl) gX1_setWay_X5_put_n33 rfl ne_RX1_33 si_X1_setWay_X5_put qd_X5_put ⟨rfl, rfl, Nat.le_of_ble_eq_true rfl, Nat.le_of_ble_eq_true rfl⟩ rfl rfl (Nat.le_of_ble_eq_true rfl) dX1_setWay_6 ?_
  refine iv_topm (fun m1 em1 => ?_)
  replace h := iw_lete em1 h
  refine iv_iconst (pc := 9) C (0 : Int32) dX1_setWay_9 (by decide) ?_
  refine iv_istore (pc := 10) C [(4, .int (0 : Int32)), (0, .ref (G.2.1 c)), (1, .int p1), (2, .ref (G.2.1 a2)), (3, .int p3)] dX1_setWay_10 (by decide) rfl ?_
  have vX12 : ∀ (m2 : iw_M), f_X1_setWay_X48_12 m2 = some σ' → iw_V p l e rm_X1_setWay s m ([.ref (G.2.1 c), .int p1, .ref (G.2.1 a2), .int p3] : List Value).toArray below meth c0 0 0 (MQ below (iw_Q none G σ') ([.ref (G.2.1 c), .int p1, .ref (G.2.1 a2), .int p3] : List Value).toArray s 0 0 (iw_A G)) 5 G (iw_A G) m2 48 [] [] := by
    intro m2 h
    unfold f_X1_setWay_X48_12 at h
    cases h
    exact iv_vret C hr hlk rfl rfl dX1_setWay_48
  have vB12 : ∀ (k12 : iw_M → Option (iw_M)) (r12 : Int32 → iw_M → Option (iw_M)), (∀ (m2 : iw_M), k12 m2 = some σ' → iw_V p l e rm_X1_setWay s m ([.ref (G.2.1 c), .int p1, .ref (G.2.1 a2), .int p3] : List Value).toArray below meth c0 0 0 (MQ below (iw_Q none G σ') ([.ref (G.2.1 c), .int p1, .ref (G.2.1 a2), .int p3] : List Value).toArray s 0 0 (iw_A G)) 5 G (iw_A G) m2 48 [] []) → (∀ (v3 : Int32) (m4 : iw_M), r12 v3 m4 = some σ' → iw_V p l e rm_X1_setWay s m ([.ref (G.2.1 c), .int p1, .ref (G.2.1 a2), .int p3] : List Value).toArray below meth c0 0 0 (MQ below (iw_Q none G σ') ([.ref (G.2.1 c), .int p1, .ref (G.2.1 a2), .int p3] : List Value).toArray s 0 0 (iw_A G)) 5 G (iw_A G) m4 12 [(0, .ref (G.2.1 c)), (1, .int p1), (2, .ref (G.2.1 a2)), (3, .int p3), (4, .int v3)] []) → ∀ (v3 : Int32) (m4 : iw_M), f_X1_setWay_B12 c p1 a2 p3 k12 r12 v3 m4 = some σ' → iw_V p l e rm_X1_setWay s m ([.ref (G.2.1 c), .int p1, .ref (G.2.1 a2), .int p3] : List Value).toArray below meth c0 0 0 (MQ below (iw_Q none G σ') ([.ref (G.2.1 c), .int p1, .ref (G.2.1 a2), .int p3] : List Value).toArray s 0 0 (iw_A G)) 5 G (iw_A G) m4 12 [(0, .ref (G.2.1 c)), (1, .int p1), (2, .ref (G.2.1 a2)), (3, .int p3), (4, .int v3)] [] := by
    intro k12 r12 hk12 hr12 v3 m4 h
    unfold f_X1_setWay_B12 at h
    refine iv_iload (pc := 12) C 4 dX1_setWay_12 rfl ?_
    refine iv_iload_n (pc := 14) C 3 dX1_setWay_14 rfl rfl ?_
    refine iv_icmp_ge (pc := 15) C 48 dX1_setWay_15 (by decide) (fun h5 => ?_) (fun h5 => ?_)
    · replace h := iw_ift h5 h
      exact iv_sub [] rfl (hk12 m4 h)
    · replace h := iw_iff h5 h
      refine iv_aload_n (pc := 18) C 0 dX1_setWay_18 rfl rfl ?_
      refine iv_getf (pc := 19) (T := TX1) (N := 7) (ci := 1) C c 6 in_X1_setWay_1 (iw_ix hJ (iw_nl hc)) (iw_E1 (iw_nk hc)) rfl (by decide) lk_X1_setWay_30 rfl rfl dX1_setWay_19 ?_
      refine iv_iload_n (pc := 22) C 1 dX1_setWay_22 rfl rfl ?_
      refine iv_bipush (pc := 23) C (10 : Int32) dX1_setWay_23 (by decide) ?_
      refine iv_imul (pc := 25) C dX1_setWay_25 ?_
      refine iv_iload (pc := 26) C 4 dX1_setWay_26 rfl ?_
      refine iv_iadd (pc := 28) C dX1_setWay_28 ?_
      refine iv_aload_n (pc := 29) C 2 dX1_setWay_29 rfl rfl ?_
      refine iv_iload_n (pc := 30) C 3 dX1_setWay_30 rfl rfl ?_
      refine iv_iconst (pc := 31) C (1 : Int32) dX1_setWay_31 (by decide) ?_
      refine iv_isub (pc := 32) C dX1_setWay_32 ?_
      refine iv_iload (pc := 33) C 4 dX1_setWay_33 rfl ?_
      refine iv_isub (pc := 35) C dX1_setWay_35 ?_
      refine iv_callSN (pc := 36) C [.ref (G.2.1 a2), .int ((p3 - (1 : Int32)) - v3)] (k_X5_at l G hJ.1 a2 ha2 ((p3 - (1 : Int32)) - v3) m4 rfl) gX1_setWay_X5_at_n51 rfl ne_RX1_51 si_X1_setWay_X5_at qd_X5_at ⟨rfl, rfl, Nat.le_of_ble_eq_true rfl, Nat.le_of_ble_eq_true rfl⟩ rfl rfl (Nat.le_of_ble_eq_true rfl) dX1_setWay_36 ?_
      refine iv_callSN (pc := 39) C [.ref (G.2.1 (c + 7)), .int ((p1 * (10 : Int32)) + v3), .int (f_X5_at a2 ((p3 - (1 : Int32)) - v3) m4)] (k_X5_put l G hJ.1 (c + 7) (iw_na7 hJ hc) ((p1 * (10 : Int32)) + v3) (f_X5_at a2 ((p3 - (1 : Int32)) - v3) m4) m4 rfl) gX1_setWay_X5_put_n33 rfl ne_RX1_33 si_X1_setWay_X5_put qd_X5_put ⟨rfl, rfl, Nat.le_of_ble_eq_true rfl, Nat.le_of_ble_eq_true rfl⟩ rfl rfl (Nat.le_of_ble_eq_true rfl) dX1_setWay_39 ?_
      refine iv_topm (fun m6 em6 => ?_)
      replace h := iw_lete em6 h
      obtain ⟨v7, ev7⟩ : ∃ y : Int32, y = v3 + (1 : Int32) := ⟨_, rfl⟩
      replace h := iw_lete ev7 h
      refine iv_iinc (pc := 42) C 4 v7 [(4, .int v7), (0, .ref (G.2.1 c)), (1, .int p1), (2, .ref (G.2.1 a2)), (3, .int p3)] dX1_setWay_42 rfl (by rw [ev7]; rfl) (by decide) rfl ?_
      refine iv_goto (pc := 45) C 12 dX1_setWay_45 (by decide) ?_
      exact iv_sub [1, 2, 3, 4, 0] rfl (hr12 v7 m6 h)
  have vL12 : ∀ (nn : Nat) (v3 : Int32) (m4 : iw_M), f_X1_setWay_L12 c p1 a2 p3 (f_X1_setWay_X48_12) nn v3 m4 = some σ' → iw_V p l e rm_X1_setWay s m ([.ref (G.2.1 c), .int p1, .ref (G.2.1 a2), .int p3] : List Value).toArray below meth c0 0 0 (MQ below (iw_Q none G σ') ([.ref (G.2.1 c), .int p1, .ref (G.2.1 a2), .int p3] : List Value).toArray s 0 0 (iw_A G)) 5 G (iw_A G) m4 12 [(0, .ref (G.2.1 c)), (1, .int p1), (2, .ref (G.2.1 a2)), (3, .int p3), (4, .int v3)] [] := by
    intro nn
    induction nn with
    | zero => intro v3 m4 h; exact absurd h (fun q => by cases q)
    | succ nn ih => intro v3 m4 h; exact vB12 (f_X1_setWay_X48_12) (f_X1_setWay_L12 c p1 a2 p3 (f_X1_setWay_X48_12) nn) vX12 ih v3 m4 h
  exact iv_sub [1, 2, 3, 4, 0] rfl (vL12 n (0 : Int32) m1 h)
theorem qd_X1_setWay : yX1_setWay.cls = RX1 ∧ yX1_setWay.cls ≠ "java/lang/invoke/MethodHandle" ∧ yX1_setWay.cls ≠ "java/lang/invoke/VarHandle" ∧ (parseMethodDescriptor yX1_setWay.desc).map (fun d => d.parameters.length) = some 3 := by decide +kernel
def f_X1_dropWay (c : Nat) (p1 : Int32) (σ : iw_M) : iw_M :=
iw_let (f_X5_put (c + 6) p1 (0 : Int32) σ) fun m1 =>
m1
abbrev rm_X1_dropWay : Room := { frames := 1, cells := 0, slots := 0, locals := 22 }
theorem lk_X1_dropWay_27 : Cond.fieldLink RX1 27 RX1 (TX1 5).2.1 (TX1 5).2.2.1 ∈ wsX1_dropWay := by decide +kernel
theorem si_X1_dropWay_X5_put : Cond.static yX5_put ∈ wsX1_dropWay ∧ Cond.initialized yX5_put.cls ∈ wsX1_dropWay := by decide +kernel
theorem in_X1_dropWay_1 : ∀ w ∈ u_ws RX1 TX1 7, w ∈ wsX1_dropWay := by decide +kernel
set_option maxHeartbeats 4000000 in
set_option maxRecDepth 100000 in
theorem k_X1_dropWay (l : Launch) (G : iw_G) (hJ : iw_JX G) (c : Nat) (hc : iw_net c) (p1 : Int32) (σ : iw_M) {σ' : iw_M} (h : f_X1_dropWay c p1 σ = σ') : iw_Ct l yX1_dropWay wsX1_dropWay rm_X1_dropWay G ([.ref (G.2.1 c), .int p1] : List Value) σ none σ' := by
  refine iv_start (nL := 2) (own := RX1) (ret := none) (cc := cX1_dropWay) (by decide +kernel) rfl rfl hJ.1 (Nat.le_of_ble_eq_true rfl) ?_
  intro p e s m below meth c0 C hr hlk
  refine iv_sub (lv' := [(0, .ref (G.2.1 c)), (1, .int p1)]) [0, 1] rfl ?_
  unfold f_X1_dropWay at h
  refine iv_aload_n (pc := 0) C 0 dX1_dropWay_0 rfl rfl ?_
  refine iv_getf (pc := 1) (T := TX1) (N := 7) (ci := 1) C c 5 in_X1_dropWay_1 (iw_ix hJ (iw_nl hc)) (iw_E1 (iw_nk hc)) rfl (by decide) lk_X1_dropWay_27 rfl rfl dX1_dropWay_1 ?_
  refine iv_iload_n (pc := 4) C 1 dX1_dropWay_4 rfl rfl ?_
  refine iv_iconst (pc := 5) C (0 : Int32) dX1_dropWay_5 (by decide) ?_
  refine iv_callSN (pc := 6) C [.ref (G.2.1 (c + 6)), .int p1, .int (0 : Int32)] (k_X5_put l G hJ.1 (c + 6) (iw_na6 hJ hc) p1 (0 : Int32) σ rfl) gX1_dropWay_X5_put_n33 rfl ne_RX1_33 si_X1_dropWay_X5_put qd_X5_put ⟨rfl, rfl, Nat.le_of_ble_eq_true rfl, Nat.le_of_ble_eq_true rfl⟩ rfl rfl (Nat.le_of_ble_eq_true rfl) dX1_dropWay_6 ?_
  refine iv_topm (fun m1 em1 => ?_)
  replace h := iw_lete em1 h
  cases h
  exact iv_vret C hr hlk rfl rfl dX1_dropWay_9
theorem qd_X1_dropWay : yX1_dropWay.cls = RX1 ∧ yX1_dropWay.cls ≠ "java/lang/invoke/MethodHandle" ∧ yX1_dropWay.cls ≠ "java/lang/invoke/VarHandle" ∧ (parseMethodDescriptor yX1_dropWay.desc).map (fun d => d.parameters.length) = some 1 := by decide +kernel
def f_X1_goesOver_X64_9  : Option (Int32) :=
some (0 : Int32)
def f_X1_goesOver_B9 (c : Nat) (p1 : Int32) (p2 : Int32) (p3 : Int32) (σ : iw_M) (v1 : Int32) (k9 : Option (Int32)) (r9 : Int32 → Option (Int32)) (v2 : Int32) : Option (Int32) :=
if (f_X5_at (c + 6) p1 σ) ≤ v2 then
(k9)
else
(if (f_X1_isPair (f_X5_at (c + 7) ((v1 + v2) - (1 : Int32)) σ) (f_X5_at (c + 7) (v1 + v2) σ) p2 p3) = (0 : Int32) then
(iw_let (v2 + (1 : Int32)) fun v5 =>
r9 v5)
else
(some (1 : Int32)))
def f_X1_goesOver_L9 (c : Nat) (p1 : Int32) (p2 : Int32) (p3 : Int32) (σ : iw_M) (v1 : Int32) (k9 : Option (Int32)) (nn : Nat) : Int32 → Option (Int32) :=
iw_it (fun r9 => f_X1_goesOver_B9 c p1 p2 p3 σ v1 k9 r9) (fun _ => none) nn
def f_X1_goesOver (n : Nat) (c : Nat) (p1 : Int32) (p2 : Int32) (p3 : Int32) (σ : iw_M) : Option (Int32) :=
iw_let (p1 * (10 : Int32)) fun v1 =>
f_X1_goesOver_L9 c p1 p2 p3 σ v1 (f_X1_goesOver_X64_9) n (1 : Int32)
abbrev rm_X1_goesOver : Room := { frames := 1, cells := 0, slots := 0, locals := 23 }
theorem lk_X1_goesOver_27 : Cond.fieldLink RX1 27 RX1 (TX1 5).2.1 (TX1 5).2.2.1 ∈ wsX1_goesOver := by decide +kernel
theorem si_X1_goesOver_X5_at : Cond.static yX5_at ∈ wsX1_goesOver ∧ Cond.initialized yX5_at.cls ∈ wsX1_goesOver := by decide +kernel
theorem lk_X1_goesOver_30 : Cond.fieldLink RX1 30 RX1 (TX1 6).2.1 (TX1 6).2.2.1 ∈ wsX1_goesOver := by decide +kernel
theorem in_X1_goesOver_1 : ∀ w ∈ u_ws RX1 TX1 7, w ∈ wsX1_goesOver := by decide +kernel
set_option maxHeartbeats 4000000 in
set_option maxRecDepth 100000 in
theorem k_X1_goesOver (l : Launch) (G : iw_G) (hJ : iw_JX G) (n : Nat) (c : Nat) (hc : iw_net c) (p1 : Int32) (p2 : Int32) (p3 : Int32) (σ : iw_M) {r : Int32} (h : f_X1_goesOver n c p1 p2 p3 σ = some r) : iw_Ct l yX1_goesOver wsX1_goesOver rm_X1_goesOver G ([.ref (G.2.1 c), .int p1, .int p2, .int p3] : List Value) σ (some (.int r)) σ := by
  refine iv_start (nL := 6) (own := RX1) (ret := (some .boolean)) (cc := cX1_goesOver) (by decide +kernel) rfl rfl hJ.1 (Nat.le_of_ble_eq_true rfl) ?_
  intro p e s m below meth c0 C hr hlk
  refine iv_sub (lv' := [(0, .ref (G.2.1 c)), (1, .int p1), (2, .int p2), (3, .int p3)]) [0, 1, 2, 3] rfl ?_
  unfold f_X1_goesOver at h
  refine iv_iload_n (pc := 0) C 1 dX1_goesOver_0 rfl rfl ?_
  refine iv_bipush (pc := 1) C (10 : Int32) dX1_goesOver_1 (by decide) ?_
  refine iv_imul (pc := 3) C dX1_goesOver_3 ?_
  refine iv_topi (fun v1 ev1 => ?_)
  replace h := iw_lete ev1 h
  refine iv_istore (pc := 4) C [(4, .int v1), (0, .ref (G.2.1 c)), (1, .int p1), (2, .int p2), (3, .int p3)] dX1_goesOver_4 (by decide) rfl ?_
  refine iv_iconst (pc := 6) C (1 : Int32) dX1_goesOver_6 (by decide) ?_
  refine iv_istore (pc := 7) C [(5, .int (1 : Int32)), (4, .int v1), (0, .ref (G.2.1 c)), (1, .int p1), (2, .int p2), (3, .int p3)] dX1_goesOver_7 (by decide) rfl ?_
  have vX9 : f_X1_goesOver_X64_9  = some r → iw_V p l e rm_X1_goesOver s m ([.ref (G.2.1 c), .int p1, .int p2, .int p3] : List Value).toArray below meth c0 0 0 (MQ below (iw_Q (some (.int r)) G σ) ([.ref (G.2.1 c), .int p1, .int p2, .int p3] : List Value).toArray s 0 0 (iw_A G)) 6 G (iw_A G) σ 64 [] [] := by
    intro h
    unfold f_X1_goesOver_X64_9 at h
    refine iv_iconst (pc := 64) C (0 : Int32) dX1_goesOver_64 (by decide) ?_
    cases h
    exact iv_zret C hr hlk rfl rfl dX1_goesOver_65
  have vB9 : ∀ (k9 : Option (Int32)) (r9 : Int32 → Option (Int32)), (k9  = some r → iw_V p l e rm_X1_goesOver s m ([.ref (G.2.1 c), .int p1, .int p2, .int p3] : List Value).toArray below meth c0 0 0 (MQ below (iw_Q (some (.int r)) G σ) ([.ref (G.2.1 c), .int p1, .int p2, .int p3] : List Value).toArray s 0 0 (iw_A G)) 6 G (iw_A G) σ 64 [] []) → (∀ (v2 : Int32), r9 v2 = some r → iw_V p l e rm_X1_goesOver s m ([.ref (G.2.1 c), .int p1, .int p2, .int p3] : List Value).toArray below meth c0 0 0 (MQ below (iw_Q (some (.int r)) G σ) ([.ref (G.2.1 c), .int p1, .int p2, .int p3] : List Value).toArray s 0 0 (iw_A G)) 6 G (iw_A G) σ 9 [(0, .ref (G.2.1 c)), (1, .int p1), (2, .int p2), (3, .int p3), (4, .int v1), (5, .int v2)] []) → ∀ (v2 : Int32), f_X1_goesOver_B9 c p1 p2 p3 σ v1 k9 r9 v2 = some r → iw_V p l e rm_X1_goesOver s m ([.ref (G.2.1 c), .int p1, .int p2, .int p3] : List Value).toArray below meth c0 0 0 (MQ below (iw_Q (some (.int r)) G σ) ([.ref (G.2.1 c), .int p1, .int p2, .int p3] : List Value).toArray s 0 0 (iw_A G)) 6 G (iw_A G) σ 9 [(0, .ref (G.2.1 c)), (1, .int p1), (2, .int p2), (3, .int p3), (4, .int v1), (5, .int v2)] [] := by
    intro k9 r9 hk9 hr9 v2 h
    unfold f_X1_goesOver_B9 at h
    refine iv_iload (pc := 9) C 5 dX1_goesOver_9 rfl ?_
    refine iv_aload_n (pc := 11) C 0 dX1_goesOver_11 rfl rfl ?_
    refine iv_getf (pc := 12) (T := TX1) (N := 7) (ci := 1) C c 5 in_X1_goesOver_1 (iw_ix hJ (iw_nl hc)) (iw_E1 (iw_nk hc)) rfl (by decide) lk_X1_goesOver_27 rfl rfl dX1_goesOver_12 ?_
    refine iv_iload_n (pc := 15) C 1 dX1_goesOver_15 rfl rfl ?_
    refine iv_callSN (pc := 16) C [.ref (G.2.1 (c + 6)), .int p1] (k_X5_at l G hJ.1 (c + 6) (iw_na6 hJ hc) p1 σ rfl) gX1_goesOver_X5_at_n51 rfl ne_RX1_51 si_X1_goesOver_X5_at qd_X5_at ⟨rfl, rfl, Nat.le_of_ble_eq_true rfl, Nat.le_of_ble_eq_true rfl⟩ rfl rfl (Nat.le_of_ble_eq_true rfl) dX1_goesOver_16 ?_
    refine iv_icmp_ge (pc := 19) C 64 dX1_goesOver_19 (by decide) (fun h3 => ?_) (fun h3 => ?_)
    · replace h := iw_ift h3 h
      exact iv_sub [] rfl (hk9 h)
    · replace h := iw_iff h3 h
      refine iv_aload_n (pc := 22) C 0 dX1_goesOver_22 rfl rfl ?_
      refine iv_getf (pc := 23) (T := TX1) (N := 7) (ci := 1) C c 6 in_X1_goesOver_1 (iw_ix hJ (iw_nl hc)) (iw_E1 (iw_nk hc)) rfl (by decide) lk_X1_goesOver_30 rfl rfl dX1_goesOver_23 ?_
      refine iv_iload (pc := 26) C 4 dX1_goesOver_26 rfl ?_
      refine iv_iload (pc := 28) C 5 dX1_goesOver_28 rfl ?_
      refine iv_iadd (pc := 30) C dX1_goesOver_30 ?_
      refine iv_iconst (pc := 31) C (1 : Int32) dX1_goesOver_31 (by decide) ?_
      refine iv_isub (pc := 32) C dX1_goesOver_32 ?_
      refine iv_callSN (pc := 33) C [.ref (G.2.1 (c + 7)), .int ((v1 + v2) - (1 : Int32))] (k_X5_at l G hJ.1 (c + 7) (iw_na7 hJ hc) ((v1 + v2) - (1 : Int32)) σ rfl) gX1_goesOver_X5_at_n51 rfl ne_RX1_51 si_X1_goesOver_X5_at qd_X5_at ⟨rfl, rfl, Nat.le_of_ble_eq_true rfl, Nat.le_of_ble_eq_true rfl⟩ rfl rfl (Nat.le_of_ble_eq_true rfl) dX1_goesOver_33 ?_
      refine iv_aload_n (pc := 36) C 0 dX1_goesOver_36 rfl rfl ?_
      refine iv_getf (pc := 37) (T := TX1) (N := 7) (ci := 1) C c 6 in_X1_goesOver_1 (iw_ix hJ (iw_nl hc)) (iw_E1 (iw_nk hc)) rfl (by decide) lk_X1_goesOver_30 rfl rfl dX1_goesOver_37 ?_
      refine iv_iload (pc := 40) C 4 dX1_goesOver_40 rfl ?_
      refine iv_iload (pc := 42) C 5 dX1_goesOver_42 rfl ?_
      refine iv_iadd (pc := 44) C dX1_goesOver_44 ?_
      refine iv_callSN (pc := 45) C [.ref (G.2.1 (c + 7)), .int (v1 + v2)] (k_X5_at l G hJ.1 (c + 7) (iw_na7 hJ hc) (v1 + v2) σ rfl) gX1_goesOver_X5_at_n51 rfl ne_RX1_51 si_X1_goesOver_X5_at qd_X5_at ⟨rfl, rfl, Nat.le_of_ble_eq_true rfl, Nat.le_of_ble_eq_true rfl⟩ rfl rfl (Nat.le_of_ble_eq_true rfl) dX1_goesOver_45 ?_
      refine iv_iload_n (pc := 48) C 2 dX1_goesOver_48 rfl rfl ?_
      refine iv_iload_n (pc := 49) C 3 dX1_goesOver_49 rfl rfl ?_
      refine iv_callS (pc := 50) C [.int (f_X5_at (c + 7) ((v1 + v2) - (1 : Int32)) σ), .int (f_X5_at (c + 7) (v1 + v2) σ), .int p2, .int p3] (k_X1_isPair l G hJ (f_X5_at (c + 7) ((v1 + v2) - (1 : Int32)) σ) (f_X5_at (c + 7) (v1 + v2) σ) p2 p3 σ rfl) gX1_goesOver_X1_isPair rfl qd_X1_isPair ⟨rfl, rfl, Nat.le_of_ble_eq_true rfl, Nat.le_of_ble_eq_true rfl⟩ rfl rfl (Nat.le_of_ble_eq_true rfl) dX1_goesOver_50 ?_
      refine iv_if_eq (pc := 53) C 58 dX1_goesOver_53 (by decide) (fun h4 => ?_) (fun h4 => ?_)
      · replace h := iw_ift h4 h
        obtain ⟨v5, ev5⟩ : ∃ y : Int32, y = v2 + (1 : Int32) := ⟨_, rfl⟩
        replace h := iw_lete ev5 h
        refine iv_iinc (pc := 58) C 5 v5 [(5, .int v5), (0, .ref (G.2.1 c)), (1, .int p1), (2, .int p2), (3, .int p3), (4, .int v1)] dX1_goesOver_58 rfl (by rw [ev5]; rfl) (by decide) rfl ?_
        refine iv_goto (pc := 61) C 9 dX1_goesOver_61 (by decide) ?_
        exact iv_sub [1, 2, 3, 4, 5, 0] rfl (hr9 v5 h)
      · replace h := iw_iff h4 h
        refine iv_iconst (pc := 56) C (1 : Int32) dX1_goesOver_56 (by decide) ?_
        cases h
        exact iv_zret C hr hlk rfl rfl dX1_goesOver_57
  have vL9 : ∀ (nn : Nat) (v2 : Int32), f_X1_goesOver_L9 c p1 p2 p3 σ v1 (f_X1_goesOver_X64_9) nn v2 = some r → iw_V p l e rm_X1_goesOver s m ([.ref (G.2.1 c), .int p1, .int p2, .int p3] : List Value).toArray below meth c0 0 0 (MQ below (iw_Q (some (.int r)) G σ) ([.ref (G.2.1 c), .int p1, .int p2, .int p3] : List Value).toArray s 0 0 (iw_A G)) 6 G (iw_A G) σ 9 [(0, .ref (G.2.1 c)), (1, .int p1), (2, .int p2), (3, .int p3), (4, .int v1), (5, .int v2)] [] := by
    intro nn
    induction nn with
    | zero => intro v2 h; exact absurd h (fun q => by cases q)
    | succ nn ih => intro v2 h; exact vB9 (f_X1_goesOver_X64_9) (f_X1_goesOver_L9 c p1 p2 p3 σ v1 (f_X1_goesOver_X64_9) nn) vX9 ih v2 h
  exact iv_sub [2, 3, 4, 5, 1, 0] rfl (vL9 n (1 : Int32) h)
theorem qd_X1_goesOver : yX1_goesOver.cls = RX1 ∧ yX1_goesOver.cls ≠ "java/lang/invoke/MethodHandle" ∧ yX1_goesOver.cls ≠ "java/lang/invoke/VarHandle" ∧ (parseMethodDescriptor yX1_goesOver.desc).map (fun d => d.parameters.length) = some 3 := by decide +kernel
def f_X1_waysOver_X65_5 (v1 : Int32) : Option (Int32) :=
some v1
def f_X1_waysOver_X59_21 (r5 : Int32 → Int32 → Option (Int32)) (v3 : Int32) (v5 : Int32) : Option (Int32) :=
iw_let (v3 + (1 : Int32)) fun v6 =>
r5 v5 v6
def f_X1_waysOver_J53 (r21 : Int32 → Int32 → Option (Int32)) (v8 : Int32) (v11 : Int32) : Option (Int32) :=
iw_let (v8 + (1 : Int32)) fun v12 =>
r21 v11 v12
def f_X1_waysOver_B21 (n : Nat) (c : Nat) (p1 : Int32) (p2 : Int32) (σ : iw_M) (v3 : Int32) (k21 : Int32 → Option (Int32)) (r21 : Int32 → Int32 → Option (Int32)) (v7 : Int32) (v8 : Int32) : Option (Int32) :=
if (f_X5_at (c + 1) (2 : Int32) σ) ≤ v8 then
(k21 v7)
else
((f_X1_goesOver n c (f_X5_wayOf v3 v8) p1 p2 σ).bind fun v10 =>
if v10 = (0 : Int32) then
(f_X1_waysOver_J53 r21 v8 v7)
else
(iw_let (v7 + (1 : Int32)) fun v14 =>
f_X1_waysOver_J53 r21 v8 v14))
def f_X1_waysOver_L21 (n : Nat) (c : Nat) (p1 : Int32) (p2 : Int32) (σ : iw_M) (v3 : Int32) (k21 : Int32 → Option (Int32)) (nn : Nat) : Int32 → Int32 → Option (Int32) :=
iw_it (fun r21 => f_X1_waysOver_B21 n c p1 p2 σ v3 k21 r21) (fun _ _ => none) nn
def f_X1_waysOver_B5 (n : Nat) (c : Nat) (p1 : Int32) (p2 : Int32) (σ : iw_M) (k5 : Int32 → Option (Int32)) (r5 : Int32 → Int32 → Option (Int32)) (v2 : Int32) (v3 : Int32) : Option (Int32) :=
if (f_X5_at (c + 1) (3 : Int32) σ) ≤ v3 then
(k5 v2)
else
(f_X1_waysOver_L21 n c p1 p2 σ v3 (f_X1_waysOver_X59_21 r5 v3) n v2 (0 : Int32))
def f_X1_waysOver_L5 (n : Nat) (c : Nat) (p1 : Int32) (p2 : Int32) (σ : iw_M) (k5 : Int32 → Option (Int32)) (nn : Nat) : Int32 → Int32 → Option (Int32) :=
iw_it (fun r5 => f_X1_waysOver_B5 n c p1 p2 σ k5 r5) (fun _ _ => none) nn
def f_X1_waysOver (n : Nat) (c : Nat) (p1 : Int32) (p2 : Int32) (σ : iw_M) : Option (Int32) :=
f_X1_waysOver_L5 n c p1 p2 σ (f_X1_waysOver_X65_5) n (0 : Int32) (0 : Int32)
abbrev rm_X1_waysOver : Room := { frames := 2, cells := 0, slots := 0, locals := 48 }
theorem lk_X1_waysOver_9 : Cond.fieldLink RX1 9 RX1 (TX1 0).2.1 (TX1 0).2.2.1 ∈ wsX1_waysOver := by decide +kernel
theorem si_X1_waysOver_X5_at : Cond.static yX5_at ∈ wsX1_waysOver ∧ Cond.initialized yX5_at.cls ∈ wsX1_waysOver := by decide +kernel
theorem si_X1_waysOver_X5_wayOf : Cond.static yX5_wayOf ∈ wsX1_waysOver ∧ Cond.initialized yX5_wayOf.cls ∈ wsX1_waysOver := by decide +kernel
theorem in_X1_waysOver_1 : ∀ w ∈ u_ws RX1 TX1 7, w ∈ wsX1_waysOver := by decide +kernel
set_option maxHeartbeats 4000000 in
set_option maxRecDepth 100000 in
theorem k_X1_waysOver (l : Launch) (G : iw_G) (hJ : iw_JX G) (n : Nat) (c : Nat) (hc : iw_net c) (p1 : Int32) (p2 : Int32) (σ : iw_M) {r : Int32} (h : f_X1_waysOver n c p1 p2 σ = some r) : iw_Ct l yX1_waysOver wsX1_waysOver rm_X1_waysOver G ([.ref (G.2.1 c), .int p1, .int p2] : List Value) σ (some (.int r)) σ := by
  refine iv_start (nL := 6) (own := RX1) (ret := (some .int)) (cc := cX1_waysOver) (by decide +kernel) rfl rfl hJ.1 (Nat.le_of_ble_eq_true rfl) ?_
  intro p e s m below meth c0 C hr hlk
  refine iv_sub (lv' := [(0, .ref (G.2.1 c)), (1, .int p1), (2, .int p2)]) [0, 1, 2] rfl ?_
  unfold f_X1_waysOver at h
  refine iv_iconst (pc := 0) C (0 : Int32) dX1_waysOver_0 (by decide) ?_
  refine iv_istore_n (pc := 1) C [(3, .int (0 : Int32)), (0, .ref (G.2.1 c)), (1, .int p1), (2, .int p2)] dX1_waysOver_1 rfl (by decide) rfl ?_
  refine iv_iconst (pc := 2) C (0 : Int32) dX1_waysOver_2 (by decide) ?_
  refine iv_istore (pc := 3) C [(4, .int (0 : Int32)), (3, .int (0 : Int32)), (0, .ref (G.2.1 c)), (1, .int p1), (2, .int p2)] dX1_waysOver_3 (by decide) rfl ?_
  have vX5 : ∀ (v1 : Int32), f_X1_waysOver_X65_5 v1 = some r → iw_V p l e rm_X1_waysOver s m ([.ref (G.2.1 c), .int p1, .int p2] : List Value).toArray below meth c0 0 0 (MQ below (iw_Q (some (.int r)) G σ) ([.ref (G.2.1 c), .int p1, .int p2] : List Value).toArray s 0 0 (iw_A G)) 6 G (iw_A G) σ 65 [(3, .int v1)] [] := by
    intro v1 h
    unfold f_X1_waysOver_X65_5 at h
    refine iv_iload_n (pc := 65) C 0 dX1_waysOver_65 rfl rfl ?_
    cases h
    exact iv_iret C hr hlk rfl rfl dX1_waysOver_66
  have vB5 : ∀ (k5 : Int32 → Option (Int32)) (r5 : Int32 → Int32 → Option (Int32)), (∀ (v1 : Int32), k5 v1 = some r → iw_V p l e rm_X1_waysOver s m ([.ref (G.2.1 c), .int p1, .int p2] : List Value).toArray below meth c0 0 0 (MQ below (iw_Q (some (.int r)) G σ) ([.ref (G.2.1 c), .int p1, .int p2] : List Value).toArray s 0 0 (iw_A G)) 6 G (iw_A G) σ 65 [(3, .int v1)] []) → (∀ (v2 : Int32) (v3 : Int32), r5 v2 v3 = some r → iw_V p l e rm_X1_waysOver s m ([.ref (G.2.1 c), .int p1, .int p2] : List Value).toArray below meth c0 0 0 (MQ below (iw_Q (some (.int r)) G σ) ([.ref (G.2.1 c), .int p1, .int p2] : List Value).toArray s 0 0 (iw_A G)) 6 G (iw_A G) σ 5 [(0, .ref (G.2.1 c)), (1, .int p1), (2, .int p2), (3, .int v2), (4, .int v3)] []) → ∀ (v2 : Int32) (v3 : Int32), f_X1_waysOver_B5 n c p1 p2 σ k5 r5 v2 v3 = some r → iw_V p l e rm_X1_waysOver s m ([.ref (G.2.1 c), .int p1, .int p2] : List Value).toArray below meth c0 0 0 (MQ below (iw_Q (some (.int r)) G σ) ([.ref (G.2.1 c), .int p1, .int p2] : List Value).toArray s 0 0 (iw_A G)) 6 G (iw_A G) σ 5 [(0, .ref (G.2.1 c)), (1, .int p1), (2, .int p2), (3, .int v2), (4, .int v3)] [] := by
    intro k5 r5 hk5 hr5 v2 v3 h
    unfold f_X1_waysOver_B5 at h
    refine iv_iload (pc := 5) C 4 dX1_waysOver_5 rfl ?_
    refine iv_aload_n (pc := 7) C 0 dX1_waysOver_7 rfl rfl ?_
    refine iv_getf (pc := 8) (T := TX1) (N := 7) (ci := 1) C c 0 in_X1_waysOver_1 (iw_ix hJ (iw_nl hc)) (iw_E1 (iw_nk hc)) rfl (by decide) lk_X1_waysOver_9 rfl rfl dX1_waysOver_8 ?_
    refine iv_iconst (pc := 11) C (3 : Int32) dX1_waysOver_11 (by decide) ?_
    refine iv_callSN (pc := 12) C [.ref (G.2.1 (c + 1)), .int (3 : Int32)] (k_X5_at l G hJ.1 (c + 1) (iw_na1 hJ hc) (3 : Int32) σ rfl) gX1_waysOver_X5_at_n51 rfl ne_RX1_51 si_X1_waysOver_X5_at qd_X5_at ⟨rfl, rfl, Nat.le_of_ble_eq_true rfl, Nat.le_of_ble_eq_true rfl⟩ rfl rfl (Nat.le_of_ble_eq_true rfl) dX1_waysOver_12 ?_
    refine iv_icmp_ge (pc := 15) C 65 dX1_waysOver_15 (by decide) (fun h4 => ?_) (fun h4 => ?_)
    · replace h := iw_ift h4 h
      exact iv_sub [3] rfl (hk5 v2 h)
    · replace h := iw_iff h4 h
      refine iv_iconst (pc := 18) C (0 : Int32) dX1_waysOver_18 (by decide) ?_
      refine iv_istore (pc := 19) C [(5, .int (0 : Int32)), (0, .ref (G.2.1 c)), (1, .int p1), (2, .int p2), (3, .int v2), (4, .int v3)] dX1_waysOver_19 (by decide) rfl ?_
      have vX21 : ∀ (v5 : Int32), f_X1_waysOver_X59_21 r5 v3 v5 = some r → iw_V p l e rm_X1_waysOver s m ([.ref (G.2.1 c), .int p1, .int p2] : List Value).toArray below meth c0 0 0 (MQ below (iw_Q (some (.int r)) G σ) ([.ref (G.2.1 c), .int p1, .int p2] : List Value).toArray s 0 0 (iw_A G)) 6 G (iw_A G) σ 59 [(0, .ref (G.2.1 c)), (1, .int p1), (2, .int p2), (3, .int v5), (4, .int v3)] [] := by
        intro v5 h
        unfold f_X1_waysOver_X59_21 at h
        obtain ⟨v6, ev6⟩ : ∃ y : Int32, y = v3 + (1 : Int32) := ⟨_, rfl⟩
        replace h := iw_lete ev6 h
        refine iv_iinc (pc := 59) C 4 v6 [(4, .int v6), (0, .ref (G.2.1 c)), (1, .int p1), (2, .int p2), (3, .int v5)] dX1_waysOver_59 rfl (by rw [ev6]; rfl) (by decide) rfl ?_
        refine iv_goto (pc := 62) C 5 dX1_waysOver_62 (by decide) ?_
        exact iv_sub [1, 2, 3, 4, 0] rfl (hr5 v5 v6 h)
      have vB21 : ∀ (k21 : Int32 → Option (Int32)) (r21 : Int32 → Int32 → Option (Int32)), (∀ (v5 : Int32), k21 v5 = some r → iw_V p l e rm_X1_waysOver s m ([.ref (G.2.1 c), .int p1, .int p2] : List Value).toArray below meth c0 0 0 (MQ below (iw_Q (some (.int r)) G σ) ([.ref (G.2.1 c), .int p1, .int p2] : List Value).toArray s 0 0 (iw_A G)) 6 G (iw_A G) σ 59 [(0, .ref (G.2.1 c)), (1, .int p1), (2, .int p2), (3, .int v5), (4, .int v3)] []) → (∀ (v7 : Int32) (v8 : Int32), r21 v7 v8 = some r → iw_V p l e rm_X1_waysOver s m ([.ref (G.2.1 c), .int p1, .int p2] : List Value).toArray below meth c0 0 0 (MQ below (iw_Q (some (.int r)) G σ) ([.ref (G.2.1 c), .int p1, .int p2] : List Value).toArray s 0 0 (iw_A G)) 6 G (iw_A G) σ 21 [(0, .ref (G.2.1 c)), (1, .int p1), (2, .int p2), (3, .int v7), (4, .int v3), (5, .int v8)] []) → ∀ (v7 : Int32) (v8 : Int32), f_X1_waysOver_B21 n c p1 p2 σ v3 k21 r21 v7 v8 = some r → iw_V p l e rm_X1_waysOver s m ([.ref (G.2.1 c), .int p1, .int p2] : List Value).toArray below meth c0 0 0 (MQ below (iw_Q (some (.int r)) G σ) ([.ref (G.2.1 c), .int p1, .int p2] : List Value).toArray s 0 0 (iw_A G)) 6 G (iw_A G) σ 21 [(0, .ref (G.2.1 c)), (1, .int p1), (2, .int p2), (3, .int v7), (4, .int v3), (5, .int v8)] [] := by
        intro k21 r21 hk21 hr21 v7 v8 h
        unfold f_X1_waysOver_B21 at h
        refine iv_iload (pc := 21) C 5 dX1_waysOver_21 rfl ?_
        refine iv_aload_n (pc := 23) C 0 dX1_waysOver_23 rfl rfl ?_
        refine iv_getf (pc := 24) (T := TX1) (N := 7) (ci := 1) C c 0 in_X1_waysOver_1 (iw_ix hJ (iw_nl hc)) (iw_E1 (iw_nk hc)) rfl (by decide) lk_X1_waysOver_9 rfl rfl dX1_waysOver_24 ?_
        refine iv_iconst (pc := 27) C (2 : Int32) dX1_waysOver_27 (by decide) ?_
        refine iv_callSN (pc := 28) C [.ref (G.2.1 (c + 1)), .int (2 : Int32)] (k_X5_at l G hJ.1 (c + 1) (iw_na1 hJ hc) (2 : Int32) σ rfl) gX1_waysOver_X5_at_n51 rfl ne_RX1_51 si_X1_waysOver_X5_at qd_X5_at ⟨rfl, rfl, Nat.le_of_ble_eq_true rfl, Nat.le_of_ble_eq_true rfl⟩ rfl rfl (Nat.le_of_ble_eq_true rfl) dX1_waysOver_28 ?_
        refine iv_icmp_ge (pc := 31) C 59 dX1_waysOver_31 (by decide) (fun h9 => ?_) (fun h9 => ?_)
        · replace h := iw_ift h9 h
          exact iv_sub [0, 1, 2, 3, 4] rfl (hk21 v7 h)
        · replace h := iw_iff h9 h
          refine iv_aload_n (pc := 34) C 0 dX1_waysOver_34 rfl rfl ?_
          refine iv_iload (pc := 35) C 4 dX1_waysOver_35 rfl ?_
          refine iv_iload (pc := 37) C 5 dX1_waysOver_37 rfl ?_
          refine iv_callSN (pc := 39) C [.int v3, .int v8] (k_X5_wayOf l G hJ v3 v8 σ rfl) gX1_waysOver_X5_wayOf_n74 rfl ne_RX1_74 si_X1_waysOver_X5_wayOf qd_X5_wayOf ⟨rfl, rfl, Nat.le_of_ble_eq_true rfl, Nat.le_of_ble_eq_true rfl⟩ rfl rfl (Nat.le_of_ble_eq_true rfl) dX1_waysOver_39 ?_
          refine iv_iload_n (pc := 42) C 1 dX1_waysOver_42 rfl rfl ?_
          refine iv_iload_n (pc := 43) C 2 dX1_waysOver_43 rfl rfl ?_
          obtain ⟨v10, ev10, h⟩ := iw_be h
          refine iv_callV (pc := 44) (b := c) (ci := 1) C [.int (f_X5_wayOf v3 v8), .int p1, .int p2] (k_X1_goesOver l G hJ n c hc (f_X5_wayOf v3 v8) p1 p2 σ ev10) gX1_waysOver_X1_goesOver rfl qd_X1_goesOver ⟨rfl, rfl, Nat.le_of_ble_eq_true rfl, Nat.le_of_ble_eq_true rfl⟩ (iw_ix hJ (iw_nl hc)) (iw_E1 (iw_nk hc)) rfl rfl rfl (Nat.le_of_ble_eq_true rfl) dX1_waysOver_44 ?_
          have vJ53 : ∀ (v11 : Int32), f_X1_waysOver_J53 r21 v8 v11 = some r → iw_V p l e rm_X1_waysOver s m ([.ref (G.2.1 c), .int p1, .int p2] : List Value).toArray below meth c0 0 0 (MQ below (iw_Q (some (.int r)) G σ) ([.ref (G.2.1 c), .int p1, .int p2] : List Value).toArray s 0 0 (iw_A G)) 6 G (iw_A G) σ 53 [(0, .ref (G.2.1 c)), (1, .int p1), (2, .int p2), (3, .int v11), (4, .int v3), (5, .int v8)] [] := by
            intro v11 h
            unfold f_X1_waysOver_J53 at h
            obtain ⟨v12, ev12⟩ : ∃ y : Int32, y = v8 + (1 : Int32) := ⟨_, rfl⟩
            replace h := iw_lete ev12 h
            refine iv_iinc (pc := 53) C 5 v12 [(5, .int v12), (0, .ref (G.2.1 c)), (1, .int p1), (2, .int p2), (3, .int v11), (4, .int v3)] dX1_waysOver_53 rfl (by rw [ev12]; rfl) (by decide) rfl ?_
            refine iv_goto (pc := 56) C 21 dX1_waysOver_56 (by decide) ?_
            exact iv_sub [1, 2, 3, 4, 5, 0] rfl (hr21 v11 v12 h)
          refine iv_if_eq (pc := 47) C 53 dX1_waysOver_47 (by decide) (fun h13 => ?_) (fun h13 => ?_)
          · replace h := iw_ift h13 h
            exact iv_sub [0, 1, 2, 3, 4, 5] rfl (vJ53 v7 h)
          · replace h := iw_iff h13 h
            obtain ⟨v14, ev14⟩ : ∃ y : Int32, y = v7 + (1 : Int32) := ⟨_, rfl⟩
            replace h := iw_lete ev14 h
            refine iv_iinc (pc := 50) C 3 v14 [(3, .int v14), (0, .ref (G.2.1 c)), (1, .int p1), (2, .int p2), (4, .int v3), (5, .int v8)] dX1_waysOver_50 rfl (by rw [ev14]; rfl) (by decide) rfl ?_
            exact iv_sub [1, 2, 3, 0, 4, 5] rfl (vJ53 v14 h)
      have vL21 : ∀ (nn : Nat) (v7 : Int32) (v8 : Int32), f_X1_waysOver_L21 n c p1 p2 σ v3 (f_X1_waysOver_X59_21 r5 v3) nn v7 v8 = some r → iw_V p l e rm_X1_waysOver s m ([.ref (G.2.1 c), .int p1, .int p2] : List Value).toArray below meth c0 0 0 (MQ below (iw_Q (some (.int r)) G σ) ([.ref (G.2.1 c), .int p1, .int p2] : List Value).toArray s 0 0 (iw_A G)) 6 G (iw_A G) σ 21 [(0, .ref (G.2.1 c)), (1, .int p1), (2, .int p2), (3, .int v7), (4, .int v3), (5, .int v8)] [] := by
        intro nn
        induction nn with
        | zero => intro v7 v8 h; exact absurd h (fun q => by cases q)
        | succ nn ih => intro v7 v8 h; exact vB21 (f_X1_waysOver_X59_21 r5 v3) (f_X1_waysOver_L21 n c p1 p2 σ v3 (f_X1_waysOver_X59_21 r5 v3) nn) vX21 ih v7 v8 h
      exact iv_sub [1, 2, 3, 4, 5, 0] rfl (vL21 n v2 (0 : Int32) h)
  have vL5 : ∀ (nn : Nat) (v2 : Int32) (v3 : Int32), f_X1_waysOver_L5 n c p1 p2 σ (f_X1_waysOver_X65_5) nn v2 v3 = some r → iw_V p l e rm_X1_waysOver s m ([.ref (G.2.1 c), .int p1, .int p2] : List Value).toArray below meth c0 0 0 (MQ below (iw_Q (some (.int r)) G σ) ([.ref (G.2.1 c), .int p1, .int p2] : List Value).toArray s 0 0 (iw_A G)) 6 G (iw_A G) σ 5 [(0, .ref (G.2.1 c)), (1, .int p1), (2, .int p2), (3, .int v2), (4, .int v3)] [] := by
    intro nn
    induction nn with
    | zero => intro v2 v3 h; exact absurd h (fun q => by cases q)
    | succ nn ih => intro v2 v3 h; exact vB5 (f_X1_waysOver_X65_5) (f_X1_waysOver_L5 n c p1 p2 σ (f_X1_waysOver_X65_5) nn) vX5 ih v2 v3 h
  exact iv_sub [2, 3, 4, 1, 0] rfl (vL5 n (0 : Int32) (0 : Int32) h)
theorem qd_X1_waysOver : yX1_waysOver.cls = RX1 ∧ yX1_waysOver.cls ≠ "java/lang/invoke/MethodHandle" ∧ yX1_waysOver.cls ≠ "java/lang/invoke/VarHandle" ∧ (parseMethodDescriptor yX1_waysOver.desc).map (fun d => d.parameters.length) = some 2 := by decide +kernel
def f_X1_hashOfWays_X71_6 (v1 : Int64) : Option (Int64) :=
some v1
def f_X1_hashOfWays_B6 (n : Nat) (c : Nat) (p2 : Int32) (σ : iw_M) (k6 : Int64 → Option (Int64)) (r6 : Int64 → Int32 → Option (Int64)) (v2 : Int64) (v3 : Int32) : Option (Int64) :=
if (f_X5_at (c + 1) (2 : Int32) σ) ≤ v3 then
(k6 v2)
else
(iw_let (f_X5_wayOf p2 v3) fun v5 =>
iw_let (((31 : Int64) * v2) + (Int32.toInt64 (f_X1_lengthOf c v5 σ))) fun v6 =>
(f_X5_hashOf n v6 (c + 7) (v5 * (10 : Int32)) (f_X1_lengthOf c v5 σ) σ).bind fun v7 =>
iw_let (v3 + (1 : Int32)) fun v8 =>
r6 v7 v8)
def f_X1_hashOfWays_L6 (n : Nat) (c : Nat) (p2 : Int32) (σ : iw_M) (k6 : Int64 → Option (Int64)) (nn : Nat) : Int64 → Int32 → Option (Int64) :=
iw_it (fun r6 => f_X1_hashOfWays_B6 n c p2 σ k6 r6) (fun _ _ => none) nn
def f_X1_hashOfWays (n : Nat) (c : Nat) (p1 : Int64) (p2 : Int32) (σ : iw_M) : Option (Int64) :=
f_X1_hashOfWays_L6 n c p2 σ (f_X1_hashOfWays_X71_6) n p1 (0 : Int32)
abbrev rm_X1_hashOfWays : Room := { frames := 2, cells := 0, slots := 0, locals := 48 }
theorem lk_X1_hashOfWays_9 : Cond.fieldLink RX1 9 RX1 (TX1 0).2.1 (TX1 0).2.2.1 ∈ wsX1_hashOfWays := by decide +kernel
theorem si_X1_hashOfWays_X5_at : Cond.static yX5_at ∈ wsX1_hashOfWays ∧ Cond.initialized yX5_at.cls ∈ wsX1_hashOfWays := by decide +kernel
theorem si_X1_hashOfWays_X5_wayOf : Cond.static yX5_wayOf ∈ wsX1_hashOfWays ∧ Cond.initialized yX5_wayOf.cls ∈ wsX1_hashOfWays := by decide +kernel
theorem lk_X1_hashOfWays_30 : Cond.fieldLink RX1 30 RX1 (TX1 6).2.1 (TX1 6).2.2.1 ∈ wsX1_hashOfWays := by decide +kernel
theorem si_X1_hashOfWays_X5_hashOf : Cond.static yX5_hashOf ∈ wsX1_hashOfWays ∧ Cond.initialized yX5_hashOf.cls ∈ wsX1_hashOfWays := by decide +kernel
theorem in_X1_hashOfWays_1 : ∀ w ∈ u_ws RX1 TX1 7, w ∈ wsX1_hashOfWays := by decide +kernel
set_option maxHeartbeats 4000000 in
set_option maxRecDepth 100000 in
theorem k_X1_hashOfWays (l : Launch) (G : iw_G) (hJ : iw_JX G) (n : Nat) (c : Nat) (hc : iw_net c) (p1 : Int64) (p2 : Int32) (σ : iw_M) {r : Int64} (h : f_X1_hashOfWays n c p1 p2 σ = some r) : iw_Ct l yX1_hashOfWays wsX1_hashOfWays rm_X1_hashOfWays G ([.ref (G.2.1 c), .long p1, .int p2] : List Value) σ (some (.long r)) σ := by
  refine iv_start (nL := 8) (own := RX1) (ret := (some .long)) (cc := cX1_hashOfWays) (by decide +kernel) rfl rfl hJ.1 (Nat.le_of_ble_eq_true rfl) ?_
  intro p e s m below meth c0 C hr hlk
  refine iv_sub (lv' := [(0, .ref (G.2.1 c)), (1, .long p1), (3, .int p2)]) [0, 1, 2] rfl ?_
  unfold f_X1_hashOfWays at h
  refine iv_lload_n (pc := 0) C 1 dX1_hashOfWays_0 rfl rfl ?_
  refine iv_lstore (pc := 1) C [(4, .long p1), (0, .ref (G.2.1 c)), (1, .long p1), (3, .int p2)] dX1_hashOfWays_1 (by decide) rfl ?_
  refine iv_iconst (pc := 3) C (0 : Int32) dX1_hashOfWays_3 (by decide) ?_
  refine iv_istore (pc := 4) C [(6, .int (0 : Int32)), (4, .long p1), (0, .ref (G.2.1 c)), (1, .long p1), (3, .int p2)] dX1_hashOfWays_4 (by decide) rfl ?_
  have vX6 : ∀ (v1 : Int64), f_X1_hashOfWays_X71_6 v1 = some r → iw_V p l e rm_X1_hashOfWays s m ([.ref (G.2.1 c), .long p1, .int p2] : List Value).toArray below meth c0 0 0 (MQ below (iw_Q (some (.long r)) G σ) ([.ref (G.2.1 c), .long p1, .int p2] : List Value).toArray s 0 0 (iw_A G)) 8 G (iw_A G) σ 71 [(4, .long v1)] [] := by
    intro v1 h
    unfold f_X1_hashOfWays_X71_6 at h
    refine iv_lload (pc := 71) C 0 dX1_hashOfWays_71 rfl ?_
    cases h
    exact iv_lret C hr hlk rfl rfl dX1_hashOfWays_73
  have vB6 : ∀ (k6 : Int64 → Option (Int64)) (r6 : Int64 → Int32 → Option (Int64)), (∀ (v1 : Int64), k6 v1 = some r → iw_V p l e rm_X1_hashOfWays s m ([.ref (G.2.1 c), .long p1, .int p2] : List Value).toArray below meth c0 0 0 (MQ below (iw_Q (some (.long r)) G σ) ([.ref (G.2.1 c), .long p1, .int p2] : List Value).toArray s 0 0 (iw_A G)) 8 G (iw_A G) σ 71 [(4, .long v1)] []) → (∀ (v2 : Int64) (v3 : Int32), r6 v2 v3 = some r → iw_V p l e rm_X1_hashOfWays s m ([.ref (G.2.1 c), .long p1, .int p2] : List Value).toArray below meth c0 0 0 (MQ below (iw_Q (some (.long r)) G σ) ([.ref (G.2.1 c), .long p1, .int p2] : List Value).toArray s 0 0 (iw_A G)) 8 G (iw_A G) σ 6 [(0, .ref (G.2.1 c)), (3, .int p2), (4, .long v2), (6, .int v3)] []) → ∀ (v2 : Int64) (v3 : Int32), f_X1_hashOfWays_B6 n c p2 σ k6 r6 v2 v3 = some r → iw_V p l e rm_X1_hashOfWays s m ([.ref (G.2.1 c), .long p1, .int p2] : List Value).toArray below meth c0 0 0 (MQ below (iw_Q (some (.long r)) G σ) ([.ref (G.2.1 c), .long p1, .int p2] : List Value).toArray s 0 0 (iw_A G)) 8 G (iw_A G) σ 6 [(0, .ref (G.2.1 c)), (3, .int p2), (4, .long v2), (6, .int v3)] [] := by
    intro k6 r6 hk6 hr6 v2 v3 h
    unfold f_X1_hashOfWays_B6 at h
    refine iv_iload (pc := 6) C 3 dX1_hashOfWays_6 rfl ?_
    refine iv_aload_n (pc := 8) C 0 dX1_hashOfWays_8 rfl rfl ?_
    refine iv_getf (pc := 9) (T := TX1) (N := 7) (ci := 1) C c 0 in_X1_hashOfWays_1 (iw_ix hJ (iw_nl hc)) (iw_E1 (iw_nk hc)) rfl (by decide) lk_X1_hashOfWays_9 rfl rfl dX1_hashOfWays_9 ?_
    refine iv_iconst (pc := 12) C (2 : Int32) dX1_hashOfWays_12 (by decide) ?_
    refine iv_callSN (pc := 13) C [.ref (G.2.1 (c + 1)), .int (2 : Int32)] (k_X5_at l G hJ.1 (c + 1) (iw_na1 hJ hc) (2 : Int32) σ rfl) gX1_hashOfWays_X5_at_n51 rfl ne_RX1_51 si_X1_hashOfWays_X5_at qd_X5_at ⟨rfl, rfl, Nat.le_of_ble_eq_true rfl, Nat.le_of_ble_eq_true rfl⟩ rfl rfl (Nat.le_of_ble_eq_true rfl) dX1_hashOfWays_13 ?_
    refine iv_icmp_ge (pc := 16) C 71 dX1_hashOfWays_16 (by decide) (fun h4 => ?_) (fun h4 => ?_)
    · replace h := iw_ift h4 h
      exact iv_sub [2] rfl (hk6 v2 h)
    · replace h := iw_iff h4 h
      refine iv_iload_n (pc := 19) C 1 dX1_hashOfWays_19 rfl rfl ?_
      refine iv_iload (pc := 20) C 3 dX1_hashOfWays_20 rfl ?_
      refine iv_callSN (pc := 22) C [.int p2, .int v3] (k_X5_wayOf l G hJ p2 v3 σ rfl) gX1_hashOfWays_X5_wayOf_n74 rfl ne_RX1_74 si_X1_hashOfWays_X5_wayOf qd_X5_wayOf ⟨rfl, rfl, Nat.le_of_ble_eq_true rfl, Nat.le_of_ble_eq_true rfl⟩ rfl rfl (Nat.le_of_ble_eq_true rfl) dX1_hashOfWays_22 ?_
      refine iv_topi (fun v5 ev5 => ?_)
      replace h := iw_lete ev5 h
      refine iv_istore (pc := 25) C [(7, .int v5), (0, .ref (G.2.1 c)), (3, .int p2), (4, .long v2), (6, .int v3)] dX1_hashOfWays_25 (by decide) rfl ?_
      refine iv_ldc2_w (pc := 27) C (31 : Int64) (by decide +kernel) dX1_hashOfWays_27 ?_
      refine iv_lload (pc := 30) C 3 dX1_hashOfWays_30 rfl ?_
      refine iv_lmul (pc := 32) C dX1_hashOfWays_32 ?_
      refine iv_aload_n (pc := 33) C 1 dX1_hashOfWays_33 rfl rfl ?_
      refine iv_iload (pc := 34) C 0 dX1_hashOfWays_34 rfl ?_
      refine iv_callV (pc := 36) (b := c) (ci := 1) C [.int v5] (k_X1_lengthOf l G hJ c hc v5 σ rfl) gX1_hashOfWays_X1_lengthOf rfl qd_X1_lengthOf ⟨rfl, rfl, Nat.le_of_ble_eq_true rfl, Nat.le_of_ble_eq_true rfl⟩ (iw_ix hJ (iw_nl hc)) (iw_E1 (iw_nk hc)) rfl rfl rfl (Nat.le_of_ble_eq_true rfl) dX1_hashOfWays_36 ?_
      refine iv_i2l (pc := 39) C dX1_hashOfWays_39 ?_
      refine iv_ladd (pc := 40) C dX1_hashOfWays_40 ?_
      refine iv_topl (fun v6 ev6 => ?_)
      replace h := iw_lete ev6 h
      refine iv_lstore (pc := 41) C [(4, .long v6), (7, .int v5), (0, .ref (G.2.1 c)), (3, .int p2), (6, .int v3)] dX1_hashOfWays_41 (by decide) rfl ?_
      refine iv_lload (pc := 43) C 0 dX1_hashOfWays_43 rfl ?_
      refine iv_aload_n (pc := 45) C 2 dX1_hashOfWays_45 rfl rfl ?_
      refine iv_getf (pc := 46) (T := TX1) (N := 7) (ci := 1) C c 6 in_X1_hashOfWays_1 (iw_ix hJ (iw_nl hc)) (iw_E1 (iw_nk hc)) rfl (by decide) lk_X1_hashOfWays_30 rfl rfl dX1_hashOfWays_46 ?_
      refine iv_iload (pc := 49) C 1 dX1_hashOfWays_49 rfl ?_
      refine iv_bipush (pc := 51) C (10 : Int32) dX1_hashOfWays_51 (by decide) ?_
      refine iv_imul (pc := 53) C dX1_hashOfWays_53 ?_
      refine iv_aload_n (pc := 54) C 2 dX1_hashOfWays_54 rfl rfl ?_
      refine iv_iload (pc := 55) C 1 dX1_hashOfWays_55 rfl ?_
      refine iv_callV (pc := 57) (b := c) (ci := 1) C [.int v5] (k_X1_lengthOf l G hJ c hc v5 σ rfl) gX1_hashOfWays_X1_lengthOf rfl qd_X1_lengthOf ⟨rfl, rfl, Nat.le_of_ble_eq_true rfl, Nat.le_of_ble_eq_true rfl⟩ (iw_ix hJ (iw_nl hc)) (iw_E1 (iw_nk hc)) rfl rfl rfl (Nat.le_of_ble_eq_true rfl) dX1_hashOfWays_57 ?_
      obtain ⟨v7, ev7, h⟩ := iw_be h
      refine iv_callSN (pc := 60) C [.long v6, .ref (G.2.1 (c + 7)), .int (v5 * (10 : Int32)), .int (f_X1_lengthOf c v5 σ)] (k_X5_hashOf l G hJ n v6 (c + 7) (iw_na7 hJ hc) (v5 * (10 : Int32)) (f_X1_lengthOf c v5 σ) σ ev7) gX1_hashOfWays_X5_hashOf_n104 rfl ne_RX1_104 si_X1_hashOfWays_X5_hashOf qd_X5_hashOf ⟨rfl, rfl, Nat.le_of_ble_eq_true rfl, Nat.le_of_ble_eq_true rfl⟩ rfl rfl (Nat.le_of_ble_eq_true rfl) dX1_hashOfWays_60 ?_
      refine iv_lstore (pc := 63) C [(4, .long v7), (7, .int v5), (0, .ref (G.2.1 c)), (3, .int p2), (6, .int v3)] dX1_hashOfWays_63 (by decide) rfl ?_
      obtain ⟨v8, ev8⟩ : ∃ y : Int32, y = v3 + (1 : Int32) := ⟨_, rfl⟩
      replace h := iw_lete ev8 h
      refine iv_iinc (pc := 65) C 4 v8 [(6, .int v8), (4, .long v7), (7, .int v5), (0, .ref (G.2.1 c)), (3, .int p2)] dX1_hashOfWays_65 rfl (by rw [ev8]; rfl) (by decide) rfl ?_
      refine iv_goto (pc := 68) C 6 dX1_hashOfWays_68 (by decide) ?_
      exact iv_sub [3, 4, 1, 0] rfl (hr6 v7 v8 h)
  have vL6 : ∀ (nn : Nat) (v2 : Int64) (v3 : Int32), f_X1_hashOfWays_L6 n c p2 σ (f_X1_hashOfWays_X71_6) nn v2 v3 = some r → iw_V p l e rm_X1_hashOfWays s m ([.ref (G.2.1 c), .long p1, .int p2] : List Value).toArray below meth c0 0 0 (MQ below (iw_Q (some (.long r)) G σ) ([.ref (G.2.1 c), .long p1, .int p2] : List Value).toArray s 0 0 (iw_A G)) 8 G (iw_A G) σ 6 [(0, .ref (G.2.1 c)), (3, .int p2), (4, .long v2), (6, .int v3)] [] := by
    intro nn
    induction nn with
    | zero => intro v2 v3 h; exact absurd h (fun q => by cases q)
    | succ nn ih => intro v2 v3 h; exact vB6 (f_X1_hashOfWays_X71_6) (f_X1_hashOfWays_L6 n c p2 σ (f_X1_hashOfWays_X71_6) nn) vX6 ih v2 v3 h
  exact iv_sub [2, 4, 1, 0] rfl (vL6 n p1 (0 : Int32) h)
theorem qd_X1_hashOfWays : yX1_hashOfWays.cls = RX1 ∧ yX1_hashOfWays.cls ≠ "java/lang/invoke/MethodHandle" ∧ yX1_hashOfWays.cls ≠ "java/lang/invoke/VarHandle" ∧ (parseMethodDescriptor yX1_hashOfWays.desc).map (fun d => d.parameters.length) = some 2 := by decide +kernel
def f_X1_hash_X144_91 (v5 : Int64) : Option (Int64) :=
some v5
def f_X1_hash_B91 (n : Nat) (c : Nat) (σ : iw_M) (k91 : Int64 → Option (Int64)) (r91 : Int64 → Int32 → Option (Int64)) (v6 : Int64) (v7 : Int32) : Option (Int64) :=
if (f_X5_at (c + 1) (3 : Int32) σ) ≤ v7 then
(k91 v6)
else
((f_X5_hashOf n v6 (c + 5) (v7 * (7 : Int32)) (7 : Int32) σ).bind fun v9 =>
(f_X1_waysOf n c v7 σ).bind fun v10 =>
iw_let (((31 : Int64) * v9) + (Int32.toInt64 v10)) fun v11 =>
(f_X1_hashOfWays n c v11 v7 σ).bind fun v12 =>
iw_let (v7 + (1 : Int32)) fun v13 =>
r91 v12 v13)
def f_X1_hash_L91 (n : Nat) (c : Nat) (σ : iw_M) (k91 : Int64 → Option (Int64)) (nn : Nat) : Int64 → Int32 → Option (Int64) :=
iw_it (fun r91 => f_X1_hash_B91 n c σ k91 r91) (fun _ _ => none) nn
def f_X1_hash_X31_6 (n : Nat) (c : Nat) (σ : iw_M) (v1 : Int64) : Option (Int64) :=
(f_X5_hashOf n v1 (c + 2) (0 : Int32) (f_X5_at (c + 1) (0 : Int32) σ) σ).bind fun v2 =>
(f_X5_hashOf n v2 (c + 3) (0 : Int32) ((f_X5_at (c + 1) (1 : Int32) σ) * (3 : Int32)) σ).bind fun v3 =>
(f_X5_hashOf n v3 (c + 4) (0 : Int32) ((f_X5_at (c + 1) (2 : Int32) σ) * (3 : Int32)) σ).bind fun v4 =>
f_X1_hash_L91 n c σ (f_X1_hash_X144_91) n v4 (0 : Int32)
def f_X1_hash_B6 (n : Nat) (c : Nat) (σ : iw_M) (k6 : Int64 → Option (Int64)) (r6 : Int64 → Int32 → Option (Int64)) (v14 : Int64) (v15 : Int32) : Option (Int64) :=
if (12 : Int32) ≤ v15 then
(k6 v14)
else
((f_X1_number n c v15 σ).bind fun v17 =>
iw_let (((31 : Int64) * v14) + (Int32.toInt64 v17)) fun v18 =>
iw_let (v15 + (1 : Int32)) fun v19 =>
r6 v18 v19)
def f_X1_hash_L6 (n : Nat) (c : Nat) (σ : iw_M) (k6 : Int64 → Option (Int64)) (nn : Nat) : Int64 → Int32 → Option (Int64) :=
iw_it (fun r6 => f_X1_hash_B6 n c σ k6 r6) (fun _ _ => none) nn
def f_X1_hash (n : Nat) (c : Nat) (σ : iw_M) : Option (Int64) :=
f_X1_hash_L6 n c σ (f_X1_hash_X31_6 n c σ) n (17 : Int64) (0 : Int32)
abbrev rm_X1_hash : Room := { frames := 3, cells := 0, slots := 0, locals := 75 }
theorem lk_X1_hash_15 : Cond.fieldLink RX1 15 RX1 (TX1 1).2.1 (TX1 1).2.2.1 ∈ wsX1_hash := by decide +kernel
theorem lk_X1_hash_9 : Cond.fieldLink RX1 9 RX1 (TX1 0).2.1 (TX1 0).2.2.1 ∈ wsX1_hash := by decide +kernel
theorem si_X1_hash_X5_at : Cond.static yX5_at ∈ wsX1_hash ∧ Cond.initialized yX5_at.cls ∈ wsX1_hash := by decide +kernel
theorem si_X1_hash_X5_hashOf : Cond.static yX5_hashOf ∈ wsX1_hash ∧ Cond.initialized yX5_hashOf.cls ∈ wsX1_hash := by decide +kernel
theorem lk_X1_hash_18 : Cond.fieldLink RX1 18 RX1 (TX1 2).2.1 (TX1 2).2.2.1 ∈ wsX1_hash := by decide +kernel
theorem lk_X1_hash_21 : Cond.fieldLink RX1 21 RX1 (TX1 3).2.1 (TX1 3).2.2.1 ∈ wsX1_hash := by decide +kernel
theorem lk_X1_hash_24 : Cond.fieldLink RX1 24 RX1 (TX1 4).2.1 (TX1 4).2.2.1 ∈ wsX1_hash := by decide +kernel
theorem in_X1_hash_1 : ∀ w ∈ u_ws RX1 TX1 7, w ∈ wsX1_hash := by decide +kernel
set_option maxHeartbeats 4000000 in
set_option maxRecDepth 100000 in
theorem k_X1_hash (l : Launch) (G : iw_G) (hJ : iw_JX G) (n : Nat) (c : Nat) (hc : iw_net c) (σ : iw_M) {r : Int64} (h : f_X1_hash n c σ = some r) : iw_Ct l yX1_hash wsX1_hash rm_X1_hash G ([.ref (G.2.1 c)] : List Value) σ (some (.long r)) σ := by
  refine iv_start (nL := 4) (own := RX1) (ret := (some .long)) (cc := cX1_hash) (by decide +kernel) rfl rfl hJ.1 (Nat.le_of_ble_eq_true rfl) ?_
  intro p e s m below meth c0 C hr hlk
  refine iv_sub (lv' := [(0, .ref (G.2.1 c))]) [0] rfl ?_
  unfold f_X1_hash at h
  refine iv_ldc2_w (pc := 0) C (17 : Int64) (by decide +kernel) dX1_hash_0 ?_
  refine iv_lstore_n (pc := 3) C [(1, .long (17 : Int64)), (0, .ref (G.2.1 c))] dX1_hash_3 rfl (by decide) rfl ?_
  refine iv_iconst (pc := 4) C (0 : Int32) dX1_hash_4 (by decide) ?_
  refine iv_istore_n (pc := 5) C [(3, .int (0 : Int32)), (1, .long (17 : Int64)), (0, .ref (G.2.1 c))] dX1_hash_5 rfl (by decide) rfl ?_
  have vX6 : ∀ (v1 : Int64), f_X1_hash_X31_6 n c σ v1 = some r → iw_V p l e rm_X1_hash s m ([.ref (G.2.1 c)] : List Value).toArray below meth c0 0 0 (MQ below (iw_Q (some (.long r)) G σ) ([.ref (G.2.1 c)] : List Value).toArray s 0 0 (iw_A G)) 4 G (iw_A G) σ 31 [(0, .ref (G.2.1 c)), (1, .long v1)] [] := by
    intro v1 h
    unfold f_X1_hash_X31_6 at h
    refine iv_lload_n (pc := 31) C 1 dX1_hash_31 rfl rfl ?_
    refine iv_aload_n (pc := 32) C 0 dX1_hash_32 rfl rfl ?_
    refine iv_getf (pc := 33) (T := TX1) (N := 7) (ci := 1) C c 1 in_X1_hash_1 (iw_ix hJ (iw_nl hc)) (iw_E1 (iw_nk hc)) rfl (by decide) lk_X1_hash_15 rfl rfl dX1_hash_33 ?_
    refine iv_iconst (pc := 36) C (0 : Int32) dX1_hash_36 (by decide) ?_
    refine iv_aload_n (pc := 37) C 0 dX1_hash_37 rfl rfl ?_
    refine iv_getf (pc := 38) (T := TX1) (N := 7) (ci := 1) C c 0 in_X1_hash_1 (iw_ix hJ (iw_nl hc)) (iw_E1 (iw_nk hc)) rfl (by decide) lk_X1_hash_9 rfl rfl dX1_hash_38 ?_
    refine iv_iconst (pc := 41) C (0 : Int32) dX1_hash_41 (by decide) ?_
    refine iv_callSN (pc := 42) C [.ref (G.2.1 (c + 1)), .int (0 : Int32)] (k_X5_at l G hJ.1 (c + 1) (iw_na1 hJ hc) (0 : Int32) σ rfl) gX1_hash_X5_at_n51 rfl ne_RX1_51 si_X1_hash_X5_at qd_X5_at ⟨rfl, rfl, Nat.le_of_ble_eq_true rfl, Nat.le_of_ble_eq_true rfl⟩ rfl rfl (Nat.le_of_ble_eq_true rfl) dX1_hash_42 ?_
    obtain ⟨v2, ev2, h⟩ := iw_be h
    refine iv_callSN (pc := 45) C [.long v1, .ref (G.2.1 (c + 2)), .int (0 : Int32), .int (f_X5_at (c + 1) (0 : Int32) σ)] (k_X5_hashOf l G hJ n v1 (c + 2) (iw_na2 hJ hc) (0 : Int32) (f_X5_at (c + 1) (0 : Int32) σ) σ ev2) gX1_hash_X5_hashOf_n104 rfl ne_RX1_104 si_X1_hash_X5_hashOf qd_X5_hashOf ⟨rfl, rfl, Nat.le_of_ble_eq_true rfl, Nat.le_of_ble_eq_true rfl⟩ rfl rfl (Nat.le_of_ble_eq_true rfl) dX1_hash_45 ?_
    refine iv_lstore_n (pc := 48) C [(1, .long v2), (0, .ref (G.2.1 c))] dX1_hash_48 rfl (by decide) rfl ?_
    refine iv_lload_n (pc := 49) C 0 dX1_hash_49 rfl rfl ?_
    refine iv_aload_n (pc := 50) C 1 dX1_hash_50 rfl rfl ?_
    refine iv_getf (pc := 51) (T := TX1) (N := 7) (ci := 1) C c 2 in_X1_hash_1 (iw_ix hJ (iw_nl hc)) (iw_E1 (iw_nk hc)) rfl (by decide) lk_X1_hash_18 rfl rfl dX1_hash_51 ?_
    refine iv_iconst (pc := 54) C (0 : Int32) dX1_hash_54 (by decide) ?_
    refine iv_aload_n (pc := 55) C 1 dX1_hash_55 rfl rfl ?_
    refine iv_getf (pc := 56) (T := TX1) (N := 7) (ci := 1) C c 0 in_X1_hash_1 (iw_ix hJ (iw_nl hc)) (iw_E1 (iw_nk hc)) rfl (by decide) lk_X1_hash_9 rfl rfl dX1_hash_56 ?_
    refine iv_iconst (pc := 59) C (1 : Int32) dX1_hash_59 (by decide) ?_
    refine iv_callSN (pc := 60) C [.ref (G.2.1 (c + 1)), .int (1 : Int32)] (k_X5_at l G hJ.1 (c + 1) (iw_na1 hJ hc) (1 : Int32) σ rfl) gX1_hash_X5_at_n51 rfl ne_RX1_51 si_X1_hash_X5_at qd_X5_at ⟨rfl, rfl, Nat.le_of_ble_eq_true rfl, Nat.le_of_ble_eq_true rfl⟩ rfl rfl (Nat.le_of_ble_eq_true rfl) dX1_hash_60 ?_
    refine iv_iconst (pc := 63) C (3 : Int32) dX1_hash_63 (by decide) ?_
    refine iv_imul (pc := 64) C dX1_hash_64 ?_
    obtain ⟨v3, ev3, h⟩ := iw_be h
    refine iv_callSN (pc := 65) C [.long v2, .ref (G.2.1 (c + 3)), .int (0 : Int32), .int ((f_X5_at (c + 1) (1 : Int32) σ) * (3 : Int32))] (k_X5_hashOf l G hJ n v2 (c + 3) (iw_na3 hJ hc) (0 : Int32) ((f_X5_at (c + 1) (1 : Int32) σ) * (3 : Int32)) σ ev3) gX1_hash_X5_hashOf_n104 rfl ne_RX1_104 si_X1_hash_X5_hashOf qd_X5_hashOf ⟨rfl, rfl, Nat.le_of_ble_eq_true rfl, Nat.le_of_ble_eq_true rfl⟩ rfl rfl (Nat.le_of_ble_eq_true rfl) dX1_hash_65 ?_
    refine iv_lstore_n (pc := 68) C [(1, .long v3), (0, .ref (G.2.1 c))] dX1_hash_68 rfl (by decide) rfl ?_
    refine iv_lload_n (pc := 69) C 0 dX1_hash_69 rfl rfl ?_
    refine iv_aload_n (pc := 70) C 1 dX1_hash_70 rfl rfl ?_
    refine iv_getf (pc := 71) (T := TX1) (N := 7) (ci := 1) C c 3 in_X1_hash_1 (iw_ix hJ (iw_nl hc)) (iw_E1 (iw_nk hc)) rfl (by decide) lk_X1_hash_21 rfl rfl dX1_hash_71 ?_
    refine iv_iconst (pc := 74) C (0 : Int32) dX1_hash_74 (by decide) ?_
    refine iv_aload_n (pc := 75) C 1 dX1_hash_75 rfl rfl ?_
    refine iv_getf (pc := 76) (T := TX1) (N := 7) (ci := 1) C c 0 in_X1_hash_1 (iw_ix hJ (iw_nl hc)) (iw_E1 (iw_nk hc)) rfl (by decide) lk_X1_hash_9 rfl rfl dX1_hash_76 ?_
    refine iv_iconst (pc := 79) C (2 : Int32) dX1_hash_79 (by decide) ?_
    refine iv_callSN (pc := 80) C [.ref (G.2.1 (c + 1)), .int (2 : Int32)] (k_X5_at l G hJ.1 (c + 1) (iw_na1 hJ hc) (2 : Int32) σ rfl) gX1_hash_X5_at_n51 rfl ne_RX1_51 si_X1_hash_X5_at qd_X5_at ⟨rfl, rfl, Nat.le_of_ble_eq_true rfl, Nat.le_of_ble_eq_true rfl⟩ rfl rfl (Nat.le_of_ble_eq_true rfl) dX1_hash_80 ?_
    refine iv_iconst (pc := 83) C (3 : Int32) dX1_hash_83 (by decide) ?_
    refine iv_imul (pc := 84) C dX1_hash_84 ?_
    obtain ⟨v4, ev4, h⟩ := iw_be h
    refine iv_callSN (pc := 85) C [.long v3, .ref (G.2.1 (c + 4)), .int (0 : Int32), .int ((f_X5_at (c + 1) (2 : Int32) σ) * (3 : Int32))] (k_X5_hashOf l G hJ n v3 (c + 4) (iw_na4 hJ hc) (0 : Int32) ((f_X5_at (c + 1) (2 : Int32) σ) * (3 : Int32)) σ ev4) gX1_hash_X5_hashOf_n104 rfl ne_RX1_104 si_X1_hash_X5_hashOf qd_X5_hashOf ⟨rfl, rfl, Nat.le_of_ble_eq_true rfl, Nat.le_of_ble_eq_true rfl⟩ rfl rfl (Nat.le_of_ble_eq_true rfl) dX1_hash_85 ?_
    refine iv_lstore_n (pc := 88) C [(1, .long v4), (0, .ref (G.2.1 c))] dX1_hash_88 rfl (by decide) rfl ?_
    refine iv_iconst (pc := 89) C (0 : Int32) dX1_hash_89 (by decide) ?_
    refine iv_istore_n (pc := 90) C [(3, .int (0 : Int32)), (1, .long v4), (0, .ref (G.2.1 c))] dX1_hash_90 rfl (by decide) rfl ?_
    have vX91 : ∀ (v5 : Int64), f_X1_hash_X144_91 v5 = some r → iw_V p l e rm_X1_hash s m ([.ref (G.2.1 c)] : List Value).toArray below meth c0 0 0 (MQ below (iw_Q (some (.long r)) G σ) ([.ref (G.2.1 c)] : List Value).toArray s 0 0 (iw_A G)) 4 G (iw_A G) σ 144 [(1, .long v5)] [] := by
      intro v5 h
      unfold f_X1_hash_X144_91 at h
      refine iv_lload_n (pc := 144) C 0 dX1_hash_144 rfl rfl ?_
      cases h
      exact iv_lret C hr hlk rfl rfl dX1_hash_145
    have vB91 : ∀ (k91 : Int64 → Option (Int64)) (r91 : Int64 → Int32 → Option (Int64)), (∀ (v5 : Int64), k91 v5 = some r → iw_V p l e rm_X1_hash s m ([.ref (G.2.1 c)] : List Value).toArray below meth c0 0 0 (MQ below (iw_Q (some (.long r)) G σ) ([.ref (G.2.1 c)] : List Value).toArray s 0 0 (iw_A G)) 4 G (iw_A G) σ 144 [(1, .long v5)] []) → (∀ (v6 : Int64) (v7 : Int32), r91 v6 v7 = some r → iw_V p l e rm_X1_hash s m ([.ref (G.2.1 c)] : List Value).toArray below meth c0 0 0 (MQ below (iw_Q (some (.long r)) G σ) ([.ref (G.2.1 c)] : List Value).toArray s 0 0 (iw_A G)) 4 G (iw_A G) σ 91 [(0, .ref (G.2.1 c)), (1, .long v6), (3, .int v7)] []) → ∀ (v6 : Int64) (v7 : Int32), f_X1_hash_B91 n c σ k91 r91 v6 v7 = some r → iw_V p l e rm_X1_hash s m ([.ref (G.2.1 c)] : List Value).toArray below meth c0 0 0 (MQ below (iw_Q (some (.long r)) G σ) ([.ref (G.2.1 c)] : List Value).toArray s 0 0 (iw_A G)) 4 G (iw_A G) σ 91 [(0, .ref (G.2.1 c)), (1, .long v6), (3, .int v7)] [] := by
      intro k91 r91 hk91 hr91 v6 v7 h
      unfold f_X1_hash_B91 at h
      refine iv_iload_n (pc := 91) C 2 dX1_hash_91 rfl rfl ?_
      refine iv_aload_n (pc := 92) C 0 dX1_hash_92 rfl rfl ?_
      refine iv_getf (pc := 93) (T := TX1) (N := 7) (ci := 1) C c 0 in_X1_hash_1 (iw_ix hJ (iw_nl hc)) (iw_E1 (iw_nk hc)) rfl (by decide) lk_X1_hash_9 rfl rfl dX1_hash_93 ?_
      refine iv_iconst (pc := 96) C (3 : Int32) dX1_hash_96 (by decide) ?_
      refine iv_callSN (pc := 97) C [.ref (G.2.1 (c + 1)), .int (3 : Int32)] (k_X5_at l G hJ.1 (c + 1) (iw_na1 hJ hc) (3 : Int32) σ rfl) gX1_hash_X5_at_n51 rfl ne_RX1_51 si_X1_hash_X5_at qd_X5_at ⟨rfl, rfl, Nat.le_of_ble_eq_true rfl, Nat.le_of_ble_eq_true rfl⟩ rfl rfl (Nat.le_of_ble_eq_true rfl) dX1_hash_97 ?_
      refine iv_icmp_ge (pc := 100) C 144 dX1_hash_100 (by decide) (fun h8 => ?_) (fun h8 => ?_)
      · replace h := iw_ift h8 h
        exact iv_sub [1] rfl (hk91 v6 h)
      · replace h := iw_iff h8 h
        refine iv_lload_n (pc := 103) C 1 dX1_hash_103 rfl rfl ?_
        refine iv_aload_n (pc := 104) C 0 dX1_hash_104 rfl rfl ?_
        refine iv_getf (pc := 105) (T := TX1) (N := 7) (ci := 1) C c 4 in_X1_hash_1 (iw_ix hJ (iw_nl hc)) (iw_E1 (iw_nk hc)) rfl (by decide) lk_X1_hash_24 rfl rfl dX1_hash_105 ?_
        refine iv_iload_n (pc := 108) C 2 dX1_hash_108 rfl rfl ?_
        refine iv_bipush (pc := 109) C (7 : Int32) dX1_hash_109 (by decide) ?_
        refine iv_imul (pc := 111) C dX1_hash_111 ?_
        refine iv_bipush (pc := 112) C (7 : Int32) dX1_hash_112 (by decide) ?_
        obtain ⟨v9, ev9, h⟩ := iw_be h
        refine iv_callSN (pc := 114) C [.long v6, .ref (G.2.1 (c + 5)), .int (v7 * (7 : Int32)), .int (7 : Int32)] (k_X5_hashOf l G hJ n v6 (c + 5) (iw_na5 hJ hc) (v7 * (7 : Int32)) (7 : Int32) σ ev9) gX1_hash_X5_hashOf_n104 rfl ne_RX1_104 si_X1_hash_X5_hashOf qd_X5_hashOf ⟨rfl, rfl, Nat.le_of_ble_eq_true rfl, Nat.le_of_ble_eq_true rfl⟩ rfl rfl (Nat.le_of_ble_eq_true rfl) dX1_hash_114 ?_
        refine iv_lstore_n (pc := 117) C [(1, .long v9), (0, .ref (G.2.1 c)), (3, .int v7)] dX1_hash_117 rfl (by decide) rfl ?_
        refine iv_ldc2_w (pc := 118) C (31 : Int64) (by decide +kernel) dX1_hash_118 ?_
        refine iv_lload_n (pc := 121) C 0 dX1_hash_121 rfl rfl ?_
        refine iv_lmul (pc := 122) C dX1_hash_122 ?_
        refine iv_aload_n (pc := 123) C 1 dX1_hash_123 rfl rfl ?_
        refine iv_iload_n (pc := 124) C 2 dX1_hash_124 rfl rfl ?_
        obtain ⟨v10, ev10, h⟩ := iw_be h
        refine iv_callV (pc := 125) (b := c) (ci := 1) C [.int v7] (k_X1_waysOf l G hJ n c hc v7 σ ev10) gX1_hash_X1_waysOf rfl qd_X1_waysOf ⟨rfl, rfl, Nat.le_of_ble_eq_true rfl, Nat.le_of_ble_eq_true rfl⟩ (iw_ix hJ (iw_nl hc)) (iw_E1 (iw_nk hc)) rfl rfl rfl (Nat.le_of_ble_eq_true rfl) dX1_hash_125 ?_
        refine iv_i2l (pc := 128) C dX1_hash_128 ?_
        refine iv_ladd (pc := 129) C dX1_hash_129 ?_
        refine iv_topl (fun v11 ev11 => ?_)
        replace h := iw_lete ev11 h
        refine iv_lstore_n (pc := 130) C [(1, .long v11), (0, .ref (G.2.1 c)), (3, .int v7)] dX1_hash_130 rfl (by decide) rfl ?_
        refine iv_aload_n (pc := 131) C 1 dX1_hash_131 rfl rfl ?_
        refine iv_lload_n (pc := 132) C 0 dX1_hash_132 rfl rfl ?_
        refine iv_iload_n (pc := 133) C 2 dX1_hash_133 rfl rfl ?_
        obtain ⟨v12, ev12, h⟩ := iw_be h
        refine iv_callV (pc := 134) (b := c) (ci := 1) C [.long v11, .int v7] (k_X1_hashOfWays l G hJ n c hc v11 v7 σ ev12) gX1_hash_X1_hashOfWays rfl qd_X1_hashOfWays ⟨rfl, rfl, Nat.le_of_ble_eq_true rfl, Nat.le_of_ble_eq_true rfl⟩ (iw_ix hJ (iw_nl hc)) (iw_E1 (iw_nk hc)) rfl rfl rfl (Nat.le_of_ble_eq_true rfl) dX1_hash_134 ?_
        refine iv_lstore_n (pc := 137) C [(1, .long v12), (0, .ref (G.2.1 c)), (3, .int v7)] dX1_hash_137 rfl (by decide) rfl ?_
        obtain ⟨v13, ev13⟩ : ∃ y : Int32, y = v7 + (1 : Int32) := ⟨_, rfl⟩
        replace h := iw_lete ev13 h
        refine iv_iinc (pc := 138) C 2 v13 [(3, .int v13), (1, .long v12), (0, .ref (G.2.1 c))] dX1_hash_138 rfl (by rw [ev13]; rfl) (by decide) rfl ?_
        refine iv_goto (pc := 141) C 91 dX1_hash_141 (by decide) ?_
        exact iv_sub [2, 1, 0] rfl (hr91 v12 v13 h)
    have vL91 : ∀ (nn : Nat) (v6 : Int64) (v7 : Int32), f_X1_hash_L91 n c σ (f_X1_hash_X144_91) nn v6 v7 = some r → iw_V p l e rm_X1_hash s m ([.ref (G.2.1 c)] : List Value).toArray below meth c0 0 0 (MQ below (iw_Q (some (.long r)) G σ) ([.ref (G.2.1 c)] : List Value).toArray s 0 0 (iw_A G)) 4 G (iw_A G) σ 91 [(0, .ref (G.2.1 c)), (1, .long v6), (3, .int v7)] [] := by
      intro nn
      induction nn with
      | zero => intro v6 v7 h; exact absurd h (fun q => by cases q)
      | succ nn ih => intro v6 v7 h; exact vB91 (f_X1_hash_X144_91) (f_X1_hash_L91 n c σ (f_X1_hash_X144_91) nn) vX91 ih v6 v7 h
    exact iv_sub [2, 1, 0] rfl (vL91 n v4 (0 : Int32) h)
  have vB6 : ∀ (k6 : Int64 → Option (Int64)) (r6 : Int64 → Int32 → Option (Int64)), (∀ (v1 : Int64), k6 v1 = some r → iw_V p l e rm_X1_hash s m ([.ref (G.2.1 c)] : List Value).toArray below meth c0 0 0 (MQ below (iw_Q (some (.long r)) G σ) ([.ref (G.2.1 c)] : List Value).toArray s 0 0 (iw_A G)) 4 G (iw_A G) σ 31 [(0, .ref (G.2.1 c)), (1, .long v1)] []) → (∀ (v14 : Int64) (v15 : Int32), r6 v14 v15 = some r → iw_V p l e rm_X1_hash s m ([.ref (G.2.1 c)] : List Value).toArray below meth c0 0 0 (MQ below (iw_Q (some (.long r)) G σ) ([.ref (G.2.1 c)] : List Value).toArray s 0 0 (iw_A G)) 4 G (iw_A G) σ 6 [(0, .ref (G.2.1 c)), (1, .long v14), (3, .int v15)] []) → ∀ (v14 : Int64) (v15 : Int32), f_X1_hash_B6 n c σ k6 r6 v14 v15 = some r → iw_V p l e rm_X1_hash s m ([.ref (G.2.1 c)] : List Value).toArray below meth c0 0 0 (MQ below (iw_Q (some (.long r)) G σ) ([.ref (G.2.1 c)] : List Value).toArray s 0 0 (iw_A G)) 4 G (iw_A G) σ 6 [(0, .ref (G.2.1 c)), (1, .long v14), (3, .int v15)] [] := by
    intro k6 r6 hk6 hr6 v14 v15 h
    unfold f_X1_hash_B6 at h
    refine iv_iload_n (pc := 6) C 2 dX1_hash_6 rfl rfl ?_
    refine iv_bipush (pc := 7) C (12 : Int32) dX1_hash_7 (by decide) ?_
    refine iv_icmp_ge (pc := 9) C 31 dX1_hash_9 (by decide) (fun h16 => ?_) (fun h16 => ?_)
    · replace h := iw_ift h16 h
      exact iv_sub [0, 1] rfl (hk6 v14 h)
    · replace h := iw_iff h16 h
      refine iv_ldc2_w (pc := 12) C (31 : Int64) (by decide +kernel) dX1_hash_12 ?_
      refine iv_lload_n (pc := 15) C 1 dX1_hash_15 rfl rfl ?_
      refine iv_lmul (pc := 16) C dX1_hash_16 ?_
      refine iv_aload_n (pc := 17) C 0 dX1_hash_17 rfl rfl ?_
      refine iv_iload_n (pc := 18) C 2 dX1_hash_18 rfl rfl ?_
      obtain ⟨v17, ev17, h⟩ := iw_be h
      refine iv_callV (pc := 19) (b := c) (ci := 1) C [.int v15] (k_X1_number l G hJ n c hc v15 σ ev17) gX1_hash_X1_number rfl qd_X1_number ⟨rfl, rfl, Nat.le_of_ble_eq_true rfl, Nat.le_of_ble_eq_true rfl⟩ (iw_ix hJ (iw_nl hc)) (iw_E1 (iw_nk hc)) rfl rfl rfl (Nat.le_of_ble_eq_true rfl) dX1_hash_19 ?_
      refine iv_i2l (pc := 22) C dX1_hash_22 ?_
      refine iv_ladd (pc := 23) C dX1_hash_23 ?_
      refine iv_topl (fun v18 ev18 => ?_)
      replace h := iw_lete ev18 h
      refine iv_lstore_n (pc := 24) C [(1, .long v18), (0, .ref (G.2.1 c)), (3, .int v15)] dX1_hash_24 rfl (by decide) rfl ?_
      obtain ⟨v19, ev19⟩ : ∃ y : Int32, y = v15 + (1 : Int32) := ⟨_, rfl⟩
      replace h := iw_lete ev19 h
      refine iv_iinc (pc := 25) C 2 v19 [(3, .int v19), (1, .long v18), (0, .ref (G.2.1 c))] dX1_hash_25 rfl (by rw [ev19]; rfl) (by decide) rfl ?_
      refine iv_goto (pc := 28) C 6 dX1_hash_28 (by decide) ?_
      exact iv_sub [2, 1, 0] rfl (hr6 v18 v19 h)
  have vL6 : ∀ (nn : Nat) (v14 : Int64) (v15 : Int32), f_X1_hash_L6 n c σ (f_X1_hash_X31_6 n c σ) nn v14 v15 = some r → iw_V p l e rm_X1_hash s m ([.ref (G.2.1 c)] : List Value).toArray below meth c0 0 0 (MQ below (iw_Q (some (.long r)) G σ) ([.ref (G.2.1 c)] : List Value).toArray s 0 0 (iw_A G)) 4 G (iw_A G) σ 6 [(0, .ref (G.2.1 c)), (1, .long v14), (3, .int v15)] [] := by
    intro nn
    induction nn with
    | zero => intro v14 v15 h; exact absurd h (fun q => by cases q)
    | succ nn ih => intro v14 v15 h; exact vB6 (f_X1_hash_X31_6 n c σ) (f_X1_hash_L6 n c σ (f_X1_hash_X31_6 n c σ) nn) vX6 ih v14 v15 h
  exact iv_sub [2, 1, 0] rfl (vL6 n (17 : Int64) (0 : Int32) h)
theorem qd_X1_hash : yX1_hash.cls = RX1 ∧ yX1_hash.cls ≠ "java/lang/invoke/MethodHandle" ∧ yX1_hash.cls ≠ "java/lang/invoke/VarHandle" ∧ (parseMethodDescriptor yX1_hash.desc).map (fun d => d.parameters.length) = some 0 := by decide +kernel
