def f_X2_learn_X88_18 (m3 : iw_M) : Option (iw_M) :=
some m3
def f_X2_learn_B18 (n : Nat) (c : Nat) (c1 : Nat) (k18 : iw_M → Option (iw_M)) (r18 : Int32 → iw_M → Option (iw_M)) (v4 : Int32) (m5 : iw_M) : Option (iw_M) :=
(f_X1_number n c1 (1 : Int32) m5).bind fun v6 =>
if v6 ≤ v4 then
(k18 m5)
else
(iw_let (f_X1_partOfLink c1 v4 (0 : Int32) m5) fun v8 =>
iw_let (f_X1_partOfLink c1 v4 (1 : Int32) m5) fun v9 =>
iw_let (f_X5_put (c + 1) ((v8 * (10 : Int32)) + v9) (f_X1_partOfLink c1 v4 (2 : Int32) m5) m5) fun m10 =>
iw_let (f_X5_put (c + 1) ((v9 * (10 : Int32)) + v8) (f_X1_partOfLink c1 v4 (2 : Int32) m10) m10) fun m11 =>
iw_let (v4 + (1 : Int32)) fun v12 =>
r18 v12 m11)
def f_X2_learn_L18 (n : Nat) (c : Nat) (c1 : Nat) (k18 : iw_M → Option (iw_M)) (nn : Nat) : Int32 → iw_M → Option (iw_M) :=
iw_it (fun r18 => f_X2_learn_B18 n c c1 k18 r18) (fun _ _ => none) nn
def f_X2_learn (n : Nat) (c : Nat) (c1 : Nat) (σ : iw_M) : Option (iw_M) :=
(f_J7_fill_53178 n (c + 1) (0 : Int32) σ).bind fun m1 =>
(f_J7_fill_53178 n (c + 2) (0 : Int32) m1).bind fun m2 =>
f_X2_learn_L18 n c c1 (f_X2_learn_X88_18) n (0 : Int32) m2
abbrev rm_X2_learn : Room := { frames := 3, cells := 0, slots := 0, locals := 64 }
theorem lk_X2_learn_9 : Cond.fieldLink RX2 9 RX2 (TX2 0).2.1 (TX2 0).2.2.1 ∈ wsX2_learn := by decide +kernel
theorem lk_X2_learn_15 : Cond.fieldLink RX2 15 RX2 (TX2 1).2.1 (TX2 1).2.2.1 ∈ wsX2_learn := by decide +kernel
theorem si_X2_learn_X5_put : Cond.static yX5_put ∈ wsX2_learn ∧ Cond.initialized yX5_put.cls ∈ wsX2_learn := by decide +kernel
theorem in_X2_learn_2 : ∀ w ∈ u_ws RX2 TX2 5, w ∈ wsX2_learn := by decide +kernel
set_option maxHeartbeats 4000000 in
set_option maxRecDepth 100000 in
theorem k_X2_learn (l : Launch) (G : iw_G) (hJ : iw_JX G) (n : Nat) (c : Nat) (hc : iw_pth c) (c1 : Nat) (hc1 : iw_net c1) (σ : iw_M) {σ' : iw_M} (h : f_X2_learn n c c1 σ = some σ') : iw_Ct l yX2_learn wsX2_learn rm_X2_learn G ([.ref (G.2.1 c), .ref (G.2.1 c1)] : List Value) σ none σ' := by
  refine iv_start (nL := 5) (own := RX2) (ret := none) (cc := cX2_learn) (by decide +kernel) rfl rfl hJ.1 (Nat.le_of_ble_eq_true rfl) ?_
  intro p e s m below meth c0 C hr hlk
  refine iv_sub (lv' := [(0, .ref (G.2.1 c)), (1, .ref (G.2.1 c1))]) [0, 1] rfl ?_
  unfold f_X2_learn at h
  refine iv_aload_n (pc := 0) C 0 dX2_learn_0 rfl rfl ?_
  refine iv_getf (pc := 1) (T := TX2) (N := 5) (ci := 2) C c 0 in_X2_learn_2 (iw_ix hJ (iw_pl hc)) (iw_E2 (iw_pk hc)) rfl (by decide) lk_X2_learn_9 rfl rfl dX2_learn_1 ?_
  refine iv_iconst (pc := 4) C (0 : Int32) dX2_learn_4 (by decide) ?_
  obtain ⟨m1, em1, h⟩ := iw_be h
  refine iv_callS (pc := 5) C [.ref (G.2.1 (c + 1)), .int (0 : Int32)] (k_J7_fill_53178 l G hJ n (c + 1) (iw_pa1 hJ hc) (0 : Int32) σ em1) gX2_learn_J7_fill_53178 rfl qd_J7_fill_53178 ⟨rfl, rfl, Nat.le_of_ble_eq_true rfl, Nat.le_of_ble_eq_true rfl⟩ rfl rfl (Nat.le_of_ble_eq_true rfl) dX2_learn_5 ?_
  refine iv_aload_n (pc := 8) C 0 dX2_learn_8 rfl rfl ?_
  refine iv_getf (pc := 9) (T := TX2) (N := 5) (ci := 2) C c 1 in_X2_learn_2 (iw_ix hJ (iw_pl hc)) (iw_E2 (iw_pk hc)) rfl (by decide) lk_X2_learn_15 rfl rfl dX2_learn_9 ?_
  refine iv_iconst (pc := 12) C (0 : Int32) dX2_learn_12 (by decide) ?_
  obtain ⟨m2, em2, h⟩ := iw_be h
  refine iv_callS (pc := 13) C [.ref (G.2.1 (c + 2)), .int (0 : Int32)] (k_J7_fill_53178 l G hJ n (c + 2) (iw_pa2 hJ hc) (0 : Int32) m1 em2) gX2_learn_J7_fill_53178 rfl qd_J7_fill_53178 ⟨rfl, rfl, Nat.le_of_ble_eq_true rfl, Nat.le_of_ble_eq_true rfl⟩ rfl rfl (Nat.le_of_ble_eq_true rfl) dX2_learn_13 ?_
  refine iv_iconst (pc := 16) C (0 : Int32) dX2_learn_16 (by decide) ?_
  refine iv_istore_n (pc := 17) C [(2, .int (0 : Int32)), (0, .ref (G.2.1 c)), (1, .ref (G.2.1 c1))] dX2_learn_17 rfl (by decide) rfl ?_
  have vX18 : ∀ (m3 : iw_M), f_X2_learn_X88_18 m3 = some σ' → iw_V p l e rm_X2_learn s m ([.ref (G.2.1 c), .ref (G.2.1 c1)] : List Value).toArray below meth c0 0 0 (MQ below (iw_Q none G σ') ([.ref (G.2.1 c), .ref (G.2.1 c1)] : List Value).toArray s 0 0 (iw_A G)) 5 G (iw_A G) m3 88 [] [] := by
    intro m3 h
    unfold f_X2_learn_X88_18 at h
    cases h
    exact iv_vret C hr hlk rfl rfl dX2_learn_88
  have vB18 : ∀ (k18 : iw_M → Option (iw_M)) (r18 : Int32 → iw_M → Option (iw_M)), (∀ (m3 : iw_M), k18 m3 = some σ' → iw_V p l e rm_X2_learn s m ([.ref (G.2.1 c), .ref (G.2.1 c1)] : List Value).toArray below meth c0 0 0 (MQ below (iw_Q none G σ') ([.ref (G.2.1 c), .ref (G.2.1 c1)] : List Value).toArray s 0 0 (iw_A G)) 5 G (iw_A G) m3 88 [] []) → (∀ (v4 : Int32) (m5 : iw_M), r18 v4 m5 = some σ' → iw_V p l e rm_X2_learn s m ([.ref (G.2.1 c), .ref (G.2.1 c1)] : List Value).toArray below meth c0 0 0 (MQ below (iw_Q none G σ') ([.ref (G.2.1 c), .ref (G.2.1 c1)] : List Value).toArray s 0 0 (iw_A G)) 5 G (iw_A G) m5 18 [(0, .ref (G.2.1 c)), (1, .ref (G.2.1 c1)), (2, .int v4)] []) → ∀ (v4 : Int32) (m5 : iw_M), f_X2_learn_B18 n c c1 k18 r18 v4 m5 = some σ' → iw_V p l e rm_X2_learn s m ([.ref (G.2.1 c), .ref (G.2.1 c1)] : List Value).toArray below meth c0 0 0 (MQ below (iw_Q none G σ') ([.ref (G.2.1 c), .ref (G.2.1 c1)] : List Value).toArray s 0 0 (iw_A G)) 5 G (iw_A G) m5 18 [(0, .ref (G.2.1 c)), (1, .ref (G.2.1 c1)), (2, .int v4)] [] := by
    intro k18 r18 hk18 hr18 v4 m5 h
    unfold f_X2_learn_B18 at h
    refine iv_iload_n (pc := 18) C 2 dX2_learn_18 rfl rfl ?_
    refine iv_aload_n (pc := 19) C 1 dX2_learn_19 rfl rfl ?_
    refine iv_iconst (pc := 20) C (1 : Int32) dX2_learn_20 (by decide) ?_
    obtain ⟨v6, ev6, h⟩ := iw_be h
    refine iv_callV (pc := 21) (b := c1) (ci := 1) C [.int (1 : Int32)] (k_X1_number l G hJ n c1 hc1 (1 : Int32) m5 ev6) gX2_learn_X1_number rfl qd_X1_number ⟨rfl, rfl, Nat.le_of_ble_eq_true rfl, Nat.le_of_ble_eq_true rfl⟩ (iw_ix hJ (iw_nl hc1)) (iw_E1 (iw_nk hc1)) rfl rfl rfl (Nat.le_of_ble_eq_true rfl) dX2_learn_21 ?_
    refine iv_icmp_ge (pc := 24) C 88 dX2_learn_24 (by decide) (fun h7 => ?_) (fun h7 => ?_)
    · replace h := iw_ift h7 h
      exact iv_sub [] rfl (hk18 m5 h)
    · replace h := iw_iff h7 h
      refine iv_aload_n (pc := 27) C 1 dX2_learn_27 rfl rfl ?_
      refine iv_iload_n (pc := 28) C 2 dX2_learn_28 rfl rfl ?_
      refine iv_iconst (pc := 29) C (0 : Int32) dX2_learn_29 (by decide) ?_
      refine iv_callV (pc := 30) (b := c1) (ci := 1) C [.int v4, .int (0 : Int32)] (k_X1_partOfLink l G hJ c1 hc1 v4 (0 : Int32) m5 rfl) gX2_learn_X1_partOfLink rfl qd_X1_partOfLink ⟨rfl, rfl, Nat.le_of_ble_eq_true rfl, Nat.le_of_ble_eq_true rfl⟩ (iw_ix hJ (iw_nl hc1)) (iw_E1 (iw_nk hc1)) rfl rfl rfl (Nat.le_of_ble_eq_true rfl) dX2_learn_30 ?_
      refine iv_topi (fun v8 ev8 => ?_)
      replace h := iw_lete ev8 h
      refine iv_istore_n (pc := 33) C [(3, .int v8), (0, .ref (G.2.1 c)), (1, .ref (G.2.1 c1)), (2, .int v4)] dX2_learn_33 rfl (by decide) rfl ?_
      refine iv_aload_n (pc := 34) C 2 dX2_learn_34 rfl rfl ?_
      refine iv_iload_n (pc := 35) C 3 dX2_learn_35 rfl rfl ?_
      refine iv_iconst (pc := 36) C (1 : Int32) dX2_learn_36 (by decide) ?_
      refine iv_callV (pc := 37) (b := c1) (ci := 1) C [.int v4, .int (1 : Int32)] (k_X1_partOfLink l G hJ c1 hc1 v4 (1 : Int32) m5 rfl) gX2_learn_X1_partOfLink rfl qd_X1_partOfLink ⟨rfl, rfl, Nat.le_of_ble_eq_true rfl, Nat.le_of_ble_eq_true rfl⟩ (iw_ix hJ (iw_nl hc1)) (iw_E1 (iw_nk hc1)) rfl rfl rfl (Nat.le_of_ble_eq_true rfl) dX2_learn_37 ?_
      refine iv_topi (fun v9 ev9 => ?_)
      replace h := iw_lete ev9 h
      refine iv_istore (pc := 40) C [(4, .int v9), (3, .int v8), (0, .ref (G.2.1 c)), (1, .ref (G.2.1 c1)), (2, .int v4)] dX2_learn_40 (by decide) rfl ?_
      refine iv_aload_n (pc := 42) C 2 dX2_learn_42 rfl rfl ?_
      refine iv_getf (pc := 43) (T := TX2) (N := 5) (ci := 2) C c 0 in_X2_learn_2 (iw_ix hJ (iw_pl hc)) (iw_E2 (iw_pk hc)) rfl (by decide) lk_X2_learn_9 rfl rfl dX2_learn_43 ?_
      refine iv_iload_n (pc := 46) C 1 dX2_learn_46 rfl rfl ?_
      refine iv_bipush (pc := 47) C (10 : Int32) dX2_learn_47 (by decide) ?_
      refine iv_imul (pc := 49) C dX2_learn_49 ?_
      refine iv_iload (pc := 50) C 0 dX2_learn_50 rfl ?_
      refine iv_iadd (pc := 52) C dX2_learn_52 ?_
      refine iv_aload_n (pc := 53) C 3 dX2_learn_53 rfl rfl ?_
      refine iv_iload_n (pc := 54) C 4 dX2_learn_54 rfl rfl ?_
      refine iv_iconst (pc := 55) C (2 : Int32) dX2_learn_55 (by decide) ?_
      refine iv_callV (pc := 56) (b := c1) (ci := 1) C [.int v4, .int (2 : Int32)] (k_X1_partOfLink l G hJ c1 hc1 v4 (2 : Int32) m5 rfl) gX2_learn_X1_partOfLink rfl qd_X1_partOfLink ⟨rfl, rfl, Nat.le_of_ble_eq_true rfl, Nat.le_of_ble_eq_true rfl⟩ (iw_ix hJ (iw_nl hc1)) (iw_E1 (iw_nk hc1)) rfl rfl rfl (Nat.le_of_ble_eq_true rfl) dX2_learn_56 ?_
      refine iv_callSN (pc := 59) C [.ref (G.2.1 (c + 1)), .int ((v8 * (10 : Int32)) + v9), .int (f_X1_partOfLink c1 v4 (2 : Int32) m5)] (k_X5_put l G hJ.1 (c + 1) (iw_pa1 hJ hc) ((v8 * (10 : Int32)) + v9) (f_X1_partOfLink c1 v4 (2 : Int32) m5) m5 rfl) gX2_learn_X5_put_n43 rfl ne_RX2_43 si_X2_learn_X5_put qd_X5_put ⟨rfl, rfl, Nat.le_of_ble_eq_true rfl, Nat.le_of_ble_eq_true rfl⟩ rfl rfl (Nat.le_of_ble_eq_true rfl) dX2_learn_59 ?_
      refine iv_topm (fun m10 em10 => ?_)
      replace h := iw_lete em10 h
      refine iv_aload_n (pc := 62) C 2 dX2_learn_62 rfl rfl ?_
      refine iv_getf (pc := 63) (T := TX2) (N := 5) (ci := 2) C c 0 in_X2_learn_2 (iw_ix hJ (iw_pl hc)) (iw_E2 (iw_pk hc)) rfl (by decide) lk_X2_learn_9 rfl rfl dX2_learn_63 ?_
      refine iv_iload (pc := 66) C 0 dX2_learn_66 rfl ?_
      refine iv_bipush (pc := 68) C (10 : Int32) dX2_learn_68 (by decide) ?_
      refine iv_imul (pc := 70) C dX2_learn_70 ?_
      refine iv_iload_n (pc := 71) C 1 dX2_learn_71 rfl rfl ?_
      refine iv_iadd (pc := 72) C dX2_learn_72 ?_
      refine iv_aload_n (pc := 73) C 3 dX2_learn_73 rfl rfl ?_
      refine iv_iload_n (pc := 74) C 4 dX2_learn_74 rfl rfl ?_
      refine iv_iconst (pc := 75) C (2 : Int32) dX2_learn_75 (by decide) ?_
      refine iv_callV (pc := 76) (b := c1) (ci := 1) C [.int v4, .int (2 : Int32)] (k_X1_partOfLink l G hJ c1 hc1 v4 (2 : Int32) m10 rfl) gX2_learn_X1_partOfLink rfl qd_X1_partOfLink ⟨rfl, rfl, Nat.le_of_ble_eq_true rfl, Nat.le_of_ble_eq_true rfl⟩ (iw_ix hJ (iw_nl hc1)) (iw_E1 (iw_nk hc1)) rfl rfl rfl (Nat.le_of_ble_eq_true rfl) dX2_learn_76 ?_
      refine iv_callSN (pc := 79) C [.ref (G.2.1 (c + 1)), .int ((v9 * (10 : Int32)) + v8), .int (f_X1_partOfLink c1 v4 (2 : Int32) m10)] (k_X5_put l G hJ.1 (c + 1) (iw_pa1 hJ hc) ((v9 * (10 : Int32)) + v8) (f_X1_partOfLink c1 v4 (2 : Int32) m10) m10 rfl) gX2_learn_X5_put_n43 rfl ne_RX2_43 si_X2_learn_X5_put qd_X5_put ⟨rfl, rfl, Nat.le_of_ble_eq_true rfl, Nat.le_of_ble_eq_true rfl⟩ rfl rfl (Nat.le_of_ble_eq_true rfl) dX2_learn_79 ?_
      refine iv_topm (fun m11 em11 => ?_)
      replace h := iw_lete em11 h
      obtain ⟨v12, ev12⟩ : ∃ y : Int32, y = v4 + (1 : Int32) := ⟨_, rfl⟩
      replace h := iw_lete ev12 h
      refine iv_iinc (pc := 82) C 4 v12 [(2, .int v12), (4, .int v9), (3, .int v8), (0, .ref (G.2.1 c)), (1, .ref (G.2.1 c1))] dX2_learn_82 rfl (by rw [ev12]; rfl) (by decide) rfl ?_
      refine iv_goto (pc := 85) C 18 dX2_learn_85 (by decide) ?_
      exact iv_sub [3, 4, 0] rfl (hr18 v12 m11 h)
  have vL18 : ∀ (nn : Nat) (v4 : Int32) (m5 : iw_M), f_X2_learn_L18 n c c1 (f_X2_learn_X88_18) nn v4 m5 = some σ' → iw_V p l e rm_X2_learn s m ([.ref (G.2.1 c), .ref (G.2.1 c1)] : List Value).toArray below meth c0 0 0 (MQ below (iw_Q none G σ') ([.ref (G.2.1 c), .ref (G.2.1 c1)] : List Value).toArray s 0 0 (iw_A G)) 5 G (iw_A G) m5 18 [(0, .ref (G.2.1 c)), (1, .ref (G.2.1 c1)), (2, .int v4)] [] := by
    intro nn
    induction nn with
    | zero => intro v4 m5 h; exact absurd h (fun q => by cases q)
    | succ nn ih => intro v4 m5 h; exact vB18 (f_X2_learn_X88_18) (f_X2_learn_L18 n c c1 (f_X2_learn_X88_18) nn) vX18 ih v4 m5 h
  exact iv_sub [1, 2, 0] rfl (vL18 n (0 : Int32) m2 h)
theorem qd_X2_learn : yX2_learn.cls = RX2 ∧ yX2_learn.cls ≠ "java/lang/invoke/MethodHandle" ∧ yX2_learn.cls ≠ "java/lang/invoke/VarHandle" ∧ (parseMethodDescriptor yX2_learn.desc).map (fun d => d.parameters.length) = some 1 := by decide +kernel
def f_X2_delayBetween (c : Nat) (p1 : Int32) (p2 : Int32) (σ : iw_M) : Int32 :=
(f_X5_at (c + 1) ((p1 * (10 : Int32)) + p2) σ)
abbrev rm_X2_delayBetween : Room := { frames := 1, cells := 0, slots := 0, locals := 21 }
theorem lk_X2_delayBetween_9 : Cond.fieldLink RX2 9 RX2 (TX2 0).2.1 (TX2 0).2.2.1 ∈ wsX2_delayBetween := by decide +kernel
theorem si_X2_delayBetween_X5_at : Cond.static yX5_at ∈ wsX2_delayBetween ∧ Cond.initialized yX5_at.cls ∈ wsX2_delayBetween := by decide +kernel
theorem in_X2_delayBetween_2 : ∀ w ∈ u_ws RX2 TX2 5, w ∈ wsX2_delayBetween := by decide +kernel
set_option maxHeartbeats 4000000 in
set_option maxRecDepth 100000 in
theorem k_X2_delayBetween (l : Launch) (G : iw_G) (hJ : iw_JX G) (c : Nat) (hc : iw_pth c) (p1 : Int32) (p2 : Int32) (σ : iw_M) {r : Int32} (h : f_X2_delayBetween c p1 p2 σ = r) : iw_Ct l yX2_delayBetween wsX2_delayBetween rm_X2_delayBetween G ([.ref (G.2.1 c), .int p1, .int p2] : List Value) σ (some (.int r)) σ := by
  refine iv_start (nL := 3) (own := RX2) (ret := (some .int)) (cc := cX2_delayBetween) (by decide +kernel) rfl rfl hJ.1 (Nat.le_of_ble_eq_true rfl) ?_
  intro p e s m below meth c0 C hr hlk
  refine iv_sub (lv' := [(0, .ref (G.2.1 c)), (1, .int p1), (2, .int p2)]) [0, 1, 2] rfl ?_
  unfold f_X2_delayBetween at h
  refine iv_aload_n (pc := 0) C 0 dX2_delayBetween_0 rfl rfl ?_
  refine iv_getf (pc := 1) (T := TX2) (N := 5) (ci := 2) C c 0 in_X2_delayBetween_2 (iw_ix hJ (iw_pl hc)) (iw_E2 (iw_pk hc)) rfl (by decide) lk_X2_delayBetween_9 rfl rfl dX2_delayBetween_1 ?_
  refine iv_iload_n (pc := 4) C 1 dX2_delayBetween_4 rfl rfl ?_
  refine iv_bipush (pc := 5) C (10 : Int32) dX2_delayBetween_5 (by decide) ?_
  refine iv_imul (pc := 7) C dX2_delayBetween_7 ?_
  refine iv_iload_n (pc := 8) C 2 dX2_delayBetween_8 rfl rfl ?_
  refine iv_iadd (pc := 9) C dX2_delayBetween_9 ?_
  refine iv_callSN (pc := 10) C [.ref (G.2.1 (c + 1)), .int ((p1 * (10 : Int32)) + p2)] (k_X5_at l G hJ.1 (c + 1) (iw_pa1 hJ hc) ((p1 * (10 : Int32)) + p2) σ rfl) gX2_delayBetween_X5_at_n47 rfl ne_RX2_47 si_X2_delayBetween_X5_at qd_X5_at ⟨rfl, rfl, Nat.le_of_ble_eq_true rfl, Nat.le_of_ble_eq_true rfl⟩ rfl rfl (Nat.le_of_ble_eq_true rfl) dX2_delayBetween_10 ?_
  cases h
  exact iv_iret C hr hlk rfl rfl dX2_delayBetween_13
theorem qd_X2_delayBetween : yX2_delayBetween.cls = RX2 ∧ yX2_delayBetween.cls ≠ "java/lang/invoke/MethodHandle" ∧ yX2_delayBetween.cls ≠ "java/lang/invoke/VarHandle" ∧ (parseMethodDescriptor yX2_delayBetween.desc).map (fun d => d.parameters.length) = some 2 := by decide +kernel
def f_X2_carry_X66_10 (v1 : Int32) : Option (Int32) :=
if v1 ≤ (0 : Int32) then
(some (0 : Int32))
else
(some (1 : Int32))
def f_X2_carry_J60 (r10 : Int32 → Option (Int32)) (v3 : Int32) : Option (Int32) :=
iw_let (v3 + (1 : Int32)) fun v7 =>
r10 v7
def f_X2_carry_B10 (c : Nat) (c1 : Nat) (p2 : Int32) (p3 : Int32) (σ : iw_M) (v1 : Int32) (k10 : Option (Int32)) (r10 : Int32 → Option (Int32)) (v3 : Int32) : Option (Int32) :=
if v1 ≤ v3 then
(k10)
else
(iw_let (f_X1_nodeOf c1 p2 v3 σ) fun v5 =>
if (f_X5_holds p3 v5) = (0 : Int32) then
(some (0 : Int32))
else
(if v3 ≤ (0 : Int32) then
(f_X2_carry_J60 r10 v3)
else
(if (f_X2_delayBetween c (f_X1_nodeOf c1 p2 (v3 - (1 : Int32)) σ) v5 σ) = (0 : Int32) then
(some (0 : Int32))
else
(f_X2_carry_J60 r10 v3))))
def f_X2_carry_L10 (c : Nat) (c1 : Nat) (p2 : Int32) (p3 : Int32) (σ : iw_M) (v1 : Int32) (k10 : Option (Int32)) (nn : Nat) : Int32 → Option (Int32) :=
iw_it (fun r10 => f_X2_carry_B10 c c1 p2 p3 σ v1 k10 r10) (fun _ => none) nn
def f_X2_carry (n : Nat) (c : Nat) (c1 : Nat) (p2 : Int32) (p3 : Int32) (σ : iw_M) : Option (Int32) :=
iw_let (f_X1_lengthOf c1 p2 σ) fun v1 =>
f_X2_carry_L10 c c1 p2 p3 σ v1 (f_X2_carry_X66_10 v1) n (0 : Int32)
abbrev rm_X2_carry : Room := { frames := 2, cells := 0, slots := 0, locals := 43 }
theorem si_X2_carry_X5_holds : Cond.static yX5_holds ∈ wsX2_carry ∧ Cond.initialized yX5_holds.cls ∈ wsX2_carry := by decide +kernel
set_option maxHeartbeats 4000000 in
set_option maxRecDepth 100000 in
theorem k_X2_carry (l : Launch) (G : iw_G) (hJ : iw_JX G) (n : Nat) (c : Nat) (hc : iw_pth c) (c1 : Nat) (hc1 : iw_net c1) (p2 : Int32) (p3 : Int32) (σ : iw_M) {r : Int32} (h : f_X2_carry n c c1 p2 p3 σ = some r) : iw_Ct l yX2_carry wsX2_carry rm_X2_carry G ([.ref (G.2.1 c), .ref (G.2.1 c1), .int p2, .int p3] : List Value) σ (some (.int r)) σ := by
  refine iv_start (nL := 7) (own := RX2) (ret := (some .boolean)) (cc := cX2_carry) (by decide +kernel) rfl rfl hJ.1 (Nat.le_of_ble_eq_true rfl) ?_
  intro p e s m below meth c0 C hr hlk
  refine iv_sub (lv' := [(0, .ref (G.2.1 c)), (1, .ref (G.2.1 c1)), (2, .int p2), (3, .int p3)]) [0, 1, 2, 3] rfl ?_
  unfold f_X2_carry at h
  refine iv_aload_n (pc := 0) C 1 dX2_carry_0 rfl rfl ?_
  refine iv_iload_n (pc := 1) C 2 dX2_carry_1 rfl rfl ?_
  refine iv_callV (pc := 2) (b := c1) (ci := 1) C [.int p2] (k_X1_lengthOf l G hJ c1 hc1 p2 σ rfl) gX2_carry_X1_lengthOf rfl qd_X1_lengthOf ⟨rfl, rfl, Nat.le_of_ble_eq_true rfl, Nat.le_of_ble_eq_true rfl⟩ (iw_ix hJ (iw_nl hc1)) (iw_E1 (iw_nk hc1)) rfl rfl rfl (Nat.le_of_ble_eq_true rfl) dX2_carry_2 ?_
  refine iv_topi (fun v1 ev1 => ?_)
  replace h := iw_lete ev1 h
  refine iv_istore (pc := 5) C [(4, .int v1), (0, .ref (G.2.1 c)), (1, .ref (G.2.1 c1)), (2, .int p2), (3, .int p3)] dX2_carry_5 (by decide) rfl ?_
  refine iv_iconst (pc := 7) C (0 : Int32) dX2_carry_7 (by decide) ?_
  refine iv_istore (pc := 8) C [(5, .int (0 : Int32)), (4, .int v1), (0, .ref (G.2.1 c)), (1, .ref (G.2.1 c1)), (2, .int p2), (3, .int p3)] dX2_carry_8 (by decide) rfl ?_
  have vX10 : f_X2_carry_X66_10 v1  = some r → iw_V p l e rm_X2_carry s m ([.ref (G.2.1 c), .ref (G.2.1 c1), .int p2, .int p3] : List Value).toArray below meth c0 0 0 (MQ below (iw_Q (some (.int r)) G σ) ([.ref (G.2.1 c), .ref (G.2.1 c1), .int p2, .int p3] : List Value).toArray s 0 0 (iw_A G)) 7 G (iw_A G) σ 66 [(4, .int v1)] [] := by
    intro h
    unfold f_X2_carry_X66_10 at h
    refine iv_iload (pc := 66) C 0 dX2_carry_66 rfl ?_
    refine iv_if_le (pc := 68) C 75 dX2_carry_68 (by decide) (fun h2 => ?_) (fun h2 => ?_)
    · replace h := iw_ift h2 h
      refine iv_iconst (pc := 75) C (0 : Int32) dX2_carry_75 (by decide) ?_
      cases h
      exact iv_zret C hr hlk rfl rfl dX2_carry_76
    · replace h := iw_iff h2 h
      refine iv_iconst (pc := 71) C (1 : Int32) dX2_carry_71 (by decide) ?_
      refine iv_goto (pc := 72) C 76 dX2_carry_72 (by decide) ?_
      cases h
      exact iv_zret C hr hlk rfl rfl dX2_carry_76
  have vB10 : ∀ (k10 : Option (Int32)) (r10 : Int32 → Option (Int32)), (k10  = some r → iw_V p l e rm_X2_carry s m ([.ref (G.2.1 c), .ref (G.2.1 c1), .int p2, .int p3] : List Value).toArray below meth c0 0 0 (MQ below (iw_Q (some (.int r)) G σ) ([.ref (G.2.1 c), .ref (G.2.1 c1), .int p2, .int p3] : List Value).toArray s 0 0 (iw_A G)) 7 G (iw_A G) σ 66 [(4, .int v1)] []) → (∀ (v3 : Int32), r10 v3 = some r → iw_V p l e rm_X2_carry s m ([.ref (G.2.1 c), .ref (G.2.1 c1), .int p2, .int p3] : List Value).toArray below meth c0 0 0 (MQ below (iw_Q (some (.int r)) G σ) ([.ref (G.2.1 c), .ref (G.2.1 c1), .int p2, .int p3] : List Value).toArray s 0 0 (iw_A G)) 7 G (iw_A G) σ 10 [(0, .ref (G.2.1 c)), (1, .ref (G.2.1 c1)), (2, .int p2), (3, .int p3), (4, .int v1), (5, .int v3)] []) → ∀ (v3 : Int32), f_X2_carry_B10 c c1 p2 p3 σ v1 k10 r10 v3 = some r → iw_V p l e rm_X2_carry s m ([.ref (G.2.1 c), .ref (G.2.1 c1), .int p2, .int p3] : List Value).toArray below meth c0 0 0 (MQ below (iw_Q (some (.int r)) G σ) ([.ref (G.2.1 c), .ref (G.2.1 c1), .int p2, .int p3] : List Value).toArray s 0 0 (iw_A G)) 7 G (iw_A G) σ 10 [(0, .ref (G.2.1 c)), (1, .ref (G.2.1 c1)), (2, .int p2), (3, .int p3), (4, .int v1), (5, .int v3)] [] := by
    intro k10 r10 hk10 hr10 v3 h
    unfold f_X2_carry_B10 at h
    refine iv_iload (pc := 10) C 5 dX2_carry_10 rfl ?_
    refine iv_iload (pc := 12) C 4 dX2_carry_12 rfl ?_
    refine iv_icmp_ge (pc := 14) C 66 dX2_carry_14 (by decide) (fun h4 => ?_) (fun h4 => ?_)
    · replace h := iw_ift h4 h
      exact iv_sub [4] rfl (hk10 h)
    · replace h := iw_iff h4 h
      refine iv_aload_n (pc := 17) C 1 dX2_carry_17 rfl rfl ?_
      refine iv_iload_n (pc := 18) C 2 dX2_carry_18 rfl rfl ?_
      refine iv_iload (pc := 19) C 5 dX2_carry_19 rfl ?_
      refine iv_callV (pc := 21) (b := c1) (ci := 1) C [.int p2, .int v3] (k_X1_nodeOf l G hJ c1 hc1 p2 v3 σ rfl) gX2_carry_X1_nodeOf rfl qd_X1_nodeOf ⟨rfl, rfl, Nat.le_of_ble_eq_true rfl, Nat.le_of_ble_eq_true rfl⟩ (iw_ix hJ (iw_nl hc1)) (iw_E1 (iw_nk hc1)) rfl rfl rfl (Nat.le_of_ble_eq_true rfl) dX2_carry_21 ?_
      refine iv_topi (fun v5 ev5 => ?_)
      replace h := iw_lete ev5 h
      refine iv_istore (pc := 24) C [(6, .int v5), (0, .ref (G.2.1 c)), (1, .ref (G.2.1 c1)), (2, .int p2), (3, .int p3), (4, .int v1), (5, .int v3)] dX2_carry_24 (by decide) rfl ?_
      refine iv_iload_n (pc := 26) C 4 dX2_carry_26 rfl rfl ?_
      refine iv_iload (pc := 27) C 0 dX2_carry_27 rfl ?_
      refine iv_callSN (pc := 29) C [.int p3, .int v5] (k_X5_holds l G hJ p3 v5 σ rfl) gX2_carry_X5_holds_n57 rfl ne_RX2_57 si_X2_carry_X5_holds qd_X5_holds ⟨rfl, rfl, Nat.le_of_ble_eq_true rfl, Nat.le_of_ble_eq_true rfl⟩ rfl rfl (Nat.le_of_ble_eq_true rfl) dX2_carry_29 ?_
      refine iv_if_eq (pc := 32) C 58 dX2_carry_32 (by decide) (fun h6 => ?_) (fun h6 => ?_)
      · replace h := iw_ift h6 h
        refine iv_iconst (pc := 58) C (0 : Int32) dX2_carry_58 (by decide) ?_
        cases h
        exact iv_zret C hr hlk rfl rfl dX2_carry_59
      · replace h := iw_iff h6 h
        refine iv_iload (pc := 35) C 6 dX2_carry_35 rfl ?_
        have vJ60 : f_X2_carry_J60 r10 v3  = some r → iw_V p l e rm_X2_carry s m ([.ref (G.2.1 c), .ref (G.2.1 c1), .int p2, .int p3] : List Value).toArray below meth c0 0 0 (MQ below (iw_Q (some (.int r)) G σ) ([.ref (G.2.1 c), .ref (G.2.1 c1), .int p2, .int p3] : List Value).toArray s 0 0 (iw_A G)) 7 G (iw_A G) σ 60 [(0, .ref (G.2.1 c)), (1, .ref (G.2.1 c1)), (2, .int p2), (3, .int p3), (4, .int v1), (5, .int v3)] [] := by
          intro h
          unfold f_X2_carry_J60 at h
          obtain ⟨v7, ev7⟩ : ∃ y : Int32, y = v3 + (1 : Int32) := ⟨_, rfl⟩
          replace h := iw_lete ev7 h
          refine iv_iinc (pc := 60) C 5 v7 [(5, .int v7), (0, .ref (G.2.1 c)), (1, .ref (G.2.1 c1)), (2, .int p2), (3, .int p3), (4, .int v1)] dX2_carry_60 rfl (by rw [ev7]; rfl) (by decide) rfl ?_
          refine iv_goto (pc := 63) C 10 dX2_carry_63 (by decide) ?_
          exact iv_sub [1, 2, 3, 4, 5, 0] rfl (hr10 v7 h)
        refine iv_if_le (pc := 37) C 60 dX2_carry_37 (by decide) (fun h8 => ?_) (fun h8 => ?_)
        · replace h := iw_ift h8 h
          exact iv_sub [1, 2, 3, 4, 5, 6] rfl (vJ60 h)
        · replace h := iw_iff h8 h
          refine iv_aload_n (pc := 40) C 1 dX2_carry_40 rfl rfl ?_
          refine iv_aload_n (pc := 41) C 2 dX2_carry_41 rfl rfl ?_
          refine iv_iload_n (pc := 42) C 3 dX2_carry_42 rfl rfl ?_
          refine iv_iload (pc := 43) C 6 dX2_carry_43 rfl ?_
          refine iv_iconst (pc := 45) C (1 : Int32) dX2_carry_45 (by decide) ?_
          refine iv_isub (pc := 46) C dX2_carry_46 ?_
          refine iv_callV (pc := 47) (b := c1) (ci := 1) C [.int p2, .int (v3 - (1 : Int32))] (k_X1_nodeOf l G hJ c1 hc1 p2 (v3 - (1 : Int32)) σ rfl) gX2_carry_X1_nodeOf rfl qd_X1_nodeOf ⟨rfl, rfl, Nat.le_of_ble_eq_true rfl, Nat.le_of_ble_eq_true rfl⟩ (iw_ix hJ (iw_nl hc1)) (iw_E1 (iw_nk hc1)) rfl rfl rfl (Nat.le_of_ble_eq_true rfl) dX2_carry_47 ?_
          refine iv_iload (pc := 50) C 0 dX2_carry_50 rfl ?_
          refine iv_callV (pc := 52) (b := c) (ci := 2) C [.int (f_X1_nodeOf c1 p2 (v3 - (1 : Int32)) σ), .int v5] (k_X2_delayBetween l G hJ c hc (f_X1_nodeOf c1 p2 (v3 - (1 : Int32)) σ) v5 σ rfl) gX2_carry_X2_delayBetween rfl qd_X2_delayBetween ⟨rfl, rfl, Nat.le_of_ble_eq_true rfl, Nat.le_of_ble_eq_true rfl⟩ (iw_ix hJ (iw_pl hc)) (iw_E2 (iw_pk hc)) rfl rfl rfl (Nat.le_of_ble_eq_true rfl) dX2_carry_52 ?_
          refine iv_if_ne (pc := 55) C 60 dX2_carry_55 (by decide) (fun h9 => ?_) (fun h9 => ?_)
          · replace h := iw_iff h9 h
            exact iv_sub [1, 2, 3, 4, 5, 6] rfl (vJ60 h)
          · replace h := iw_ift h9 h
            refine iv_iconst (pc := 58) C (0 : Int32) dX2_carry_58 (by decide) ?_
            cases h
            exact iv_zret C hr hlk rfl rfl dX2_carry_59
  have vL10 : ∀ (nn : Nat) (v3 : Int32), f_X2_carry_L10 c c1 p2 p3 σ v1 (f_X2_carry_X66_10 v1) nn v3 = some r → iw_V p l e rm_X2_carry s m ([.ref (G.2.1 c), .ref (G.2.1 c1), .int p2, .int p3] : List Value).toArray below meth c0 0 0 (MQ below (iw_Q (some (.int r)) G σ) ([.ref (G.2.1 c), .ref (G.2.1 c1), .int p2, .int p3] : List Value).toArray s 0 0 (iw_A G)) 7 G (iw_A G) σ 10 [(0, .ref (G.2.1 c)), (1, .ref (G.2.1 c1)), (2, .int p2), (3, .int p3), (4, .int v1), (5, .int v3)] [] := by
    intro nn
    induction nn with
    | zero => intro v3 h; exact absurd h (fun q => by cases q)
    | succ nn ih => intro v3 h; exact vB10 (f_X2_carry_X66_10 v1) (f_X2_carry_L10 c c1 p2 p3 σ v1 (f_X2_carry_X66_10 v1) nn) vX10 ih v3 h
  exact iv_sub [2, 3, 4, 5, 1, 0] rfl (vL10 n (0 : Int32) h)
theorem qd_X2_carry : yX2_carry.cls = RX2 ∧ yX2_carry.cls ≠ "java/lang/invoke/MethodHandle" ∧ yX2_carry.cls ≠ "java/lang/invoke/VarHandle" ∧ (parseMethodDescriptor yX2_carry.desc).map (fun d => d.parameters.length) = some 3 := by decide +kernel
def f_X2_delayOf_X44_5 (v1 : Int32) : Option (Int32) :=
some v1
def f_X2_delayOf_B5 (c : Nat) (c1 : Nat) (p2 : Int32) (σ : iw_M) (k5 : Int32 → Option (Int32)) (r5 : Int32 → Int32 → Option (Int32)) (v2 : Int32) (v3 : Int32) : Option (Int32) :=
if (f_X1_lengthOf c1 p2 σ) ≤ v3 then
(k5 v2)
else
(iw_let (v2 + (f_X2_delayBetween c (f_X1_nodeOf c1 p2 (v3 - (1 : Int32)) σ) (f_X1_nodeOf c1 p2 v3 σ) σ)) fun v5 =>
iw_let (v3 + (1 : Int32)) fun v6 =>
r5 v5 v6)
def f_X2_delayOf_L5 (c : Nat) (c1 : Nat) (p2 : Int32) (σ : iw_M) (k5 : Int32 → Option (Int32)) (nn : Nat) : Int32 → Int32 → Option (Int32) :=
iw_it (fun r5 => f_X2_delayOf_B5 c c1 p2 σ k5 r5) (fun _ _ => none) nn
def f_X2_delayOf (n : Nat) (c : Nat) (c1 : Nat) (p2 : Int32) (σ : iw_M) : Option (Int32) :=
f_X2_delayOf_L5 c c1 p2 σ (f_X2_delayOf_X44_5) n (0 : Int32) (1 : Int32)
abbrev rm_X2_delayOf : Room := { frames := 2, cells := 0, slots := 0, locals := 43 }
set_option maxHeartbeats 4000000 in
set_option maxRecDepth 100000 in
theorem k_X2_delayOf (l : Launch) (G : iw_G) (hJ : iw_JX G) (n : Nat) (c : Nat) (hc : iw_pth c) (c1 : Nat) (hc1 : iw_net c1) (p2 : Int32) (σ : iw_M) {r : Int32} (h : f_X2_delayOf n c c1 p2 σ = some r) : iw_Ct l yX2_delayOf wsX2_delayOf rm_X2_delayOf G ([.ref (G.2.1 c), .ref (G.2.1 c1), .int p2] : List Value) σ (some (.int r)) σ := by
  refine iv_start (nL := 5) (own := RX2) (ret := (some .int)) (cc := cX2_delayOf) (by decide +kernel) rfl rfl hJ.1 (Nat.le_of_ble_eq_true rfl) ?_
  intro p e s m below meth c0 C hr hlk
  refine iv_sub (lv' := [(0, .ref (G.2.1 c)), (1, .ref (G.2.1 c1)), (2, .int p2)]) [0, 1, 2] rfl ?_
  unfold f_X2_delayOf at h
  refine iv_iconst (pc := 0) C (0 : Int32) dX2_delayOf_0 (by decide) ?_
  refine iv_istore_n (pc := 1) C [(3, .int (0 : Int32)), (0, .ref (G.2.1 c)), (1, .ref (G.2.1 c1)), (2, .int p2)] dX2_delayOf_1 rfl (by decide) rfl ?_
  refine iv_iconst (pc := 2) C (1 : Int32) dX2_delayOf_2 (by decide) ?_
  refine iv_istore (pc := 3) C [(4, .int (1 : Int32)), (3, .int (0 : Int32)), (0, .ref (G.2.1 c)), (1, .ref (G.2.1 c1)), (2, .int p2)] dX2_delayOf_3 (by decide) rfl ?_
  have vX5 : ∀ (v1 : Int32), f_X2_delayOf_X44_5 v1 = some r → iw_V p l e rm_X2_delayOf s m ([.ref (G.2.1 c), .ref (G.2.1 c1), .int p2] : List Value).toArray below meth c0 0 0 (MQ below (iw_Q (some (.int r)) G σ) ([.ref (G.2.1 c), .ref (G.2.1 c1), .int p2] : List Value).toArray s 0 0 (iw_A G)) 5 G (iw_A G) σ 44 [(3, .int v1)] [] := by
    intro v1 h
    unfold f_X2_delayOf_X44_5 at h
    refine iv_iload_n (pc := 44) C 0 dX2_delayOf_44 rfl rfl ?_
    cases h
    exact iv_iret C hr hlk rfl rfl dX2_delayOf_45
  have vB5 : ∀ (k5 : Int32 → Option (Int32)) (r5 : Int32 → Int32 → Option (Int32)), (∀ (v1 : Int32), k5 v1 = some r → iw_V p l e rm_X2_delayOf s m ([.ref (G.2.1 c), .ref (G.2.1 c1), .int p2] : List Value).toArray below meth c0 0 0 (MQ below (iw_Q (some (.int r)) G σ) ([.ref (G.2.1 c), .ref (G.2.1 c1), .int p2] : List Value).toArray s 0 0 (iw_A G)) 5 G (iw_A G) σ 44 [(3, .int v1)] []) → (∀ (v2 : Int32) (v3 : Int32), r5 v2 v3 = some r → iw_V p l e rm_X2_delayOf s m ([.ref (G.2.1 c), .ref (G.2.1 c1), .int p2] : List Value).toArray below meth c0 0 0 (MQ below (iw_Q (some (.int r)) G σ) ([.ref (G.2.1 c), .ref (G.2.1 c1), .int p2] : List Value).toArray s 0 0 (iw_A G)) 5 G (iw_A G) σ 5 [(0, .ref (G.2.1 c)), (1, .ref (G.2.1 c1)), (2, .int p2), (3, .int v2), (4, .int v3)] []) → ∀ (v2 : Int32) (v3 : Int32), f_X2_delayOf_B5 c c1 p2 σ k5 r5 v2 v3 = some r → iw_V p l e rm_X2_delayOf s m ([.ref (G.2.1 c), .ref (G.2.1 c1), .int p2] : List Value).toArray below meth c0 0 0 (MQ below (iw_Q (some (.int r)) G σ) ([.ref (G.2.1 c), .ref (G.2.1 c1), .int p2] : List Value).toArray s 0 0 (iw_A G)) 5 G (iw_A G) σ 5 [(0, .ref (G.2.1 c)), (1, .ref (G.2.1 c1)), (2, .int p2), (3, .int v2), (4, .int v3)] [] := by
    intro k5 r5 hk5 hr5 v2 v3 h
    unfold f_X2_delayOf_B5 at h
    refine iv_iload (pc := 5) C 4 dX2_delayOf_5 rfl ?_
    refine iv_aload_n (pc := 7) C 1 dX2_delayOf_7 rfl rfl ?_
    refine iv_iload_n (pc := 8) C 2 dX2_delayOf_8 rfl rfl ?_
    refine iv_callV (pc := 9) (b := c1) (ci := 1) C [.int p2] (k_X1_lengthOf l G hJ c1 hc1 p2 σ rfl) gX2_delayOf_X1_lengthOf rfl qd_X1_lengthOf ⟨rfl, rfl, Nat.le_of_ble_eq_true rfl, Nat.le_of_ble_eq_true rfl⟩ (iw_ix hJ (iw_nl hc1)) (iw_E1 (iw_nk hc1)) rfl rfl rfl (Nat.le_of_ble_eq_true rfl) dX2_delayOf_9 ?_
    refine iv_icmp_ge (pc := 12) C 44 dX2_delayOf_12 (by decide) (fun h4 => ?_) (fun h4 => ?_)
    · replace h := iw_ift h4 h
      exact iv_sub [3] rfl (hk5 v2 h)
    · replace h := iw_iff h4 h
      refine iv_iload_n (pc := 15) C 3 dX2_delayOf_15 rfl rfl ?_
      refine iv_aload_n (pc := 16) C 0 dX2_delayOf_16 rfl rfl ?_
      refine iv_aload_n (pc := 17) C 1 dX2_delayOf_17 rfl rfl ?_
      refine iv_iload_n (pc := 18) C 2 dX2_delayOf_18 rfl rfl ?_
      refine iv_iload (pc := 19) C 4 dX2_delayOf_19 rfl ?_
      refine iv_iconst (pc := 21) C (1 : Int32) dX2_delayOf_21 (by decide) ?_
      refine iv_isub (pc := 22) C dX2_delayOf_22 ?_
      refine iv_callV (pc := 23) (b := c1) (ci := 1) C [.int p2, .int (v3 - (1 : Int32))] (k_X1_nodeOf l G hJ c1 hc1 p2 (v3 - (1 : Int32)) σ rfl) gX2_delayOf_X1_nodeOf rfl qd_X1_nodeOf ⟨rfl, rfl, Nat.le_of_ble_eq_true rfl, Nat.le_of_ble_eq_true rfl⟩ (iw_ix hJ (iw_nl hc1)) (iw_E1 (iw_nk hc1)) rfl rfl rfl (Nat.le_of_ble_eq_true rfl) dX2_delayOf_23 ?_
      refine iv_aload_n (pc := 26) C 1 dX2_delayOf_26 rfl rfl ?_
      refine iv_iload_n (pc := 27) C 2 dX2_delayOf_27 rfl rfl ?_
      refine iv_iload (pc := 28) C 4 dX2_delayOf_28 rfl ?_
      refine iv_callV (pc := 30) (b := c1) (ci := 1) C [.int p2, .int v3] (k_X1_nodeOf l G hJ c1 hc1 p2 v3 σ rfl) gX2_delayOf_X1_nodeOf rfl qd_X1_nodeOf ⟨rfl, rfl, Nat.le_of_ble_eq_true rfl, Nat.le_of_ble_eq_true rfl⟩ (iw_ix hJ (iw_nl hc1)) (iw_E1 (iw_nk hc1)) rfl rfl rfl (Nat.le_of_ble_eq_true rfl) dX2_delayOf_30 ?_
      refine iv_callV (pc := 33) (b := c) (ci := 2) C [.int (f_X1_nodeOf c1 p2 (v3 - (1 : Int32)) σ), .int (f_X1_nodeOf c1 p2 v3 σ)] (k_X2_delayBetween l G hJ c hc (f_X1_nodeOf c1 p2 (v3 - (1 : Int32)) σ) (f_X1_nodeOf c1 p2 v3 σ) σ rfl) gX2_delayOf_X2_delayBetween rfl qd_X2_delayBetween ⟨rfl, rfl, Nat.le_of_ble_eq_true rfl, Nat.le_of_ble_eq_true rfl⟩ (iw_ix hJ (iw_pl hc)) (iw_E2 (iw_pk hc)) rfl rfl rfl (Nat.le_of_ble_eq_true rfl) dX2_delayOf_33 ?_
      refine iv_iadd (pc := 36) C dX2_delayOf_36 ?_
      refine iv_topi (fun v5 ev5 => ?_)
      replace h := iw_lete ev5 h
      refine iv_istore_n (pc := 37) C [(3, .int v5), (0, .ref (G.2.1 c)), (1, .ref (G.2.1 c1)), (2, .int p2), (4, .int v3)] dX2_delayOf_37 rfl (by decide) rfl ?_
      obtain ⟨v6, ev6⟩ : ∃ y : Int32, y = v3 + (1 : Int32) := ⟨_, rfl⟩
      replace h := iw_lete ev6 h
      refine iv_iinc (pc := 38) C 4 v6 [(4, .int v6), (3, .int v5), (0, .ref (G.2.1 c)), (1, .ref (G.2.1 c1)), (2, .int p2)] dX2_delayOf_38 rfl (by rw [ev6]; rfl) (by decide) rfl ?_
      refine iv_goto (pc := 41) C 5 dX2_delayOf_41 (by decide) ?_
      exact iv_sub [2, 3, 4, 1, 0] rfl (hr5 v5 v6 h)
  have vL5 : ∀ (nn : Nat) (v2 : Int32) (v3 : Int32), f_X2_delayOf_L5 c c1 p2 σ (f_X2_delayOf_X44_5) nn v2 v3 = some r → iw_V p l e rm_X2_delayOf s m ([.ref (G.2.1 c), .ref (G.2.1 c1), .int p2] : List Value).toArray below meth c0 0 0 (MQ below (iw_Q (some (.int r)) G σ) ([.ref (G.2.1 c), .ref (G.2.1 c1), .int p2] : List Value).toArray s 0 0 (iw_A G)) 5 G (iw_A G) σ 5 [(0, .ref (G.2.1 c)), (1, .ref (G.2.1 c1)), (2, .int p2), (3, .int v2), (4, .int v3)] [] := by
    intro nn
    induction nn with
    | zero => intro v2 v3 h; exact absurd h (fun q => by cases q)
    | succ nn ih => intro v2 v3 h; exact vB5 (f_X2_delayOf_X44_5) (f_X2_delayOf_L5 c c1 p2 σ (f_X2_delayOf_X44_5) nn) vX5 ih v2 v3 h
  exact iv_sub [2, 3, 4, 1, 0] rfl (vL5 n (0 : Int32) (1 : Int32) h)
theorem qd_X2_delayOf : yX2_delayOf.cls = RX2 ∧ yX2_delayOf.cls ≠ "java/lang/invoke/MethodHandle" ∧ yX2_delayOf.cls ≠ "java/lang/invoke/VarHandle" ∧ (parseMethodDescriptor yX2_delayOf.desc).map (fun d => d.parameters.length) = some 2 := by decide +kernel
def f_X2_findTimes_X168_47 (m3 : iw_M) : Option (iw_M) :=
some m3
def f_X2_findTimes_X162_57 (r47 : Int32 → iw_M → Option (iw_M)) (v4 : Int32) (m7 : iw_M) : Option (iw_M) :=
iw_let (v4 + (1 : Int32)) fun v8 =>
r47 v8 m7
def f_X2_findTimes_X156_67 (r57 : Int32 → iw_M → Option (iw_M)) (v9 : Int32) (m12 : iw_M) : Option (iw_M) :=
iw_let (v9 + (1 : Int32)) fun v13 =>
r57 v13 m12
def f_X2_findTimes_J150 (r67 : Int32 → iw_M → Option (iw_M)) (v14 : Int32) (m19 : iw_M) : Option (iw_M) :=
iw_let (v14 + (1 : Int32)) fun v20 =>
r67 v20 m19
def f_X2_findTimes_B67 (c : Nat) (p2 : Int32) (v1 : Int32) (v9 : Int32) (k67 : iw_M → Option (iw_M)) (r67 : Int32 → iw_M → Option (iw_M)) (v14 : Int32) (m15 : iw_M) : Option (iw_M) :=
if (10 : Int32) ≤ v14 then
(k67 m15)
else
(iw_let (f_X5_at (c + 1) ((v9 * (10 : Int32)) + v14) m15) fun v17 =>
iw_let ((f_X5_at (c + 4) (v1 + v9) m15) + v17) fun v18 =>
if v17 ≤ (0 : Int32) then
(f_X2_findTimes_J150 r67 v14 m15)
else
(if (f_X5_holds p2 v14) = (0 : Int32) then
(f_X2_findTimes_J150 r67 v14 m15)
else
(if (f_X5_at (c + 4) (v1 + v14) m15) ≤ v18 then
(f_X2_findTimes_J150 r67 v14 m15)
else
(iw_let (f_X5_put (c + 4) (v1 + v14) v18 m15) fun m24 =>
f_X2_findTimes_J150 r67 v14 m24))))
def f_X2_findTimes_L67 (c : Nat) (p2 : Int32) (v1 : Int32) (v9 : Int32) (k67 : iw_M → Option (iw_M)) (nn : Nat) : Int32 → iw_M → Option (iw_M) :=
iw_it (fun r67 => f_X2_findTimes_B67 c p2 v1 v9 k67 r67) (fun _ _ => none) nn
def f_X2_findTimes_B57 (n : Nat) (c : Nat) (p2 : Int32) (v1 : Int32) (k57 : iw_M → Option (iw_M)) (r57 : Int32 → iw_M → Option (iw_M)) (v9 : Int32) (m10 : iw_M) : Option (iw_M) :=
if (10 : Int32) ≤ v9 then
(k57 m10)
else
(f_X2_findTimes_L67 c p2 v1 v9 (f_X2_findTimes_X156_67 r57 v9) n (0 : Int32) m10)
def f_X2_findTimes_L57 (n : Nat) (c : Nat) (p2 : Int32) (v1 : Int32) (k57 : iw_M → Option (iw_M)) (nn : Nat) : Int32 → iw_M → Option (iw_M) :=
iw_it (fun r57 => f_X2_findTimes_B57 n c p2 v1 k57 r57) (fun _ _ => none) nn
def f_X2_findTimes_B47 (n : Nat) (c : Nat) (p2 : Int32) (v1 : Int32) (k47 : iw_M → Option (iw_M)) (r47 : Int32 → iw_M → Option (iw_M)) (v4 : Int32) (m5 : iw_M) : Option (iw_M) :=
if (10 : Int32) ≤ v4 then
(k47 m5)
else
(f_X2_findTimes_L57 n c p2 v1 (f_X2_findTimes_X162_57 r47 v4) n (0 : Int32) m5)
def f_X2_findTimes_L47 (n : Nat) (c : Nat) (p2 : Int32) (v1 : Int32) (k47 : iw_M → Option (iw_M)) (nn : Nat) : Int32 → iw_M → Option (iw_M) :=
iw_it (fun r47 => f_X2_findTimes_B47 n c p2 v1 k47 r47) (fun _ _ => none) nn
def f_X2_findTimes_X44_8 (n : Nat) (c : Nat) (p2 : Int32) (v1 : Int32) (m2 : iw_M) : Option (iw_M) :=
f_X2_findTimes_L47 n c p2 v1 (f_X2_findTimes_X168_47) n (1 : Int32) m2
def f_X2_findTimes_J35 (c : Nat) (v1 : Int32) (r8 : Int32 → iw_M → Option (iw_M)) (v25 : Int32) (m26 : iw_M) (v28 : Int32) : Option (iw_M) :=
iw_let (f_X5_put (c + 4) (v1 + v25) v28 m26) fun m29 =>
iw_let (v25 + (1 : Int32)) fun v30 =>
r8 v30 m29
def f_X2_findTimes_B8 (c : Nat) (p1 : Int32) (v1 : Int32) (k8 : iw_M → Option (iw_M)) (r8 : Int32 → iw_M → Option (iw_M)) (v25 : Int32) (m26 : iw_M) : Option (iw_M) :=
if (10 : Int32) ≤ v25 then
(k8 m26)
else
(if v25 = p1 then
(f_X2_findTimes_J35 c v1 r8 v25 m26 (0 : Int32))
else
(f_X2_findTimes_J35 c v1 r8 v25 m26 (1000000 : Int32)))
def f_X2_findTimes_L8 (c : Nat) (p1 : Int32) (v1 : Int32) (k8 : iw_M → Option (iw_M)) (nn : Nat) : Int32 → iw_M → Option (iw_M) :=
iw_it (fun r8 => f_X2_findTimes_B8 c p1 v1 k8 r8) (fun _ _ => none) nn
def f_X2_findTimes (n : Nat) (c : Nat) (p1 : Int32) (p2 : Int32) (σ : iw_M) : Option (iw_M) :=
iw_let (p1 * (10 : Int32)) fun v1 =>
f_X2_findTimes_L8 c p1 v1 (f_X2_findTimes_X44_8 n c p2 v1) n (0 : Int32) σ
abbrev rm_X2_findTimes : Room := { frames := 1, cells := 0, slots := 0, locals := 22 }
theorem lk_X2_findTimes_9 : Cond.fieldLink RX2 9 RX2 (TX2 0).2.1 (TX2 0).2.2.1 ∈ wsX2_findTimes := by decide +kernel
theorem si_X2_findTimes_X5_at : Cond.static yX5_at ∈ wsX2_findTimes ∧ Cond.initialized yX5_at.cls ∈ wsX2_findTimes := by decide +kernel
theorem lk_X2_findTimes_21 : Cond.fieldLink RX2 21 RX2 (TX2 3).2.1 (TX2 3).2.2.1 ∈ wsX2_findTimes := by decide +kernel
theorem si_X2_findTimes_X5_holds : Cond.static yX5_holds ∈ wsX2_findTimes ∧ Cond.initialized yX5_holds.cls ∈ wsX2_findTimes := by decide +kernel
theorem si_X2_findTimes_X5_put : Cond.static yX5_put ∈ wsX2_findTimes ∧ Cond.initialized yX5_put.cls ∈ wsX2_findTimes := by decide +kernel
theorem in_X2_findTimes_2 : ∀ w ∈ u_ws RX2 TX2 5, w ∈ wsX2_findTimes := by decide +kernel
set_option maxHeartbeats 4000000 in
set_option maxRecDepth 100000 in
theorem k_X2_findTimes (l : Launch) (G : iw_G) (hJ : iw_JX G) (n : Nat) (c : Nat) (hc : iw_pth c) (p1 : Int32) (p2 : Int32) (σ : iw_M) {σ' : iw_M} (h : f_X2_findTimes n c p1 p2 σ = some σ') : iw_Ct l yX2_findTimes wsX2_findTimes rm_X2_findTimes G ([.ref (G.2.1 c), .int p1, .int p2] : List Value) σ none σ' := by
  refine iv_start (nL := 9) (own := RX2) (ret := none) (cc := cX2_findTimes) (by decide +kernel) rfl rfl hJ.1 (Nat.le_of_ble_eq_true rfl) ?_
  intro p e s m below meth c0 C hr hlk
  refine iv_sub (lv' := [(0, .ref (G.2.1 c)), (1, .int p1), (2, .int p2)]) [0, 1, 2] rfl ?_
  unfold f_X2_findTimes at h
  refine iv_iload_n (pc := 0) C 1 dX2_findTimes_0 rfl rfl ?_
  refine iv_bipush (pc := 1) C (10 : Int32) dX2_findTimes_1 (by decide) ?_
  refine iv_imul (pc := 3) C dX2_findTimes_3 ?_
  refine iv_topi (fun v1 ev1 => ?_)
  replace h := iw_lete ev1 h
  refine iv_istore_n (pc := 4) C [(3, .int v1), (0, .ref (G.2.1 c)), (1, .int p1), (2, .int p2)] dX2_findTimes_4 rfl (by decide) rfl ?_
  refine iv_iconst (pc := 5) C (0 : Int32) dX2_findTimes_5 (by decide) ?_
  refine iv_istore (pc := 6) C [(4, .int (0 : Int32)), (3, .int v1), (0, .ref (G.2.1 c)), (1, .int p1), (2, .int p2)] dX2_findTimes_6 (by decide) rfl ?_
  have vX8 : ∀ (m2 : iw_M), f_X2_findTimes_X44_8 n c p2 v1 m2 = some σ' → iw_V p l e rm_X2_findTimes s m ([.ref (G.2.1 c), .int p1, .int p2] : List Value).toArray below meth c0 0 0 (MQ below (iw_Q none G σ') ([.ref (G.2.1 c), .int p1, .int p2] : List Value).toArray s 0 0 (iw_A G)) 9 G (iw_A G) m2 44 [(0, .ref (G.2.1 c)), (2, .int p2), (3, .int v1)] [] := by
    intro m2 h
    unfold f_X2_findTimes_X44_8 at h
    refine iv_iconst (pc := 44) C (1 : Int32) dX2_findTimes_44 (by decide) ?_
    refine iv_istore (pc := 45) C [(4, .int (1 : Int32)), (0, .ref (G.2.1 c)), (2, .int p2), (3, .int v1)] dX2_findTimes_45 (by decide) rfl ?_
    have vX47 : ∀ (m3 : iw_M), f_X2_findTimes_X168_47 m3 = some σ' → iw_V p l e rm_X2_findTimes s m ([.ref (G.2.1 c), .int p1, .int p2] : List Value).toArray below meth c0 0 0 (MQ below (iw_Q none G σ') ([.ref (G.2.1 c), .int p1, .int p2] : List Value).toArray s 0 0 (iw_A G)) 9 G (iw_A G) m3 168 [] [] := by
      intro m3 h
      unfold f_X2_findTimes_X168_47 at h
      cases h
      exact iv_vret C hr hlk rfl rfl dX2_findTimes_168
    have vB47 : ∀ (k47 : iw_M → Option (iw_M)) (r47 : Int32 → iw_M → Option (iw_M)), (∀ (m3 : iw_M), k47 m3 = some σ' → iw_V p l e rm_X2_findTimes s m ([.ref (G.2.1 c), .int p1, .int p2] : List Value).toArray below meth c0 0 0 (MQ below (iw_Q none G σ') ([.ref (G.2.1 c), .int p1, .int p2] : List Value).toArray s 0 0 (iw_A G)) 9 G (iw_A G) m3 168 [] []) → (∀ (v4 : Int32) (m5 : iw_M), r47 v4 m5 = some σ' → iw_V p l e rm_X2_findTimes s m ([.ref (G.2.1 c), .int p1, .int p2] : List Value).toArray below meth c0 0 0 (MQ below (iw_Q none G σ') ([.ref (G.2.1 c), .int p1, .int p2] : List Value).toArray s 0 0 (iw_A G)) 9 G (iw_A G) m5 47 [(0, .ref (G.2.1 c)), (2, .int p2), (3, .int v1), (4, .int v4)] []) → ∀ (v4 : Int32) (m5 : iw_M), f_X2_findTimes_B47 n c p2 v1 k47 r47 v4 m5 = some σ' → iw_V p l e rm_X2_findTimes s m ([.ref (G.2.1 c), .int p1, .int p2] : List Value).toArray below meth c0 0 0 (MQ below (iw_Q none G σ') ([.ref (G.2.1 c), .int p1, .int p2] : List Value).toArray s 0 0 (iw_A G)) 9 G (iw_A G) m5 47 [(0, .ref (G.2.1 c)), (2, .int p2), (3, .int v1), (4, .int v4)] [] := by
      intro k47 r47 hk47 hr47 v4 m5 h
      unfold f_X2_findTimes_B47 at h
      refine iv_iload (pc := 47) C 3 dX2_findTimes_47 rfl ?_
      refine iv_bipush (pc := 49) C (10 : Int32) dX2_findTimes_49 (by decide) ?_
      refine iv_icmp_ge (pc := 51) C 168 dX2_findTimes_51 (by decide) (fun h6 => ?_) (fun h6 => ?_)
      · replace h := iw_ift h6 h
        exact iv_sub [] rfl (hk47 m5 h)
      · replace h := iw_iff h6 h
        refine iv_iconst (pc := 54) C (0 : Int32) dX2_findTimes_54 (by decide) ?_
        refine iv_istore (pc := 55) C [(5, .int (0 : Int32)), (0, .ref (G.2.1 c)), (2, .int p2), (3, .int v1), (4, .int v4)] dX2_findTimes_55 (by decide) rfl ?_
        have vX57 : ∀ (m7 : iw_M), f_X2_findTimes_X162_57 r47 v4 m7 = some σ' → iw_V p l e rm_X2_findTimes s m ([.ref (G.2.1 c), .int p1, .int p2] : List Value).toArray below meth c0 0 0 (MQ below (iw_Q none G σ') ([.ref (G.2.1 c), .int p1, .int p2] : List Value).toArray s 0 0 (iw_A G)) 9 G (iw_A G) m7 162 [(0, .ref (G.2.1 c)), (2, .int p2), (3, .int v1), (4, .int v4)] [] := by
          intro m7 h
          unfold f_X2_findTimes_X162_57 at h
          obtain ⟨v8, ev8⟩ : ∃ y : Int32, y = v4 + (1 : Int32) := ⟨_, rfl⟩
          replace h := iw_lete ev8 h
          refine iv_iinc (pc := 162) C 3 v8 [(4, .int v8), (0, .ref (G.2.1 c)), (2, .int p2), (3, .int v1)] dX2_findTimes_162 rfl (by rw [ev8]; rfl) (by decide) rfl ?_
          refine iv_goto (pc := 165) C 47 dX2_findTimes_165 (by decide) ?_
          exact iv_sub [1, 2, 3, 0] rfl (hr47 v8 m7 h)
        have vB57 : ∀ (k57 : iw_M → Option (iw_M)) (r57 : Int32 → iw_M → Option (iw_M)), (∀ (m7 : iw_M), k57 m7 = some σ' → iw_V p l e rm_X2_findTimes s m ([.ref (G.2.1 c), .int p1, .int p2] : List Value).toArray below meth c0 0 0 (MQ below (iw_Q none G σ') ([.ref (G.2.1 c), .int p1, .int p2] : List Value).toArray s 0 0 (iw_A G)) 9 G (iw_A G) m7 162 [(0, .ref (G.2.1 c)), (2, .int p2), (3, .int v1), (4, .int v4)] []) → (∀ (v9 : Int32) (m10 : iw_M), r57 v9 m10 = some σ' → iw_V p l e rm_X2_findTimes s m ([.ref (G.2.1 c), .int p1, .int p2] : List Value).toArray below meth c0 0 0 (MQ below (iw_Q none G σ') ([.ref (G.2.1 c), .int p1, .int p2] : List Value).toArray s 0 0 (iw_A G)) 9 G (iw_A G) m10 57 [(0, .ref (G.2.1 c)), (2, .int p2), (3, .int v1), (4, .int v4), (5, .int v9)] []) → ∀ (v9 : Int32) (m10 : iw_M), f_X2_findTimes_B57 n c p2 v1 k57 r57 v9 m10 = some σ' → iw_V p l e rm_X2_findTimes s m ([.ref (G.2.1 c), .int p1, .int p2] : List Value).toArray below meth c0 0 0 (MQ below (iw_Q none G σ') ([.ref (G.2.1 c), .int p1, .int p2] : List Value).toArray s 0 0 (iw_A G)) 9 G (iw_A G) m10 57 [(0, .ref (G.2.1 c)), (2, .int p2), (3, .int v1), (4, .int v4), (5, .int v9)] [] := by
          intro k57 r57 hk57 hr57 v9 m10 h
          unfold f_X2_findTimes_B57 at h
          refine iv_iload (pc := 57) C 4 dX2_findTimes_57 rfl ?_
          refine iv_bipush (pc := 59) C (10 : Int32) dX2_findTimes_59 (by decide) ?_
          refine iv_icmp_ge (pc := 61) C 162 dX2_findTimes_61 (by decide) (fun h11 => ?_) (fun h11 => ?_)
          · replace h := iw_ift h11 h
            exact iv_sub [0, 1, 2, 3] rfl (hk57 m10 h)
          · replace h := iw_iff h11 h
            refine iv_iconst (pc := 64) C (0 : Int32) dX2_findTimes_64 (by decide) ?_
            refine iv_istore (pc := 65) C [(6, .int (0 : Int32)), (0, .ref (G.2.1 c)), (2, .int p2), (3, .int v1), (4, .int v4), (5, .int v9)] dX2_findTimes_65 (by decide) rfl ?_
            have vX67 : ∀ (m12 : iw_M), f_X2_findTimes_X156_67 r57 v9 m12 = some σ' → iw_V p l e rm_X2_findTimes s m ([.ref (G.2.1 c), .int p1, .int p2] : List Value).toArray below meth c0 0 0 (MQ below (iw_Q none G σ') ([.ref (G.2.1 c), .int p1, .int p2] : List Value).toArray s 0 0 (iw_A G)) 9 G (iw_A G) m12 156 [(0, .ref (G.2.1 c)), (2, .int p2), (3, .int v1), (4, .int v4), (5, .int v9)] [] := by
              intro m12 h
              unfold f_X2_findTimes_X156_67 at h
              obtain ⟨v13, ev13⟩ : ∃ y : Int32, y = v9 + (1 : Int32) := ⟨_, rfl⟩
              replace h := iw_lete ev13 h
              refine iv_iinc (pc := 156) C 4 v13 [(5, .int v13), (0, .ref (G.2.1 c)), (2, .int p2), (3, .int v1), (4, .int v4)] dX2_findTimes_156 rfl (by rw [ev13]; rfl) (by decide) rfl ?_
              refine iv_goto (pc := 159) C 57 dX2_findTimes_159 (by decide) ?_
              exact iv_sub [1, 2, 3, 4, 0] rfl (hr57 v13 m12 h)
            have vB67 : ∀ (k67 : iw_M → Option (iw_M)) (r67 : Int32 → iw_M → Option (iw_M)), (∀ (m12 : iw_M), k67 m12 = some σ' → iw_V p l e rm_X2_findTimes s m ([.ref (G.2.1 c), .int p1, .int p2] : List Value).toArray below meth c0 0 0 (MQ below (iw_Q none G σ') ([.ref (G.2.1 c), .int p1, .int p2] : List Value).toArray s 0 0 (iw_A G)) 9 G (iw_A G) m12 156 [(0, .ref (G.2.1 c)), (2, .int p2), (3, .int v1), (4, .int v4), (5, .int v9)] []) → (∀ (v14 : Int32) (m15 : iw_M), r67 v14 m15 = some σ' → iw_V p l e rm_X2_findTimes s m ([.ref (G.2.1 c), .int p1, .int p2] : List Value).toArray below meth c0 0 0 (MQ below (iw_Q none G σ') ([.ref (G.2.1 c), .int p1, .int p2] : List Value).toArray s 0 0 (iw_A G)) 9 G (iw_A G) m15 67 [(0, .ref (G.2.1 c)), (2, .int p2), (3, .int v1), (4, .int v4), (5, .int v9), (6, .int v14)] []) → ∀ (v14 : Int32) (m15 : iw_M), f_X2_findTimes_B67 c p2 v1 v9 k67 r67 v14 m15 = some σ' → iw_V p l e rm_X2_findTimes s m ([.ref (G.2.1 c), .int p1, .int p2] : List Value).toArray below meth c0 0 0 (MQ below (iw_Q none G σ') ([.ref (G.2.1 c), .int p1, .int p2] : List Value).toArray s 0 0 (iw_A G)) 9 G (iw_A G) m15 67 [(0, .ref (G.2.1 c)), (2, .int p2), (3, .int v1), (4, .int v4), (5, .int v9), (6, .int v14)] [] := by
              intro k67 r67 hk67 hr67 v14 m15 h
              unfold f_X2_findTimes_B67 at h
              refine iv_iload (pc := 67) C 5 dX2_findTimes_67 rfl ?_
              refine iv_bipush (pc := 69) C (10 : Int32) dX2_findTimes_69 (by decide) ?_
              refine iv_icmp_ge (pc := 71) C 156 dX2_findTimes_71 (by decide) (fun h16 => ?_) (fun h16 => ?_)
              · replace h := iw_ift h16 h
                exact iv_sub [0, 1, 2, 3, 4] rfl (hk67 m15 h)
              · replace h := iw_iff h16 h
                refine iv_aload_n (pc := 74) C 0 dX2_findTimes_74 rfl rfl ?_
                refine iv_getf (pc := 75) (T := TX2) (N := 5) (ci := 2) C c 0 in_X2_findTimes_2 (iw_ix hJ (iw_pl hc)) (iw_E2 (iw_pk hc)) rfl (by decide) lk_X2_findTimes_9 rfl rfl dX2_findTimes_75 ?_
                refine iv_iload (pc := 78) C 4 dX2_findTimes_78 rfl ?_
                refine iv_bipush (pc := 80) C (10 : Int32) dX2_findTimes_80 (by decide) ?_
                refine iv_imul (pc := 82) C dX2_findTimes_82 ?_
                refine iv_iload (pc := 83) C 5 dX2_findTimes_83 rfl ?_
                refine iv_iadd (pc := 85) C dX2_findTimes_85 ?_
                refine iv_callSN (pc := 86) C [.ref (G.2.1 (c + 1)), .int ((v9 * (10 : Int32)) + v14)] (k_X5_at l G hJ.1 (c + 1) (iw_pa1 hJ hc) ((v9 * (10 : Int32)) + v14) m15 rfl) gX2_findTimes_X5_at_n47 rfl ne_RX2_47 si_X2_findTimes_X5_at qd_X5_at ⟨rfl, rfl, Nat.le_of_ble_eq_true rfl, Nat.le_of_ble_eq_true rfl⟩ rfl rfl (Nat.le_of_ble_eq_true rfl) dX2_findTimes_86 ?_
                refine iv_topi (fun v17 ev17 => ?_)
                replace h := iw_lete ev17 h
                refine iv_istore (pc := 89) C [(7, .int v17), (0, .ref (G.2.1 c)), (2, .int p2), (3, .int v1), (4, .int v4), (5, .int v9), (6, .int v14)] dX2_findTimes_89 (by decide) rfl ?_
                refine iv_aload_n (pc := 91) C 1 dX2_findTimes_91 rfl rfl ?_
                refine iv_getf (pc := 92) (T := TX2) (N := 5) (ci := 2) C c 3 in_X2_findTimes_2 (iw_ix hJ (iw_pl hc)) (iw_E2 (iw_pk hc)) rfl (by decide) lk_X2_findTimes_21 rfl rfl dX2_findTimes_92 ?_
                refine iv_iload_n (pc := 95) C 3 dX2_findTimes_95 rfl rfl ?_
                refine iv_iload (pc := 96) C 5 dX2_findTimes_96 rfl ?_
                refine iv_iadd (pc := 98) C dX2_findTimes_98 ?_
                refine iv_callSN (pc := 99) C [.ref (G.2.1 (c + 4)), .int (v1 + v9)] (k_X5_at l G hJ.1 (c + 4) (iw_pa4 hJ hc) (v1 + v9) m15 rfl) gX2_findTimes_X5_at_n47 rfl ne_RX2_47 si_X2_findTimes_X5_at qd_X5_at ⟨rfl, rfl, Nat.le_of_ble_eq_true rfl, Nat.le_of_ble_eq_true rfl⟩ rfl rfl (Nat.le_of_ble_eq_true rfl) dX2_findTimes_99 ?_
                refine iv_iload (pc := 102) C 0 dX2_findTimes_102 rfl ?_
                refine iv_iadd (pc := 104) C dX2_findTimes_104 ?_
                refine iv_topi (fun v18 ev18 => ?_)
                replace h := iw_lete ev18 h
                refine iv_istore (pc := 105) C [(8, .int v18), (7, .int v17), (0, .ref (G.2.1 c)), (2, .int p2), (3, .int v1), (4, .int v4), (5, .int v9), (6, .int v14)] dX2_findTimes_105 (by decide) rfl ?_
                refine iv_iload (pc := 107) C 1 dX2_findTimes_107 rfl ?_
                have vJ150 : ∀ (m19 : iw_M), f_X2_findTimes_J150 r67 v14 m19 = some σ' → iw_V p l e rm_X2_findTimes s m ([.ref (G.2.1 c), .int p1, .int p2] : List Value).toArray below meth c0 0 0 (MQ below (iw_Q none G σ') ([.ref (G.2.1 c), .int p1, .int p2] : List Value).toArray s 0 0 (iw_A G)) 9 G (iw_A G) m19 150 [(0, .ref (G.2.1 c)), (2, .int p2), (3, .int v1), (4, .int v4), (5, .int v9), (6, .int v14)] [] := by
                  intro m19 h
                  unfold f_X2_findTimes_J150 at h
                  obtain ⟨v20, ev20⟩ : ∃ y : Int32, y = v14 + (1 : Int32) := ⟨_, rfl⟩
                  replace h := iw_lete ev20 h
                  refine iv_iinc (pc := 150) C 5 v20 [(6, .int v20), (0, .ref (G.2.1 c)), (2, .int p2), (3, .int v1), (4, .int v4), (5, .int v9)] dX2_findTimes_150 rfl (by rw [ev20]; rfl) (by decide) rfl ?_
                  refine iv_goto (pc := 153) C 67 dX2_findTimes_153 (by decide) ?_
                  exact iv_sub [1, 2, 3, 4, 5, 0] rfl (hr67 v20 m19 h)
                refine iv_if_le (pc := 109) C 150 dX2_findTimes_109 (by decide) (fun h21 => ?_) (fun h21 => ?_)
                · replace h := iw_ift h21 h
                  exact iv_sub [2, 3, 4, 5, 6, 7] rfl (vJ150 m15 h)
                · replace h := iw_iff h21 h
                  refine iv_iload_n (pc := 112) C 3 dX2_findTimes_112 rfl rfl ?_
                  refine iv_iload (pc := 113) C 7 dX2_findTimes_113 rfl ?_
                  refine iv_callSN (pc := 115) C [.int p2, .int v14] (k_X5_holds l G hJ p2 v14 m15 rfl) gX2_findTimes_X5_holds_n57 rfl ne_RX2_57 si_X2_findTimes_X5_holds qd_X5_holds ⟨rfl, rfl, Nat.le_of_ble_eq_true rfl, Nat.le_of_ble_eq_true rfl⟩ rfl rfl (Nat.le_of_ble_eq_true rfl) dX2_findTimes_115 ?_
                  refine iv_if_eq (pc := 118) C 150 dX2_findTimes_118 (by decide) (fun h22 => ?_) (fun h22 => ?_)
                  · replace h := iw_ift h22 h
                    exact iv_sub [2, 3, 4, 5, 6, 7] rfl (vJ150 m15 h)
                  · replace h := iw_iff h22 h
                    refine iv_iload (pc := 121) C 0 dX2_findTimes_121 rfl ?_
                    refine iv_aload_n (pc := 123) C 2 dX2_findTimes_123 rfl rfl ?_
                    refine iv_getf (pc := 124) (T := TX2) (N := 5) (ci := 2) C c 3 in_X2_findTimes_2 (iw_ix hJ (iw_pl hc)) (iw_E2 (iw_pk hc)) rfl (by decide) lk_X2_findTimes_21 rfl rfl dX2_findTimes_124 ?_
                    refine iv_iload_n (pc := 127) C 4 dX2_findTimes_127 rfl rfl ?_
                    refine iv_iload (pc := 128) C 7 dX2_findTimes_128 rfl ?_
                    refine iv_iadd (pc := 130) C dX2_findTimes_130 ?_
                    refine iv_callSN (pc := 131) C [.ref (G.2.1 (c + 4)), .int (v1 + v14)] (k_X5_at l G hJ.1 (c + 4) (iw_pa4 hJ hc) (v1 + v14) m15 rfl) gX2_findTimes_X5_at_n47 rfl ne_RX2_47 si_X2_findTimes_X5_at qd_X5_at ⟨rfl, rfl, Nat.le_of_ble_eq_true rfl, Nat.le_of_ble_eq_true rfl⟩ rfl rfl (Nat.le_of_ble_eq_true rfl) dX2_findTimes_131 ?_
                    refine iv_icmp_ge (pc := 134) C 150 dX2_findTimes_134 (by decide) (fun h23 => ?_) (fun h23 => ?_)
                    · replace h := iw_ift h23 h
                      exact iv_sub [2, 3, 4, 5, 6, 7] rfl (vJ150 m15 h)
                    · replace h := iw_iff h23 h
                      refine iv_aload_n (pc := 137) C 2 dX2_findTimes_137 rfl rfl ?_
                      refine iv_getf (pc := 138) (T := TX2) (N := 5) (ci := 2) C c 3 in_X2_findTimes_2 (iw_ix hJ (iw_pl hc)) (iw_E2 (iw_pk hc)) rfl (by decide) lk_X2_findTimes_21 rfl rfl dX2_findTimes_138 ?_
                      refine iv_iload_n (pc := 141) C 4 dX2_findTimes_141 rfl rfl ?_
                      refine iv_iload (pc := 142) C 7 dX2_findTimes_142 rfl ?_
                      refine iv_iadd (pc := 144) C dX2_findTimes_144 ?_
                      refine iv_iload (pc := 145) C 0 dX2_findTimes_145 rfl ?_
                      refine iv_callSN (pc := 147) C [.ref (G.2.1 (c + 4)), .int (v1 + v14), .int v18] (k_X5_put l G hJ.1 (c + 4) (iw_pa4 hJ hc) (v1 + v14) v18 m15 rfl) gX2_findTimes_X5_put_n43 rfl ne_RX2_43 si_X2_findTimes_X5_put qd_X5_put ⟨rfl, rfl, Nat.le_of_ble_eq_true rfl, Nat.le_of_ble_eq_true rfl⟩ rfl rfl (Nat.le_of_ble_eq_true rfl) dX2_findTimes_147 ?_
                      refine iv_topm (fun m24 em24 => ?_)
                      replace h := iw_lete em24 h
                      exact iv_sub [2, 3, 4, 5, 6, 7] rfl (vJ150 m24 h)
            have vL67 : ∀ (nn : Nat) (v14 : Int32) (m15 : iw_M), f_X2_findTimes_L67 c p2 v1 v9 (f_X2_findTimes_X156_67 r57 v9) nn v14 m15 = some σ' → iw_V p l e rm_X2_findTimes s m ([.ref (G.2.1 c), .int p1, .int p2] : List Value).toArray below meth c0 0 0 (MQ below (iw_Q none G σ') ([.ref (G.2.1 c), .int p1, .int p2] : List Value).toArray s 0 0 (iw_A G)) 9 G (iw_A G) m15 67 [(0, .ref (G.2.1 c)), (2, .int p2), (3, .int v1), (4, .int v4), (5, .int v9), (6, .int v14)] [] := by
              intro nn
              induction nn with
              | zero => intro v14 m15 h; exact absurd h (fun q => by cases q)
              | succ nn ih => intro v14 m15 h; exact vB67 (f_X2_findTimes_X156_67 r57 v9) (f_X2_findTimes_L67 c p2 v1 v9 (f_X2_findTimes_X156_67 r57 v9) nn) vX67 ih v14 m15 h
            exact iv_sub [1, 2, 3, 4, 5, 0] rfl (vL67 n (0 : Int32) m10 h)
        have vL57 : ∀ (nn : Nat) (v9 : Int32) (m10 : iw_M), f_X2_findTimes_L57 n c p2 v1 (f_X2_findTimes_X162_57 r47 v4) nn v9 m10 = some σ' → iw_V p l e rm_X2_findTimes s m ([.ref (G.2.1 c), .int p1, .int p2] : List Value).toArray below meth c0 0 0 (MQ below (iw_Q none G σ') ([.ref (G.2.1 c), .int p1, .int p2] : List Value).toArray s 0 0 (iw_A G)) 9 G (iw_A G) m10 57 [(0, .ref (G.2.1 c)), (2, .int p2), (3, .int v1), (4, .int v4), (5, .int v9)] [] := by
          intro nn
          induction nn with
          | zero => intro v9 m10 h; exact absurd h (fun q => by cases q)
          | succ nn ih => intro v9 m10 h; exact vB57 (f_X2_findTimes_X162_57 r47 v4) (f_X2_findTimes_L57 n c p2 v1 (f_X2_findTimes_X162_57 r47 v4) nn) vX57 ih v9 m10 h
        exact iv_sub [1, 2, 3, 4, 0] rfl (vL57 n (0 : Int32) m5 h)
    have vL47 : ∀ (nn : Nat) (v4 : Int32) (m5 : iw_M), f_X2_findTimes_L47 n c p2 v1 (f_X2_findTimes_X168_47) nn v4 m5 = some σ' → iw_V p l e rm_X2_findTimes s m ([.ref (G.2.1 c), .int p1, .int p2] : List Value).toArray below meth c0 0 0 (MQ below (iw_Q none G σ') ([.ref (G.2.1 c), .int p1, .int p2] : List Value).toArray s 0 0 (iw_A G)) 9 G (iw_A G) m5 47 [(0, .ref (G.2.1 c)), (2, .int p2), (3, .int v1), (4, .int v4)] [] := by
      intro nn
      induction nn with
      | zero => intro v4 m5 h; exact absurd h (fun q => by cases q)
      | succ nn ih => intro v4 m5 h; exact vB47 (f_X2_findTimes_X168_47) (f_X2_findTimes_L47 n c p2 v1 (f_X2_findTimes_X168_47) nn) vX47 ih v4 m5 h
    exact iv_sub [1, 2, 3, 0] rfl (vL47 n (1 : Int32) m2 h)
  have vB8 : ∀ (k8 : iw_M → Option (iw_M)) (r8 : Int32 → iw_M → Option (iw_M)), (∀ (m2 : iw_M), k8 m2 = some σ' → iw_V p l e rm_X2_findTimes s m ([.ref (G.2.1 c), .int p1, .int p2] : List Value).toArray below meth c0 0 0 (MQ below (iw_Q none G σ') ([.ref (G.2.1 c), .int p1, .int p2] : List Value).toArray s 0 0 (iw_A G)) 9 G (iw_A G) m2 44 [(0, .ref (G.2.1 c)), (2, .int p2), (3, .int v1)] []) → (∀ (v25 : Int32) (m26 : iw_M), r8 v25 m26 = some σ' → iw_V p l e rm_X2_findTimes s m ([.ref (G.2.1 c), .int p1, .int p2] : List Value).toArray below meth c0 0 0 (MQ below (iw_Q none G σ') ([.ref (G.2.1 c), .int p1, .int p2] : List Value).toArray s 0 0 (iw_A G)) 9 G (iw_A G) m26 8 [(0, .ref (G.2.1 c)), (1, .int p1), (2, .int p2), (3, .int v1), (4, .int v25)] []) → ∀ (v25 : Int32) (m26 : iw_M), f_X2_findTimes_B8 c p1 v1 k8 r8 v25 m26 = some σ' → iw_V p l e rm_X2_findTimes s m ([.ref (G.2.1 c), .int p1, .int p2] : List Value).toArray below meth c0 0 0 (MQ below (iw_Q none G σ') ([.ref (G.2.1 c), .int p1, .int p2] : List Value).toArray s 0 0 (iw_A G)) 9 G (iw_A G) m26 8 [(0, .ref (G.2.1 c)), (1, .int p1), (2, .int p2), (3, .int v1), (4, .int v25)] [] := by
    intro k8 r8 hk8 hr8 v25 m26 h
    unfold f_X2_findTimes_B8 at h
    refine iv_iload (pc := 8) C 4 dX2_findTimes_8 rfl ?_
    refine iv_bipush (pc := 10) C (10 : Int32) dX2_findTimes_10 (by decide) ?_
    refine iv_icmp_ge (pc := 12) C 44 dX2_findTimes_12 (by decide) (fun h27 => ?_) (fun h27 => ?_)
    · replace h := iw_ift h27 h
      exact iv_sub [0, 2, 3] rfl (hk8 m26 h)
    · replace h := iw_iff h27 h
      refine iv_aload_n (pc := 15) C 0 dX2_findTimes_15 rfl rfl ?_
      refine iv_getf (pc := 16) (T := TX2) (N := 5) (ci := 2) C c 3 in_X2_findTimes_2 (iw_ix hJ (iw_pl hc)) (iw_E2 (iw_pk hc)) rfl (by decide) lk_X2_findTimes_21 rfl rfl dX2_findTimes_16 ?_
      refine iv_iload_n (pc := 19) C 3 dX2_findTimes_19 rfl rfl ?_
      refine iv_iload (pc := 20) C 4 dX2_findTimes_20 rfl ?_
      refine iv_iadd (pc := 22) C dX2_findTimes_22 ?_
      refine iv_iload (pc := 23) C 4 dX2_findTimes_23 rfl ?_
      refine iv_iload_n (pc := 25) C 1 dX2_findTimes_25 rfl rfl ?_
      have vJ35 : ∀ (v28 : Int32), f_X2_findTimes_J35 c v1 r8 v25 m26 v28 = some σ' → iw_V p l e rm_X2_findTimes s m ([.ref (G.2.1 c), .int p1, .int p2] : List Value).toArray below meth c0 0 0 (MQ below (iw_Q none G σ') ([.ref (G.2.1 c), .int p1, .int p2] : List Value).toArray s 0 0 (iw_A G)) 9 G (iw_A G) m26 35 [(0, .ref (G.2.1 c)), (1, .int p1), (2, .int p2), (3, .int v1), (4, .int v25)] [.int v28, .int (v1 + v25), .ref (G.2.1 (c + 4))] := by
        intro v28 h
        unfold f_X2_findTimes_J35 at h
        refine iv_callSN (pc := 35) C [.ref (G.2.1 (c + 4)), .int (v1 + v25), .int v28] (k_X5_put l G hJ.1 (c + 4) (iw_pa4 hJ hc) (v1 + v25) v28 m26 rfl) gX2_findTimes_X5_put_n43 rfl ne_RX2_43 si_X2_findTimes_X5_put qd_X5_put ⟨rfl, rfl, Nat.le_of_ble_eq_true rfl, Nat.le_of_ble_eq_true rfl⟩ rfl rfl (Nat.le_of_ble_eq_true rfl) dX2_findTimes_35 ?_
        refine iv_topm (fun m29 em29 => ?_)
        replace h := iw_lete em29 h
        obtain ⟨v30, ev30⟩ : ∃ y : Int32, y = v25 + (1 : Int32) := ⟨_, rfl⟩
        replace h := iw_lete ev30 h
        refine iv_iinc (pc := 38) C 4 v30 [(4, .int v30), (0, .ref (G.2.1 c)), (1, .int p1), (2, .int p2), (3, .int v1)] dX2_findTimes_38 rfl (by rw [ev30]; rfl) (by decide) rfl ?_
        refine iv_goto (pc := 41) C 8 dX2_findTimes_41 (by decide) ?_
        exact iv_sub [1, 2, 3, 4, 0] rfl (hr8 v30 m29 h)
      refine iv_icmp_ne (pc := 26) C 33 dX2_findTimes_26 (by decide) (fun h31 => ?_) (fun h31 => ?_)
      · replace h := iw_iff h31 h
        refine iv_ldc (pc := 33) C (1000000 : Int32) (by decide +kernel) dX2_findTimes_33 ?_
        exact iv_sub [0, 1, 2, 3, 4] rfl (vJ35 (1000000 : Int32) h)
      · replace h := iw_ift h31 h
        refine iv_iconst (pc := 29) C (0 : Int32) dX2_findTimes_29 (by decide) ?_
        refine iv_goto (pc := 30) C 35 dX2_findTimes_30 (by decide) ?_
        exact iv_sub [0, 1, 2, 3, 4] rfl (vJ35 (0 : Int32) h)
  have vL8 : ∀ (nn : Nat) (v25 : Int32) (m26 : iw_M), f_X2_findTimes_L8 c p1 v1 (f_X2_findTimes_X44_8 n c p2 v1) nn v25 m26 = some σ' → iw_V p l e rm_X2_findTimes s m ([.ref (G.2.1 c), .int p1, .int p2] : List Value).toArray below meth c0 0 0 (MQ below (iw_Q none G σ') ([.ref (G.2.1 c), .int p1, .int p2] : List Value).toArray s 0 0 (iw_A G)) 9 G (iw_A G) m26 8 [(0, .ref (G.2.1 c)), (1, .int p1), (2, .int p2), (3, .int v1), (4, .int v25)] [] := by
    intro nn
    induction nn with
    | zero => intro v25 m26 h; exact absurd h (fun q => by cases q)
    | succ nn ih => intro v25 m26 h; exact vB8 (f_X2_findTimes_X44_8 n c p2 v1) (f_X2_findTimes_L8 c p1 v1 (f_X2_findTimes_X44_8 n c p2 v1) nn) vX8 ih v25 m26 h
  exact iv_sub [2, 3, 4, 1, 0] rfl (vL8 n (0 : Int32) σ h)
theorem qd_X2_findTimes : yX2_findTimes.cls = RX2 ∧ yX2_findTimes.cls ≠ "java/lang/invoke/MethodHandle" ∧ yX2_findTimes.cls ≠ "java/lang/invoke/VarHandle" ∧ (parseMethodDescriptor yX2_findTimes.desc).map (fun d => d.parameters.length) = some 2 := by decide +kernel
def f_X2_findNodeBefore_X72_8  : Option (Int32) :=
some (-1 : Int32)
def f_X2_findNodeBefore_J66 (r8 : Int32 → Option (Int32)) (v2 : Int32) : Option (Int32) :=
iw_let (v2 + (1 : Int32)) fun v5 =>
r8 v5
def f_X2_findNodeBefore_B8 (c : Nat) (p2 : Int32) (σ : iw_M) (v1 : Int32) (k8 : Option (Int32)) (r8 : Int32 → Option (Int32)) (v2 : Int32) : Option (Int32) :=
if (10 : Int32) ≤ v2 then
(k8)
else
(iw_let (f_X5_at (c + 1) ((v2 * (10 : Int32)) + p2) σ) fun v4 =>
if v4 ≤ (0 : Int32) then
(f_X2_findNodeBefore_J66 r8 v2)
else
(if ((f_X5_at (c + 4) (v1 + v2) σ) + v4) = (f_X5_at (c + 4) (v1 + p2) σ) then
(some v2)
else
(f_X2_findNodeBefore_J66 r8 v2)))
def f_X2_findNodeBefore_L8 (c : Nat) (p2 : Int32) (σ : iw_M) (v1 : Int32) (k8 : Option (Int32)) (nn : Nat) : Int32 → Option (Int32) :=
iw_it (fun r8 => f_X2_findNodeBefore_B8 c p2 σ v1 k8 r8) (fun _ => none) nn
def f_X2_findNodeBefore (n : Nat) (c : Nat) (p1 : Int32) (p2 : Int32) (σ : iw_M) : Option (Int32) :=
iw_let (p1 * (10 : Int32)) fun v1 =>
f_X2_findNodeBefore_L8 c p2 σ v1 (f_X2_findNodeBefore_X72_8) n (0 : Int32)
abbrev rm_X2_findNodeBefore : Room := { frames := 1, cells := 0, slots := 0, locals := 21 }
theorem lk_X2_findNodeBefore_9 : Cond.fieldLink RX2 9 RX2 (TX2 0).2.1 (TX2 0).2.2.1 ∈ wsX2_findNodeBefore := by decide +kernel
theorem si_X2_findNodeBefore_X5_at : Cond.static yX5_at ∈ wsX2_findNodeBefore ∧ Cond.initialized yX5_at.cls ∈ wsX2_findNodeBefore := by decide +kernel
theorem lk_X2_findNodeBefore_21 : Cond.fieldLink RX2 21 RX2 (TX2 3).2.1 (TX2 3).2.2.1 ∈ wsX2_findNodeBefore := by decide +kernel
theorem in_X2_findNodeBefore_2 : ∀ w ∈ u_ws RX2 TX2 5, w ∈ wsX2_findNodeBefore := by decide +kernel
set_option maxHeartbeats 4000000 in
set_option maxRecDepth 100000 in
theorem k_X2_findNodeBefore (l : Launch) (G : iw_G) (hJ : iw_JX G) (n : Nat) (c : Nat) (hc : iw_pth c) (p1 : Int32) (p2 : Int32) (σ : iw_M) {r : Int32} (h : f_X2_findNodeBefore n c p1 p2 σ = some r) : iw_Ct l yX2_findNodeBefore wsX2_findNodeBefore rm_X2_findNodeBefore G ([.ref (G.2.1 c), .int p1, .int p2] : List Value) σ (some (.int r)) σ := by
  refine iv_start (nL := 6) (own := RX2) (ret := (some .int)) (cc := cX2_findNodeBefore) (by decide +kernel) rfl rfl hJ.1 (Nat.le_of_ble_eq_true rfl) ?_
  intro p e s m below meth c0 C hr hlk
  refine iv_sub (lv' := [(0, .ref (G.2.1 c)), (1, .int p1), (2, .int p2)]) [0, 1, 2] rfl ?_
  unfold f_X2_findNodeBefore at h
  refine iv_iload_n (pc := 0) C 1 dX2_findNodeBefore_0 rfl rfl ?_
  refine iv_bipush (pc := 1) C (10 : Int32) dX2_findNodeBefore_1 (by decide) ?_
  refine iv_imul (pc := 3) C dX2_findNodeBefore_3 ?_
  refine iv_topi (fun v1 ev1 => ?_)
  replace h := iw_lete ev1 h
  refine iv_istore_n (pc := 4) C [(3, .int v1), (0, .ref (G.2.1 c)), (1, .int p1), (2, .int p2)] dX2_findNodeBefore_4 rfl (by decide) rfl ?_
  refine iv_iconst (pc := 5) C (0 : Int32) dX2_findNodeBefore_5 (by decide) ?_
  refine iv_istore (pc := 6) C [(4, .int (0 : Int32)), (3, .int v1), (0, .ref (G.2.1 c)), (1, .int p1), (2, .int p2)] dX2_findNodeBefore_6 (by decide) rfl ?_
  have vX8 : f_X2_findNodeBefore_X72_8  = some r → iw_V p l e rm_X2_findNodeBefore s m ([.ref (G.2.1 c), .int p1, .int p2] : List Value).toArray below meth c0 0 0 (MQ below (iw_Q (some (.int r)) G σ) ([.ref (G.2.1 c), .int p1, .int p2] : List Value).toArray s 0 0 (iw_A G)) 6 G (iw_A G) σ 72 [] [] := by
    intro h
    unfold f_X2_findNodeBefore_X72_8 at h
    refine iv_iconst (pc := 72) C (-1 : Int32) dX2_findNodeBefore_72 (by decide) ?_
    cases h
    exact iv_iret C hr hlk rfl rfl dX2_findNodeBefore_73
  have vB8 : ∀ (k8 : Option (Int32)) (r8 : Int32 → Option (Int32)), (k8  = some r → iw_V p l e rm_X2_findNodeBefore s m ([.ref (G.2.1 c), .int p1, .int p2] : List Value).toArray below meth c0 0 0 (MQ below (iw_Q (some (.int r)) G σ) ([.ref (G.2.1 c), .int p1, .int p2] : List Value).toArray s 0 0 (iw_A G)) 6 G (iw_A G) σ 72 [] []) → (∀ (v2 : Int32), r8 v2 = some r → iw_V p l e rm_X2_findNodeBefore s m ([.ref (G.2.1 c), .int p1, .int p2] : List Value).toArray below meth c0 0 0 (MQ below (iw_Q (some (.int r)) G σ) ([.ref (G.2.1 c), .int p1, .int p2] : List Value).toArray s 0 0 (iw_A G)) 6 G (iw_A G) σ 8 [(0, .ref (G.2.1 c)), (2, .int p2), (3, .int v1), (4, .int v2)] []) → ∀ (v2 : Int32), f_X2_findNodeBefore_B8 c p2 σ v1 k8 r8 v2 = some r → iw_V p l e rm_X2_findNodeBefore s m ([.ref (G.2.1 c), .int p1, .int p2] : List Value).toArray below meth c0 0 0 (MQ below (iw_Q (some (.int r)) G σ) ([.ref (G.2.1 c), .int p1, .int p2] : List Value).toArray s 0 0 (iw_A G)) 6 G (iw_A G) σ 8 [(0, .ref (G.2.1 c)), (2, .int p2), (3, .int v1), (4, .int v2)] [] := by
    intro k8 r8 hk8 hr8 v2 h
    unfold f_X2_findNodeBefore_B8 at h
    refine iv_iload (pc := 8) C 3 dX2_findNodeBefore_8 rfl ?_
    refine iv_bipush (pc := 10) C (10 : Int32) dX2_findNodeBefore_10 (by decide) ?_
    refine iv_icmp_ge (pc := 12) C 72 dX2_findNodeBefore_12 (by decide) (fun h3 => ?_) (fun h3 => ?_)
    · replace h := iw_ift h3 h
      exact iv_sub [] rfl (hk8 h)
    · replace h := iw_iff h3 h
      refine iv_aload_n (pc := 15) C 0 dX2_findNodeBefore_15 rfl rfl ?_
      refine iv_getf (pc := 16) (T := TX2) (N := 5) (ci := 2) C c 0 in_X2_findNodeBefore_2 (iw_ix hJ (iw_pl hc)) (iw_E2 (iw_pk hc)) rfl (by decide) lk_X2_findNodeBefore_9 rfl rfl dX2_findNodeBefore_16 ?_
      refine iv_iload (pc := 19) C 3 dX2_findNodeBefore_19 rfl ?_
      refine iv_bipush (pc := 21) C (10 : Int32) dX2_findNodeBefore_21 (by decide) ?_
      refine iv_imul (pc := 23) C dX2_findNodeBefore_23 ?_
      refine iv_iload_n (pc := 24) C 1 dX2_findNodeBefore_24 rfl rfl ?_
      refine iv_iadd (pc := 25) C dX2_findNodeBefore_25 ?_
      refine iv_callSN (pc := 26) C [.ref (G.2.1 (c + 1)), .int ((v2 * (10 : Int32)) + p2)] (k_X5_at l G hJ.1 (c + 1) (iw_pa1 hJ hc) ((v2 * (10 : Int32)) + p2) σ rfl) gX2_findNodeBefore_X5_at_n47 rfl ne_RX2_47 si_X2_findNodeBefore_X5_at qd_X5_at ⟨rfl, rfl, Nat.le_of_ble_eq_true rfl, Nat.le_of_ble_eq_true rfl⟩ rfl rfl (Nat.le_of_ble_eq_true rfl) dX2_findNodeBefore_26 ?_
      refine iv_topi (fun v4 ev4 => ?_)
      replace h := iw_lete ev4 h
      refine iv_istore (pc := 29) C [(5, .int v4), (0, .ref (G.2.1 c)), (2, .int p2), (3, .int v1), (4, .int v2)] dX2_findNodeBefore_29 (by decide) rfl ?_
      refine iv_iload (pc := 31) C 0 dX2_findNodeBefore_31 rfl ?_
      have vJ66 : f_X2_findNodeBefore_J66 r8 v2  = some r → iw_V p l e rm_X2_findNodeBefore s m ([.ref (G.2.1 c), .int p1, .int p2] : List Value).toArray below meth c0 0 0 (MQ below (iw_Q (some (.int r)) G σ) ([.ref (G.2.1 c), .int p1, .int p2] : List Value).toArray s 0 0 (iw_A G)) 6 G (iw_A G) σ 66 [(0, .ref (G.2.1 c)), (2, .int p2), (3, .int v1), (4, .int v2)] [] := by
        intro h
        unfold f_X2_findNodeBefore_J66 at h
        obtain ⟨v5, ev5⟩ : ∃ y : Int32, y = v2 + (1 : Int32) := ⟨_, rfl⟩
        replace h := iw_lete ev5 h
        refine iv_iinc (pc := 66) C 3 v5 [(4, .int v5), (0, .ref (G.2.1 c)), (2, .int p2), (3, .int v1)] dX2_findNodeBefore_66 rfl (by rw [ev5]; rfl) (by decide) rfl ?_
        refine iv_goto (pc := 69) C 8 dX2_findNodeBefore_69 (by decide) ?_
        exact iv_sub [1, 2, 3, 0] rfl (hr8 v5 h)
      refine iv_if_le (pc := 33) C 66 dX2_findNodeBefore_33 (by decide) (fun h6 => ?_) (fun h6 => ?_)
      · replace h := iw_ift h6 h
        exact iv_sub [1, 2, 3, 4] rfl (vJ66 h)
      · replace h := iw_iff h6 h
        refine iv_aload_n (pc := 36) C 1 dX2_findNodeBefore_36 rfl rfl ?_
        refine iv_getf (pc := 37) (T := TX2) (N := 5) (ci := 2) C c 3 in_X2_findNodeBefore_2 (iw_ix hJ (iw_pl hc)) (iw_E2 (iw_pk hc)) rfl (by decide) lk_X2_findNodeBefore_21 rfl rfl dX2_findNodeBefore_37 ?_
        refine iv_iload_n (pc := 40) C 3 dX2_findNodeBefore_40 rfl rfl ?_
        refine iv_iload (pc := 41) C 4 dX2_findNodeBefore_41 rfl ?_
        refine iv_iadd (pc := 43) C dX2_findNodeBefore_43 ?_
        refine iv_callSN (pc := 44) C [.ref (G.2.1 (c + 4)), .int (v1 + v2)] (k_X5_at l G hJ.1 (c + 4) (iw_pa4 hJ hc) (v1 + v2) σ rfl) gX2_findNodeBefore_X5_at_n47 rfl ne_RX2_47 si_X2_findNodeBefore_X5_at qd_X5_at ⟨rfl, rfl, Nat.le_of_ble_eq_true rfl, Nat.le_of_ble_eq_true rfl⟩ rfl rfl (Nat.le_of_ble_eq_true rfl) dX2_findNodeBefore_44 ?_
        refine iv_iload (pc := 47) C 0 dX2_findNodeBefore_47 rfl ?_
        refine iv_iadd (pc := 49) C dX2_findNodeBefore_49 ?_
        refine iv_aload_n (pc := 50) C 1 dX2_findNodeBefore_50 rfl rfl ?_
        refine iv_getf (pc := 51) (T := TX2) (N := 5) (ci := 2) C c 3 in_X2_findNodeBefore_2 (iw_ix hJ (iw_pl hc)) (iw_E2 (iw_pk hc)) rfl (by decide) lk_X2_findNodeBefore_21 rfl rfl dX2_findNodeBefore_51 ?_
        refine iv_iload_n (pc := 54) C 3 dX2_findNodeBefore_54 rfl rfl ?_
        refine iv_iload_n (pc := 55) C 2 dX2_findNodeBefore_55 rfl rfl ?_
        refine iv_iadd (pc := 56) C dX2_findNodeBefore_56 ?_
        refine iv_callSN (pc := 57) C [.ref (G.2.1 (c + 4)), .int (v1 + p2)] (k_X5_at l G hJ.1 (c + 4) (iw_pa4 hJ hc) (v1 + p2) σ rfl) gX2_findNodeBefore_X5_at_n47 rfl ne_RX2_47 si_X2_findNodeBefore_X5_at qd_X5_at ⟨rfl, rfl, Nat.le_of_ble_eq_true rfl, Nat.le_of_ble_eq_true rfl⟩ rfl rfl (Nat.le_of_ble_eq_true rfl) dX2_findNodeBefore_57 ?_
        refine iv_icmp_ne (pc := 60) C 66 dX2_findNodeBefore_60 (by decide) (fun h7 => ?_) (fun h7 => ?_)
        · replace h := iw_iff h7 h
          exact iv_sub [1, 2, 3, 4] rfl (vJ66 h)
        · replace h := iw_ift h7 h
          refine iv_iload (pc := 63) C 4 dX2_findNodeBefore_63 rfl ?_
          cases h
          exact iv_iret C hr hlk rfl rfl dX2_findNodeBefore_65
  have vL8 : ∀ (nn : Nat) (v2 : Int32), f_X2_findNodeBefore_L8 c p2 σ v1 (f_X2_findNodeBefore_X72_8) nn v2 = some r → iw_V p l e rm_X2_findNodeBefore s m ([.ref (G.2.1 c), .int p1, .int p2] : List Value).toArray below meth c0 0 0 (MQ below (iw_Q (some (.int r)) G σ) ([.ref (G.2.1 c), .int p1, .int p2] : List Value).toArray s 0 0 (iw_A G)) 6 G (iw_A G) σ 8 [(0, .ref (G.2.1 c)), (2, .int p2), (3, .int v1), (4, .int v2)] [] := by
    intro nn
    induction nn with
    | zero => intro v2 h; exact absurd h (fun q => by cases q)
    | succ nn ih => intro v2 h; exact vB8 (f_X2_findNodeBefore_X72_8) (f_X2_findNodeBefore_L8 c p2 σ v1 (f_X2_findNodeBefore_X72_8) nn) vX8 ih v2 h
  exact iv_sub [2, 4, 1, 0] rfl (vL8 n (0 : Int32) h)
theorem qd_X2_findNodeBefore : yX2_findNodeBefore.cls = RX2 ∧ yX2_findNodeBefore.cls ≠ "java/lang/invoke/MethodHandle" ∧ yX2_findNodeBefore.cls ≠ "java/lang/invoke/VarHandle" ∧ (parseMethodDescriptor yX2_findNodeBefore.desc).map (fun d => d.parameters.length) = some 2 := by decide +kernel
def f_X2_timeOf (c : Nat) (p1 : Int32) (p2 : Int32) (σ : iw_M) : Int32 :=
(f_X5_at (c + 4) ((p1 * (10 : Int32)) + p2) σ)
abbrev rm_X2_timeOf : Room := { frames := 1, cells := 0, slots := 0, locals := 21 }
theorem lk_X2_timeOf_21 : Cond.fieldLink RX2 21 RX2 (TX2 3).2.1 (TX2 3).2.2.1 ∈ wsX2_timeOf := by decide +kernel
theorem si_X2_timeOf_X5_at : Cond.static yX5_at ∈ wsX2_timeOf ∧ Cond.initialized yX5_at.cls ∈ wsX2_timeOf := by decide +kernel
theorem in_X2_timeOf_2 : ∀ w ∈ u_ws RX2 TX2 5, w ∈ wsX2_timeOf := by decide +kernel
set_option maxHeartbeats 4000000 in
set_option maxRecDepth 100000 in
theorem k_X2_timeOf (l : Launch) (G : iw_G) (hJ : iw_JX G) (c : Nat) (hc : iw_pth c) (p1 : Int32) (p2 : Int32) (σ : iw_M) {r : Int32} (h : f_X2_timeOf c p1 p2 σ = r) : iw_Ct l yX2_timeOf wsX2_timeOf rm_X2_timeOf G ([.ref (G.2.1 c), .int p1, .int p2] : List Value) σ (some (.int r)) σ := by
  refine iv_start (nL := 3) (own := RX2) (ret := (some .int)) (cc := cX2_timeOf) (by decide +kernel) rfl rfl hJ.1 (Nat.le_of_ble_eq_true rfl) ?_
  intro p e s m below meth c0 C hr hlk
  refine iv_sub (lv' := [(0, .ref (G.2.1 c)), (1, .int p1), (2, .int p2)]) [0, 1, 2] rfl ?_
  unfold f_X2_timeOf at h
  refine iv_aload_n (pc := 0) C 0 dX2_timeOf_0 rfl rfl ?_
  refine iv_getf (pc := 1) (T := TX2) (N := 5) (ci := 2) C c 3 in_X2_timeOf_2 (iw_ix hJ (iw_pl hc)) (iw_E2 (iw_pk hc)) rfl (by decide) lk_X2_timeOf_21 rfl rfl dX2_timeOf_1 ?_
  refine iv_iload_n (pc := 4) C 1 dX2_timeOf_4 rfl rfl ?_
  refine iv_bipush (pc := 5) C (10 : Int32) dX2_timeOf_5 (by decide) ?_
  refine iv_imul (pc := 7) C dX2_timeOf_7 ?_
  refine iv_iload_n (pc := 8) C 2 dX2_timeOf_8 rfl rfl ?_
  refine iv_iadd (pc := 9) C dX2_timeOf_9 ?_
  refine iv_callSN (pc := 10) C [.ref (G.2.1 (c + 4)), .int ((p1 * (10 : Int32)) + p2)] (k_X5_at l G hJ.1 (c + 4) (iw_pa4 hJ hc) ((p1 * (10 : Int32)) + p2) σ rfl) gX2_timeOf_X5_at_n47 rfl ne_RX2_47 si_X2_timeOf_X5_at qd_X5_at ⟨rfl, rfl, Nat.le_of_ble_eq_true rfl, Nat.le_of_ble_eq_true rfl⟩ rfl rfl (Nat.le_of_ble_eq_true rfl) dX2_timeOf_10 ?_
  cases h
  exact iv_iret C hr hlk rfl rfl dX2_timeOf_13
theorem qd_X2_timeOf : yX2_timeOf.cls = RX2 ∧ yX2_timeOf.cls ≠ "java/lang/invoke/MethodHandle" ∧ yX2_timeOf.cls ≠ "java/lang/invoke/VarHandle" ∧ (parseMethodDescriptor yX2_timeOf.desc).map (fun d => d.parameters.length) = some 2 := by decide +kernel
def f_X2_explore_X86_33 (c : Nat) (p1 : Int32) (v4 : Int32) (m5 : iw_M) : Option (iw_M) :=
iw_let (f_X5_put (c + 3) p1 v4 m5) fun m6 =>
some m6
def f_X2_explore_J80 (r33 : Int32 → Int32 → iw_M → Option (iw_M)) (v8 : Int32) (m12 : iw_M) (v13 : Int32) : Option (iw_M) :=
iw_let (v8 + (1 : Int32)) fun v14 =>
r33 v13 v14 m12
def f_X2_explore_B33 (n : Nat) (c : Nat) (p1 : Int32) (k33 : Int32 → iw_M → Option (iw_M)) (r33 : Int32 → Int32 → iw_M → Option (iw_M)) (v7 : Int32) (v8 : Int32) (m9 : iw_M) : Option (iw_M) :=
if (10 : Int32) ≤ v8 then
(k33 v7 m9)
else
((f_X2_findNodeBefore n c p1 v8 m9).bind fun v11 =>
iw_let (f_X5_put (c + 5) ((p1 * (10 : Int32)) + v8) v11 m9) fun m12 =>
if (1000000 : Int32) ≤ (f_X2_timeOf c p1 v8 m12) then
(f_X2_explore_J80 r33 v8 m12 v7)
else
(iw_let (v7 ||| ((1 : Int32) <<< (v8 &&& 31))) fun v16 =>
f_X2_explore_J80 r33 v8 m12 v16))
def f_X2_explore_L33 (n : Nat) (c : Nat) (p1 : Int32) (k33 : Int32 → iw_M → Option (iw_M)) (nn : Nat) : Int32 → Int32 → iw_M → Option (iw_M) :=
iw_it (fun r33 => f_X2_explore_B33 n c p1 k33 r33) (fun _ _ _ => none) nn
def f_X2_explore (n : Nat) (c : Nat) (p1 : Int32) (p2 : Int32) (σ : iw_M) : Option (iw_M) :=
if (f_X5_at (c + 2) p1 σ) = p2 then
(some σ)
else
(iw_let (f_X5_put (c + 2) p1 p2 σ) fun m2 =>
(f_X2_findTimes n c p1 p2 m2).bind fun m3 =>
f_X2_explore_L33 n c p1 (f_X2_explore_X86_33 c p1) n (0 : Int32) (0 : Int32) m3)
abbrev rm_X2_explore : Room := { frames := 2, cells := 0, slots := 0, locals := 50 }
theorem lk_X2_explore_15 : Cond.fieldLink RX2 15 RX2 (TX2 1).2.1 (TX2 1).2.2.1 ∈ wsX2_explore := by decide +kernel
theorem si_X2_explore_X5_at : Cond.static yX5_at ∈ wsX2_explore ∧ Cond.initialized yX5_at.cls ∈ wsX2_explore := by decide +kernel
theorem si_X2_explore_X5_put : Cond.static yX5_put ∈ wsX2_explore ∧ Cond.initialized yX5_put.cls ∈ wsX2_explore := by decide +kernel
theorem lk_X2_explore_18 : Cond.fieldLink RX2 18 RX2 (TX2 2).2.1 (TX2 2).2.2.1 ∈ wsX2_explore := by decide +kernel
theorem lk_X2_explore_24 : Cond.fieldLink RX2 24 RX2 (TX2 4).2.1 (TX2 4).2.2.1 ∈ wsX2_explore := by decide +kernel
theorem in_X2_explore_2 : ∀ w ∈ u_ws RX2 TX2 5, w ∈ wsX2_explore := by decide +kernel
set_option maxHeartbeats 4000000 in
set_option maxRecDepth 100000 in
theorem k_X2_explore (l : Launch) (G : iw_G) (hJ : iw_JX G) (n : Nat) (c : Nat) (hc : iw_pth c) (p1 : Int32) (p2 : Int32) (σ : iw_M) {σ' : iw_M} (h : f_X2_explore n c p1 p2 σ = some σ') : iw_Ct l yX2_explore wsX2_explore rm_X2_explore G ([.ref (G.2.1 c), .int p1, .int p2] : List Value) σ none σ' := by
  refine iv_start (nL := 5) (own := RX2) (ret := none) (cc := cX2_explore) (by decide +kernel) rfl rfl hJ.1 (Nat.le_of_ble_eq_true rfl) ?_
  intro p e s m below meth c0 C hr hlk
  refine iv_sub (lv' := [(0, .ref (G.2.1 c)), (1, .int p1), (2, .int p2)]) [0, 1, 2] rfl ?_
  unfold f_X2_explore at h
  refine iv_aload_n (pc := 0) C 0 dX2_explore_0 rfl rfl ?_
  refine iv_getf (pc := 1) (T := TX2) (N := 5) (ci := 2) C c 1 in_X2_explore_2 (iw_ix hJ (iw_pl hc)) (iw_E2 (iw_pk hc)) rfl (by decide) lk_X2_explore_15 rfl rfl dX2_explore_1 ?_
  refine iv_iload_n (pc := 4) C 1 dX2_explore_4 rfl rfl ?_
  refine iv_callSN (pc := 5) C [.ref (G.2.1 (c + 2)), .int p1] (k_X5_at l G hJ.1 (c + 2) (iw_pa2 hJ hc) p1 σ rfl) gX2_explore_X5_at_n47 rfl ne_RX2_47 si_X2_explore_X5_at qd_X5_at ⟨rfl, rfl, Nat.le_of_ble_eq_true rfl, Nat.le_of_ble_eq_true rfl⟩ rfl rfl (Nat.le_of_ble_eq_true rfl) dX2_explore_5 ?_
  refine iv_iload_n (pc := 8) C 2 dX2_explore_8 rfl rfl ?_
  refine iv_icmp_ne (pc := 9) C 13 dX2_explore_9 (by decide) (fun h1 => ?_) (fun h1 => ?_)
  · replace h := iw_iff h1 h
    refine iv_aload_n (pc := 13) C 0 dX2_explore_13 rfl rfl ?_
    refine iv_getf (pc := 14) (T := TX2) (N := 5) (ci := 2) C c 1 in_X2_explore_2 (iw_ix hJ (iw_pl hc)) (iw_E2 (iw_pk hc)) rfl (by decide) lk_X2_explore_15 rfl rfl dX2_explore_14 ?_
    refine iv_iload_n (pc := 17) C 1 dX2_explore_17 rfl rfl ?_
    refine iv_iload_n (pc := 18) C 2 dX2_explore_18 rfl rfl ?_
    refine iv_callSN (pc := 19) C [.ref (G.2.1 (c + 2)), .int p1, .int p2] (k_X5_put l G hJ.1 (c + 2) (iw_pa2 hJ hc) p1 p2 σ rfl) gX2_explore_X5_put_n43 rfl ne_RX2_43 si_X2_explore_X5_put qd_X5_put ⟨rfl, rfl, Nat.le_of_ble_eq_true rfl, Nat.le_of_ble_eq_true rfl⟩ rfl rfl (Nat.le_of_ble_eq_true rfl) dX2_explore_19 ?_
    refine iv_topm (fun m2 em2 => ?_)
    replace h := iw_lete em2 h
    refine iv_aload_n (pc := 22) C 0 dX2_explore_22 rfl rfl ?_
    refine iv_iload_n (pc := 23) C 1 dX2_explore_23 rfl rfl ?_
    refine iv_iload_n (pc := 24) C 2 dX2_explore_24 rfl rfl ?_
    obtain ⟨m3, em3, h⟩ := iw_be h
    refine iv_callV (pc := 25) (b := c) (ci := 2) C [.int p1, .int p2] (k_X2_findTimes l G hJ n c hc p1 p2 m2 em3) gX2_explore_X2_findTimes rfl qd_X2_findTimes ⟨rfl, rfl, Nat.le_of_ble_eq_true rfl, Nat.le_of_ble_eq_true rfl⟩ (iw_ix hJ (iw_pl hc)) (iw_E2 (iw_pk hc)) rfl rfl rfl (Nat.le_of_ble_eq_true rfl) dX2_explore_25 ?_
    refine iv_iconst (pc := 28) C (0 : Int32) dX2_explore_28 (by decide) ?_
    refine iv_istore_n (pc := 29) C [(3, .int (0 : Int32)), (0, .ref (G.2.1 c)), (1, .int p1), (2, .int p2)] dX2_explore_29 rfl (by decide) rfl ?_
    refine iv_iconst (pc := 30) C (0 : Int32) dX2_explore_30 (by decide) ?_
    refine iv_istore (pc := 31) C [(4, .int (0 : Int32)), (3, .int (0 : Int32)), (0, .ref (G.2.1 c)), (1, .int p1), (2, .int p2)] dX2_explore_31 (by decide) rfl ?_
    have vX33 : ∀ (v4 : Int32) (m5 : iw_M), f_X2_explore_X86_33 c p1 v4 m5 = some σ' → iw_V p l e rm_X2_explore s m ([.ref (G.2.1 c), .int p1, .int p2] : List Value).toArray below meth c0 0 0 (MQ below (iw_Q none G σ') ([.ref (G.2.1 c), .int p1, .int p2] : List Value).toArray s 0 0 (iw_A G)) 5 G (iw_A G) m5 86 [(0, .ref (G.2.1 c)), (1, .int p1), (3, .int v4)] [] := by
      intro v4 m5 h
      unfold f_X2_explore_X86_33 at h
      refine iv_aload_n (pc := 86) C 0 dX2_explore_86 rfl rfl ?_
      refine iv_getf (pc := 87) (T := TX2) (N := 5) (ci := 2) C c 2 in_X2_explore_2 (iw_ix hJ (iw_pl hc)) (iw_E2 (iw_pk hc)) rfl (by decide) lk_X2_explore_18 rfl rfl dX2_explore_87 ?_
      refine iv_iload_n (pc := 90) C 1 dX2_explore_90 rfl rfl ?_
      refine iv_iload_n (pc := 91) C 2 dX2_explore_91 rfl rfl ?_
      refine iv_callSN (pc := 92) C [.ref (G.2.1 (c + 3)), .int p1, .int v4] (k_X5_put l G hJ.1 (c + 3) (iw_pa3 hJ hc) p1 v4 m5 rfl) gX2_explore_X5_put_n43 rfl ne_RX2_43 si_X2_explore_X5_put qd_X5_put ⟨rfl, rfl, Nat.le_of_ble_eq_true rfl, Nat.le_of_ble_eq_true rfl⟩ rfl rfl (Nat.le_of_ble_eq_true rfl) dX2_explore_92 ?_
      refine iv_topm (fun m6 em6 => ?_)
      replace h := iw_lete em6 h
      cases h
      exact iv_vret C hr hlk rfl rfl dX2_explore_95
    have vB33 : ∀ (k33 : Int32 → iw_M → Option (iw_M)) (r33 : Int32 → Int32 → iw_M → Option (iw_M)), (∀ (v4 : Int32) (m5 : iw_M), k33 v4 m5 = some σ' → iw_V p l e rm_X2_explore s m ([.ref (G.2.1 c), .int p1, .int p2] : List Value).toArray below meth c0 0 0 (MQ below (iw_Q none G σ') ([.ref (G.2.1 c), .int p1, .int p2] : List Value).toArray s 0 0 (iw_A G)) 5 G (iw_A G) m5 86 [(0, .ref (G.2.1 c)), (1, .int p1), (3, .int v4)] []) → (∀ (v7 : Int32) (v8 : Int32) (m9 : iw_M), r33 v7 v8 m9 = some σ' → iw_V p l e rm_X2_explore s m ([.ref (G.2.1 c), .int p1, .int p2] : List Value).toArray below meth c0 0 0 (MQ below (iw_Q none G σ') ([.ref (G.2.1 c), .int p1, .int p2] : List Value).toArray s 0 0 (iw_A G)) 5 G (iw_A G) m9 33 [(0, .ref (G.2.1 c)), (1, .int p1), (3, .int v7), (4, .int v8)] []) → ∀ (v7 : Int32) (v8 : Int32) (m9 : iw_M), f_X2_explore_B33 n c p1 k33 r33 v7 v8 m9 = some σ' → iw_V p l e rm_X2_explore s m ([.ref (G.2.1 c), .int p1, .int p2] : List Value).toArray below meth c0 0 0 (MQ below (iw_Q none G σ') ([.ref (G.2.1 c), .int p1, .int p2] : List Value).toArray s 0 0 (iw_A G)) 5 G (iw_A G) m9 33 [(0, .ref (G.2.1 c)), (1, .int p1), (3, .int v7), (4, .int v8)] [] := by
      intro k33 r33 hk33 hr33 v7 v8 m9 h
      unfold f_X2_explore_B33 at h
      refine iv_iload (pc := 33) C 3 dX2_explore_33 rfl ?_
      refine iv_bipush (pc := 35) C (10 : Int32) dX2_explore_35 (by decide) ?_
      refine iv_icmp_ge (pc := 37) C 86 dX2_explore_37 (by decide) (fun h10 => ?_) (fun h10 => ?_)
      · replace h := iw_ift h10 h
        exact iv_sub [0, 1, 2] rfl (hk33 v7 m9 h)
      · replace h := iw_iff h10 h
        refine iv_aload_n (pc := 40) C 0 dX2_explore_40 rfl rfl ?_
        refine iv_getf (pc := 41) (T := TX2) (N := 5) (ci := 2) C c 4 in_X2_explore_2 (iw_ix hJ (iw_pl hc)) (iw_E2 (iw_pk hc)) rfl (by decide) lk_X2_explore_24 rfl rfl dX2_explore_41 ?_
        refine iv_iload_n (pc := 44) C 1 dX2_explore_44 rfl rfl ?_
        refine iv_bipush (pc := 45) C (10 : Int32) dX2_explore_45 (by decide) ?_
        refine iv_imul (pc := 47) C dX2_explore_47 ?_
        refine iv_iload (pc := 48) C 3 dX2_explore_48 rfl ?_
        refine iv_iadd (pc := 50) C dX2_explore_50 ?_
        refine iv_aload_n (pc := 51) C 0 dX2_explore_51 rfl rfl ?_
        refine iv_iload_n (pc := 52) C 1 dX2_explore_52 rfl rfl ?_
        refine iv_iload (pc := 53) C 3 dX2_explore_53 rfl ?_
        obtain ⟨v11, ev11, h⟩ := iw_be h
        refine iv_callV (pc := 55) (b := c) (ci := 2) C [.int p1, .int v8] (k_X2_findNodeBefore l G hJ n c hc p1 v8 m9 ev11) gX2_explore_X2_findNodeBefore rfl qd_X2_findNodeBefore ⟨rfl, rfl, Nat.le_of_ble_eq_true rfl, Nat.le_of_ble_eq_true rfl⟩ (iw_ix hJ (iw_pl hc)) (iw_E2 (iw_pk hc)) rfl rfl rfl (Nat.le_of_ble_eq_true rfl) dX2_explore_55 ?_
        refine iv_callSN (pc := 58) C [.ref (G.2.1 (c + 5)), .int ((p1 * (10 : Int32)) + v8), .int v11] (k_X5_put l G hJ.1 (c + 5) (iw_pa5 hJ hc) ((p1 * (10 : Int32)) + v8) v11 m9 rfl) gX2_explore_X5_put_n43 rfl ne_RX2_43 si_X2_explore_X5_put qd_X5_put ⟨rfl, rfl, Nat.le_of_ble_eq_true rfl, Nat.le_of_ble_eq_true rfl⟩ rfl rfl (Nat.le_of_ble_eq_true rfl) dX2_explore_58 ?_
        refine iv_topm (fun m12 em12 => ?_)
        replace h := iw_lete em12 h
        refine iv_aload_n (pc := 61) C 0 dX2_explore_61 rfl rfl ?_
        refine iv_iload_n (pc := 62) C 1 dX2_explore_62 rfl rfl ?_
        refine iv_iload (pc := 63) C 3 dX2_explore_63 rfl ?_
        refine iv_callV (pc := 65) (b := c) (ci := 2) C [.int p1, .int v8] (k_X2_timeOf l G hJ c hc p1 v8 m12 rfl) gX2_explore_X2_timeOf rfl qd_X2_timeOf ⟨rfl, rfl, Nat.le_of_ble_eq_true rfl, Nat.le_of_ble_eq_true rfl⟩ (iw_ix hJ (iw_pl hc)) (iw_E2 (iw_pk hc)) rfl rfl rfl (Nat.le_of_ble_eq_true rfl) dX2_explore_65 ?_
        refine iv_ldc (pc := 68) C (1000000 : Int32) (by decide +kernel) dX2_explore_68 ?_
        have vJ80 : ∀ (v13 : Int32), f_X2_explore_J80 r33 v8 m12 v13 = some σ' → iw_V p l e rm_X2_explore s m ([.ref (G.2.1 c), .int p1, .int p2] : List Value).toArray below meth c0 0 0 (MQ below (iw_Q none G σ') ([.ref (G.2.1 c), .int p1, .int p2] : List Value).toArray s 0 0 (iw_A G)) 5 G (iw_A G) m12 80 [(0, .ref (G.2.1 c)), (1, .int p1), (3, .int v13), (4, .int v8)] [] := by
          intro v13 h
          unfold f_X2_explore_J80 at h
          obtain ⟨v14, ev14⟩ : ∃ y : Int32, y = v8 + (1 : Int32) := ⟨_, rfl⟩
          replace h := iw_lete ev14 h
          refine iv_iinc (pc := 80) C 3 v14 [(4, .int v14), (0, .ref (G.2.1 c)), (1, .int p1), (3, .int v13)] dX2_explore_80 rfl (by rw [ev14]; rfl) (by decide) rfl ?_
          refine iv_goto (pc := 83) C 33 dX2_explore_83 (by decide) ?_
          exact iv_sub [1, 2, 3, 0] rfl (hr33 v13 v14 m12 h)
        refine iv_icmp_ge (pc := 70) C 80 dX2_explore_70 (by decide) (fun h15 => ?_) (fun h15 => ?_)
        · replace h := iw_ift h15 h
          exact iv_sub [0, 1, 2, 3] rfl (vJ80 v7 h)
        · replace h := iw_iff h15 h
          refine iv_iload_n (pc := 73) C 2 dX2_explore_73 rfl rfl ?_
          refine iv_iconst (pc := 74) C (1 : Int32) dX2_explore_74 (by decide) ?_
          refine iv_iload (pc := 75) C 3 dX2_explore_75 rfl ?_
          refine iv_ishl (pc := 77) C dX2_explore_77 ?_
          refine iv_ior (pc := 78) C dX2_explore_78 ?_
          refine iv_topi (fun v16 ev16 => ?_)
          replace h := iw_lete ev16 h
          refine iv_istore_n (pc := 79) C [(3, .int v16), (0, .ref (G.2.1 c)), (1, .int p1), (4, .int v8)] dX2_explore_79 rfl (by decide) rfl ?_
          exact iv_sub [1, 2, 0, 3] rfl (vJ80 v16 h)
    have vL33 : ∀ (nn : Nat) (v7 : Int32) (v8 : Int32) (m9 : iw_M), f_X2_explore_L33 n c p1 (f_X2_explore_X86_33 c p1) nn v7 v8 m9 = some σ' → iw_V p l e rm_X2_explore s m ([.ref (G.2.1 c), .int p1, .int p2] : List Value).toArray below meth c0 0 0 (MQ below (iw_Q none G σ') ([.ref (G.2.1 c), .int p1, .int p2] : List Value).toArray s 0 0 (iw_A G)) 5 G (iw_A G) m9 33 [(0, .ref (G.2.1 c)), (1, .int p1), (3, .int v7), (4, .int v8)] [] := by
      intro nn
      induction nn with
      | zero => intro v7 v8 m9 h; exact absurd h (fun q => by cases q)
      | succ nn ih => intro v7 v8 m9 h; exact vB33 (f_X2_explore_X86_33 c p1) (f_X2_explore_L33 n c p1 (f_X2_explore_X86_33 c p1) nn) vX33 ih v7 v8 m9 h
    exact iv_sub [2, 3, 1, 0] rfl (vL33 n (0 : Int32) (0 : Int32) m3 h)
  · replace h := iw_ift h1 h
    cases h
    exact iv_vret C hr hlk rfl rfl dX2_explore_12
theorem qd_X2_explore : yX2_explore.cls = RX2 ∧ yX2_explore.cls ≠ "java/lang/invoke/MethodHandle" ∧ yX2_explore.cls ≠ "java/lang/invoke/VarHandle" ∧ (parseMethodDescriptor yX2_explore.desc).map (fun d => d.parameters.length) = some 2 := by decide +kernel
def f_X2_reachedFrom (c : Nat) (p1 : Int32) (σ : iw_M) : Int32 :=
(f_X5_at (c + 3) p1 σ)
abbrev rm_X2_reachedFrom : Room := { frames := 1, cells := 0, slots := 0, locals := 21 }
theorem lk_X2_reachedFrom_18 : Cond.fieldLink RX2 18 RX2 (TX2 2).2.1 (TX2 2).2.2.1 ∈ wsX2_reachedFrom := by decide +kernel
theorem si_X2_reachedFrom_X5_at : Cond.static yX5_at ∈ wsX2_reachedFrom ∧ Cond.initialized yX5_at.cls ∈ wsX2_reachedFrom := by decide +kernel
theorem in_X2_reachedFrom_2 : ∀ w ∈ u_ws RX2 TX2 5, w ∈ wsX2_reachedFrom := by decide +kernel
set_option maxHeartbeats 4000000 in
set_option maxRecDepth 100000 in
theorem k_X2_reachedFrom (l : Launch) (G : iw_G) (hJ : iw_JX G) (c : Nat) (hc : iw_pth c) (p1 : Int32) (σ : iw_M) {r : Int32} (h : f_X2_reachedFrom c p1 σ = r) : iw_Ct l yX2_reachedFrom wsX2_reachedFrom rm_X2_reachedFrom G ([.ref (G.2.1 c), .int p1] : List Value) σ (some (.int r)) σ := by
  refine iv_start (nL := 2) (own := RX2) (ret := (some .int)) (cc := cX2_reachedFrom) (by decide +kernel) rfl rfl hJ.1 (Nat.le_of_ble_eq_true rfl) ?_
  intro p e s m below meth c0 C hr hlk
  refine iv_sub (lv' := [(0, .ref (G.2.1 c)), (1, .int p1)]) [0, 1] rfl ?_
  unfold f_X2_reachedFrom at h
  refine iv_aload_n (pc := 0) C 0 dX2_reachedFrom_0 rfl rfl ?_
  refine iv_getf (pc := 1) (T := TX2) (N := 5) (ci := 2) C c 2 in_X2_reachedFrom_2 (iw_ix hJ (iw_pl hc)) (iw_E2 (iw_pk hc)) rfl (by decide) lk_X2_reachedFrom_18 rfl rfl dX2_reachedFrom_1 ?_
  refine iv_iload_n (pc := 4) C 1 dX2_reachedFrom_4 rfl rfl ?_
  refine iv_callSN (pc := 5) C [.ref (G.2.1 (c + 3)), .int p1] (k_X5_at l G hJ.1 (c + 3) (iw_pa3 hJ hc) p1 σ rfl) gX2_reachedFrom_X5_at_n47 rfl ne_RX2_47 si_X2_reachedFrom_X5_at qd_X5_at ⟨rfl, rfl, Nat.le_of_ble_eq_true rfl, Nat.le_of_ble_eq_true rfl⟩ rfl rfl (Nat.le_of_ble_eq_true rfl) dX2_reachedFrom_5 ?_
  cases h
  exact iv_iret C hr hlk rfl rfl dX2_reachedFrom_8
theorem qd_X2_reachedFrom : yX2_reachedFrom.cls = RX2 ∧ yX2_reachedFrom.cls ≠ "java/lang/invoke/MethodHandle" ∧ yX2_reachedFrom.cls ≠ "java/lang/invoke/VarHandle" ∧ (parseMethodDescriptor yX2_reachedFrom.desc).map (fun d => d.parameters.length) = some 1 := by decide +kernel
def f_X2_nodeBefore (c : Nat) (p1 : Int32) (p2 : Int32) (σ : iw_M) : Int32 :=
(f_X5_at (c + 5) ((p1 * (10 : Int32)) + p2) σ)
abbrev rm_X2_nodeBefore : Room := { frames := 1, cells := 0, slots := 0, locals := 21 }
theorem lk_X2_nodeBefore_24 : Cond.fieldLink RX2 24 RX2 (TX2 4).2.1 (TX2 4).2.2.1 ∈ wsX2_nodeBefore := by decide +kernel
theorem si_X2_nodeBefore_X5_at : Cond.static yX5_at ∈ wsX2_nodeBefore ∧ Cond.initialized yX5_at.cls ∈ wsX2_nodeBefore := by decide +kernel
theorem in_X2_nodeBefore_2 : ∀ w ∈ u_ws RX2 TX2 5, w ∈ wsX2_nodeBefore := by decide +kernel
set_option maxHeartbeats 4000000 in
set_option maxRecDepth 100000 in
theorem k_X2_nodeBefore (l : Launch) (G : iw_G) (hJ : iw_JX G) (c : Nat) (hc : iw_pth c) (p1 : Int32) (p2 : Int32) (σ : iw_M) {r : Int32} (h : f_X2_nodeBefore c p1 p2 σ = r) : iw_Ct l yX2_nodeBefore wsX2_nodeBefore rm_X2_nodeBefore G ([.ref (G.2.1 c), .int p1, .int p2] : List Value) σ (some (.int r)) σ := by
  refine iv_start (nL := 3) (own := RX2) (ret := (some .int)) (cc := cX2_nodeBefore) (by decide +kernel) rfl rfl hJ.1 (Nat.le_of_ble_eq_true rfl) ?_
  intro p e s m below meth c0 C hr hlk
  refine iv_sub (lv' := [(0, .ref (G.2.1 c)), (1, .int p1), (2, .int p2)]) [0, 1, 2] rfl ?_
  unfold f_X2_nodeBefore at h
  refine iv_aload_n (pc := 0) C 0 dX2_nodeBefore_0 rfl rfl ?_
  refine iv_getf (pc := 1) (T := TX2) (N := 5) (ci := 2) C c 4 in_X2_nodeBefore_2 (iw_ix hJ (iw_pl hc)) (iw_E2 (iw_pk hc)) rfl (by decide) lk_X2_nodeBefore_24 rfl rfl dX2_nodeBefore_1 ?_
  refine iv_iload_n (pc := 4) C 1 dX2_nodeBefore_4 rfl rfl ?_
  refine iv_bipush (pc := 5) C (10 : Int32) dX2_nodeBefore_5 (by decide) ?_
  refine iv_imul (pc := 7) C dX2_nodeBefore_7 ?_
  refine iv_iload_n (pc := 8) C 2 dX2_nodeBefore_8 rfl rfl ?_
  refine iv_iadd (pc := 9) C dX2_nodeBefore_9 ?_
  refine iv_callSN (pc := 10) C [.ref (G.2.1 (c + 5)), .int ((p1 * (10 : Int32)) + p2)] (k_X5_at l G hJ.1 (c + 5) (iw_pa5 hJ hc) ((p1 * (10 : Int32)) + p2) σ rfl) gX2_nodeBefore_X5_at_n47 rfl ne_RX2_47 si_X2_nodeBefore_X5_at qd_X5_at ⟨rfl, rfl, Nat.le_of_ble_eq_true rfl, Nat.le_of_ble_eq_true rfl⟩ rfl rfl (Nat.le_of_ble_eq_true rfl) dX2_nodeBefore_10 ?_
  cases h
  exact iv_iret C hr hlk rfl rfl dX2_nodeBefore_13
theorem qd_X2_nodeBefore : yX2_nodeBefore.cls = RX2 ∧ yX2_nodeBefore.cls ≠ "java/lang/invoke/MethodHandle" ∧ yX2_nodeBefore.cls ≠ "java/lang/invoke/VarHandle" ∧ (parseMethodDescriptor yX2_nodeBefore.desc).map (fun d => d.parameters.length) = some 2 := by decide +kernel
