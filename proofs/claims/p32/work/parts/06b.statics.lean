def f_J6_bitCount_0f7a4 (p1 : Int32) : Int32 :=
iw_let (p1 - (((Int32.toUInt32 p1 >>> (Int32.toUInt32 (1 : Int32) &&& Int32.toUInt32 31)).toInt32) &&& (1431655765 : Int32))) fun v1 =>
iw_let ((v1 &&& (858993459 : Int32)) + (((Int32.toUInt32 v1 >>> (Int32.toUInt32 (2 : Int32) &&& Int32.toUInt32 31)).toInt32) &&& (858993459 : Int32))) fun v2 =>
iw_let ((v2 + ((Int32.toUInt32 v2 >>> (Int32.toUInt32 (4 : Int32) &&& Int32.toUInt32 31)).toInt32)) &&& (252645135 : Int32)) fun v3 =>
iw_let (v3 + ((Int32.toUInt32 v3 >>> (Int32.toUInt32 (8 : Int32) &&& Int32.toUInt32 31)).toInt32)) fun v4 =>
iw_let (v4 + ((Int32.toUInt32 v4 >>> (Int32.toUInt32 (16 : Int32) &&& Int32.toUInt32 31)).toInt32)) fun v5 =>
(v5 &&& (63 : Int32))
abbrev rm_J6_bitCount_0f7a4 : Room := { frames := 0, cells := 0, slots := 0, locals := 0 }
set_option maxHeartbeats 4000000 in
set_option maxRecDepth 100000 in
theorem k_J6_bitCount_0f7a4 (l : Launch) (G : iw_G) (hJ : iw_JX G) (p1 : Int32) (σ : iw_M) {r : Int32} (h : f_J6_bitCount_0f7a4 p1 = r) : iw_Ct l yJ6_bitCount_0f7a4 wsJ6_bitCount_0f7a4 rm_J6_bitCount_0f7a4 G ([.int p1] : List Value) σ (some (.int r)) σ := by
  refine iv_start (nL := 1) (own := RJ6) (ret := (some .int)) (cc := cJ6_bitCount_0f7a4) (by decide +kernel) rfl rfl hJ.1 (Nat.le_of_ble_eq_true rfl) ?_
  intro p e s m below meth c0 C hr hlk
  refine iv_sub (lv' := [(0, .int p1)]) [0] rfl ?_
  unfold f_J6_bitCount_0f7a4 at h
  refine iv_iload_n (pc := 0) C 0 dJ6_bitCount_0f7a4_0 rfl rfl ?_
  refine iv_iload_n (pc := 1) C 0 dJ6_bitCount_0f7a4_1 rfl rfl ?_
  refine iv_iconst (pc := 2) C (1 : Int32) dJ6_bitCount_0f7a4_2 (by decide) ?_
  refine iv_iushr (pc := 3) C dJ6_bitCount_0f7a4_3 ?_
  refine iv_ldc_w (pc := 4) C (1431655765 : Int32) (by decide +kernel) dJ6_bitCount_0f7a4_4 ?_
  refine iv_iand (pc := 7) C dJ6_bitCount_0f7a4_7 ?_
  refine iv_isub (pc := 8) C dJ6_bitCount_0f7a4_8 ?_
  refine iv_topi (fun v1 ev1 => ?_)
  replace h := iw_lete ev1 h
  refine iv_istore_n (pc := 9) C [(0, .int v1)] dJ6_bitCount_0f7a4_9 rfl (by decide) rfl ?_
  refine iv_iload_n (pc := 10) C 0 dJ6_bitCount_0f7a4_10 rfl rfl ?_
  refine iv_ldc_w (pc := 11) C (858993459 : Int32) (by decide +kernel) dJ6_bitCount_0f7a4_11 ?_
  refine iv_iand (pc := 14) C dJ6_bitCount_0f7a4_14 ?_
  refine iv_iload_n (pc := 15) C 0 dJ6_bitCount_0f7a4_15 rfl rfl ?_
  refine iv_iconst (pc := 16) C (2 : Int32) dJ6_bitCount_0f7a4_16 (by decide) ?_
  refine iv_iushr (pc := 17) C dJ6_bitCount_0f7a4_17 ?_
  refine iv_ldc_w (pc := 18) C (858993459 : Int32) (by decide +kernel) dJ6_bitCount_0f7a4_18 ?_
  refine iv_iand (pc := 21) C dJ6_bitCount_0f7a4_21 ?_
  refine iv_iadd (pc := 22) C dJ6_bitCount_0f7a4_22 ?_
  refine iv_topi (fun v2 ev2 => ?_)
  replace h := iw_lete ev2 h
  refine iv_istore_n (pc := 23) C [(0, .int v2)] dJ6_bitCount_0f7a4_23 rfl (by decide) rfl ?_
  refine iv_iload_n (pc := 24) C 0 dJ6_bitCount_0f7a4_24 rfl rfl ?_
  refine iv_iload_n (pc := 25) C 0 dJ6_bitCount_0f7a4_25 rfl rfl ?_
  refine iv_iconst (pc := 26) C (4 : Int32) dJ6_bitCount_0f7a4_26 (by decide) ?_
  refine iv_iushr (pc := 27) C dJ6_bitCount_0f7a4_27 ?_
  refine iv_iadd (pc := 28) C dJ6_bitCount_0f7a4_28 ?_
  refine iv_ldc_w (pc := 29) C (252645135 : Int32) (by decide +kernel) dJ6_bitCount_0f7a4_29 ?_
  refine iv_iand (pc := 32) C dJ6_bitCount_0f7a4_32 ?_
  refine iv_topi (fun v3 ev3 => ?_)
  replace h := iw_lete ev3 h
  refine iv_istore_n (pc := 33) C [(0, .int v3)] dJ6_bitCount_0f7a4_33 rfl (by decide) rfl ?_
  refine iv_iload_n (pc := 34) C 0 dJ6_bitCount_0f7a4_34 rfl rfl ?_
  refine iv_iload_n (pc := 35) C 0 dJ6_bitCount_0f7a4_35 rfl rfl ?_
  refine iv_bipush (pc := 36) C (8 : Int32) dJ6_bitCount_0f7a4_36 (by decide) ?_
  refine iv_iushr (pc := 38) C dJ6_bitCount_0f7a4_38 ?_
  refine iv_iadd (pc := 39) C dJ6_bitCount_0f7a4_39 ?_
  refine iv_topi (fun v4 ev4 => ?_)
  replace h := iw_lete ev4 h
  refine iv_istore_n (pc := 40) C [(0, .int v4)] dJ6_bitCount_0f7a4_40 rfl (by decide) rfl ?_
  refine iv_iload_n (pc := 41) C 0 dJ6_bitCount_0f7a4_41 rfl rfl ?_
  refine iv_iload_n (pc := 42) C 0 dJ6_bitCount_0f7a4_42 rfl rfl ?_
  refine iv_bipush (pc := 43) C (16 : Int32) dJ6_bitCount_0f7a4_43 (by decide) ?_
  refine iv_iushr (pc := 45) C dJ6_bitCount_0f7a4_45 ?_
  refine iv_iadd (pc := 46) C dJ6_bitCount_0f7a4_46 ?_
  refine iv_topi (fun v5 ev5 => ?_)
  replace h := iw_lete ev5 h
  refine iv_istore_n (pc := 47) C [(0, .int v5)] dJ6_bitCount_0f7a4_47 rfl (by decide) rfl ?_
  refine iv_iload_n (pc := 48) C 0 dJ6_bitCount_0f7a4_48 rfl rfl ?_
  refine iv_bipush (pc := 49) C (63 : Int32) dJ6_bitCount_0f7a4_49 (by decide) ?_
  refine iv_iand (pc := 51) C dJ6_bitCount_0f7a4_51 ?_
  cases h
  exact iv_iret C hr hlk rfl rfl dJ6_bitCount_0f7a4_52
theorem qd_J6_bitCount_0f7a4 : yJ6_bitCount_0f7a4.cls ≠ "java/lang/invoke/MethodHandle" ∧ yJ6_bitCount_0f7a4.cls ≠ "java/lang/invoke/VarHandle" ∧ (parseMethodDescriptor yJ6_bitCount_0f7a4.desc).map (fun d => d.parameters.length) = some 1 := by decide +kernel
def f_X5_increase (a1 : Nat) (p2 : Int32) (p3 : Int32) (σ : iw_M) : iw_M :=
iw_let (f_X5_put a1 p2 ((f_X5_at a1 p2 σ) + p3) σ) fun m1 =>
m1
abbrev rm_X5_increase : Room := { frames := 1, cells := 0, slots := 0, locals := 22 }
set_option maxHeartbeats 4000000 in
set_option maxRecDepth 100000 in
theorem k_X5_increase (l : Launch) (G : iw_G) (hJ : iw_JX G) (a1 : Nat) (ha1 : iw_ia G a1) (p2 : Int32) (p3 : Int32) (σ : iw_M) {σ' : iw_M} (h : f_X5_increase a1 p2 p3 σ = σ') : iw_Ct l yX5_increase wsX5_increase rm_X5_increase G ([.ref (G.2.1 a1), .int p2, .int p3] : List Value) σ none σ' := by
  refine iv_start (nL := 3) (own := RX5) (ret := none) (cc := cX5_increase) (by decide +kernel) rfl rfl hJ.1 (Nat.le_of_ble_eq_true rfl) ?_
  intro p e s m below meth c0 C hr hlk
  refine iv_sub (lv' := [(0, .ref (G.2.1 a1)), (1, .int p2), (2, .int p3)]) [0, 1, 2] rfl ?_
  unfold f_X5_increase at h
  refine iv_aload_n (pc := 0) C 0 dX5_increase_0 rfl rfl ?_
  refine iv_iload_n (pc := 1) C 1 dX5_increase_1 rfl rfl ?_
  refine iv_aload_n (pc := 2) C 0 dX5_increase_2 rfl rfl ?_
  refine iv_iload_n (pc := 3) C 1 dX5_increase_3 rfl rfl ?_
  refine iv_callS (pc := 4) C [.ref (G.2.1 a1), .int p2] (k_X5_at l G hJ.1 a1 ha1 p2 σ rfl) gX5_increase_X5_at rfl qd_X5_at ⟨rfl, rfl, Nat.le_of_ble_eq_true rfl, Nat.le_of_ble_eq_true rfl⟩ rfl rfl (Nat.le_of_ble_eq_true rfl) dX5_increase_4 ?_
  refine iv_iload_n (pc := 7) C 2 dX5_increase_7 rfl rfl ?_
  refine iv_iadd (pc := 8) C dX5_increase_8 ?_
  refine iv_callS (pc := 9) C [.ref (G.2.1 a1), .int p2, .int ((f_X5_at a1 p2 σ) + p3)] (k_X5_put l G hJ.1 a1 ha1 p2 ((f_X5_at a1 p2 σ) + p3) σ rfl) gX5_increase_X5_put rfl qd_X5_put ⟨rfl, rfl, Nat.le_of_ble_eq_true rfl, Nat.le_of_ble_eq_true rfl⟩ rfl rfl (Nat.le_of_ble_eq_true rfl) dX5_increase_9 ?_
  refine iv_topm (fun m1 em1 => ?_)
  replace h := iw_lete em1 h
  cases h
  exact iv_vret C hr hlk rfl rfl dX5_increase_12
theorem qd_X5_increase : yX5_increase.cls ≠ "java/lang/invoke/MethodHandle" ∧ yX5_increase.cls ≠ "java/lang/invoke/VarHandle" ∧ (parseMethodDescriptor yX5_increase.desc).map (fun d => d.parameters.length) = some 3 := by decide +kernel
def f_X5_removePiece_X30_4 (m2 : iw_M) : Option (iw_M) :=
some m2
def f_X5_removePiece_B4 (a1 : Nat) (p2 : Int32) (k4 : iw_M → Option (iw_M)) (r4 : Int32 → iw_M → Option (iw_M)) (v3 : Int32) (m4 : iw_M) : Option (iw_M) :=
if ((nI (iw_al a1)) - p2) ≤ v3 then
(k4 m4)
else
(iw_let (f_X5_put a1 v3 (f_X5_at a1 (v3 + p2) m4) m4) fun m6 =>
iw_let (v3 + (1 : Int32)) fun v7 =>
r4 v7 m6)
def f_X5_removePiece_L4 (a1 : Nat) (p2 : Int32) (k4 : iw_M → Option (iw_M)) (nn : Nat) : Int32 → iw_M → Option (iw_M) :=
iw_it (fun r4 => f_X5_removePiece_B4 a1 p2 k4 r4) (fun _ _ => none) nn
def f_X5_removePiece (n : Nat) (a1 : Nat) (p2 : Int32) (p3 : Int32) (σ : iw_M) : Option (iw_M) :=
iw_let (p3 * p2) fun v1 =>
f_X5_removePiece_L4 a1 p2 (f_X5_removePiece_X30_4) n v1 σ
abbrev rm_X5_removePiece : Room := { frames := 1, cells := 0, slots := 0, locals := 22 }
set_option maxHeartbeats 4000000 in
set_option maxRecDepth 100000 in
theorem k_X5_removePiece (l : Launch) (G : iw_G) (hJ : iw_JX G) (n : Nat) (a1 : Nat) (ha1 : iw_ia G a1) (p2 : Int32) (p3 : Int32) (σ : iw_M) {σ' : iw_M} (h : f_X5_removePiece n a1 p2 p3 σ = some σ') : iw_Ct l yX5_removePiece wsX5_removePiece rm_X5_removePiece G ([.ref (G.2.1 a1), .int p2, .int p3] : List Value) σ none σ' := by
  refine iv_start (nL := 4) (own := RX5) (ret := none) (cc := cX5_removePiece) (by decide +kernel) rfl rfl hJ.1 (Nat.le_of_ble_eq_true rfl) ?_
  intro p e s m below meth c0 C hr hlk
  refine iv_sub (lv' := [(0, .ref (G.2.1 a1)), (1, .int p2), (2, .int p3)]) [0, 1, 2] rfl ?_
  unfold f_X5_removePiece at h
  refine iv_iload_n (pc := 0) C 2 dX5_removePiece_0 rfl rfl ?_
  refine iv_iload_n (pc := 1) C 1 dX5_removePiece_1 rfl rfl ?_
  refine iv_imul (pc := 2) C dX5_removePiece_2 ?_
  refine iv_topi (fun v1 ev1 => ?_)
  replace h := iw_lete ev1 h
  refine iv_istore_n (pc := 3) C [(3, .int v1), (0, .ref (G.2.1 a1)), (1, .int p2), (2, .int p3)] dX5_removePiece_3 rfl (by decide) rfl ?_
  have vX4 : ∀ (m2 : iw_M), f_X5_removePiece_X30_4 m2 = some σ' → iw_V p l e rm_X5_removePiece s m ([.ref (G.2.1 a1), .int p2, .int p3] : List Value).toArray below meth c0 0 0 (MQ below (iw_Q none G σ') ([.ref (G.2.1 a1), .int p2, .int p3] : List Value).toArray s 0 0 (iw_A G)) 4 G (iw_A G) m2 30 [] [] := by
    intro m2 h
    unfold f_X5_removePiece_X30_4 at h
    cases h
    exact iv_vret C hr hlk rfl rfl dX5_removePiece_30
  have vB4 : ∀ (k4 : iw_M → Option (iw_M)) (r4 : Int32 → iw_M → Option (iw_M)), (∀ (m2 : iw_M), k4 m2 = some σ' → iw_V p l e rm_X5_removePiece s m ([.ref (G.2.1 a1), .int p2, .int p3] : List Value).toArray below meth c0 0 0 (MQ below (iw_Q none G σ') ([.ref (G.2.1 a1), .int p2, .int p3] : List Value).toArray s 0 0 (iw_A G)) 4 G (iw_A G) m2 30 [] []) → (∀ (v3 : Int32) (m4 : iw_M), r4 v3 m4 = some σ' → iw_V p l e rm_X5_removePiece s m ([.ref (G.2.1 a1), .int p2, .int p3] : List Value).toArray below meth c0 0 0 (MQ below (iw_Q none G σ') ([.ref (G.2.1 a1), .int p2, .int p3] : List Value).toArray s 0 0 (iw_A G)) 4 G (iw_A G) m4 4 [(0, .ref (G.2.1 a1)), (1, .int p2), (3, .int v3)] []) → ∀ (v3 : Int32) (m4 : iw_M), f_X5_removePiece_B4 a1 p2 k4 r4 v3 m4 = some σ' → iw_V p l e rm_X5_removePiece s m ([.ref (G.2.1 a1), .int p2, .int p3] : List Value).toArray below meth c0 0 0 (MQ below (iw_Q none G σ') ([.ref (G.2.1 a1), .int p2, .int p3] : List Value).toArray s 0 0 (iw_A G)) 4 G (iw_A G) m4 4 [(0, .ref (G.2.1 a1)), (1, .int p2), (3, .int v3)] [] := by
    intro k4 r4 hk4 hr4 v3 m4 h
    unfold f_X5_removePiece_B4 at h
    refine iv_iload_n (pc := 4) C 2 dX5_removePiece_4 rfl rfl ?_
    refine iv_aload_n (pc := 5) C 0 dX5_removePiece_5 rfl rfl ?_
    refine iv_alen (pc := 6) C a1 ha1.2 ha1.1 dX5_removePiece_6 ?_
    refine iv_iload_n (pc := 7) C 1 dX5_removePiece_7 rfl rfl ?_
    refine iv_isub (pc := 8) C dX5_removePiece_8 ?_
    refine iv_icmp_ge (pc := 9) C 30 dX5_removePiece_9 (by decide) (fun h5 => ?_) (fun h5 => ?_)
    · replace h := iw_ift h5 h
      exact iv_sub [] rfl (hk4 m4 h)
    · replace h := iw_iff h5 h
      refine iv_aload_n (pc := 12) C 0 dX5_removePiece_12 rfl rfl ?_
      refine iv_iload_n (pc := 13) C 2 dX5_removePiece_13 rfl rfl ?_
      refine iv_aload_n (pc := 14) C 0 dX5_removePiece_14 rfl rfl ?_
      refine iv_iload_n (pc := 15) C 2 dX5_removePiece_15 rfl rfl ?_
      refine iv_iload_n (pc := 16) C 1 dX5_removePiece_16 rfl rfl ?_
      refine iv_iadd (pc := 17) C dX5_removePiece_17 ?_
      refine iv_callS (pc := 18) C [.ref (G.2.1 a1), .int (v3 + p2)] (k_X5_at l G hJ.1 a1 ha1 (v3 + p2) m4 rfl) gX5_removePiece_X5_at rfl qd_X5_at ⟨rfl, rfl, Nat.le_of_ble_eq_true rfl, Nat.le_of_ble_eq_true rfl⟩ rfl rfl (Nat.le_of_ble_eq_true rfl) dX5_removePiece_18 ?_
      refine iv_callS (pc := 21) C [.ref (G.2.1 a1), .int v3, .int (f_X5_at a1 (v3 + p2) m4)] (k_X5_put l G hJ.1 a1 ha1 v3 (f_X5_at a1 (v3 + p2) m4) m4 rfl) gX5_removePiece_X5_put rfl qd_X5_put ⟨rfl, rfl, Nat.le_of_ble_eq_true rfl, Nat.le_of_ble_eq_true rfl⟩ rfl rfl (Nat.le_of_ble_eq_true rfl) dX5_removePiece_21 ?_
      refine iv_topm (fun m6 em6 => ?_)
      replace h := iw_lete em6 h
      obtain ⟨v7, ev7⟩ : ∃ y : Int32, y = v3 + (1 : Int32) := ⟨_, rfl⟩
      replace h := iw_lete ev7 h
      refine iv_iinc (pc := 24) C 2 v7 [(3, .int v7), (0, .ref (G.2.1 a1)), (1, .int p2)] dX5_removePiece_24 rfl (by rw [ev7]; rfl) (by decide) rfl ?_
      refine iv_goto (pc := 27) C 4 dX5_removePiece_27 (by decide) ?_
      exact iv_sub [1, 2, 0] rfl (hr4 v7 m6 h)
  have vL4 : ∀ (nn : Nat) (v3 : Int32) (m4 : iw_M), f_X5_removePiece_L4 a1 p2 (f_X5_removePiece_X30_4) nn v3 m4 = some σ' → iw_V p l e rm_X5_removePiece s m ([.ref (G.2.1 a1), .int p2, .int p3] : List Value).toArray below meth c0 0 0 (MQ below (iw_Q none G σ') ([.ref (G.2.1 a1), .int p2, .int p3] : List Value).toArray s 0 0 (iw_A G)) 4 G (iw_A G) m4 4 [(0, .ref (G.2.1 a1)), (1, .int p2), (3, .int v3)] [] := by
    intro nn
    induction nn with
    | zero => intro v3 m4 h; exact absurd h (fun q => by cases q)
    | succ nn ih => intro v3 m4 h; exact vB4 (f_X5_removePiece_X30_4) (f_X5_removePiece_L4 a1 p2 (f_X5_removePiece_X30_4) nn) vX4 ih v3 m4 h
  exact iv_sub [1, 2, 0] rfl (vL4 n v1 σ h)
theorem qd_X5_removePiece : yX5_removePiece.cls ≠ "java/lang/invoke/MethodHandle" ∧ yX5_removePiece.cls ≠ "java/lang/invoke/VarHandle" ∧ (parseMethodDescriptor yX5_removePiece.desc).map (fun d => d.parameters.length) = some 3 := by decide +kernel
def f_X5_wayOf (p1 : Int32) (p2 : Int32) : Int32 :=
((p1 * (6 : Int32)) + p2)
abbrev rm_X5_wayOf : Room := { frames := 0, cells := 0, slots := 0, locals := 0 }
set_option maxHeartbeats 4000000 in
set_option maxRecDepth 100000 in
theorem k_X5_wayOf (l : Launch) (G : iw_G) (hJ : iw_JX G) (p1 : Int32) (p2 : Int32) (σ : iw_M) {r : Int32} (h : f_X5_wayOf p1 p2 = r) : iw_Ct l yX5_wayOf wsX5_wayOf rm_X5_wayOf G ([.int p1, .int p2] : List Value) σ (some (.int r)) σ := by
  refine iv_start (nL := 2) (own := RX5) (ret := (some .int)) (cc := cX5_wayOf) (by decide +kernel) rfl rfl hJ.1 (Nat.le_of_ble_eq_true rfl) ?_
  intro p e s m below meth c0 C hr hlk
  refine iv_sub (lv' := [(0, .int p1), (1, .int p2)]) [0, 1] rfl ?_
  unfold f_X5_wayOf at h
  refine iv_iload_n (pc := 0) C 0 dX5_wayOf_0 rfl rfl ?_
  refine iv_bipush (pc := 1) C (6 : Int32) dX5_wayOf_1 (by decide) ?_
  refine iv_imul (pc := 3) C dX5_wayOf_3 ?_
  refine iv_iload_n (pc := 4) C 1 dX5_wayOf_4 rfl rfl ?_
  refine iv_iadd (pc := 5) C dX5_wayOf_5 ?_
  cases h
  exact iv_iret C hr hlk rfl rfl dX5_wayOf_6
theorem qd_X5_wayOf : yX5_wayOf.cls ≠ "java/lang/invoke/MethodHandle" ∧ yX5_wayOf.cls ≠ "java/lang/invoke/VarHandle" ∧ (parseMethodDescriptor yX5_wayOf.desc).map (fun d => d.parameters.length) = some 2 := by decide +kernel
def f_X5_isWithin (p1 : Int32) (p2 : Int32) (p3 : Int32) : Int32 :=
if p1 < p2 then
((0 : Int32))
else
(if p3 < p1 then
((0 : Int32))
else
((1 : Int32)))
abbrev rm_X5_isWithin : Room := { frames := 0, cells := 0, slots := 0, locals := 0 }
set_option maxHeartbeats 4000000 in
set_option maxRecDepth 100000 in
theorem k_X5_isWithin (l : Launch) (G : iw_G) (hJ : iw_JX G) (p1 : Int32) (p2 : Int32) (p3 : Int32) (σ : iw_M) {r : Int32} (h : f_X5_isWithin p1 p2 p3 = r) : iw_Ct l yX5_isWithin wsX5_isWithin rm_X5_isWithin G ([.int p1, .int p2, .int p3] : List Value) σ (some (.int r)) σ := by
  refine iv_start (nL := 3) (own := RX5) (ret := (some .boolean)) (cc := cX5_isWithin) (by decide +kernel) rfl rfl hJ.1 (Nat.le_of_ble_eq_true rfl) ?_
  intro p e s m below meth c0 C hr hlk
  refine iv_sub (lv' := [(0, .int p1), (1, .int p2), (2, .int p3)]) [0, 1, 2] rfl ?_
  unfold f_X5_isWithin at h
  refine iv_iload_n (pc := 0) C 0 dX5_isWithin_0 rfl rfl ?_
  refine iv_iload_n (pc := 1) C 1 dX5_isWithin_1 rfl rfl ?_
  refine iv_icmp_lt (pc := 2) C 14 dX5_isWithin_2 (by decide) (fun h1 => ?_) (fun h1 => ?_)
  · replace h := iw_ift h1 h
    refine iv_iconst (pc := 14) C (0 : Int32) dX5_isWithin_14 (by decide) ?_
    cases h
    exact iv_zret C hr hlk rfl rfl dX5_isWithin_15
  · replace h := iw_iff h1 h
    refine iv_iload_n (pc := 5) C 0 dX5_isWithin_5 rfl rfl ?_
    refine iv_iload_n (pc := 6) C 2 dX5_isWithin_6 rfl rfl ?_
    refine iv_icmp_gt (pc := 7) C 14 dX5_isWithin_7 (by decide) (fun h2 => ?_) (fun h2 => ?_)
    · replace h := iw_ift h2 h
      refine iv_iconst (pc := 14) C (0 : Int32) dX5_isWithin_14 (by decide) ?_
      cases h
      exact iv_zret C hr hlk rfl rfl dX5_isWithin_15
    · replace h := iw_iff h2 h
      refine iv_iconst (pc := 10) C (1 : Int32) dX5_isWithin_10 (by decide) ?_
      refine iv_goto (pc := 11) C 15 dX5_isWithin_11 (by decide) ?_
      cases h
      exact iv_zret C hr hlk rfl rfl dX5_isWithin_15
theorem qd_X5_isWithin : yX5_isWithin.cls ≠ "java/lang/invoke/MethodHandle" ∧ yX5_isWithin.cls ≠ "java/lang/invoke/VarHandle" ∧ (parseMethodDescriptor yX5_isWithin.desc).map (fun d => d.parameters.length) = some 3 := by decide +kernel
def f_X5_hashOf_X37_6 (v1 : Int64) : Option (Int64) :=
some v1
def f_X5_hashOf_B6 (a2 : Nat) (p3 : Int32) (p4 : Int32) (σ : iw_M) (k6 : Int64 → Option (Int64)) (r6 : Int64 → Int32 → Option (Int64)) (v2 : Int64) (v3 : Int32) : Option (Int64) :=
if (p3 + p4) ≤ v3 then
(k6 v2)
else
(iw_let (((31 : Int64) * v2) + (Int32.toInt64 (f_X5_at a2 v3 σ))) fun v5 =>
iw_let (v3 + (1 : Int32)) fun v6 =>
r6 v5 v6)
def f_X5_hashOf_L6 (a2 : Nat) (p3 : Int32) (p4 : Int32) (σ : iw_M) (k6 : Int64 → Option (Int64)) (nn : Nat) : Int64 → Int32 → Option (Int64) :=
iw_it (fun r6 => f_X5_hashOf_B6 a2 p3 p4 σ k6 r6) (fun _ _ => none) nn
def f_X5_hashOf (n : Nat) (p1 : Int64) (a2 : Nat) (p3 : Int32) (p4 : Int32) (σ : iw_M) : Option (Int64) :=
f_X5_hashOf_L6 a2 p3 p4 σ (f_X5_hashOf_X37_6) n p1 p3
abbrev rm_X5_hashOf : Room := { frames := 1, cells := 0, slots := 0, locals := 21 }
set_option maxHeartbeats 4000000 in
set_option maxRecDepth 100000 in
theorem k_X5_hashOf (l : Launch) (G : iw_G) (hJ : iw_JX G) (n : Nat) (p1 : Int64) (a2 : Nat) (ha2 : iw_ia G a2) (p3 : Int32) (p4 : Int32) (σ : iw_M) {r : Int64} (h : f_X5_hashOf n p1 a2 p3 p4 σ = some r) : iw_Ct l yX5_hashOf wsX5_hashOf rm_X5_hashOf G ([.long p1, .ref (G.2.1 a2), .int p3, .int p4] : List Value) σ (some (.long r)) σ := by
  refine iv_start (nL := 8) (own := RX5) (ret := (some .long)) (cc := cX5_hashOf) (by decide +kernel) rfl rfl hJ.1 (Nat.le_of_ble_eq_true rfl) ?_
  intro p e s m below meth c0 C hr hlk
  refine iv_sub (lv' := [(0, .long p1), (2, .ref (G.2.1 a2)), (3, .int p3), (4, .int p4)]) [0, 1, 2, 3] rfl ?_
  unfold f_X5_hashOf at h
  refine iv_lload_n (pc := 0) C 0 dX5_hashOf_0 rfl rfl ?_
  refine iv_lstore (pc := 1) C [(5, .long p1), (0, .long p1), (2, .ref (G.2.1 a2)), (3, .int p3), (4, .int p4)] dX5_hashOf_1 (by decide) rfl ?_
  refine iv_iload_n (pc := 3) C 3 dX5_hashOf_3 rfl rfl ?_
  refine iv_istore (pc := 4) C [(7, .int p3), (5, .long p1), (0, .long p1), (2, .ref (G.2.1 a2)), (3, .int p3), (4, .int p4)] dX5_hashOf_4 (by decide) rfl ?_
  have vX6 : ∀ (v1 : Int64), f_X5_hashOf_X37_6 v1 = some r → iw_V p l e rm_X5_hashOf s m ([.long p1, .ref (G.2.1 a2), .int p3, .int p4] : List Value).toArray below meth c0 0 0 (MQ below (iw_Q (some (.long r)) G σ) ([.long p1, .ref (G.2.1 a2), .int p3, .int p4] : List Value).toArray s 0 0 (iw_A G)) 8 G (iw_A G) σ 37 [(5, .long v1)] [] := by
    intro v1 h
    unfold f_X5_hashOf_X37_6 at h
    refine iv_lload (pc := 37) C 0 dX5_hashOf_37 rfl ?_
    cases h
    exact iv_lret C hr hlk rfl rfl dX5_hashOf_39
  have vB6 : ∀ (k6 : Int64 → Option (Int64)) (r6 : Int64 → Int32 → Option (Int64)), (∀ (v1 : Int64), k6 v1 = some r → iw_V p l e rm_X5_hashOf s m ([.long p1, .ref (G.2.1 a2), .int p3, .int p4] : List Value).toArray below meth c0 0 0 (MQ below (iw_Q (some (.long r)) G σ) ([.long p1, .ref (G.2.1 a2), .int p3, .int p4] : List Value).toArray s 0 0 (iw_A G)) 8 G (iw_A G) σ 37 [(5, .long v1)] []) → (∀ (v2 : Int64) (v3 : Int32), r6 v2 v3 = some r → iw_V p l e rm_X5_hashOf s m ([.long p1, .ref (G.2.1 a2), .int p3, .int p4] : List Value).toArray below meth c0 0 0 (MQ below (iw_Q (some (.long r)) G σ) ([.long p1, .ref (G.2.1 a2), .int p3, .int p4] : List Value).toArray s 0 0 (iw_A G)) 8 G (iw_A G) σ 6 [(2, .ref (G.2.1 a2)), (3, .int p3), (4, .int p4), (5, .long v2), (7, .int v3)] []) → ∀ (v2 : Int64) (v3 : Int32), f_X5_hashOf_B6 a2 p3 p4 σ k6 r6 v2 v3 = some r → iw_V p l e rm_X5_hashOf s m ([.long p1, .ref (G.2.1 a2), .int p3, .int p4] : List Value).toArray below meth c0 0 0 (MQ below (iw_Q (some (.long r)) G σ) ([.long p1, .ref (G.2.1 a2), .int p3, .int p4] : List Value).toArray s 0 0 (iw_A G)) 8 G (iw_A G) σ 6 [(2, .ref (G.2.1 a2)), (3, .int p3), (4, .int p4), (5, .long v2), (7, .int v3)] [] := by
    intro k6 r6 hk6 hr6 v2 v3 h
    unfold f_X5_hashOf_B6 at h
    refine iv_iload (pc := 6) C 4 dX5_hashOf_6 rfl ?_
    refine iv_iload_n (pc := 8) C 1 dX5_hashOf_8 rfl rfl ?_
    refine iv_iload (pc := 9) C 2 dX5_hashOf_9 rfl ?_
    refine iv_iadd (pc := 11) C dX5_hashOf_11 ?_
    refine iv_icmp_ge (pc := 12) C 37 dX5_hashOf_12 (by decide) (fun h4 => ?_) (fun h4 => ?_)
    · replace h := iw_ift h4 h
      exact iv_sub [3] rfl (hk6 v2 h)
    · replace h := iw_iff h4 h
      refine iv_ldc2_w (pc := 15) C (31 : Int64) (by decide +kernel) dX5_hashOf_15 ?_
      refine iv_lload (pc := 18) C 3 dX5_hashOf_18 rfl ?_
      refine iv_lmul (pc := 20) C dX5_hashOf_20 ?_
      refine iv_aload_n (pc := 21) C 0 dX5_hashOf_21 rfl rfl ?_
      refine iv_iload (pc := 22) C 4 dX5_hashOf_22 rfl ?_
      refine iv_callS (pc := 24) C [.ref (G.2.1 a2), .int v3] (k_X5_at l G hJ.1 a2 ha2 v3 σ rfl) gX5_hashOf_X5_at rfl qd_X5_at ⟨rfl, rfl, Nat.le_of_ble_eq_true rfl, Nat.le_of_ble_eq_true rfl⟩ rfl rfl (Nat.le_of_ble_eq_true rfl) dX5_hashOf_24 ?_
      refine iv_i2l (pc := 27) C dX5_hashOf_27 ?_
      refine iv_ladd (pc := 28) C dX5_hashOf_28 ?_
      refine iv_topl (fun v5 ev5 => ?_)
      replace h := iw_lete ev5 h
      refine iv_lstore (pc := 29) C [(5, .long v5), (2, .ref (G.2.1 a2)), (3, .int p3), (4, .int p4), (7, .int v3)] dX5_hashOf_29 (by decide) rfl ?_
      obtain ⟨v6, ev6⟩ : ∃ y : Int32, y = v3 + (1 : Int32) := ⟨_, rfl⟩
      replace h := iw_lete ev6 h
      refine iv_iinc (pc := 31) C 4 v6 [(7, .int v6), (5, .long v5), (2, .ref (G.2.1 a2)), (3, .int p3), (4, .int p4)] dX5_hashOf_31 rfl (by rw [ev6]; rfl) (by decide) rfl ?_
      refine iv_goto (pc := 34) C 6 dX5_hashOf_34 (by decide) ?_
      exact iv_sub [2, 3, 4, 1, 0] rfl (hr6 v5 v6 h)
  have vL6 : ∀ (nn : Nat) (v2 : Int64) (v3 : Int32), f_X5_hashOf_L6 a2 p3 p4 σ (f_X5_hashOf_X37_6) nn v2 v3 = some r → iw_V p l e rm_X5_hashOf s m ([.long p1, .ref (G.2.1 a2), .int p3, .int p4] : List Value).toArray below meth c0 0 0 (MQ below (iw_Q (some (.long r)) G σ) ([.long p1, .ref (G.2.1 a2), .int p3, .int p4] : List Value).toArray s 0 0 (iw_A G)) 8 G (iw_A G) σ 6 [(2, .ref (G.2.1 a2)), (3, .int p3), (4, .int p4), (5, .long v2), (7, .int v3)] [] := by
    intro nn
    induction nn with
    | zero => intro v2 v3 h; exact absurd h (fun q => by cases q)
    | succ nn ih => intro v2 v3 h; exact vB6 (f_X5_hashOf_X37_6) (f_X5_hashOf_L6 a2 p3 p4 σ (f_X5_hashOf_X37_6) nn) vX6 ih v2 v3 h
  exact iv_sub [3, 4, 5, 1, 0] rfl (vL6 n p1 p3 h)
theorem qd_X5_hashOf : yX5_hashOf.cls ≠ "java/lang/invoke/MethodHandle" ∧ yX5_hashOf.cls ≠ "java/lang/invoke/VarHandle" ∧ (parseMethodDescriptor yX5_hashOf.desc).map (fun d => d.parameters.length) = some 4 := by decide +kernel
def f_J7_fill_53178_X20_5 (m2 : iw_M) : Option (iw_M) :=
some m2
def f_J7_fill_53178_B5 (a1 : Nat) (p2 : Int32) (v1 : Int32) (k5 : iw_M → Option (iw_M)) (r5 : Int32 → iw_M → Option (iw_M)) (v3 : Int32) (m4 : iw_M) : Option (iw_M) :=
if v1 ≤ v3 then
(k5 m4)
else
((iw_wr m4 a1 v3 p2).bind fun m6 =>
iw_let (v3 + (1 : Int32)) fun v7 =>
r5 v7 m6)
def f_J7_fill_53178_L5 (a1 : Nat) (p2 : Int32) (v1 : Int32) (k5 : iw_M → Option (iw_M)) (nn : Nat) : Int32 → iw_M → Option (iw_M) :=
iw_it (fun r5 => f_J7_fill_53178_B5 a1 p2 v1 k5 r5) (fun _ _ => none) nn
def f_J7_fill_53178 (n : Nat) (a1 : Nat) (p2 : Int32) (σ : iw_M) : Option (iw_M) :=
iw_let (nI (iw_al a1)) fun v1 =>
f_J7_fill_53178_L5 a1 p2 v1 (f_J7_fill_53178_X20_5) n (0 : Int32) σ
abbrev rm_J7_fill_53178 : Room := { frames := 0, cells := 0, slots := 0, locals := 0 }
set_option maxHeartbeats 4000000 in
set_option maxRecDepth 100000 in
theorem k_J7_fill_53178 (l : Launch) (G : iw_G) (hJ : iw_JX G) (n : Nat) (a1 : Nat) (ha1 : iw_ia G a1) (p2 : Int32) (σ : iw_M) {σ' : iw_M} (h : f_J7_fill_53178 n a1 p2 σ = some σ') : iw_Ct l yJ7_fill_53178 wsJ7_fill_53178 rm_J7_fill_53178 G ([.ref (G.2.1 a1), .int p2] : List Value) σ none σ' := by
  refine iv_start (nL := 4) (own := RJ7) (ret := none) (cc := cJ7_fill_53178) (by decide +kernel) rfl rfl hJ.1 (Nat.le_of_ble_eq_true rfl) ?_
  intro p e s m below meth c0 C hr hlk
  refine iv_sub (lv' := [(0, .ref (G.2.1 a1)), (1, .int p2)]) [0, 1] rfl ?_
  unfold f_J7_fill_53178 at h
  refine iv_iconst (pc := 0) C (0 : Int32) dJ7_fill_53178_0 (by decide) ?_
  refine iv_istore_n (pc := 1) C [(2, .int (0 : Int32)), (0, .ref (G.2.1 a1)), (1, .int p2)] dJ7_fill_53178_1 rfl (by decide) rfl ?_
  refine iv_aload_n (pc := 2) C 1 dJ7_fill_53178_2 rfl rfl ?_
  refine iv_alen (pc := 3) C a1 ha1.2 ha1.1 dJ7_fill_53178_3 ?_
  refine iv_topi (fun v1 ev1 => ?_)
  replace h := iw_lete ev1 h
  refine iv_istore_n (pc := 4) C [(3, .int v1), (2, .int (0 : Int32)), (0, .ref (G.2.1 a1)), (1, .int p2)] dJ7_fill_53178_4 rfl (by decide) rfl ?_
  have vX5 : ∀ (m2 : iw_M), f_J7_fill_53178_X20_5 m2 = some σ' → iw_V p l e rm_J7_fill_53178 s m ([.ref (G.2.1 a1), .int p2] : List Value).toArray below meth c0 0 0 (MQ below (iw_Q none G σ') ([.ref (G.2.1 a1), .int p2] : List Value).toArray s 0 0 (iw_A G)) 4 G (iw_A G) m2 20 [] [] := by
    intro m2 h
    unfold f_J7_fill_53178_X20_5 at h
    cases h
    exact iv_vret C hr hlk rfl rfl dJ7_fill_53178_20
  have vB5 : ∀ (k5 : iw_M → Option (iw_M)) (r5 : Int32 → iw_M → Option (iw_M)), (∀ (m2 : iw_M), k5 m2 = some σ' → iw_V p l e rm_J7_fill_53178 s m ([.ref (G.2.1 a1), .int p2] : List Value).toArray below meth c0 0 0 (MQ below (iw_Q none G σ') ([.ref (G.2.1 a1), .int p2] : List Value).toArray s 0 0 (iw_A G)) 4 G (iw_A G) m2 20 [] []) → (∀ (v3 : Int32) (m4 : iw_M), r5 v3 m4 = some σ' → iw_V p l e rm_J7_fill_53178 s m ([.ref (G.2.1 a1), .int p2] : List Value).toArray below meth c0 0 0 (MQ below (iw_Q none G σ') ([.ref (G.2.1 a1), .int p2] : List Value).toArray s 0 0 (iw_A G)) 4 G (iw_A G) m4 5 [(0, .ref (G.2.1 a1)), (1, .int p2), (2, .int v3), (3, .int v1)] []) → ∀ (v3 : Int32) (m4 : iw_M), f_J7_fill_53178_B5 a1 p2 v1 k5 r5 v3 m4 = some σ' → iw_V p l e rm_J7_fill_53178 s m ([.ref (G.2.1 a1), .int p2] : List Value).toArray below meth c0 0 0 (MQ below (iw_Q none G σ') ([.ref (G.2.1 a1), .int p2] : List Value).toArray s 0 0 (iw_A G)) 4 G (iw_A G) m4 5 [(0, .ref (G.2.1 a1)), (1, .int p2), (2, .int v3), (3, .int v1)] [] := by
    intro k5 r5 hk5 hr5 v3 m4 h
    unfold f_J7_fill_53178_B5 at h
    refine iv_iload_n (pc := 5) C 2 dJ7_fill_53178_5 rfl rfl ?_
    refine iv_iload_n (pc := 6) C 3 dJ7_fill_53178_6 rfl rfl ?_
    refine iv_icmp_ge (pc := 7) C 20 dJ7_fill_53178_7 (by decide) (fun h5 => ?_) (fun h5 => ?_)
    · replace h := iw_ift h5 h
      exact iv_sub [] rfl (hk5 m4 h)
    · replace h := iw_iff h5 h
      refine iv_aload_n (pc := 10) C 0 dJ7_fill_53178_10 rfl rfl ?_
      refine iv_iload_n (pc := 11) C 2 dJ7_fill_53178_11 rfl rfl ?_
      refine iv_iload_n (pc := 12) C 1 dJ7_fill_53178_12 rfl rfl ?_
      obtain ⟨m6, em6, h⟩ := iw_be h
      refine iv_wr (pc := 13) C a1 ha1 em6 dJ7_fill_53178_13 ?_
      obtain ⟨v7, ev7⟩ : ∃ y : Int32, y = v3 + (1 : Int32) := ⟨_, rfl⟩
      replace h := iw_lete ev7 h
      refine iv_iinc (pc := 14) C 2 v7 [(2, .int v7), (0, .ref (G.2.1 a1)), (1, .int p2), (3, .int v1)] dJ7_fill_53178_14 rfl (by rw [ev7]; rfl) (by decide) rfl ?_
      refine iv_goto (pc := 17) C 5 dJ7_fill_53178_17 (by decide) ?_
      exact iv_sub [1, 2, 0, 3] rfl (hr5 v7 m6 h)
  have vL5 : ∀ (nn : Nat) (v3 : Int32) (m4 : iw_M), f_J7_fill_53178_L5 a1 p2 v1 (f_J7_fill_53178_X20_5) nn v3 m4 = some σ' → iw_V p l e rm_J7_fill_53178 s m ([.ref (G.2.1 a1), .int p2] : List Value).toArray below meth c0 0 0 (MQ below (iw_Q none G σ') ([.ref (G.2.1 a1), .int p2] : List Value).toArray s 0 0 (iw_A G)) 4 G (iw_A G) m4 5 [(0, .ref (G.2.1 a1)), (1, .int p2), (2, .int v3), (3, .int v1)] [] := by
    intro nn
    induction nn with
    | zero => intro v3 m4 h; exact absurd h (fun q => by cases q)
    | succ nn ih => intro v3 m4 h; exact vB5 (f_J7_fill_53178_X20_5) (f_J7_fill_53178_L5 a1 p2 v1 (f_J7_fill_53178_X20_5) nn) vX5 ih v3 m4 h
  exact iv_sub [2, 3, 1, 0] rfl (vL5 n (0 : Int32) σ h)
theorem qd_J7_fill_53178 : yJ7_fill_53178.cls ≠ "java/lang/invoke/MethodHandle" ∧ yJ7_fill_53178.cls ≠ "java/lang/invoke/VarHandle" ∧ (parseMethodDescriptor yJ7_fill_53178.desc).map (fun d => d.parameters.length) = some 2 := by decide +kernel
def f_X5_holds (p1 : Int32) (p2 : Int32) : Int32 :=
if p2 < (0 : Int32) then
((0 : Int32))
else
(if (10 : Int32) ≤ p2 then
((0 : Int32))
else
(if ((p1 >>> (p2 &&& 31)) &&& (1 : Int32)) = (1 : Int32) then
((1 : Int32))
else
((0 : Int32))))
abbrev rm_X5_holds : Room := { frames := 0, cells := 0, slots := 0, locals := 0 }
set_option maxHeartbeats 4000000 in
set_option maxRecDepth 100000 in
theorem k_X5_holds (l : Launch) (G : iw_G) (hJ : iw_JX G) (p1 : Int32) (p2 : Int32) (σ : iw_M) {r : Int32} (h : f_X5_holds p1 p2 = r) : iw_Ct l yX5_holds wsX5_holds rm_X5_holds G ([.int p1, .int p2] : List Value) σ (some (.int r)) σ := by
  refine iv_start (nL := 2) (own := RX5) (ret := (some .boolean)) (cc := cX5_holds) (by decide +kernel) rfl rfl hJ.1 (Nat.le_of_ble_eq_true rfl) ?_
  intro p e s m below meth c0 C hr hlk
  refine iv_sub (lv' := [(0, .int p1), (1, .int p2)]) [0, 1] rfl ?_
  unfold f_X5_holds at h
  refine iv_iload_n (pc := 0) C 1 dX5_holds_0 rfl rfl ?_
  refine iv_if_lt (pc := 1) C 23 dX5_holds_1 (by decide) (fun h1 => ?_) (fun h1 => ?_)
  · replace h := iw_ift h1 h
    refine iv_iconst (pc := 23) C (0 : Int32) dX5_holds_23 (by decide) ?_
    cases h
    exact iv_zret C hr hlk rfl rfl dX5_holds_24
  · replace h := iw_iff h1 h
    refine iv_iload_n (pc := 4) C 1 dX5_holds_4 rfl rfl ?_
    refine iv_bipush (pc := 5) C (10 : Int32) dX5_holds_5 (by decide) ?_
    refine iv_icmp_ge (pc := 7) C 23 dX5_holds_7 (by decide) (fun h2 => ?_) (fun h2 => ?_)
    · replace h := iw_ift h2 h
      refine iv_iconst (pc := 23) C (0 : Int32) dX5_holds_23 (by decide) ?_
      cases h
      exact iv_zret C hr hlk rfl rfl dX5_holds_24
    · replace h := iw_iff h2 h
      refine iv_iload_n (pc := 10) C 0 dX5_holds_10 rfl rfl ?_
      refine iv_iload_n (pc := 11) C 1 dX5_holds_11 rfl rfl ?_
      refine iv_ishr (pc := 12) C dX5_holds_12 ?_
      refine iv_iconst (pc := 13) C (1 : Int32) dX5_holds_13 (by decide) ?_
      refine iv_iand (pc := 14) C dX5_holds_14 ?_
      refine iv_iconst (pc := 15) C (1 : Int32) dX5_holds_15 (by decide) ?_
      refine iv_icmp_ne (pc := 16) C 23 dX5_holds_16 (by decide) (fun h3 => ?_) (fun h3 => ?_)
      · replace h := iw_iff h3 h
        refine iv_iconst (pc := 23) C (0 : Int32) dX5_holds_23 (by decide) ?_
        cases h
        exact iv_zret C hr hlk rfl rfl dX5_holds_24
      · replace h := iw_ift h3 h
        refine iv_iconst (pc := 19) C (1 : Int32) dX5_holds_19 (by decide) ?_
        refine iv_goto (pc := 20) C 24 dX5_holds_20 (by decide) ?_
        cases h
        exact iv_zret C hr hlk rfl rfl dX5_holds_24
theorem qd_X5_holds : yX5_holds.cls ≠ "java/lang/invoke/MethodHandle" ∧ yX5_holds.cls ≠ "java/lang/invoke/VarHandle" ∧ (parseMethodDescriptor yX5_holds.desc).map (fun d => d.parameters.length) = some 2 := by decide +kernel
