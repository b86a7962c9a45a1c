def f_L_low (p1 : Int32) (p2 : Int32) : Option (Int32) :=
(iw_rem (p1 &&& (2147483647 : Int32)) p2).bind fun v1 =>
some v1
abbrev rm_L_low : Room := { frames := 0, cells := 0, slots := 0, locals := 0 }
set_option maxHeartbeats 4000000 in
set_option maxRecDepth 100000 in
theorem k_L_low (l : Launch) (G : iw_G) (hJ : iw_JX G) (p1 : Int32) (p2 : Int32) (σ : iw_M) {r : Int32} (h : f_L_low p1 p2 = some r) : iw_Ct l yL_low wsL_low rm_L_low G ([.int p1, .int p2] : List Value) σ (some (.int r)) σ := by
  refine iv_start (nL := 2) (own := RL) (ret := (some .int)) (cc := cL_low) (by decide +kernel) rfl rfl hJ.1 (Nat.le_of_ble_eq_true rfl) ?_
  intro p e s m below meth c0 C hr hlk
  refine iv_sub (lv' := [(0, .int p1), (1, .int p2)]) [0, 1] rfl ?_
  unfold f_L_low at h
  refine iv_iload_n (pc := 0) C 0 dL_low_0 rfl rfl ?_
  refine iv_ldc (pc := 1) C (2147483647 : Int32) (by decide +kernel) dL_low_1 ?_
  refine iv_iand (pc := 3) C dL_low_3 ?_
  refine iv_iload_n (pc := 4) C 1 dL_low_4 rfl rfl ?_
  obtain ⟨v1, ev1, h⟩ := iw_be h
  refine iv_rem (pc := 5) C ev1 dL_low_5 ?_
  cases h
  exact iv_iret C hr hlk rfl rfl dL_low_6
theorem qd_L_low : yL_low.cls ≠ "java/lang/invoke/MethodHandle" ∧ yL_low.cls ≠ "java/lang/invoke/VarHandle" ∧ (parseMethodDescriptor yL_low.desc).map (fun d => d.parameters.length) = some 2 := by decide +kernel
def f_L_linkOf_X59_2  : Option (Int32) :=
some (-1 : Int32)
def f_L_linkOf_J53 (r2 : Int32 → Option (Int32)) (v1 : Int32) : Option (Int32) :=
iw_let (v1 + (1 : Int32)) fun v6 =>
r2 v6
def f_L_linkOf_J39 (p2 : Int32) (p3 : Int32) (r2 : Int32 → Option (Int32)) (v1 : Int32) (v4 : Int32) (v5 : Int32) : Option (Int32) :=
if v4 = p3 then
(if v5 = p2 then
(some v1)
else
(f_L_linkOf_J53 r2 v1))
else
(f_L_linkOf_J53 r2 v1)
def f_L_linkOf_B2 (n : Nat) (p2 : Int32) (p3 : Int32) (σ : iw_M) (k2 : Option (Int32)) (r2 : Int32 → Option (Int32)) (v1 : Int32) : Option (Int32) :=
(f_X5_count n (1 : Int32) σ).bind fun v2 =>
if v2 ≤ v1 then
(k2)
else
(iw_let (f_X5_linkPart v1 (0 : Int32) σ) fun v4 =>
iw_let (f_X5_linkPart v1 (1 : Int32) σ) fun v5 =>
if v4 = p2 then
(if v5 = p3 then
(some v1)
else
(f_L_linkOf_J39 p2 p3 r2 v1 v4 v5))
else
(f_L_linkOf_J39 p2 p3 r2 v1 v4 v5))
def f_L_linkOf_L2 (n : Nat) (p2 : Int32) (p3 : Int32) (σ : iw_M) (k2 : Option (Int32)) (nn : Nat) : Int32 → Option (Int32) :=
iw_it (fun r2 => f_L_linkOf_B2 n p2 p3 σ k2 r2) (fun _ => none) nn
def f_L_linkOf (n : Nat) (p2 : Int32) (p3 : Int32) (σ : iw_M) : Option (Int32) :=
f_L_linkOf_L2 n p2 p3 σ (f_L_linkOf_X59_2) n (0 : Int32)
abbrev rm_L_linkOf : Room := { frames := 4, cells := 0, slots := 0, locals := 85 }
set_option maxHeartbeats 4000000 in
set_option maxRecDepth 100000 in
theorem k_L_linkOf (l : Launch) (G : iw_G) (hJ : iw_JX G) (n : Nat) (p2 : Int32) (p3 : Int32) (σ : iw_M) {r : Int32} (h : f_L_linkOf n p2 p3 σ = some r) : iw_Ct l yL_linkOf wsL_linkOf rm_L_linkOf G ([.ref (G.2.1 0), .int p2, .int p3] : List Value) σ (some (.int r)) σ := by
  refine iv_start (nL := 6) (own := RL) (ret := (some .int)) (cc := cL_linkOf) (by decide +kernel) rfl rfl hJ.1 (Nat.le_of_ble_eq_true rfl) ?_
  intro p e s m below meth c0 C hr hlk
  refine iv_sub (lv' := [(0, .ref (G.2.1 0)), (1, .int p2), (2, .int p3)]) [0, 1, 2] rfl ?_
  unfold f_L_linkOf at h
  refine iv_iconst (pc := 0) C (0 : Int32) dL_linkOf_0 (by decide) ?_
  refine iv_istore_n (pc := 1) C [(3, .int (0 : Int32)), (0, .ref (G.2.1 0)), (1, .int p2), (2, .int p3)] dL_linkOf_1 rfl (by decide) rfl ?_
  have vX2 : f_L_linkOf_X59_2  = some r → iw_V p l e rm_L_linkOf s m ([.ref (G.2.1 0), .int p2, .int p3] : List Value).toArray below meth c0 0 0 (MQ below (iw_Q (some (.int r)) G σ) ([.ref (G.2.1 0), .int p2, .int p3] : List Value).toArray s 0 0 (iw_A G)) 6 G (iw_A G) σ 59 [] [] := by
    intro h
    unfold f_L_linkOf_X59_2 at h
    refine iv_iconst (pc := 59) C (-1 : Int32) dL_linkOf_59 (by decide) ?_
    cases h
    exact iv_iret C hr hlk rfl rfl dL_linkOf_60
  have vB2 : ∀ (k2 : Option (Int32)) (r2 : Int32 → Option (Int32)), (k2  = some r → iw_V p l e rm_L_linkOf s m ([.ref (G.2.1 0), .int p2, .int p3] : List Value).toArray below meth c0 0 0 (MQ below (iw_Q (some (.int r)) G σ) ([.ref (G.2.1 0), .int p2, .int p3] : List Value).toArray s 0 0 (iw_A G)) 6 G (iw_A G) σ 59 [] []) → (∀ (v1 : Int32), r2 v1 = some r → iw_V p l e rm_L_linkOf s m ([.ref (G.2.1 0), .int p2, .int p3] : List Value).toArray below meth c0 0 0 (MQ below (iw_Q (some (.int r)) G σ) ([.ref (G.2.1 0), .int p2, .int p3] : List Value).toArray s 0 0 (iw_A G)) 6 G (iw_A G) σ 2 [(0, .ref (G.2.1 0)), (1, .int p2), (2, .int p3), (3, .int v1)] []) → ∀ (v1 : Int32), f_L_linkOf_B2 n p2 p3 σ k2 r2 v1 = some r → iw_V p l e rm_L_linkOf s m ([.ref (G.2.1 0), .int p2, .int p3] : List Value).toArray below meth c0 0 0 (MQ below (iw_Q (some (.int r)) G σ) ([.ref (G.2.1 0), .int p2, .int p3] : List Value).toArray s 0 0 (iw_A G)) 6 G (iw_A G) σ 2 [(0, .ref (G.2.1 0)), (1, .int p2), (2, .int p3), (3, .int v1)] [] := by
    intro k2 r2 hk2 hr2 v1 h
    unfold f_L_linkOf_B2 at h
    refine iv_iload_n (pc := 2) C 3 dL_linkOf_2 rfl rfl ?_
    refine iv_aload_n (pc := 3) C 0 dL_linkOf_3 rfl rfl ?_
    refine iv_iconst (pc := 4) C (1 : Int32) dL_linkOf_4 (by decide) ?_
    obtain ⟨v2, ev2, h⟩ := iw_be h
    refine iv_callV (pc := 5) (b := 0) (ci := 5) C [.int (1 : Int32)] (k_X5_count l G hJ n (1 : Int32) σ ev2) gL_linkOf_X5_count rfl qd_X5_count ⟨rfl, rfl, Nat.le_of_ble_eq_true rfl, Nat.le_of_ble_eq_true rfl⟩ (iw_ix hJ (by decide)) iw_Eo0 rfl rfl rfl (Nat.le_of_ble_eq_true rfl) dL_linkOf_5 ?_
    refine iv_icmp_ge (pc := 8) C 59 dL_linkOf_8 (by decide) (fun h3 => ?_) (fun h3 => ?_)
    · replace h := iw_ift h3 h
      exact iv_sub [] rfl (hk2 h)
    · replace h := iw_iff h3 h
      refine iv_aload_n (pc := 11) C 0 dL_linkOf_11 rfl rfl ?_
      refine iv_iload_n (pc := 12) C 3 dL_linkOf_12 rfl rfl ?_
      refine iv_iconst (pc := 13) C (0 : Int32) dL_linkOf_13 (by decide) ?_
      refine iv_callV (pc := 14) (b := 0) (ci := 5) C [.int v1, .int (0 : Int32)] (k_X5_linkPart l G hJ v1 (0 : Int32) σ rfl) gL_linkOf_X5_linkPart rfl qd_X5_linkPart ⟨rfl, rfl, Nat.le_of_ble_eq_true rfl, Nat.le_of_ble_eq_true rfl⟩ (iw_ix hJ (by decide)) iw_Eo0 rfl rfl rfl (Nat.le_of_ble_eq_true rfl) dL_linkOf_14 ?_
      refine iv_topi (fun v4 ev4 => ?_)
      replace h := iw_lete ev4 h
      refine iv_istore (pc := 17) C [(4, .int v4), (0, .ref (G.2.1 0)), (1, .int p2), (2, .int p3), (3, .int v1)] dL_linkOf_17 (by decide) rfl ?_
      refine iv_aload_n (pc := 19) C 1 dL_linkOf_19 rfl rfl ?_
      refine iv_iload_n (pc := 20) C 4 dL_linkOf_20 rfl rfl ?_
      refine iv_iconst (pc := 21) C (1 : Int32) dL_linkOf_21 (by decide) ?_
      refine iv_callV (pc := 22) (b := 0) (ci := 5) C [.int v1, .int (1 : Int32)] (k_X5_linkPart l G hJ v1 (1 : Int32) σ rfl) gL_linkOf_X5_linkPart rfl qd_X5_linkPart ⟨rfl, rfl, Nat.le_of_ble_eq_true rfl, Nat.le_of_ble_eq_true rfl⟩ (iw_ix hJ (by decide)) iw_Eo0 rfl rfl rfl (Nat.le_of_ble_eq_true rfl) dL_linkOf_22 ?_
      refine iv_topi (fun v5 ev5 => ?_)
      replace h := iw_lete ev5 h
      refine iv_istore (pc := 25) C [(5, .int v5), (4, .int v4), (0, .ref (G.2.1 0)), (1, .int p2), (2, .int p3), (3, .int v1)] dL_linkOf_25 (by decide) rfl ?_
      refine iv_iload (pc := 27) C 1 dL_linkOf_27 rfl ?_
      refine iv_iload_n (pc := 29) C 3 dL_linkOf_29 rfl rfl ?_
      have vJ39 : f_L_linkOf_J39 p2 p3 r2 v1 v4 v5  = some r → iw_V p l e rm_L_linkOf s m ([.ref (G.2.1 0), .int p2, .int p3] : List Value).toArray below meth c0 0 0 (MQ below (iw_Q (some (.int r)) G σ) ([.ref (G.2.1 0), .int p2, .int p3] : List Value).toArray s 0 0 (iw_A G)) 6 G (iw_A G) σ 39 [(0, .ref (G.2.1 0)), (1, .int p2), (2, .int p3), (3, .int v1), (4, .int v4), (5, .int v5)] [] := by
        intro h
        unfold f_L_linkOf_J39 at h
        refine iv_iload (pc := 39) C 4 dL_linkOf_39 rfl ?_
        refine iv_iload_n (pc := 41) C 2 dL_linkOf_41 rfl rfl ?_
        have vJ53 : f_L_linkOf_J53 r2 v1  = some r → iw_V p l e rm_L_linkOf s m ([.ref (G.2.1 0), .int p2, .int p3] : List Value).toArray below meth c0 0 0 (MQ below (iw_Q (some (.int r)) G σ) ([.ref (G.2.1 0), .int p2, .int p3] : List Value).toArray s 0 0 (iw_A G)) 6 G (iw_A G) σ 53 [(0, .ref (G.2.1 0)), (1, .int p2), (2, .int p3), (3, .int v1)] [] := by
          intro h
          unfold f_L_linkOf_J53 at h
          obtain ⟨v6, ev6⟩ : ∃ y : Int32, y = v1 + (1 : Int32) := ⟨_, rfl⟩
          replace h := iw_lete ev6 h
          refine iv_iinc (pc := 53) C 3 v6 [(3, .int v6), (0, .ref (G.2.1 0)), (1, .int p2), (2, .int p3)] dL_linkOf_53 rfl (by rw [ev6]; rfl) (by decide) rfl ?_
          refine iv_goto (pc := 56) C 2 dL_linkOf_56 (by decide) ?_
          exact iv_sub [1, 2, 3, 0] rfl (hr2 v6 h)
        refine iv_icmp_ne (pc := 42) C 53 dL_linkOf_42 (by decide) (fun h7 => ?_) (fun h7 => ?_)
        · replace h := iw_iff h7 h
          exact iv_sub [0, 1, 2, 3] rfl (vJ53 h)
        · replace h := iw_ift h7 h
          refine iv_iload (pc := 45) C 5 dL_linkOf_45 rfl ?_
          refine iv_iload_n (pc := 47) C 1 dL_linkOf_47 rfl rfl ?_
          refine iv_icmp_ne (pc := 48) C 53 dL_linkOf_48 (by decide) (fun h8 => ?_) (fun h8 => ?_)
          · replace h := iw_iff h8 h
            exact iv_sub [0, 1, 2, 3] rfl (vJ53 h)
          · replace h := iw_ift h8 h
            refine iv_iload_n (pc := 51) C 3 dL_linkOf_51 rfl rfl ?_
            cases h
            exact iv_iret C hr hlk rfl rfl dL_linkOf_52
      refine iv_icmp_ne (pc := 30) C 39 dL_linkOf_30 (by decide) (fun h9 => ?_) (fun h9 => ?_)
      · replace h := iw_iff h9 h
        exact iv_sub [2, 3, 4, 5, 1, 0] rfl (vJ39 h)
      · replace h := iw_ift h9 h
        refine iv_iload (pc := 33) C 0 dL_linkOf_33 rfl ?_
        refine iv_iload_n (pc := 35) C 4 dL_linkOf_35 rfl rfl ?_
        refine iv_icmp_eq (pc := 36) C 51 dL_linkOf_36 (by decide) (fun h10 => ?_) (fun h10 => ?_)
        · replace h := iw_ift h10 h
          refine iv_iload_n (pc := 51) C 5 dL_linkOf_51 rfl rfl ?_
          cases h
          exact iv_iret C hr hlk rfl rfl dL_linkOf_52
        · replace h := iw_iff h10 h
          exact iv_sub [2, 3, 4, 5, 1, 0] rfl (vJ39 h)
  have vL2 : ∀ (nn : Nat) (v1 : Int32), f_L_linkOf_L2 n p2 p3 σ (f_L_linkOf_X59_2) nn v1 = some r → iw_V p l e rm_L_linkOf s m ([.ref (G.2.1 0), .int p2, .int p3] : List Value).toArray below meth c0 0 0 (MQ below (iw_Q (some (.int r)) G σ) ([.ref (G.2.1 0), .int p2, .int p3] : List Value).toArray s 0 0 (iw_A G)) 6 G (iw_A G) σ 2 [(0, .ref (G.2.1 0)), (1, .int p2), (2, .int p3), (3, .int v1)] [] := by
    intro nn
    induction nn with
    | zero => intro v1 h; exact absurd h (fun q => by cases q)
    | succ nn ih => intro v1 h; exact vB2 (f_L_linkOf_X59_2) (f_L_linkOf_L2 n p2 p3 σ (f_L_linkOf_X59_2) nn) vX2 ih v1 h
  exact iv_sub [1, 2, 3, 0] rfl (vL2 n (0 : Int32) h)
theorem qd_L_linkOf : yL_linkOf.cls ≠ "java/lang/invoke/MethodHandle" ∧ yL_linkOf.cls ≠ "java/lang/invoke/VarHandle" ∧ (parseMethodDescriptor yL_linkOf.desc).map (fun d => d.parameters.length) = some 3 := by decide +kernel
def f_L_isSound_X464_125 (v8 : Int32) (v9 : Int32) (m10 : iw_M) : Option (Int32 × iw_M) :=
if v8 = v9 then
(some ((1 : Int32), m10))
else
(some ((0 : Int32), m10))
def f_L_isSound_X422_141 (n : Nat) (r125 : Int32 → Int32 → iw_M → Option (Int32 × iw_M)) (v13 : Int32) (v17 : Int32) (v18 : Int32) (m19 : iw_M) : Option (Int32 × iw_M) :=
(f_X5_interest n v13 (7 : Int32) m19).bind fun v20 =>
if v20 = v18 then
((f_X5_interest n v13 (5 : Int32) m19).bind fun v22 =>
if v22 < (0 : Int32) then
(some ((0 : Int32), m19))
else
((f_X5_interest n v13 (6 : Int32) m19).bind fun v24 =>
if (0 : Int32) ≤ v24 then
(iw_let (v13 + (1 : Int32)) fun v26 =>
r125 v17 v26 m19)
else
(some ((0 : Int32), m19))))
else
(some ((0 : Int32), m19))
def f_L_isSound_J413 (r141 : Int32 → Int32 → Int32 → iw_M → Option (Int32 × iw_M)) (v28 : Int32) (v29 : Int32) (v35 : Int32) (m39 : iw_M) (v42 : Int32) : Option (Int32 × iw_M) :=
iw_let (v28 + v42) fun v43 =>
iw_let (v29 + (1 : Int32)) fun v44 =>
r141 v35 v43 v44 m39
def f_L_isSound_J401 (r141 : Int32 → Int32 → Int32 → iw_M → Option (Int32 × iw_M)) (v28 : Int32) (v29 : Int32) (v33 : Int32) (v35 : Int32) (m39 : iw_M) : Option (Int32 × iw_M) :=
if v33 ≤ (0 : Int32) then
(f_L_isSound_J413 r141 v28 v29 v35 m39 (0 : Int32))
else
(f_L_isSound_J413 r141 v28 v29 v35 m39 (1 : Int32))
def f_L_isSound_J350 (n : Nat) (v13 : Int32) (r141 : Int32 → Int32 → Int32 → iw_M → Option (Int32 × iw_M)) (v28 : Int32) (v29 : Int32) (v33 : Int32) (v35 : Int32) (v38 : Int32) (m39 : iw_M) (v40 : Int32) : Option (Int32 × iw_M) :=
if v38 = v40 then
(if v33 ≤ (0 : Int32) then
(f_L_isSound_J401 r141 v28 v29 v33 v35 m39)
else
(if (f_X5_wayNode v13 v29 (0 : Int32) m39) = (f_X5_sensor v29 (0 : Int32) m39) then
((f_X5_interest n v13 (0 : Int32) m39).bind fun v48 =>
if (f_X5_wayNode v13 v29 (v33 - (1 : Int32)) m39) = v48 then
(f_L_isSound_J401 r141 v28 v29 v33 v35 m39)
else
(some ((0 : Int32), m39)))
else
(some ((0 : Int32), m39))))
else
(some ((0 : Int32), m39))
def f_L_isSound_X316_179 (n : Nat) (v13 : Int32) (r141 : Int32 → Int32 → Int32 → iw_M → Option (Int32 × iw_M)) (v28 : Int32) (v29 : Int32) (m30 : iw_M) (v33 : Int32) (v35 : Int32) (v36 : Int32) : Option (Int32 × iw_M) :=
if (f_X5_wayNode v13 v29 v33 m30) = (-1000 : Int32) then
(iw_b2 (f_X5_isWhole n v13 v29 m30) fun v38 m39 =>
if v36 = (0 : Int32) then
(f_L_isSound_J350 n v13 r141 v28 v29 v33 v35 v38 m39 (0 : Int32))
else
(f_L_isSound_J350 n v13 r141 v28 v29 v33 v35 v38 m39 (1 : Int32)))
else
(some ((0 : Int32), m30))
def f_L_isSound_J308 (r179 : Int32 → Int32 → Int32 → Int32 → Option (Int32 × iw_M)) (v54 : Int32) (v61 : Int32) (v64 : Int32) (v65 : Int32) : Option (Int32 × iw_M) :=
iw_let (v54 + (1 : Int32)) fun v66 =>
r179 v64 v61 v65 v66
def f_L_isSound_J307 (r179 : Int32 → Int32 → Int32 → Int32 → Option (Int32 × iw_M)) (v54 : Int32) (v61 : Int32) (v64 : Int32) : Option (Int32 × iw_M) :=
f_L_isSound_J308 r179 v54 v61 v64 (0 : Int32)
def f_L_isSound_J281 (m30 : iw_M) (r179 : Int32 → Int32 → Int32 → Int32 → Option (Int32 × iw_M)) (v51 : Int32) (v53 : Int32) (v54 : Int32) (v56 : Int32) (v61 : Int32) (v62 : Int32) (v63 : Int32) : Option (Int32 × iw_M) :=
iw_let (v51 + v63) fun v64 =>
if v53 = (0 : Int32) then
(f_L_isSound_J307 r179 v54 v61 v64)
else
(if (f_X5_energy v56 m30) ≤ (0 : Int32) then
(f_L_isSound_J307 r179 v54 v61 v64)
else
(if v62 < (0 : Int32) then
(f_L_isSound_J307 r179 v54 v61 v64)
else
(f_L_isSound_J308 r179 v54 v61 v64 (1 : Int32))))
def f_L_isSound_J280 (m30 : iw_M) (r179 : Int32 → Int32 → Int32 → Int32 → Option (Int32 × iw_M)) (v51 : Int32) (v53 : Int32) (v54 : Int32) (v56 : Int32) (v61 : Int32) (v62 : Int32) : Option (Int32 × iw_M) :=
f_L_isSound_J281 m30 r179 v51 v53 v54 v56 v61 v62 (0 : Int32)
def f_L_isSound_J262 (m30 : iw_M) (r179 : Int32 → Int32 → Int32 → Int32 → Option (Int32 × iw_M)) (v51 : Int32) (v53 : Int32) (v54 : Int32) (v56 : Int32) (v61 : Int32) (v62 : Int32) : Option (Int32 × iw_M) :=
if v54 ≤ (0 : Int32) then
(f_L_isSound_J280 m30 r179 v51 v53 v54 v56 v61 v62)
else
(if v62 < (0 : Int32) then
(f_L_isSound_J280 m30 r179 v51 v53 v54 v56 v61 v62)
else
(f_L_isSound_J281 m30 r179 v51 v53 v54 v56 v61 v62 (1 : Int32)))
def f_L_isSound_B179 (n : Nat) (v13 : Int32) (v29 : Int32) (m30 : iw_M) (v33 : Int32) (k179 : Int32 → Int32 → Option (Int32 × iw_M)) (r179 : Int32 → Int32 → Int32 → Int32 → Option (Int32 × iw_M)) (v51 : Int32) (v52 : Int32) (v53 : Int32) (v54 : Int32) : Option (Int32 × iw_M) :=
if v33 ≤ v54 then
(k179 v51 v53)
else
(iw_let (f_X5_wayNode v13 v29 v54 m30) fun v56 =>
if v56 < (0 : Int32) then
(some ((0 : Int32), m30))
else
((f_X5_count n (0 : Int32) m30).bind fun v58 =>
if v58 ≤ v56 then
(some ((0 : Int32), m30))
else
(if ((v52 >>> (v56 &&& 31)) &&& (1 : Int32)) = (1 : Int32) then
(some ((0 : Int32), m30))
else
(iw_let (v52 ||| ((1 : Int32) <<< (v56 &&& 31))) fun v61 =>
if v54 = (0 : Int32) then
(f_L_isSound_J262 m30 r179 v51 v53 v54 v56 v61 (0 : Int32))
else
((f_L_linkOf n (f_X5_wayNode v13 v29 (v54 - (1 : Int32)) m30) v56 m30).bind fun v73 =>
f_L_isSound_J262 m30 r179 v51 v53 v54 v56 v61 v73)))))
def f_L_isSound_L179 (n : Nat) (v13 : Int32) (v29 : Int32) (m30 : iw_M) (v33 : Int32) (k179 : Int32 → Int32 → Option (Int32 × iw_M)) (nn : Nat) : Int32 → Int32 → Int32 → Int32 → Option (Int32 × iw_M) :=
iw_it (fun r179 => f_L_isSound_B179 n v13 v29 m30 v33 k179 r179) (fun _ _ _ _ => none) nn
def f_L_isSound_J174 (n : Nat) (v13 : Int32) (r141 : Int32 → Int32 → Int32 → iw_M → Option (Int32 × iw_M)) (v27 : Int32) (v28 : Int32) (v29 : Int32) (m30 : iw_M) (v33 : Int32) (v34 : Int32) : Option (Int32 × iw_M) :=
f_L_isSound_L179 n v13 v29 m30 v33 (f_L_isSound_X316_179 n v13 r141 v28 v29 m30 v33) n v27 (0 : Int32) v34 (0 : Int32)
def f_L_isSound_B141 (n : Nat) (v13 : Int32) (k141 : Int32 → Int32 → iw_M → Option (Int32 × iw_M)) (r141 : Int32 → Int32 → Int32 → iw_M → Option (Int32 × iw_M)) (v27 : Int32) (v28 : Int32) (v29 : Int32) (m30 : iw_M) : Option (Int32 × iw_M) :=
(f_X5_count n (2 : Int32) m30).bind fun v31 =>
if v31 ≤ v29 then
(k141 v27 v28 m30)
else
(iw_let (f_X5_wayLength v13 v29 m30) fun v33 =>
if v33 ≤ (0 : Int32) then
(f_L_isSound_J174 n v13 r141 v27 v28 v29 m30 v33 (0 : Int32))
else
(f_L_isSound_J174 n v13 r141 v27 v28 v29 m30 v33 (1 : Int32)))
def f_L_isSound_L141 (n : Nat) (v13 : Int32) (k141 : Int32 → Int32 → iw_M → Option (Int32 × iw_M)) (nn : Nat) : Int32 → Int32 → Int32 → iw_M → Option (Int32 × iw_M) :=
iw_it (fun r141 => f_L_isSound_B141 n v13 k141 r141) (fun _ _ _ _ => none) nn
def f_L_isSound_B125 (n : Nat) (k125 : Int32 → iw_M → Option (Int32 × iw_M)) (r125 : Int32 → Int32 → iw_M → Option (Int32 × iw_M)) (v12 : Int32) (v13 : Int32) (m14 : iw_M) : Option (Int32 × iw_M) :=
(f_X5_count n (3 : Int32) m14).bind fun v15 =>
if v15 ≤ v13 then
(k125 v12 m14)
else
(f_L_isSound_L141 n v13 (f_L_isSound_X422_141 n r125 v13) n v12 (0 : Int32) (0 : Int32) m14)
def f_L_isSound_L125 (n : Nat) (k125 : Int32 → iw_M → Option (Int32 × iw_M)) (nn : Nat) : Int32 → Int32 → iw_M → Option (Int32 × iw_M) :=
iw_it (fun r125 => f_L_isSound_B125 n k125 r125) (fun _ _ _ => none) nn
def f_L_isSound_X119_92 (n : Nat) (σ : iw_M) (v8 : Int32) : Option (Int32 × iw_M) :=
f_L_isSound_L125 n (f_L_isSound_X464_125 v8) n (0 : Int32) (0 : Int32) σ
def f_L_isSound_B92 (n : Nat) (σ : iw_M) (k92 : Int32 → Option (Int32 × iw_M)) (r92 : Int32 → Int32 → Option (Int32 × iw_M)) (v75 : Int32) (v76 : Int32) : Option (Int32 × iw_M) :=
(f_X5_count n (1 : Int32) σ).bind fun v77 =>
if v77 ≤ v76 then
(k92 v75)
else
((f_X5_load n v76 σ).bind fun v79 =>
iw_let (v75 + v79) fun v80 =>
iw_let (v76 + (1 : Int32)) fun v81 =>
r92 v80 v81)
def f_L_isSound_L92 (n : Nat) (σ : iw_M) (k92 : Int32 → Option (Int32 × iw_M)) (nn : Nat) : Int32 → Int32 → Option (Int32 × iw_M) :=
iw_it (fun r92 => f_L_isSound_B92 n σ k92 r92) (fun _ _ => none) nn
def f_L_isSound_X60_7 (n : Nat) (σ : iw_M) (v1 : Int32) (v2 : Int32) : Option (Int32 × iw_M) :=
(f_X5_count n (10 : Int32) σ).bind fun v3 =>
(iw_rd σ 84 (0 : Int32)).bind fun v4 =>
if (v1 + v3) = v4 then
((f_X5_count n (6 : Int32) σ).bind fun v6 =>
if v2 = v6 then
(f_L_isSound_L92 n σ (f_L_isSound_X119_92 n σ) n (0 : Int32) (0 : Int32))
else
(some ((0 : Int32), σ)))
else
(some ((0 : Int32), σ))
def f_L_isSound_J41 (σ : iw_M) (r7 : Int32 → Int32 → Int32 → Option (Int32 × iw_M)) (v83 : Int32) (v84 : Int32) (v87 : Int32) (v88 : Int32) : Option (Int32 × iw_M) :=
iw_let (v83 + v88) fun v89 =>
if (0 : Int32) ≤ (f_X5_energy v84 σ) then
(iw_let (v84 + (1 : Int32)) fun v91 =>
r7 v87 v89 v91)
else
(some ((0 : Int32), σ))
def f_L_isSound_B7 (n : Nat) (σ : iw_M) (k7 : Int32 → Int32 → Option (Int32 × iw_M)) (r7 : Int32 → Int32 → Int32 → Option (Int32 × iw_M)) (v82 : Int32) (v83 : Int32) (v84 : Int32) : Option (Int32 × iw_M) :=
(f_X5_count n (0 : Int32) σ).bind fun v85 =>
if v85 ≤ v84 then
(k7 v82 v83)
else
(iw_let (v82 + (f_X5_energy v84 σ)) fun v87 =>
if (f_X5_energy v84 σ) ≤ (0 : Int32) then
(f_L_isSound_J41 σ r7 v83 v84 v87 (0 : Int32))
else
(f_L_isSound_J41 σ r7 v83 v84 v87 (1 : Int32)))
def f_L_isSound_L7 (n : Nat) (σ : iw_M) (k7 : Int32 → Int32 → Option (Int32 × iw_M)) (nn : Nat) : Int32 → Int32 → Int32 → Option (Int32 × iw_M) :=
iw_it (fun r7 => f_L_isSound_B7 n σ k7 r7) (fun _ _ _ => none) nn
def f_L_isSound (n : Nat) (σ : iw_M) : Option (Int32 × iw_M) :=
f_L_isSound_L7 n σ (f_L_isSound_X60_7 n σ) n (0 : Int32) (0 : Int32) (0 : Int32)
abbrev rm_L_isSound : Room := { frames := 5, cells := 0, slots := 0, locals := 110 }
set_option maxHeartbeats 4000000 in
set_option maxRecDepth 100000 in
theorem k_L_isSound (l : Launch) (G : iw_G) (hJ : iw_JX G) (n : Nat) (σ : iw_M) {r : Int32} {σ' : iw_M} (h : f_L_isSound n σ = some (r, σ')) : iw_Ct l yL_isSound wsL_isSound rm_L_isSound G ([.ref (G.2.1 0), .ref (G.2.1 84)] : List Value) σ (some (.int r)) σ' := by
  refine iv_start (nL := 15) (own := RL) (ret := (some .boolean)) (cc := cL_isSound) (by decide +kernel) rfl rfl hJ.1 (Nat.le_of_ble_eq_true rfl) ?_
  intro p e s m below meth c0 C hr hlk
  refine iv_sub (lv' := [(0, .ref (G.2.1 0)), (1, .ref (G.2.1 84))]) [0, 1] rfl ?_
  unfold f_L_isSound at h
  refine iv_iconst (pc := 0) C (0 : Int32) dL_isSound_0 (by decide) ?_
  refine iv_istore_n (pc := 1) C [(2, .int (0 : Int32)), (0, .ref (G.2.1 0)), (1, .ref (G.2.1 84))] dL_isSound_1 rfl (by decide) rfl ?_
  refine iv_iconst (pc := 2) C (0 : Int32) dL_isSound_2 (by decide) ?_
  refine iv_istore_n (pc := 3) C [(3, .int (0 : Int32)), (2, .int (0 : Int32)), (0, .ref (G.2.1 0)), (1, .ref (G.2.1 84))] dL_isSound_3 rfl (by decide) rfl ?_
  refine iv_iconst (pc := 4) C (0 : Int32) dL_isSound_4 (by decide) ?_
  refine iv_istore (pc := 5) C [(4, .int (0 : Int32)), (3, .int (0 : Int32)), (2, .int (0 : Int32)), (0, .ref (G.2.1 0)), (1, .ref (G.2.1 84))] dL_isSound_5 (by decide) rfl ?_
  have vX7 : ∀ (v1 : Int32) (v2 : Int32), f_L_isSound_X60_7 n σ v1 v2 = some (r, σ') → iw_V p l e rm_L_isSound s m ([.ref (G.2.1 0), .ref (G.2.1 84)] : List Value).toArray below meth c0 0 0 (MQ below (iw_Q (some (.int r)) G σ') ([.ref (G.2.1 0), .ref (G.2.1 84)] : List Value).toArray s 0 0 (iw_A G)) 15 G (iw_A G) σ 60 [(0, .ref (G.2.1 0)), (1, .ref (G.2.1 84)), (2, .int v1), (3, .int v2)] [] := by
    intro v1 v2 h
    unfold f_L_isSound_X60_7 at h
    refine iv_iload_n (pc := 60) C 2 dL_isSound_60 rfl rfl ?_
    refine iv_aload_n (pc := 61) C 0 dL_isSound_61 rfl rfl ?_
    refine iv_bipush (pc := 62) C (10 : Int32) dL_isSound_62 (by decide) ?_
    obtain ⟨v3, ev3, h⟩ := iw_be h
    refine iv_callV (pc := 64) (b := 0) (ci := 5) C [.int (10 : Int32)] (k_X5_count l G hJ n (10 : Int32) σ ev3) gL_isSound_X5_count rfl qd_X5_count ⟨rfl, rfl, Nat.le_of_ble_eq_true rfl, Nat.le_of_ble_eq_true rfl⟩ (iw_ix hJ (by decide)) iw_Eo0 rfl rfl rfl (Nat.le_of_ble_eq_true rfl) dL_isSound_64 ?_
    refine iv_iadd (pc := 67) C dL_isSound_67 ?_
    refine iv_aload_n (pc := 68) C 1 dL_isSound_68 rfl rfl ?_
    refine iv_iconst (pc := 69) C (0 : Int32) dL_isSound_69 (by decide) ?_
    obtain ⟨v4, ev4, h⟩ := iw_be h
    refine iv_rd (pc := 70) C 84 (iw_lx hJ rfl (by decide)) ev4 dL_isSound_70 ?_
    refine iv_icmp_ne (pc := 71) C 84 dL_isSound_71 (by decide) (fun h5 => ?_) (fun h5 => ?_)
    · replace h := iw_iff h5 h
      refine iv_iconst (pc := 84) C (0 : Int32) dL_isSound_84 (by decide) ?_
      cases h
      exact iv_zret C hr hlk rfl rfl dL_isSound_85
    · replace h := iw_ift h5 h
      refine iv_iload_n (pc := 74) C 3 dL_isSound_74 rfl rfl ?_
      refine iv_aload_n (pc := 75) C 0 dL_isSound_75 rfl rfl ?_
      refine iv_bipush (pc := 76) C (6 : Int32) dL_isSound_76 (by decide) ?_
      obtain ⟨v6, ev6, h⟩ := iw_be h
      refine iv_callV (pc := 78) (b := 0) (ci := 5) C [.int (6 : Int32)] (k_X5_count l G hJ n (6 : Int32) σ ev6) gL_isSound_X5_count rfl qd_X5_count ⟨rfl, rfl, Nat.le_of_ble_eq_true rfl, Nat.le_of_ble_eq_true rfl⟩ (iw_ix hJ (by decide)) iw_Eo0 rfl rfl rfl (Nat.le_of_ble_eq_true rfl) dL_isSound_78 ?_
      refine iv_icmp_eq (pc := 81) C 86 dL_isSound_81 (by decide) (fun h7 => ?_) (fun h7 => ?_)
      · replace h := iw_ift h7 h
        refine iv_iconst (pc := 86) C (0 : Int32) dL_isSound_86 (by decide) ?_
        refine iv_istore (pc := 87) C [(4, .int (0 : Int32)), (0, .ref (G.2.1 0)), (1, .ref (G.2.1 84)), (2, .int v1), (3, .int v2)] dL_isSound_87 (by decide) rfl ?_
        refine iv_iconst (pc := 89) C (0 : Int32) dL_isSound_89 (by decide) ?_
        refine iv_istore (pc := 90) C [(5, .int (0 : Int32)), (4, .int (0 : Int32)), (0, .ref (G.2.1 0)), (1, .ref (G.2.1 84)), (2, .int v1), (3, .int v2)] dL_isSound_90 (by decide) rfl ?_
        have vX92 : ∀ (v8 : Int32), f_L_isSound_X119_92 n σ v8 = some (r, σ') → iw_V p l e rm_L_isSound s m ([.ref (G.2.1 0), .ref (G.2.1 84)] : List Value).toArray below meth c0 0 0 (MQ below (iw_Q (some (.int r)) G σ') ([.ref (G.2.1 0), .ref (G.2.1 84)] : List Value).toArray s 0 0 (iw_A G)) 15 G (iw_A G) σ 119 [(0, .ref (G.2.1 0)), (4, .int v8)] [] := by
          intro v8 h
          unfold f_L_isSound_X119_92 at h
          refine iv_iconst (pc := 119) C (0 : Int32) dL_isSound_119 (by decide) ?_
          refine iv_istore (pc := 120) C [(5, .int (0 : Int32)), (0, .ref (G.2.1 0)), (4, .int v8)] dL_isSound_120 (by decide) rfl ?_
          refine iv_iconst (pc := 122) C (0 : Int32) dL_isSound_122 (by decide) ?_
          refine iv_istore (pc := 123) C [(6, .int (0 : Int32)), (5, .int (0 : Int32)), (0, .ref (G.2.1 0)), (4, .int v8)] dL_isSound_123 (by decide) rfl ?_
          have vX125 : ∀ (v9 : Int32) (m10 : iw_M), f_L_isSound_X464_125 v8 v9 m10 = some (r, σ') → iw_V p l e rm_L_isSound s m ([.ref (G.2.1 0), .ref (G.2.1 84)] : List Value).toArray below meth c0 0 0 (MQ below (iw_Q (some (.int r)) G σ') ([.ref (G.2.1 0), .ref (G.2.1 84)] : List Value).toArray s 0 0 (iw_A G)) 15 G (iw_A G) m10 464 [(4, .int v8), (5, .int v9)] [] := by
            intro v9 m10 h
            unfold f_L_isSound_X464_125 at h
            refine iv_iload (pc := 464) C 0 dL_isSound_464 rfl ?_
            refine iv_iload (pc := 466) C 1 dL_isSound_466 rfl ?_
            refine iv_icmp_ne (pc := 468) C 475 dL_isSound_468 (by decide) (fun h11 => ?_) (fun h11 => ?_)
            · replace h := iw_iff h11 h
              refine iv_iconst (pc := 475) C (0 : Int32) dL_isSound_475 (by decide) ?_
              cases h
              exact iv_zret C hr hlk rfl rfl dL_isSound_476
            · replace h := iw_ift h11 h
              refine iv_iconst (pc := 471) C (1 : Int32) dL_isSound_471 (by decide) ?_
              refine iv_goto (pc := 472) C 476 dL_isSound_472 (by decide) ?_
              cases h
              exact iv_zret C hr hlk rfl rfl dL_isSound_476
          have vB125 : ∀ (k125 : Int32 → iw_M → Option (Int32 × iw_M)) (r125 : Int32 → Int32 → iw_M → Option (Int32 × iw_M)), (∀ (v9 : Int32) (m10 : iw_M), k125 v9 m10 = some (r, σ') → iw_V p l e rm_L_isSound s m ([.ref (G.2.1 0), .ref (G.2.1 84)] : List Value).toArray below meth c0 0 0 (MQ below (iw_Q (some (.int r)) G σ') ([.ref (G.2.1 0), .ref (G.2.1 84)] : List Value).toArray s 0 0 (iw_A G)) 15 G (iw_A G) m10 464 [(4, .int v8), (5, .int v9)] []) → (∀ (v12 : Int32) (v13 : Int32) (m14 : iw_M), r125 v12 v13 m14 = some (r, σ') → iw_V p l e rm_L_isSound s m ([.ref (G.2.1 0), .ref (G.2.1 84)] : List Value).toArray below meth c0 0 0 (MQ below (iw_Q (some (.int r)) G σ') ([.ref (G.2.1 0), .ref (G.2.1 84)] : List Value).toArray s 0 0 (iw_A G)) 15 G (iw_A G) m14 125 [(0, .ref (G.2.1 0)), (4, .int v8), (5, .int v12), (6, .int v13)] []) → ∀ (v12 : Int32) (v13 : Int32) (m14 : iw_M), f_L_isSound_B125 n k125 r125 v12 v13 m14 = some (r, σ') → iw_V p l e rm_L_isSound s m ([.ref (G.2.1 0), .ref (G.2.1 84)] : List Value).toArray below meth c0 0 0 (MQ below (iw_Q (some (.int r)) G σ') ([.ref (G.2.1 0), .ref (G.2.1 84)] : List Value).toArray s 0 0 (iw_A G)) 15 G (iw_A G) m14 125 [(0, .ref (G.2.1 0)), (4, .int v8), (5, .int v12), (6, .int v13)] [] := by
            intro k125 r125 hk125 hr125 v12 v13 m14 h
            unfold f_L_isSound_B125 at h
            refine iv_iload (pc := 125) C 3 dL_isSound_125 rfl ?_
            refine iv_aload_n (pc := 127) C 0 dL_isSound_127 rfl rfl ?_
            refine iv_iconst (pc := 128) C (3 : Int32) dL_isSound_128 (by decide) ?_
            obtain ⟨v15, ev15, h⟩ := iw_be h
            refine iv_callV (pc := 129) (b := 0) (ci := 5) C [.int (3 : Int32)] (k_X5_count l G hJ n (3 : Int32) m14 ev15) gL_isSound_X5_count rfl qd_X5_count ⟨rfl, rfl, Nat.le_of_ble_eq_true rfl, Nat.le_of_ble_eq_true rfl⟩ (iw_ix hJ (by decide)) iw_Eo0 rfl rfl rfl (Nat.le_of_ble_eq_true rfl) dL_isSound_129 ?_
            refine iv_icmp_ge (pc := 132) C 464 dL_isSound_132 (by decide) (fun h16 => ?_) (fun h16 => ?_)
            · replace h := iw_ift h16 h
              exact iv_sub [1, 2] rfl (hk125 v12 m14 h)
            · replace h := iw_iff h16 h
              refine iv_iconst (pc := 135) C (0 : Int32) dL_isSound_135 (by decide) ?_
              refine iv_istore (pc := 136) C [(7, .int (0 : Int32)), (0, .ref (G.2.1 0)), (4, .int v8), (5, .int v12), (6, .int v13)] dL_isSound_136 (by decide) rfl ?_
              refine iv_iconst (pc := 138) C (0 : Int32) dL_isSound_138 (by decide) ?_
              refine iv_istore (pc := 139) C [(8, .int (0 : Int32)), (7, .int (0 : Int32)), (0, .ref (G.2.1 0)), (4, .int v8), (5, .int v12), (6, .int v13)] dL_isSound_139 (by decide) rfl ?_
              have vX141 : ∀ (v17 : Int32) (v18 : Int32) (m19 : iw_M), f_L_isSound_X422_141 n r125 v13 v17 v18 m19 = some (r, σ') → iw_V p l e rm_L_isSound s m ([.ref (G.2.1 0), .ref (G.2.1 84)] : List Value).toArray below meth c0 0 0 (MQ below (iw_Q (some (.int r)) G σ') ([.ref (G.2.1 0), .ref (G.2.1 84)] : List Value).toArray s 0 0 (iw_A G)) 15 G (iw_A G) m19 422 [(0, .ref (G.2.1 0)), (4, .int v8), (5, .int v17), (6, .int v13), (7, .int v18)] [] := by
                intro v17 v18 m19 h
                unfold f_L_isSound_X422_141 at h
                refine iv_aload_n (pc := 422) C 0 dL_isSound_422 rfl rfl ?_
                refine iv_iload (pc := 423) C 3 dL_isSound_423 rfl ?_
                refine iv_bipush (pc := 425) C (7 : Int32) dL_isSound_425 (by decide) ?_
                obtain ⟨v20, ev20, h⟩ := iw_be h
                refine iv_callV (pc := 427) (b := 0) (ci := 5) C [.int v13, .int (7 : Int32)] (k_X5_interest l G hJ n v13 (7 : Int32) m19 ev20) gL_isSound_X5_interest rfl qd_X5_interest ⟨rfl, rfl, Nat.le_of_ble_eq_true rfl, Nat.le_of_ble_eq_true rfl⟩ (iw_ix hJ (by decide)) iw_Eo0 rfl rfl rfl (Nat.le_of_ble_eq_true rfl) dL_isSound_427 ?_
                refine iv_iload (pc := 430) C 4 dL_isSound_430 rfl ?_
                refine iv_icmp_ne (pc := 432) C 456 dL_isSound_432 (by decide) (fun h21 => ?_) (fun h21 => ?_)
                · replace h := iw_iff h21 h
                  refine iv_iconst (pc := 456) C (0 : Int32) dL_isSound_456 (by decide) ?_
                  cases h
                  exact iv_zret C hr hlk rfl rfl dL_isSound_457
                · replace h := iw_ift h21 h
                  refine iv_aload_n (pc := 435) C 0 dL_isSound_435 rfl rfl ?_
                  refine iv_iload (pc := 436) C 3 dL_isSound_436 rfl ?_
                  refine iv_iconst (pc := 438) C (5 : Int32) dL_isSound_438 (by decide) ?_
                  obtain ⟨v22, ev22, h⟩ := iw_be h
                  refine iv_callV (pc := 439) (b := 0) (ci := 5) C [.int v13, .int (5 : Int32)] (k_X5_interest l G hJ n v13 (5 : Int32) m19 ev22) gL_isSound_X5_interest rfl qd_X5_interest ⟨rfl, rfl, Nat.le_of_ble_eq_true rfl, Nat.le_of_ble_eq_true rfl⟩ (iw_ix hJ (by decide)) iw_Eo0 rfl rfl rfl (Nat.le_of_ble_eq_true rfl) dL_isSound_439 ?_
                  refine iv_if_lt (pc := 442) C 456 dL_isSound_442 (by decide) (fun h23 => ?_) (fun h23 => ?_)
                  · replace h := iw_ift h23 h
                    refine iv_iconst (pc := 456) C (0 : Int32) dL_isSound_456 (by decide) ?_
                    cases h
                    exact iv_zret C hr hlk rfl rfl dL_isSound_457
                  · replace h := iw_iff h23 h
                    refine iv_aload_n (pc := 445) C 0 dL_isSound_445 rfl rfl ?_
                    refine iv_iload (pc := 446) C 3 dL_isSound_446 rfl ?_
                    refine iv_bipush (pc := 448) C (6 : Int32) dL_isSound_448 (by decide) ?_
                    obtain ⟨v24, ev24, h⟩ := iw_be h
                    refine iv_callV (pc := 450) (b := 0) (ci := 5) C [.int v13, .int (6 : Int32)] (k_X5_interest l G hJ n v13 (6 : Int32) m19 ev24) gL_isSound_X5_interest rfl qd_X5_interest ⟨rfl, rfl, Nat.le_of_ble_eq_true rfl, Nat.le_of_ble_eq_true rfl⟩ (iw_ix hJ (by decide)) iw_Eo0 rfl rfl rfl (Nat.le_of_ble_eq_true rfl) dL_isSound_450 ?_
                    refine iv_if_ge (pc := 453) C 458 dL_isSound_453 (by decide) (fun h25 => ?_) (fun h25 => ?_)
                    · replace h := iw_ift h25 h
                      obtain ⟨v26, ev26⟩ : ∃ y : Int32, y = v13 + (1 : Int32) := ⟨_, rfl⟩
                      replace h := iw_lete ev26 h
                      refine iv_iinc (pc := 458) C 3 v26 [(6, .int v26), (0, .ref (G.2.1 0)), (4, .int v8), (5, .int v17), (7, .int v18)] dL_isSound_458 rfl (by rw [ev26]; rfl) (by decide) rfl ?_
                      refine iv_goto (pc := 461) C 125 dL_isSound_461 (by decide) ?_
                      exact iv_sub [1, 2, 3, 0] rfl (hr125 v17 v26 m19 h)
                    · replace h := iw_iff h25 h
                      refine iv_iconst (pc := 456) C (0 : Int32) dL_isSound_456 (by decide) ?_
                      cases h
                      exact iv_zret C hr hlk rfl rfl dL_isSound_457
              have vB141 : ∀ (k141 : Int32 → Int32 → iw_M → Option (Int32 × iw_M)) (r141 : Int32 → Int32 → Int32 → iw_M → Option (Int32 × iw_M)), (∀ (v17 : Int32) (v18 : Int32) (m19 : iw_M), k141 v17 v18 m19 = some (r, σ') → iw_V p l e rm_L_isSound s m ([.ref (G.2.1 0), .ref (G.2.1 84)] : List Value).toArray below meth c0 0 0 (MQ below (iw_Q (some (.int r)) G σ') ([.ref (G.2.1 0), .ref (G.2.1 84)] : List Value).toArray s 0 0 (iw_A G)) 15 G (iw_A G) m19 422 [(0, .ref (G.2.1 0)), (4, .int v8), (5, .int v17), (6, .int v13), (7, .int v18)] []) → (∀ (v27 : Int32) (v28 : Int32) (v29 : Int32) (m30 : iw_M), r141 v27 v28 v29 m30 = some (r, σ') → iw_V p l e rm_L_isSound s m ([.ref (G.2.1 0), .ref (G.2.1 84)] : List Value).toArray below meth c0 0 0 (MQ below (iw_Q (some (.int r)) G σ') ([.ref (G.2.1 0), .ref (G.2.1 84)] : List Value).toArray s 0 0 (iw_A G)) 15 G (iw_A G) m30 141 [(0, .ref (G.2.1 0)), (4, .int v8), (5, .int v27), (6, .int v13), (7, .int v28), (8, .int v29)] []) → ∀ (v27 : Int32) (v28 : Int32) (v29 : Int32) (m30 : iw_M), f_L_isSound_B141 n v13 k141 r141 v27 v28 v29 m30 = some (r, σ') → iw_V p l e rm_L_isSound s m ([.ref (G.2.1 0), .ref (G.2.1 84)] : List Value).toArray below meth c0 0 0 (MQ below (iw_Q (some (.int r)) G σ') ([.ref (G.2.1 0), .ref (G.2.1 84)] : List Value).toArray s 0 0 (iw_A G)) 15 G (iw_A G) m30 141 [(0, .ref (G.2.1 0)), (4, .int v8), (5, .int v27), (6, .int v13), (7, .int v28), (8, .int v29)] [] := by
                intro k141 r141 hk141 hr141 v27 v28 v29 m30 h
                unfold f_L_isSound_B141 at h
                refine iv_iload (pc := 141) C 5 dL_isSound_141 rfl ?_
                refine iv_aload_n (pc := 143) C 0 dL_isSound_143 rfl rfl ?_
                refine iv_iconst (pc := 144) C (2 : Int32) dL_isSound_144 (by decide) ?_
                obtain ⟨v31, ev31, h⟩ := iw_be h
                refine iv_callV (pc := 145) (b := 0) (ci := 5) C [.int (2 : Int32)] (k_X5_count l G hJ n (2 : Int32) m30 ev31) gL_isSound_X5_count rfl qd_X5_count ⟨rfl, rfl, Nat.le_of_ble_eq_true rfl, Nat.le_of_ble_eq_true rfl⟩ (iw_ix hJ (by decide)) iw_Eo0 rfl rfl rfl (Nat.le_of_ble_eq_true rfl) dL_isSound_145 ?_
                refine iv_icmp_ge (pc := 148) C 422 dL_isSound_148 (by decide) (fun h32 => ?_) (fun h32 => ?_)
                · replace h := iw_ift h32 h
                  exact iv_sub [0, 1, 2, 3, 4] rfl (hk141 v27 v28 m30 h)
                · replace h := iw_iff h32 h
                  refine iv_aload_n (pc := 151) C 0 dL_isSound_151 rfl rfl ?_
                  refine iv_iload (pc := 152) C 3 dL_isSound_152 rfl ?_
                  refine iv_iload (pc := 154) C 5 dL_isSound_154 rfl ?_
                  refine iv_callV (pc := 156) (b := 0) (ci := 5) C [.int v13, .int v29] (k_X5_wayLength l G hJ v13 v29 m30 rfl) gL_isSound_X5_wayLength rfl qd_X5_wayLength ⟨rfl, rfl, Nat.le_of_ble_eq_true rfl, Nat.le_of_ble_eq_true rfl⟩ (iw_ix hJ (by decide)) iw_Eo0 rfl rfl rfl (Nat.le_of_ble_eq_true rfl) dL_isSound_156 ?_
                  refine iv_topi (fun v33 ev33 => ?_)
                  replace h := iw_lete ev33 h
                  refine iv_istore (pc := 159) C [(9, .int v33), (0, .ref (G.2.1 0)), (4, .int v8), (5, .int v27), (6, .int v13), (7, .int v28), (8, .int v29)] dL_isSound_159 (by decide) rfl ?_
                  refine iv_iconst (pc := 161) C (0 : Int32) dL_isSound_161 (by decide) ?_
                  refine iv_istore (pc := 162) C [(10, .int (0 : Int32)), (9, .int v33), (0, .ref (G.2.1 0)), (4, .int v8), (5, .int v27), (6, .int v13), (7, .int v28), (8, .int v29)] dL_isSound_162 (by decide) rfl ?_
                  refine iv_iload (pc := 164) C 1 dL_isSound_164 rfl ?_
                  have vJ174 : ∀ (v34 : Int32), f_L_isSound_J174 n v13 r141 v27 v28 v29 m30 v33 v34 = some (r, σ') → iw_V p l e rm_L_isSound s m ([.ref (G.2.1 0), .ref (G.2.1 84)] : List Value).toArray below meth c0 0 0 (MQ below (iw_Q (some (.int r)) G σ') ([.ref (G.2.1 0), .ref (G.2.1 84)] : List Value).toArray s 0 0 (iw_A G)) 15 G (iw_A G) m30 174 [(0, .ref (G.2.1 0)), (4, .int v8), (5, .int v27), (6, .int v13), (7, .int v28), (8, .int v29), (9, .int v33), (10, .int (0 : Int32))] [.int v34] := by
                    intro v34 h
                    unfold f_L_isSound_J174 at h
                    refine iv_istore (pc := 174) C [(11, .int v34), (0, .ref (G.2.1 0)), (4, .int v8), (5, .int v27), (6, .int v13), (7, .int v28), (8, .int v29), (9, .int v33), (10, .int (0 : Int32))] dL_isSound_174 (by decide) rfl ?_
                    refine iv_iconst (pc := 176) C (0 : Int32) dL_isSound_176 (by decide) ?_
                    refine iv_istore (pc := 177) C [(12, .int (0 : Int32)), (11, .int v34), (0, .ref (G.2.1 0)), (4, .int v8), (5, .int v27), (6, .int v13), (7, .int v28), (8, .int v29), (9, .int v33), (10, .int (0 : Int32))] dL_isSound_177 (by decide) rfl ?_
                    have vX179 : ∀ (v35 : Int32) (v36 : Int32), f_L_isSound_X316_179 n v13 r141 v28 v29 m30 v33 v35 v36 = some (r, σ') → iw_V p l e rm_L_isSound s m ([.ref (G.2.1 0), .ref (G.2.1 84)] : List Value).toArray below meth c0 0 0 (MQ below (iw_Q (some (.int r)) G σ') ([.ref (G.2.1 0), .ref (G.2.1 84)] : List Value).toArray s 0 0 (iw_A G)) 15 G (iw_A G) m30 316 [(0, .ref (G.2.1 0)), (4, .int v8), (5, .int v35), (6, .int v13), (7, .int v28), (8, .int v29), (9, .int v33), (11, .int v36)] [] := by
                      intro v35 v36 h
                      unfold f_L_isSound_X316_179 at h
                      refine iv_aload_n (pc := 316) C 0 dL_isSound_316 rfl rfl ?_
                      refine iv_iload (pc := 317) C 3 dL_isSound_317 rfl ?_
                      refine iv_iload (pc := 319) C 5 dL_isSound_319 rfl ?_
                      refine iv_iload (pc := 321) C 6 dL_isSound_321 rfl ?_
                      refine iv_callV (pc := 323) (b := 0) (ci := 5) C [.int v13, .int v29, .int v33] (k_X5_wayNode l G hJ v13 v29 v33 m30 rfl) gL_isSound_X5_wayNode rfl qd_X5_wayNode ⟨rfl, rfl, Nat.le_of_ble_eq_true rfl, Nat.le_of_ble_eq_true rfl⟩ (iw_ix hJ (by decide)) iw_Eo0 rfl rfl rfl (Nat.le_of_ble_eq_true rfl) dL_isSound_323 ?_
                      refine iv_sipush (pc := 326) C (-1000 : Int32) dL_isSound_326 (by decide) ?_
                      refine iv_icmp_ne (pc := 329) C 399 dL_isSound_329 (by decide) (fun h37 => ?_) (fun h37 => ?_)
                      · replace h := iw_iff h37 h
                        refine iv_iconst (pc := 399) C (0 : Int32) dL_isSound_399 (by decide) ?_
                        cases h
                        exact iv_zret C hr hlk rfl rfl dL_isSound_400
                      · replace h := iw_ift h37 h
                        refine iv_aload_n (pc := 332) C 0 dL_isSound_332 rfl rfl ?_
                        refine iv_iload (pc := 333) C 3 dL_isSound_333 rfl ?_
                        refine iv_iload (pc := 335) C 5 dL_isSound_335 rfl ?_
                        obtain ⟨v38, m39, ev38, h⟩ := iw_b2e h
                        refine iv_callV (pc := 337) (b := 0) (ci := 5) C [.int v13, .int v29] (k_X5_isWhole l G hJ n v13 v29 m30 ev38) gL_isSound_X5_isWhole rfl qd_X5_isWhole ⟨rfl, rfl, Nat.le_of_ble_eq_true rfl, Nat.le_of_ble_eq_true rfl⟩ (iw_ix hJ (by decide)) iw_Eo0 rfl rfl rfl (Nat.le_of_ble_eq_true rfl) dL_isSound_337 ?_
                        refine iv_iload (pc := 340) C 7 dL_isSound_340 rfl ?_
                        have vJ350 : ∀ (v40 : Int32), f_L_isSound_J350 n v13 r141 v28 v29 v33 v35 v38 m39 v40 = some (r, σ') → iw_V p l e rm_L_isSound s m ([.ref (G.2.1 0), .ref (G.2.1 84)] : List Value).toArray below meth c0 0 0 (MQ below (iw_Q (some (.int r)) G σ') ([.ref (G.2.1 0), .ref (G.2.1 84)] : List Value).toArray s 0 0 (iw_A G)) 15 G (iw_A G) m39 350 [(0, .ref (G.2.1 0)), (4, .int v8), (5, .int v35), (6, .int v13), (7, .int v28), (8, .int v29), (9, .int v33)] [.int v40, .int v38] := by
                          intro v40 h
                          unfold f_L_isSound_J350 at h
                          refine iv_icmp_ne (pc := 350) C 399 dL_isSound_350 (by decide) (fun h41 => ?_) (fun h41 => ?_)
                          · replace h := iw_iff h41 h
                            refine iv_iconst (pc := 399) C (0 : Int32) dL_isSound_399 (by decide) ?_
                            cases h
                            exact iv_zret C hr hlk rfl rfl dL_isSound_400
                          · replace h := iw_ift h41 h
                            refine iv_iload (pc := 353) C 6 dL_isSound_353 rfl ?_
                            have vJ401 : f_L_isSound_J401 r141 v28 v29 v33 v35 m39  = some (r, σ') → iw_V p l e rm_L_isSound s m ([.ref (G.2.1 0), .ref (G.2.1 84)] : List Value).toArray below meth c0 0 0 (MQ below (iw_Q (some (.int r)) G σ') ([.ref (G.2.1 0), .ref (G.2.1 84)] : List Value).toArray s 0 0 (iw_A G)) 15 G (iw_A G) m39 401 [(0, .ref (G.2.1 0)), (4, .int v8), (5, .int v35), (6, .int v13), (7, .int v28), (8, .int v29), (9, .int v33)] [] := by
                              intro h
                              unfold f_L_isSound_J401 at h
                              refine iv_iload (pc := 401) C 4 dL_isSound_401 rfl ?_
                              refine iv_iload (pc := 403) C 6 dL_isSound_403 rfl ?_
                              have vJ413 : ∀ (v42 : Int32), f_L_isSound_J413 r141 v28 v29 v35 m39 v42 = some (r, σ') → iw_V p l e rm_L_isSound s m ([.ref (G.2.1 0), .ref (G.2.1 84)] : List Value).toArray below meth c0 0 0 (MQ below (iw_Q (some (.int r)) G σ') ([.ref (G.2.1 0), .ref (G.2.1 84)] : List Value).toArray s 0 0 (iw_A G)) 15 G (iw_A G) m39 413 [(0, .ref (G.2.1 0)), (4, .int v8), (5, .int v35), (6, .int v13), (8, .int v29)] [.int v42, .int v28] := by
                                intro v42 h
                                unfold f_L_isSound_J413 at h
                                refine iv_iadd (pc := 413) C dL_isSound_413 ?_
                                refine iv_topi (fun v43 ev43 => ?_)
                                replace h := iw_lete ev43 h
                                refine iv_istore (pc := 414) C [(7, .int v43), (0, .ref (G.2.1 0)), (4, .int v8), (5, .int v35), (6, .int v13), (8, .int v29)] dL_isSound_414 (by decide) rfl ?_
                                obtain ⟨v44, ev44⟩ : ∃ y : Int32, y = v29 + (1 : Int32) := ⟨_, rfl⟩
                                replace h := iw_lete ev44 h
                                refine iv_iinc (pc := 416) C 5 v44 [(8, .int v44), (7, .int v43), (0, .ref (G.2.1 0)), (4, .int v8), (5, .int v35), (6, .int v13)] dL_isSound_416 rfl (by rw [ev44]; rfl) (by decide) rfl ?_
                                refine iv_goto (pc := 419) C 141 dL_isSound_419 (by decide) ?_
                                exact iv_sub [2, 3, 4, 5, 1, 0] rfl (hr141 v35 v43 v44 m39 h)
                              refine iv_if_le (pc := 405) C 412 dL_isSound_405 (by decide) (fun h45 => ?_) (fun h45 => ?_)
                              · replace h := iw_ift h45 h
                                refine iv_iconst (pc := 412) C (0 : Int32) dL_isSound_412 (by decide) ?_
                                exact iv_sub [0, 1, 2, 3, 5] rfl (vJ413 (0 : Int32) h)
                              · replace h := iw_iff h45 h
                                refine iv_iconst (pc := 408) C (1 : Int32) dL_isSound_408 (by decide) ?_
                                refine iv_goto (pc := 409) C 413 dL_isSound_409 (by decide) ?_
                                exact iv_sub [0, 1, 2, 3, 5] rfl (vJ413 (1 : Int32) h)
                            refine iv_if_le (pc := 355) C 401 dL_isSound_355 (by decide) (fun h46 => ?_) (fun h46 => ?_)
                            · replace h := iw_ift h46 h
                              exact iv_sub [0, 1, 2, 3, 4, 5, 6] rfl (vJ401 h)
                            · replace h := iw_iff h46 h
                              refine iv_aload_n (pc := 358) C 0 dL_isSound_358 rfl rfl ?_
                              refine iv_iload (pc := 359) C 3 dL_isSound_359 rfl ?_
                              refine iv_iload (pc := 361) C 5 dL_isSound_361 rfl ?_
                              refine iv_iconst (pc := 363) C (0 : Int32) dL_isSound_363 (by decide) ?_
                              refine iv_callV (pc := 364) (b := 0) (ci := 5) C [.int v13, .int v29, .int (0 : Int32)] (k_X5_wayNode l G hJ v13 v29 (0 : Int32) m39 rfl) gL_isSound_X5_wayNode rfl qd_X5_wayNode ⟨rfl, rfl, Nat.le_of_ble_eq_true rfl, Nat.le_of_ble_eq_true rfl⟩ (iw_ix hJ (by decide)) iw_Eo0 rfl rfl rfl (Nat.le_of_ble_eq_true rfl) dL_isSound_364 ?_
                              refine iv_aload_n (pc := 367) C 0 dL_isSound_367 rfl rfl ?_
                              refine iv_iload (pc := 368) C 5 dL_isSound_368 rfl ?_
                              refine iv_iconst (pc := 370) C (0 : Int32) dL_isSound_370 (by decide) ?_
                              refine iv_callV (pc := 371) (b := 0) (ci := 5) C [.int v29, .int (0 : Int32)] (k_X5_sensor l G hJ v29 (0 : Int32) m39 rfl) gL_isSound_X5_sensor rfl qd_X5_sensor ⟨rfl, rfl, Nat.le_of_ble_eq_true rfl, Nat.le_of_ble_eq_true rfl⟩ (iw_ix hJ (by decide)) iw_Eo0 rfl rfl rfl (Nat.le_of_ble_eq_true rfl) dL_isSound_371 ?_
                              refine iv_icmp_ne (pc := 374) C 399 dL_isSound_374 (by decide) (fun h47 => ?_) (fun h47 => ?_)
                              · replace h := iw_iff h47 h
                                refine iv_iconst (pc := 399) C (0 : Int32) dL_isSound_399 (by decide) ?_
                                cases h
                                exact iv_zret C hr hlk rfl rfl dL_isSound_400
                              · replace h := iw_ift h47 h
                                refine iv_aload_n (pc := 377) C 0 dL_isSound_377 rfl rfl ?_
                                refine iv_iload (pc := 378) C 3 dL_isSound_378 rfl ?_
                                refine iv_iload (pc := 380) C 5 dL_isSound_380 rfl ?_
                                refine iv_iload (pc := 382) C 6 dL_isSound_382 rfl ?_
                                refine iv_iconst (pc := 384) C (1 : Int32) dL_isSound_384 (by decide) ?_
                                refine iv_isub (pc := 385) C dL_isSound_385 ?_
                                refine iv_callV (pc := 386) (b := 0) (ci := 5) C [.int v13, .int v29, .int (v33 - (1 : Int32))] (k_X5_wayNode l G hJ v13 v29 (v33 - (1 : Int32)) m39 rfl) gL_isSound_X5_wayNode rfl qd_X5_wayNode ⟨rfl, rfl, Nat.le_of_ble_eq_true rfl, Nat.le_of_ble_eq_true rfl⟩ (iw_ix hJ (by decide)) iw_Eo0 rfl rfl rfl (Nat.le_of_ble_eq_true rfl) dL_isSound_386 ?_
                                refine iv_aload_n (pc := 389) C 0 dL_isSound_389 rfl rfl ?_
                                refine iv_iload (pc := 390) C 3 dL_isSound_390 rfl ?_
                                refine iv_iconst (pc := 392) C (0 : Int32) dL_isSound_392 (by decide) ?_
                                obtain ⟨v48, ev48, h⟩ := iw_be h
                                refine iv_callV (pc := 393) (b := 0) (ci := 5) C [.int v13, .int (0 : Int32)] (k_X5_interest l G hJ n v13 (0 : Int32) m39 ev48) gL_isSound_X5_interest rfl qd_X5_interest ⟨rfl, rfl, Nat.le_of_ble_eq_true rfl, Nat.le_of_ble_eq_true rfl⟩ (iw_ix hJ (by decide)) iw_Eo0 rfl rfl rfl (Nat.le_of_ble_eq_true rfl) dL_isSound_393 ?_
                                refine iv_icmp_eq (pc := 396) C 401 dL_isSound_396 (by decide) (fun h49 => ?_) (fun h49 => ?_)
                                · replace h := iw_ift h49 h
                                  exact iv_sub [0, 1, 2, 3, 4, 5, 6] rfl (vJ401 h)
                                · replace h := iw_iff h49 h
                                  refine iv_iconst (pc := 399) C (0 : Int32) dL_isSound_399 (by decide) ?_
                                  cases h
                                  exact iv_zret C hr hlk rfl rfl dL_isSound_400
                        refine iv_if_eq (pc := 342) C 349 dL_isSound_342 (by decide) (fun h50 => ?_) (fun h50 => ?_)
                        · replace h := iw_ift h50 h
                          refine iv_iconst (pc := 349) C (0 : Int32) dL_isSound_349 (by decide) ?_
                          exact iv_sub [0, 1, 2, 3, 4, 5, 6] rfl (vJ350 (0 : Int32) h)
                        · replace h := iw_iff h50 h
                          refine iv_iconst (pc := 345) C (1 : Int32) dL_isSound_345 (by decide) ?_
                          refine iv_goto (pc := 346) C 350 dL_isSound_346 (by decide) ?_
                          exact iv_sub [0, 1, 2, 3, 4, 5, 6] rfl (vJ350 (1 : Int32) h)
                    have vB179 : ∀ (k179 : Int32 → Int32 → Option (Int32 × iw_M)) (r179 : Int32 → Int32 → Int32 → Int32 → Option (Int32 × iw_M)), (∀ (v35 : Int32) (v36 : Int32), k179 v35 v36 = some (r, σ') → iw_V p l e rm_L_isSound s m ([.ref (G.2.1 0), .ref (G.2.1 84)] : List Value).toArray below meth c0 0 0 (MQ below (iw_Q (some (.int r)) G σ') ([.ref (G.2.1 0), .ref (G.2.1 84)] : List Value).toArray s 0 0 (iw_A G)) 15 G (iw_A G) m30 316 [(0, .ref (G.2.1 0)), (4, .int v8), (5, .int v35), (6, .int v13), (7, .int v28), (8, .int v29), (9, .int v33), (11, .int v36)] []) → (∀ (v51 : Int32) (v52 : Int32) (v53 : Int32) (v54 : Int32), r179 v51 v52 v53 v54 = some (r, σ') → iw_V p l e rm_L_isSound s m ([.ref (G.2.1 0), .ref (G.2.1 84)] : List Value).toArray below meth c0 0 0 (MQ below (iw_Q (some (.int r)) G σ') ([.ref (G.2.1 0), .ref (G.2.1 84)] : List Value).toArray s 0 0 (iw_A G)) 15 G (iw_A G) m30 179 [(0, .ref (G.2.1 0)), (4, .int v8), (5, .int v51), (6, .int v13), (7, .int v28), (8, .int v29), (9, .int v33), (10, .int v52), (11, .int v53), (12, .int v54)] []) → ∀ (v51 : Int32) (v52 : Int32) (v53 : Int32) (v54 : Int32), f_L_isSound_B179 n v13 v29 m30 v33 k179 r179 v51 v52 v53 v54 = some (r, σ') → iw_V p l e rm_L_isSound s m ([.ref (G.2.1 0), .ref (G.2.1 84)] : List Value).toArray below meth c0 0 0 (MQ below (iw_Q (some (.int r)) G σ') ([.ref (G.2.1 0), .ref (G.2.1 84)] : List Value).toArray s 0 0 (iw_A G)) 15 G (iw_A G) m30 179 [(0, .ref (G.2.1 0)), (4, .int v8), (5, .int v51), (6, .int v13), (7, .int v28), (8, .int v29), (9, .int v33), (10, .int v52), (11, .int v53), (12, .int v54)] [] := by
                      intro k179 r179 hk179 hr179 v51 v52 v53 v54 h
                      unfold f_L_isSound_B179 at h
                      refine iv_iload (pc := 179) C 9 dL_isSound_179 rfl ?_
                      refine iv_iload (pc := 181) C 6 dL_isSound_181 rfl ?_
                      refine iv_icmp_ge (pc := 183) C 316 dL_isSound_183 (by decide) (fun h55 => ?_) (fun h55 => ?_)
                      · replace h := iw_ift h55 h
                        exact iv_sub [0, 1, 2, 3, 4, 5, 6, 8] rfl (hk179 v51 v53 h)
                      · replace h := iw_iff h55 h
                        refine iv_aload_n (pc := 186) C 0 dL_isSound_186 rfl rfl ?_
                        refine iv_iload (pc := 187) C 3 dL_isSound_187 rfl ?_
                        refine iv_iload (pc := 189) C 5 dL_isSound_189 rfl ?_
                        refine iv_iload (pc := 191) C 9 dL_isSound_191 rfl ?_
                        refine iv_callV (pc := 193) (b := 0) (ci := 5) C [.int v13, .int v29, .int v54] (k_X5_wayNode l G hJ v13 v29 v54 m30 rfl) gL_isSound_X5_wayNode rfl qd_X5_wayNode ⟨rfl, rfl, Nat.le_of_ble_eq_true rfl, Nat.le_of_ble_eq_true rfl⟩ (iw_ix hJ (by decide)) iw_Eo0 rfl rfl rfl (Nat.le_of_ble_eq_true rfl) dL_isSound_193 ?_
                        refine iv_topi (fun v56 ev56 => ?_)
                        replace h := iw_lete ev56 h
                        refine iv_istore (pc := 196) C [(13, .int v56), (0, .ref (G.2.1 0)), (4, .int v8), (5, .int v51), (6, .int v13), (7, .int v28), (8, .int v29), (9, .int v33), (10, .int v52), (11, .int v53), (12, .int v54)] dL_isSound_196 (by decide) rfl ?_
                        refine iv_iload (pc := 198) C 0 dL_isSound_198 rfl ?_
                        refine iv_if_lt (pc := 200) C 224 dL_isSound_200 (by decide) (fun h57 => ?_) (fun h57 => ?_)
                        · replace h := iw_ift h57 h
                          refine iv_iconst (pc := 224) C (0 : Int32) dL_isSound_224 (by decide) ?_
                          cases h
                          exact iv_zret C hr hlk rfl rfl dL_isSound_225
                        · replace h := iw_iff h57 h
                          refine iv_iload (pc := 203) C 0 dL_isSound_203 rfl ?_
                          refine iv_aload_n (pc := 205) C 1 dL_isSound_205 rfl rfl ?_
                          refine iv_iconst (pc := 206) C (0 : Int32) dL_isSound_206 (by decide) ?_
                          obtain ⟨v58, ev58, h⟩ := iw_be h
                          refine iv_callV (pc := 207) (b := 0) (ci := 5) C [.int (0 : Int32)] (k_X5_count l G hJ n (0 : Int32) m30 ev58) gL_isSound_X5_count rfl qd_X5_count ⟨rfl, rfl, Nat.le_of_ble_eq_true rfl, Nat.le_of_ble_eq_true rfl⟩ (iw_ix hJ (by decide)) iw_Eo0 rfl rfl rfl (Nat.le_of_ble_eq_true rfl) dL_isSound_207 ?_
                          refine iv_icmp_ge (pc := 210) C 224 dL_isSound_210 (by decide) (fun h59 => ?_) (fun h59 => ?_)
                          · replace h := iw_ift h59 h
                            refine iv_iconst (pc := 224) C (0 : Int32) dL_isSound_224 (by decide) ?_
                            cases h
                            exact iv_zret C hr hlk rfl rfl dL_isSound_225
                          · replace h := iw_iff h59 h
                            refine iv_iload (pc := 213) C 8 dL_isSound_213 rfl ?_
                            refine iv_iload (pc := 215) C 0 dL_isSound_215 rfl ?_
                            refine iv_ishr (pc := 217) C dL_isSound_217 ?_
                            refine iv_iconst (pc := 218) C (1 : Int32) dL_isSound_218 (by decide) ?_
                            refine iv_iand (pc := 219) C dL_isSound_219 ?_
                            refine iv_iconst (pc := 220) C (1 : Int32) dL_isSound_220 (by decide) ?_
                            refine iv_icmp_ne (pc := 221) C 226 dL_isSound_221 (by decide) (fun h60 => ?_) (fun h60 => ?_)
                            · replace h := iw_iff h60 h
                              refine iv_iload (pc := 226) C 8 dL_isSound_226 rfl ?_
                              refine iv_iconst (pc := 228) C (1 : Int32) dL_isSound_228 (by decide) ?_
                              refine iv_iload (pc := 229) C 0 dL_isSound_229 rfl ?_
                              refine iv_ishl (pc := 231) C dL_isSound_231 ?_
                              refine iv_ior (pc := 232) C dL_isSound_232 ?_
                              refine iv_topi (fun v61 ev61 => ?_)
                              replace h := iw_lete ev61 h
                              refine iv_istore (pc := 233) C [(10, .int v61), (13, .int v56), (0, .ref (G.2.1 0)), (4, .int v8), (5, .int v51), (6, .int v13), (7, .int v28), (8, .int v29), (9, .int v33), (11, .int v53), (12, .int v54)] dL_isSound_233 (by decide) rfl ?_
                              refine iv_iload (pc := 235) C 10 dL_isSound_235 rfl ?_
                              have vJ262 : ∀ (v62 : Int32), f_L_isSound_J262 m30 r179 v51 v53 v54 v56 v61 v62 = some (r, σ') → iw_V p l e rm_L_isSound s m ([.ref (G.2.1 0), .ref (G.2.1 84)] : List Value).toArray below meth c0 0 0 (MQ below (iw_Q (some (.int r)) G σ') ([.ref (G.2.1 0), .ref (G.2.1 84)] : List Value).toArray s 0 0 (iw_A G)) 15 G (iw_A G) m30 262 [(0, .ref (G.2.1 0)), (4, .int v8), (5, .int v51), (6, .int v13), (7, .int v28), (8, .int v29), (9, .int v33), (10, .int v61), (11, .int v53), (12, .int v54), (13, .int v56)] [.int v62] := by
                                intro v62 h
                                unfold f_L_isSound_J262 at h
                                refine iv_istore (pc := 262) C [(14, .int v62), (0, .ref (G.2.1 0)), (4, .int v8), (5, .int v51), (6, .int v13), (7, .int v28), (8, .int v29), (9, .int v33), (10, .int v61), (11, .int v53), (12, .int v54), (13, .int v56)] dL_isSound_262 (by decide) rfl ?_
                                refine iv_iload (pc := 264) C 3 dL_isSound_264 rfl ?_
                                refine iv_iload (pc := 266) C 10 dL_isSound_266 rfl ?_
                                have vJ281 : ∀ (v63 : Int32), f_L_isSound_J281 m30 r179 v51 v53 v54 v56 v61 v62 v63 = some (r, σ') → iw_V p l e rm_L_isSound s m ([.ref (G.2.1 0), .ref (G.2.1 84)] : List Value).toArray below meth c0 0 0 (MQ below (iw_Q (some (.int r)) G σ') ([.ref (G.2.1 0), .ref (G.2.1 84)] : List Value).toArray s 0 0 (iw_A G)) 15 G (iw_A G) m30 281 [(0, .ref (G.2.1 0)), (4, .int v8), (6, .int v13), (7, .int v28), (8, .int v29), (9, .int v33), (10, .int v61), (11, .int v53), (12, .int v54), (13, .int v56), (14, .int v62)] [.int v63, .int v51] := by
                                  intro v63 h
                                  unfold f_L_isSound_J281 at h
                                  refine iv_iadd (pc := 281) C dL_isSound_281 ?_
                                  refine iv_topi (fun v64 ev64 => ?_)
                                  replace h := iw_lete ev64 h
                                  refine iv_istore (pc := 282) C [(5, .int v64), (0, .ref (G.2.1 0)), (4, .int v8), (6, .int v13), (7, .int v28), (8, .int v29), (9, .int v33), (10, .int v61), (11, .int v53), (12, .int v54), (13, .int v56), (14, .int v62)] dL_isSound_282 (by decide) rfl ?_
                                  refine iv_iload (pc := 284) C 8 dL_isSound_284 rfl ?_
                                  have vJ308 : ∀ (v65 : Int32), f_L_isSound_J308 r179 v54 v61 v64 v65 = some (r, σ') → iw_V p l e rm_L_isSound s m ([.ref (G.2.1 0), .ref (G.2.1 84)] : List Value).toArray below meth c0 0 0 (MQ below (iw_Q (some (.int r)) G σ') ([.ref (G.2.1 0), .ref (G.2.1 84)] : List Value).toArray s 0 0 (iw_A G)) 15 G (iw_A G) m30 308 [(0, .ref (G.2.1 0)), (4, .int v8), (5, .int v64), (6, .int v13), (7, .int v28), (8, .int v29), (9, .int v33), (10, .int v61), (12, .int v54)] [.int v65] := by
                                    intro v65 h
                                    unfold f_L_isSound_J308 at h
                                    refine iv_istore (pc := 308) C [(11, .int v65), (0, .ref (G.2.1 0)), (4, .int v8), (5, .int v64), (6, .int v13), (7, .int v28), (8, .int v29), (9, .int v33), (10, .int v61), (12, .int v54)] dL_isSound_308 (by decide) rfl ?_
                                    obtain ⟨v66, ev66⟩ : ∃ y : Int32, y = v54 + (1 : Int32) := ⟨_, rfl⟩
                                    replace h := iw_lete ev66 h
                                    refine iv_iinc (pc := 310) C 9 v66 [(12, .int v66), (11, .int v65), (0, .ref (G.2.1 0)), (4, .int v8), (5, .int v64), (6, .int v13), (7, .int v28), (8, .int v29), (9, .int v33), (10, .int v61)] dL_isSound_310 rfl (by rw [ev66]; rfl) (by decide) rfl ?_
                                    refine iv_goto (pc := 313) C 179 dL_isSound_313 (by decide) ?_
                                    exact iv_sub [2, 3, 4, 5, 6, 7, 8, 9, 1, 0] rfl (hr179 v64 v61 v65 v66 h)
                                  have vJ307 : f_L_isSound_J307 r179 v54 v61 v64  = some (r, σ') → iw_V p l e rm_L_isSound s m ([.ref (G.2.1 0), .ref (G.2.1 84)] : List Value).toArray below meth c0 0 0 (MQ below (iw_Q (some (.int r)) G σ') ([.ref (G.2.1 0), .ref (G.2.1 84)] : List Value).toArray s 0 0 (iw_A G)) 15 G (iw_A G) m30 307 [(0, .ref (G.2.1 0)), (4, .int v8), (5, .int v64), (6, .int v13), (7, .int v28), (8, .int v29), (9, .int v33), (10, .int v61), (12, .int v54)] [] := by
                                    intro h
                                    unfold f_L_isSound_J307 at h
                                    refine iv_iconst (pc := 307) C (0 : Int32) dL_isSound_307 (by decide) ?_
                                    exact iv_sub [0, 1, 2, 3, 4, 5, 6, 7, 8] rfl (vJ308 (0 : Int32) h)
                                  refine iv_if_eq (pc := 286) C 307 dL_isSound_286 (by decide) (fun h67 => ?_) (fun h67 => ?_)
                                  · replace h := iw_ift h67 h
                                    exact iv_sub [1, 2, 0, 3, 4, 5, 6, 7, 9] rfl (vJ307 h)
                                  · replace h := iw_iff h67 h
                                    refine iv_aload_n (pc := 289) C 1 dL_isSound_289 rfl rfl ?_
                                    refine iv_iload (pc := 290) C 10 dL_isSound_290 rfl ?_
                                    refine iv_callV (pc := 292) (b := 0) (ci := 5) C [.int v56] (k_X5_energy l G hJ v56 m30 rfl) gL_isSound_X5_energy rfl qd_X5_energy ⟨rfl, rfl, Nat.le_of_ble_eq_true rfl, Nat.le_of_ble_eq_true rfl⟩ (iw_ix hJ (by decide)) iw_Eo0 rfl rfl rfl (Nat.le_of_ble_eq_true rfl) dL_isSound_292 ?_
                                    refine iv_if_le (pc := 295) C 307 dL_isSound_295 (by decide) (fun h68 => ?_) (fun h68 => ?_)
                                    · replace h := iw_ift h68 h
                                      exact iv_sub [1, 2, 0, 3, 4, 5, 6, 7, 9] rfl (vJ307 h)
                                    · replace h := iw_iff h68 h
                                      refine iv_iload (pc := 298) C 11 dL_isSound_298 rfl ?_
                                      refine iv_if_lt (pc := 300) C 307 dL_isSound_300 (by decide) (fun h69 => ?_) (fun h69 => ?_)
                                      · replace h := iw_ift h69 h
                                        exact iv_sub [1, 2, 0, 3, 4, 5, 6, 7, 9] rfl (vJ307 h)
                                      · replace h := iw_iff h69 h
                                        refine iv_iconst (pc := 303) C (1 : Int32) dL_isSound_303 (by decide) ?_
                                        refine iv_goto (pc := 304) C 308 dL_isSound_304 (by decide) ?_
                                        exact iv_sub [1, 2, 0, 3, 4, 5, 6, 7, 9] rfl (vJ308 (1 : Int32) h)
                                have vJ280 : f_L_isSound_J280 m30 r179 v51 v53 v54 v56 v61 v62  = some (r, σ') → iw_V p l e rm_L_isSound s m ([.ref (G.2.1 0), .ref (G.2.1 84)] : List Value).toArray below meth c0 0 0 (MQ below (iw_Q (some (.int r)) G σ') ([.ref (G.2.1 0), .ref (G.2.1 84)] : List Value).toArray s 0 0 (iw_A G)) 15 G (iw_A G) m30 280 [(0, .ref (G.2.1 0)), (4, .int v8), (6, .int v13), (7, .int v28), (8, .int v29), (9, .int v33), (10, .int v61), (11, .int v53), (12, .int v54), (13, .int v56), (14, .int v62)] [.int v51] := by
                                  intro h
                                  unfold f_L_isSound_J280 at h
                                  refine iv_iconst (pc := 280) C (0 : Int32) dL_isSound_280 (by decide) ?_
                                  exact iv_sub [0, 1, 2, 3, 4, 5, 6, 7, 8, 9, 10] rfl (vJ281 (0 : Int32) h)
                                refine iv_if_le (pc := 268) C 280 dL_isSound_268 (by decide) (fun h70 => ?_) (fun h70 => ?_)
                                · replace h := iw_ift h70 h
                                  exact iv_sub [1, 2, 4, 5, 6, 7, 8, 9, 10, 11, 0] rfl (vJ280 h)
                                · replace h := iw_iff h70 h
                                  refine iv_iload (pc := 271) C 0 dL_isSound_271 rfl ?_
                                  refine iv_if_lt (pc := 273) C 280 dL_isSound_273 (by decide) (fun h71 => ?_) (fun h71 => ?_)
                                  · replace h := iw_ift h71 h
                                    exact iv_sub [1, 2, 4, 5, 6, 7, 8, 9, 10, 11, 0] rfl (vJ280 h)
                                  · replace h := iw_iff h71 h
                                    refine iv_iconst (pc := 276) C (1 : Int32) dL_isSound_276 (by decide) ?_
                                    refine iv_goto (pc := 277) C 281 dL_isSound_277 (by decide) ?_
                                    exact iv_sub [1, 2, 4, 5, 6, 7, 8, 9, 10, 11, 0] rfl (vJ281 (1 : Int32) h)
                              refine iv_if_ne (pc := 237) C 244 dL_isSound_237 (by decide) (fun h72 => ?_) (fun h72 => ?_)
                              · replace h := iw_iff h72 h
                                refine iv_aload_n (pc := 244) C 2 dL_isSound_244 rfl rfl ?_
                                refine iv_aload_n (pc := 245) C 2 dL_isSound_245 rfl rfl ?_
                                refine iv_iload (pc := 246) C 5 dL_isSound_246 rfl ?_
                                refine iv_iload (pc := 248) C 7 dL_isSound_248 rfl ?_
                                refine iv_iload (pc := 250) C 10 dL_isSound_250 rfl ?_
                                refine iv_iconst (pc := 252) C (1 : Int32) dL_isSound_252 (by decide) ?_
                                refine iv_isub (pc := 253) C dL_isSound_253 ?_
                                refine iv_callV (pc := 254) (b := 0) (ci := 5) C [.int v13, .int v29, .int (v54 - (1 : Int32))] (k_X5_wayNode l G hJ v13 v29 (v54 - (1 : Int32)) m30 rfl) gL_isSound_X5_wayNode rfl qd_X5_wayNode ⟨rfl, rfl, Nat.le_of_ble_eq_true rfl, Nat.le_of_ble_eq_true rfl⟩ (iw_ix hJ (by decide)) iw_Eo0 rfl rfl rfl (Nat.le_of_ble_eq_true rfl) dL_isSound_254 ?_
                                refine iv_iload (pc := 257) C 1 dL_isSound_257 rfl ?_
                                obtain ⟨v73, ev73, h⟩ := iw_be h
                                refine iv_callS (pc := 259) C [.ref (G.2.1 0), .int (f_X5_wayNode v13 v29 (v54 - (1 : Int32)) m30), .int v56] (k_L_linkOf l G hJ n (f_X5_wayNode v13 v29 (v54 - (1 : Int32)) m30) v56 m30 ev73) gL_isSound_L_linkOf rfl qd_L_linkOf ⟨rfl, rfl, Nat.le_of_ble_eq_true rfl, Nat.le_of_ble_eq_true rfl⟩ rfl rfl (Nat.le_of_ble_eq_true rfl) dL_isSound_259 ?_
                                exact iv_sub [2, 3, 4, 5, 6, 7, 8, 0, 9, 10, 1] rfl (vJ262 v73 h)
                              · replace h := iw_ift h72 h
                                refine iv_iconst (pc := 240) C (0 : Int32) dL_isSound_240 (by decide) ?_
                                refine iv_goto (pc := 241) C 262 dL_isSound_241 (by decide) ?_
                                exact iv_sub [2, 3, 4, 5, 6, 7, 8, 0, 9, 10, 1] rfl (vJ262 (0 : Int32) h)
                            · replace h := iw_ift h60 h
                              refine iv_iconst (pc := 224) C (0 : Int32) dL_isSound_224 (by decide) ?_
                              cases h
                              exact iv_zret C hr hlk rfl rfl dL_isSound_225
                    have vL179 : ∀ (nn : Nat) (v51 : Int32) (v52 : Int32) (v53 : Int32) (v54 : Int32), f_L_isSound_L179 n v13 v29 m30 v33 (f_L_isSound_X316_179 n v13 r141 v28 v29 m30 v33) nn v51 v52 v53 v54 = some (r, σ') → iw_V p l e rm_L_isSound s m ([.ref (G.2.1 0), .ref (G.2.1 84)] : List Value).toArray below meth c0 0 0 (MQ below (iw_Q (some (.int r)) G σ') ([.ref (G.2.1 0), .ref (G.2.1 84)] : List Value).toArray s 0 0 (iw_A G)) 15 G (iw_A G) m30 179 [(0, .ref (G.2.1 0)), (4, .int v8), (5, .int v51), (6, .int v13), (7, .int v28), (8, .int v29), (9, .int v33), (10, .int v52), (11, .int v53), (12, .int v54)] [] := by
                      intro nn
                      induction nn with
                      | zero => intro v51 v52 v53 v54 h; exact absurd h (fun q => by cases q)
                      | succ nn ih => intro v51 v52 v53 v54 h; exact vB179 (f_L_isSound_X316_179 n v13 r141 v28 v29 m30 v33) (f_L_isSound_L179 n v13 v29 m30 v33 (f_L_isSound_X316_179 n v13 r141 v28 v29 m30 v33) nn) vX179 ih v51 v52 v53 v54 h
                    exact iv_sub [2, 3, 4, 5, 6, 7, 8, 9, 1, 0] rfl (vL179 n v27 (0 : Int32) v34 (0 : Int32) h)
                  refine iv_if_le (pc := 166) C 173 dL_isSound_166 (by decide) (fun h74 => ?_) (fun h74 => ?_)
                  · replace h := iw_ift h74 h
                    refine iv_iconst (pc := 173) C (0 : Int32) dL_isSound_173 (by decide) ?_
                    exact iv_sub [2, 3, 4, 5, 6, 7, 1, 0] rfl (vJ174 (0 : Int32) h)
                  · replace h := iw_iff h74 h
                    refine iv_iconst (pc := 169) C (1 : Int32) dL_isSound_169 (by decide) ?_
                    refine iv_goto (pc := 170) C 174 dL_isSound_170 (by decide) ?_
                    exact iv_sub [2, 3, 4, 5, 6, 7, 1, 0] rfl (vJ174 (1 : Int32) h)
              have vL141 : ∀ (nn : Nat) (v27 : Int32) (v28 : Int32) (v29 : Int32) (m30 : iw_M), f_L_isSound_L141 n v13 (f_L_isSound_X422_141 n r125 v13) nn v27 v28 v29 m30 = some (r, σ') → iw_V p l e rm_L_isSound s m ([.ref (G.2.1 0), .ref (G.2.1 84)] : List Value).toArray below meth c0 0 0 (MQ below (iw_Q (some (.int r)) G σ') ([.ref (G.2.1 0), .ref (G.2.1 84)] : List Value).toArray s 0 0 (iw_A G)) 15 G (iw_A G) m30 141 [(0, .ref (G.2.1 0)), (4, .int v8), (5, .int v27), (6, .int v13), (7, .int v28), (8, .int v29)] [] := by
                intro nn
                induction nn with
                | zero => intro v27 v28 v29 m30 h; exact absurd h (fun q => by cases q)
                | succ nn ih => intro v27 v28 v29 m30 h; exact vB141 (f_L_isSound_X422_141 n r125 v13) (f_L_isSound_L141 n v13 (f_L_isSound_X422_141 n r125 v13) nn) vX141 ih v27 v28 v29 m30 h
              exact iv_sub [2, 3, 4, 5, 1, 0] rfl (vL141 n v12 (0 : Int32) (0 : Int32) m14 h)
          have vL125 : ∀ (nn : Nat) (v12 : Int32) (v13 : Int32) (m14 : iw_M), f_L_isSound_L125 n (f_L_isSound_X464_125 v8) nn v12 v13 m14 = some (r, σ') → iw_V p l e rm_L_isSound s m ([.ref (G.2.1 0), .ref (G.2.1 84)] : List Value).toArray below meth c0 0 0 (MQ below (iw_Q (some (.int r)) G σ') ([.ref (G.2.1 0), .ref (G.2.1 84)] : List Value).toArray s 0 0 (iw_A G)) 15 G (iw_A G) m14 125 [(0, .ref (G.2.1 0)), (4, .int v8), (5, .int v12), (6, .int v13)] [] := by
            intro nn
            induction nn with
            | zero => intro v12 v13 m14 h; exact absurd h (fun q => by cases q)
            | succ nn ih => intro v12 v13 m14 h; exact vB125 (f_L_isSound_X464_125 v8) (f_L_isSound_L125 n (f_L_isSound_X464_125 v8) nn) vX125 ih v12 v13 m14 h
          exact iv_sub [2, 3, 1, 0] rfl (vL125 n (0 : Int32) (0 : Int32) σ h)
        have vB92 : ∀ (k92 : Int32 → Option (Int32 × iw_M)) (r92 : Int32 → Int32 → Option (Int32 × iw_M)), (∀ (v8 : Int32), k92 v8 = some (r, σ') → iw_V p l e rm_L_isSound s m ([.ref (G.2.1 0), .ref (G.2.1 84)] : List Value).toArray below meth c0 0 0 (MQ below (iw_Q (some (.int r)) G σ') ([.ref (G.2.1 0), .ref (G.2.1 84)] : List Value).toArray s 0 0 (iw_A G)) 15 G (iw_A G) σ 119 [(0, .ref (G.2.1 0)), (4, .int v8)] []) → (∀ (v75 : Int32) (v76 : Int32), r92 v75 v76 = some (r, σ') → iw_V p l e rm_L_isSound s m ([.ref (G.2.1 0), .ref (G.2.1 84)] : List Value).toArray below meth c0 0 0 (MQ below (iw_Q (some (.int r)) G σ') ([.ref (G.2.1 0), .ref (G.2.1 84)] : List Value).toArray s 0 0 (iw_A G)) 15 G (iw_A G) σ 92 [(0, .ref (G.2.1 0)), (4, .int v75), (5, .int v76)] []) → ∀ (v75 : Int32) (v76 : Int32), f_L_isSound_B92 n σ k92 r92 v75 v76 = some (r, σ') → iw_V p l e rm_L_isSound s m ([.ref (G.2.1 0), .ref (G.2.1 84)] : List Value).toArray below meth c0 0 0 (MQ below (iw_Q (some (.int r)) G σ') ([.ref (G.2.1 0), .ref (G.2.1 84)] : List Value).toArray s 0 0 (iw_A G)) 15 G (iw_A G) σ 92 [(0, .ref (G.2.1 0)), (4, .int v75), (5, .int v76)] [] := by
          intro k92 r92 hk92 hr92 v75 v76 h
          unfold f_L_isSound_B92 at h
          refine iv_iload (pc := 92) C 2 dL_isSound_92 rfl ?_
          refine iv_aload_n (pc := 94) C 0 dL_isSound_94 rfl rfl ?_
          refine iv_iconst (pc := 95) C (1 : Int32) dL_isSound_95 (by decide) ?_
          obtain ⟨v77, ev77, h⟩ := iw_be h
          refine iv_callV (pc := 96) (b := 0) (ci := 5) C [.int (1 : Int32)] (k_X5_count l G hJ n (1 : Int32) σ ev77) gL_isSound_X5_count rfl qd_X5_count ⟨rfl, rfl, Nat.le_of_ble_eq_true rfl, Nat.le_of_ble_eq_true rfl⟩ (iw_ix hJ (by decide)) iw_Eo0 rfl rfl rfl (Nat.le_of_ble_eq_true rfl) dL_isSound_96 ?_
          refine iv_icmp_ge (pc := 99) C 119 dL_isSound_99 (by decide) (fun h78 => ?_) (fun h78 => ?_)
          · replace h := iw_ift h78 h
            exact iv_sub [0, 1] rfl (hk92 v75 h)
          · replace h := iw_iff h78 h
            refine iv_iload (pc := 102) C 1 dL_isSound_102 rfl ?_
            refine iv_aload_n (pc := 104) C 0 dL_isSound_104 rfl rfl ?_
            refine iv_iload (pc := 105) C 2 dL_isSound_105 rfl ?_
            obtain ⟨v79, ev79, h⟩ := iw_be h
            refine iv_callV (pc := 107) (b := 0) (ci := 5) C [.int v76] (k_X5_load l G hJ n v76 σ ev79) gL_isSound_X5_load rfl qd_X5_load ⟨rfl, rfl, Nat.le_of_ble_eq_true rfl, Nat.le_of_ble_eq_true rfl⟩ (iw_ix hJ (by decide)) iw_Eo0 rfl rfl rfl (Nat.le_of_ble_eq_true rfl) dL_isSound_107 ?_
            refine iv_iadd (pc := 110) C dL_isSound_110 ?_
            refine iv_topi (fun v80 ev80 => ?_)
            replace h := iw_lete ev80 h
            refine iv_istore (pc := 111) C [(4, .int v80), (0, .ref (G.2.1 0)), (5, .int v76)] dL_isSound_111 (by decide) rfl ?_
            obtain ⟨v81, ev81⟩ : ∃ y : Int32, y = v76 + (1 : Int32) := ⟨_, rfl⟩
            replace h := iw_lete ev81 h
            refine iv_iinc (pc := 113) C 2 v81 [(5, .int v81), (4, .int v80), (0, .ref (G.2.1 0))] dL_isSound_113 rfl (by rw [ev81]; rfl) (by decide) rfl ?_
            refine iv_goto (pc := 116) C 92 dL_isSound_116 (by decide) ?_
            exact iv_sub [2, 1, 0] rfl (hr92 v80 v81 h)
        have vL92 : ∀ (nn : Nat) (v75 : Int32) (v76 : Int32), f_L_isSound_L92 n σ (f_L_isSound_X119_92 n σ) nn v75 v76 = some (r, σ') → iw_V p l e rm_L_isSound s m ([.ref (G.2.1 0), .ref (G.2.1 84)] : List Value).toArray below meth c0 0 0 (MQ below (iw_Q (some (.int r)) G σ') ([.ref (G.2.1 0), .ref (G.2.1 84)] : List Value).toArray s 0 0 (iw_A G)) 15 G (iw_A G) σ 92 [(0, .ref (G.2.1 0)), (4, .int v75), (5, .int v76)] [] := by
          intro nn
          induction nn with
          | zero => intro v75 v76 h; exact absurd h (fun q => by cases q)
          | succ nn ih => intro v75 v76 h; exact vB92 (f_L_isSound_X119_92 n σ) (f_L_isSound_L92 n σ (f_L_isSound_X119_92 n σ) nn) vX92 ih v75 v76 h
        exact iv_sub [2, 1, 0] rfl (vL92 n (0 : Int32) (0 : Int32) h)
      · replace h := iw_iff h7 h
        refine iv_iconst (pc := 84) C (0 : Int32) dL_isSound_84 (by decide) ?_
        cases h
        exact iv_zret C hr hlk rfl rfl dL_isSound_85
  have vB7 : ∀ (k7 : Int32 → Int32 → Option (Int32 × iw_M)) (r7 : Int32 → Int32 → Int32 → Option (Int32 × iw_M)), (∀ (v1 : Int32) (v2 : Int32), k7 v1 v2 = some (r, σ') → iw_V p l e rm_L_isSound s m ([.ref (G.2.1 0), .ref (G.2.1 84)] : List Value).toArray below meth c0 0 0 (MQ below (iw_Q (some (.int r)) G σ') ([.ref (G.2.1 0), .ref (G.2.1 84)] : List Value).toArray s 0 0 (iw_A G)) 15 G (iw_A G) σ 60 [(0, .ref (G.2.1 0)), (1, .ref (G.2.1 84)), (2, .int v1), (3, .int v2)] []) → (∀ (v82 : Int32) (v83 : Int32) (v84 : Int32), r7 v82 v83 v84 = some (r, σ') → iw_V p l e rm_L_isSound s m ([.ref (G.2.1 0), .ref (G.2.1 84)] : List Value).toArray below meth c0 0 0 (MQ below (iw_Q (some (.int r)) G σ') ([.ref (G.2.1 0), .ref (G.2.1 84)] : List Value).toArray s 0 0 (iw_A G)) 15 G (iw_A G) σ 7 [(0, .ref (G.2.1 0)), (1, .ref (G.2.1 84)), (2, .int v82), (3, .int v83), (4, .int v84)] []) → ∀ (v82 : Int32) (v83 : Int32) (v84 : Int32), f_L_isSound_B7 n σ k7 r7 v82 v83 v84 = some (r, σ') → iw_V p l e rm_L_isSound s m ([.ref (G.2.1 0), .ref (G.2.1 84)] : List Value).toArray below meth c0 0 0 (MQ below (iw_Q (some (.int r)) G σ') ([.ref (G.2.1 0), .ref (G.2.1 84)] : List Value).toArray s 0 0 (iw_A G)) 15 G (iw_A G) σ 7 [(0, .ref (G.2.1 0)), (1, .ref (G.2.1 84)), (2, .int v82), (3, .int v83), (4, .int v84)] [] := by
    intro k7 r7 hk7 hr7 v82 v83 v84 h
    unfold f_L_isSound_B7 at h
    refine iv_iload (pc := 7) C 4 dL_isSound_7 rfl ?_
    refine iv_aload_n (pc := 9) C 0 dL_isSound_9 rfl rfl ?_
    refine iv_iconst (pc := 10) C (0 : Int32) dL_isSound_10 (by decide) ?_
    obtain ⟨v85, ev85, h⟩ := iw_be h
    refine iv_callV (pc := 11) (b := 0) (ci := 5) C [.int (0 : Int32)] (k_X5_count l G hJ n (0 : Int32) σ ev85) gL_isSound_X5_count rfl qd_X5_count ⟨rfl, rfl, Nat.le_of_ble_eq_true rfl, Nat.le_of_ble_eq_true rfl⟩ (iw_ix hJ (by decide)) iw_Eo0 rfl rfl rfl (Nat.le_of_ble_eq_true rfl) dL_isSound_11 ?_
    refine iv_icmp_ge (pc := 14) C 60 dL_isSound_14 (by decide) (fun h86 => ?_) (fun h86 => ?_)
    · replace h := iw_ift h86 h
      exact iv_sub [0, 1, 2, 3] rfl (hk7 v82 v83 h)
    · replace h := iw_iff h86 h
      refine iv_iload_n (pc := 17) C 2 dL_isSound_17 rfl rfl ?_
      refine iv_aload_n (pc := 18) C 0 dL_isSound_18 rfl rfl ?_
      refine iv_iload (pc := 19) C 4 dL_isSound_19 rfl ?_
      refine iv_callV (pc := 21) (b := 0) (ci := 5) C [.int v84] (k_X5_energy l G hJ v84 σ rfl) gL_isSound_X5_energy rfl qd_X5_energy ⟨rfl, rfl, Nat.le_of_ble_eq_true rfl, Nat.le_of_ble_eq_true rfl⟩ (iw_ix hJ (by decide)) iw_Eo0 rfl rfl rfl (Nat.le_of_ble_eq_true rfl) dL_isSound_21 ?_
      refine iv_iadd (pc := 24) C dL_isSound_24 ?_
      refine iv_topi (fun v87 ev87 => ?_)
      replace h := iw_lete ev87 h
      refine iv_istore_n (pc := 25) C [(2, .int v87), (0, .ref (G.2.1 0)), (1, .ref (G.2.1 84)), (3, .int v83), (4, .int v84)] dL_isSound_25 rfl (by decide) rfl ?_
      refine iv_iload_n (pc := 26) C 3 dL_isSound_26 rfl rfl ?_
      refine iv_aload_n (pc := 27) C 1 dL_isSound_27 rfl rfl ?_
      refine iv_iload (pc := 28) C 4 dL_isSound_28 rfl ?_
      refine iv_callV (pc := 30) (b := 0) (ci := 5) C [.int v84] (k_X5_energy l G hJ v84 σ rfl) gL_isSound_X5_energy rfl qd_X5_energy ⟨rfl, rfl, Nat.le_of_ble_eq_true rfl, Nat.le_of_ble_eq_true rfl⟩ (iw_ix hJ (by decide)) iw_Eo0 rfl rfl rfl (Nat.le_of_ble_eq_true rfl) dL_isSound_30 ?_
      have vJ41 : ∀ (v88 : Int32), f_L_isSound_J41 σ r7 v83 v84 v87 v88 = some (r, σ') → iw_V p l e rm_L_isSound s m ([.ref (G.2.1 0), .ref (G.2.1 84)] : List Value).toArray below meth c0 0 0 (MQ below (iw_Q (some (.int r)) G σ') ([.ref (G.2.1 0), .ref (G.2.1 84)] : List Value).toArray s 0 0 (iw_A G)) 15 G (iw_A G) σ 41 [(0, .ref (G.2.1 0)), (1, .ref (G.2.1 84)), (2, .int v87), (4, .int v84)] [.int v88, .int v83] := by
        intro v88 h
        unfold f_L_isSound_J41 at h
        refine iv_iadd (pc := 41) C dL_isSound_41 ?_
        refine iv_topi (fun v89 ev89 => ?_)
        replace h := iw_lete ev89 h
        refine iv_istore_n (pc := 42) C [(3, .int v89), (0, .ref (G.2.1 0)), (1, .ref (G.2.1 84)), (2, .int v87), (4, .int v84)] dL_isSound_42 rfl (by decide) rfl ?_
        refine iv_aload_n (pc := 43) C 1 dL_isSound_43 rfl rfl ?_
        refine iv_iload (pc := 44) C 4 dL_isSound_44 rfl ?_
        refine iv_callV (pc := 46) (b := 0) (ci := 5) C [.int v84] (k_X5_energy l G hJ v84 σ rfl) gL_isSound_X5_energy rfl qd_X5_energy ⟨rfl, rfl, Nat.le_of_ble_eq_true rfl, Nat.le_of_ble_eq_true rfl⟩ (iw_ix hJ (by decide)) iw_Eo0 rfl rfl rfl (Nat.le_of_ble_eq_true rfl) dL_isSound_46 ?_
        refine iv_if_ge (pc := 49) C 54 dL_isSound_49 (by decide) (fun h90 => ?_) (fun h90 => ?_)
        · replace h := iw_ift h90 h
          obtain ⟨v91, ev91⟩ : ∃ y : Int32, y = v84 + (1 : Int32) := ⟨_, rfl⟩
          replace h := iw_lete ev91 h
          refine iv_iinc (pc := 54) C 4 v91 [(4, .int v91), (3, .int v89), (0, .ref (G.2.1 0)), (1, .ref (G.2.1 84)), (2, .int v87)] dL_isSound_54 rfl (by rw [ev91]; rfl) (by decide) rfl ?_
          refine iv_goto (pc := 57) C 7 dL_isSound_57 (by decide) ?_
          exact iv_sub [2, 3, 4, 1, 0] rfl (hr7 v87 v89 v91 h)
        · replace h := iw_iff h90 h
          refine iv_iconst (pc := 52) C (0 : Int32) dL_isSound_52 (by decide) ?_
          cases h
          exact iv_zret C hr hlk rfl rfl dL_isSound_53
      refine iv_if_le (pc := 33) C 40 dL_isSound_33 (by decide) (fun h92 => ?_) (fun h92 => ?_)
      · replace h := iw_ift h92 h
        refine iv_iconst (pc := 40) C (0 : Int32) dL_isSound_40 (by decide) ?_
        exact iv_sub [1, 2, 0, 4] rfl (vJ41 (0 : Int32) h)
      · replace h := iw_iff h92 h
        refine iv_iconst (pc := 36) C (1 : Int32) dL_isSound_36 (by decide) ?_
        refine iv_goto (pc := 37) C 41 dL_isSound_37 (by decide) ?_
        exact iv_sub [1, 2, 0, 4] rfl (vJ41 (1 : Int32) h)
  have vL7 : ∀ (nn : Nat) (v82 : Int32) (v83 : Int32) (v84 : Int32), f_L_isSound_L7 n σ (f_L_isSound_X60_7 n σ) nn v82 v83 v84 = some (r, σ') → iw_V p l e rm_L_isSound s m ([.ref (G.2.1 0), .ref (G.2.1 84)] : List Value).toArray below meth c0 0 0 (MQ below (iw_Q (some (.int r)) G σ') ([.ref (G.2.1 0), .ref (G.2.1 84)] : List Value).toArray s 0 0 (iw_A G)) 15 G (iw_A G) σ 7 [(0, .ref (G.2.1 0)), (1, .ref (G.2.1 84)), (2, .int v82), (3, .int v83), (4, .int v84)] [] := by
    intro nn
    induction nn with
    | zero => intro v82 v83 v84 h; exact absurd h (fun q => by cases q)
    | succ nn ih => intro v82 v83 v84 h; exact vB7 (f_L_isSound_X60_7 n σ) (f_L_isSound_L7 n σ (f_L_isSound_X60_7 n σ) nn) vX7 ih v82 v83 v84 h
  exact iv_sub [3, 4, 2, 1, 0] rfl (vL7 n (0 : Int32) (0 : Int32) (0 : Int32) h)
theorem qd_L_isSound : yL_isSound.cls ≠ "java/lang/invoke/MethodHandle" ∧ yL_isSound.cls ≠ "java/lang/invoke/VarHandle" ∧ (parseMethodDescriptor yL_isSound.desc).map (fun d => d.parameters.length) = some 2 := by decide +kernel
def f_L_areTimesSound_X260_2 (m1 : iw_M) : Option (Int32 × iw_M) :=
some ((1 : Int32), m1)
def f_L_areTimesSound_X247_99 (r2 : Int32 → iw_M → Option (Int32 × iw_M)) (v2 : Int32) (v12 : Int32) (m13 : iw_M) : Option (Int32 × iw_M) :=
if v12 = (0 : Int32) then
(some ((0 : Int32), m13))
else
(iw_let (v2 + (1 : Int32)) fun v15 =>
r2 v15 m13)
def f_L_areTimesSound_J241 (r99 : Int32 → Int32 → iw_M → Option (Int32 × iw_M)) (v17 : Int32) (v22 : Int32) (m23 : iw_M) : Option (Int32 × iw_M) :=
iw_let (v17 + (1 : Int32)) fun v24 =>
r99 v22 v24 m23
def f_L_areTimesSound_J239 (r99 : Int32 → Int32 → iw_M → Option (Int32 × iw_M)) (v17 : Int32) (m27 : iw_M) (v28 : Int32) : Option (Int32 × iw_M) :=
f_L_areTimesSound_J241 r99 v17 v28 m27
def f_L_areTimesSound_J234 (r99 : Int32 → Int32 → iw_M → Option (Int32 × iw_M)) (v17 : Int32) (m27 : iw_M) : Option (Int32 × iw_M) :=
f_L_areTimesSound_J239 r99 v17 m27 (1 : Int32)
def f_L_areTimesSound_J238 (r99 : Int32 → Int32 → iw_M → Option (Int32 × iw_M)) (v17 : Int32) (m27 : iw_M) : Option (Int32 × iw_M) :=
f_L_areTimesSound_J239 r99 v17 m27 (0 : Int32)
def f_L_areTimesSound_J207 (v6 : Int32) (r99 : Int32 → Int32 → iw_M → Option (Int32 × iw_M)) (v16 : Int32) (v17 : Int32) (v26 : Int32) (m27 : iw_M) : Option (Int32 × iw_M) :=
if v16 = (0 : Int32) then
(if v26 = (-1000 : Int32) then
(f_L_areTimesSound_J238 r99 v17 m27)
else
(if (v26 + (f_X5_linkPart v17 (2 : Int32) m27)) = v6 then
(f_L_areTimesSound_J234 r99 v17 m27)
else
(f_L_areTimesSound_J238 r99 v17 m27)))
else
(f_L_areTimesSound_J234 r99 v17 m27)
def f_L_areTimesSound_J152 (n : Nat) (p2 : Int32) (v2 : Int32) (v6 : Int32) (r99 : Int32 → Int32 → iw_M → Option (Int32 × iw_M)) (v16 : Int32) (v17 : Int32) (m18 : iw_M) (v21 : Int32) : Option (Int32 × iw_M) :=
if v21 < (0 : Int32) then
(f_L_areTimesSound_J241 r99 v17 v16 m18)
else
(iw_b2 (f_X5_quickest n p2 v21 m18) fun v26 m27 =>
if v26 = (-1000 : Int32) then
(f_L_areTimesSound_J207 v6 r99 v16 v17 v26 m27)
else
(if (f_X5_energy v2 m27) ≤ (0 : Int32) then
(f_L_areTimesSound_J207 v6 r99 v16 v17 v26 m27)
else
(if v6 = (-1000 : Int32) then
(some ((0 : Int32), m27))
else
(if v6 ≤ (v26 + (f_X5_linkPart v17 (2 : Int32) m27)) then
(f_L_areTimesSound_J207 v6 r99 v16 v17 v26 m27)
else
(some ((0 : Int32), m27))))))
def f_L_areTimesSound_B99 (n : Nat) (p2 : Int32) (v2 : Int32) (v6 : Int32) (k99 : Int32 → iw_M → Option (Int32 × iw_M)) (r99 : Int32 → Int32 → iw_M → Option (Int32 × iw_M)) (v16 : Int32) (v17 : Int32) (m18 : iw_M) : Option (Int32 × iw_M) :=
(f_X5_count n (1 : Int32) m18).bind fun v19 =>
if v19 ≤ v17 then
(k99 v16 m18)
else
(if (f_X5_linkPart v17 (0 : Int32) m18) = v2 then
(f_L_areTimesSound_J152 n p2 v2 v6 r99 v16 v17 m18 (f_X5_linkPart v17 (1 : Int32) m18))
else
(if (f_X5_linkPart v17 (1 : Int32) m18) = v2 then
(f_L_areTimesSound_J152 n p2 v2 v6 r99 v16 v17 m18 (f_X5_linkPart v17 (0 : Int32) m18))
else
(f_L_areTimesSound_J152 n p2 v2 v6 r99 v16 v17 m18 (-1 : Int32))))
def f_L_areTimesSound_L99 (n : Nat) (p2 : Int32) (v2 : Int32) (v6 : Int32) (k99 : Int32 → iw_M → Option (Int32 × iw_M)) (nn : Nat) : Int32 → Int32 → iw_M → Option (Int32 × iw_M) :=
iw_it (fun r99 => f_L_areTimesSound_B99 n p2 v2 v6 k99 r99) (fun _ _ _ => none) nn
def f_L_areTimesSound_J94 (n : Nat) (p2 : Int32) (r2 : Int32 → iw_M → Option (Int32 × iw_M)) (v2 : Int32) (v6 : Int32) (m9 : iw_M) (v11 : Int32) : Option (Int32 × iw_M) :=
f_L_areTimesSound_L99 n p2 v2 v6 (f_L_areTimesSound_X247_99 r2 v2) n v11 (0 : Int32) m9
def f_L_areTimesSound_J89 (n : Nat) (p2 : Int32) (r2 : Int32 → iw_M → Option (Int32 × iw_M)) (v2 : Int32) (v6 : Int32) (m9 : iw_M) : Option (Int32 × iw_M) :=
f_L_areTimesSound_J94 n p2 r2 v2 v6 m9 (1 : Int32)
def f_L_areTimesSound_J77 (n : Nat) (p2 : Int32) (r2 : Int32 → iw_M → Option (Int32 × iw_M)) (v2 : Int32) (v6 : Int32) (m9 : iw_M) : Option (Int32 × iw_M) :=
if v2 = p2 then
(f_L_areTimesSound_J89 n p2 r2 v2 v6 m9)
else
(if v6 = (-1000 : Int32) then
(f_L_areTimesSound_J89 n p2 r2 v2 v6 m9)
else
(f_L_areTimesSound_J94 n p2 r2 v2 v6 m9 (0 : Int32)))
def f_L_areTimesSound_J52 (n : Nat) (p2 : Int32) (r2 : Int32 → iw_M → Option (Int32 × iw_M)) (v2 : Int32) (v6 : Int32) (m9 : iw_M) : Option (Int32 × iw_M) :=
if v6 = (-1000 : Int32) then
(f_L_areTimesSound_J77 n p2 r2 v2 v6 m9)
else
(if (f_X5_energy v2 m9) = (0 : Int32) then
(some ((0 : Int32), m9))
else
(if (f_X5_energy p2 m9) = (0 : Int32) then
(some ((0 : Int32), m9))
else
(f_L_areTimesSound_J77 n p2 r2 v2 v6 m9)))
def f_L_areTimesSound_J49 (n : Nat) (p2 : Int32) (r2 : Int32 → iw_M → Option (Int32 × iw_M)) (v2 : Int32) (v6 : Int32) (m9 : iw_M) (v44 : Int32) : Option (Int32 × iw_M) :=
if v6 = v44 then
(f_L_areTimesSound_J52 n p2 r2 v2 v6 m9)
else
(some ((0 : Int32), m9))
def f_L_areTimesSound_B2 (n : Nat) (p2 : Int32) (k2 : iw_M → Option (Int32 × iw_M)) (r2 : Int32 → iw_M → Option (Int32 × iw_M)) (v2 : Int32) (m3 : iw_M) : Option (Int32 × iw_M) :=
(f_X5_count n (0 : Int32) m3).bind fun v4 =>
if v4 ≤ v2 then
(k2 m3)
else
(iw_b2 (f_X5_quickest n p2 v2 m3) fun v6 m7 =>
iw_b2 (f_X5_quickest n v2 p2 m7) fun v8 m9 =>
if v6 = v8 then
(if v2 = p2 then
(if (f_X5_energy v2 m9) ≤ (0 : Int32) then
(f_L_areTimesSound_J49 n p2 r2 v2 v6 m9 (-1000 : Int32))
else
(f_L_areTimesSound_J49 n p2 r2 v2 v6 m9 (0 : Int32)))
else
(f_L_areTimesSound_J52 n p2 r2 v2 v6 m9))
else
(some ((0 : Int32), m9)))
def f_L_areTimesSound_L2 (n : Nat) (p2 : Int32) (k2 : iw_M → Option (Int32 × iw_M)) (nn : Nat) : Int32 → iw_M → Option (Int32 × iw_M) :=
iw_it (fun r2 => f_L_areTimesSound_B2 n p2 k2 r2) (fun _ _ => none) nn
def f_L_areTimesSound (n : Nat) (p2 : Int32) (σ : iw_M) : Option (Int32 × iw_M) :=
f_L_areTimesSound_L2 n p2 (f_L_areTimesSound_X260_2) n (0 : Int32) σ
abbrev rm_L_areTimesSound : Room := { frames := 5, cells := 0, slots := 0, locals := 111 }
set_option maxHeartbeats 4000000 in
set_option maxRecDepth 100000 in
theorem k_L_areTimesSound (l : Launch) (G : iw_G) (hJ : iw_JX G) (n : Nat) (p2 : Int32) (σ : iw_M) {r : Int32} {σ' : iw_M} (h : f_L_areTimesSound n p2 σ = some (r, σ')) : iw_Ct l yL_areTimesSound wsL_areTimesSound rm_L_areTimesSound G ([.ref (G.2.1 0), .int p2] : List Value) σ (some (.int r)) σ' := by
  refine iv_start (nL := 8) (own := RL) (ret := (some .boolean)) (cc := cL_areTimesSound) (by decide +kernel) rfl rfl hJ.1 (Nat.le_of_ble_eq_true rfl) ?_
  intro p e s m below meth c0 C hr hlk
  refine iv_sub (lv' := [(0, .ref (G.2.1 0)), (1, .int p2)]) [0, 1] rfl ?_
  unfold f_L_areTimesSound at h
  refine iv_iconst (pc := 0) C (0 : Int32) dL_areTimesSound_0 (by decide) ?_
  refine iv_istore_n (pc := 1) C [(2, .int (0 : Int32)), (0, .ref (G.2.1 0)), (1, .int p2)] dL_areTimesSound_1 rfl (by decide) rfl ?_
  have vX2 : ∀ (m1 : iw_M), f_L_areTimesSound_X260_2 m1 = some (r, σ') → iw_V p l e rm_L_areTimesSound s m ([.ref (G.2.1 0), .int p2] : List Value).toArray below meth c0 0 0 (MQ below (iw_Q (some (.int r)) G σ') ([.ref (G.2.1 0), .int p2] : List Value).toArray s 0 0 (iw_A G)) 8 G (iw_A G) m1 260 [] [] := by
    intro m1 h
    unfold f_L_areTimesSound_X260_2 at h
    refine iv_iconst (pc := 260) C (1 : Int32) dL_areTimesSound_260 (by decide) ?_
    cases h
    exact iv_zret C hr hlk rfl rfl dL_areTimesSound_261
  have vB2 : ∀ (k2 : iw_M → Option (Int32 × iw_M)) (r2 : Int32 → iw_M → Option (Int32 × iw_M)), (∀ (m1 : iw_M), k2 m1 = some (r, σ') → iw_V p l e rm_L_areTimesSound s m ([.ref (G.2.1 0), .int p2] : List Value).toArray below meth c0 0 0 (MQ below (iw_Q (some (.int r)) G σ') ([.ref (G.2.1 0), .int p2] : List Value).toArray s 0 0 (iw_A G)) 8 G (iw_A G) m1 260 [] []) → (∀ (v2 : Int32) (m3 : iw_M), r2 v2 m3 = some (r, σ') → iw_V p l e rm_L_areTimesSound s m ([.ref (G.2.1 0), .int p2] : List Value).toArray below meth c0 0 0 (MQ below (iw_Q (some (.int r)) G σ') ([.ref (G.2.1 0), .int p2] : List Value).toArray s 0 0 (iw_A G)) 8 G (iw_A G) m3 2 [(0, .ref (G.2.1 0)), (1, .int p2), (2, .int v2)] []) → ∀ (v2 : Int32) (m3 : iw_M), f_L_areTimesSound_B2 n p2 k2 r2 v2 m3 = some (r, σ') → iw_V p l e rm_L_areTimesSound s m ([.ref (G.2.1 0), .int p2] : List Value).toArray below meth c0 0 0 (MQ below (iw_Q (some (.int r)) G σ') ([.ref (G.2.1 0), .int p2] : List Value).toArray s 0 0 (iw_A G)) 8 G (iw_A G) m3 2 [(0, .ref (G.2.1 0)), (1, .int p2), (2, .int v2)] [] := by
    intro k2 r2 hk2 hr2 v2 m3 h
    unfold f_L_areTimesSound_B2 at h
    refine iv_iload_n (pc := 2) C 2 dL_areTimesSound_2 rfl rfl ?_
    refine iv_aload_n (pc := 3) C 0 dL_areTimesSound_3 rfl rfl ?_
    refine iv_iconst (pc := 4) C (0 : Int32) dL_areTimesSound_4 (by decide) ?_
    obtain ⟨v4, ev4, h⟩ := iw_be h
    refine iv_callV (pc := 5) (b := 0) (ci := 5) C [.int (0 : Int32)] (k_X5_count l G hJ n (0 : Int32) m3 ev4) gL_areTimesSound_X5_count rfl qd_X5_count ⟨rfl, rfl, Nat.le_of_ble_eq_true rfl, Nat.le_of_ble_eq_true rfl⟩ (iw_ix hJ (by decide)) iw_Eo0 rfl rfl rfl (Nat.le_of_ble_eq_true rfl) dL_areTimesSound_5 ?_
    refine iv_icmp_ge (pc := 8) C 260 dL_areTimesSound_8 (by decide) (fun h5 => ?_) (fun h5 => ?_)
    · replace h := iw_ift h5 h
      exact iv_sub [] rfl (hk2 m3 h)
    · replace h := iw_iff h5 h
      refine iv_aload_n (pc := 11) C 0 dL_areTimesSound_11 rfl rfl ?_
      refine iv_iload_n (pc := 12) C 1 dL_areTimesSound_12 rfl rfl ?_
      refine iv_iload_n (pc := 13) C 2 dL_areTimesSound_13 rfl rfl ?_
      obtain ⟨v6, m7, ev6, h⟩ := iw_b2e h
      refine iv_callV (pc := 14) (b := 0) (ci := 5) C [.int p2, .int v2] (k_X5_quickest l G hJ n p2 v2 m3 ev6) gL_areTimesSound_X5_quickest rfl qd_X5_quickest ⟨rfl, rfl, Nat.le_of_ble_eq_true rfl, Nat.le_of_ble_eq_true rfl⟩ (iw_ix hJ (by decide)) iw_Eo0 rfl rfl rfl (Nat.le_of_ble_eq_true rfl) dL_areTimesSound_14 ?_
      refine iv_istore_n (pc := 17) C [(3, .int v6), (0, .ref (G.2.1 0)), (1, .int p2), (2, .int v2)] dL_areTimesSound_17 rfl (by decide) rfl ?_
      refine iv_iload_n (pc := 18) C 0 dL_areTimesSound_18 rfl rfl ?_
      refine iv_aload_n (pc := 19) C 1 dL_areTimesSound_19 rfl rfl ?_
      refine iv_iload_n (pc := 20) C 3 dL_areTimesSound_20 rfl rfl ?_
      refine iv_iload_n (pc := 21) C 2 dL_areTimesSound_21 rfl rfl ?_
      obtain ⟨v8, m9, ev8, h⟩ := iw_b2e h
      refine iv_callV (pc := 22) (b := 0) (ci := 5) C [.int v2, .int p2] (k_X5_quickest l G hJ n v2 p2 m7 ev8) gL_areTimesSound_X5_quickest rfl qd_X5_quickest ⟨rfl, rfl, Nat.le_of_ble_eq_true rfl, Nat.le_of_ble_eq_true rfl⟩ (iw_ix hJ (by decide)) iw_Eo0 rfl rfl rfl (Nat.le_of_ble_eq_true rfl) dL_areTimesSound_22 ?_
      refine iv_icmp_ne (pc := 25) C 75 dL_areTimesSound_25 (by decide) (fun h10 => ?_) (fun h10 => ?_)
      · replace h := iw_iff h10 h
        refine iv_iconst (pc := 75) C (0 : Int32) dL_areTimesSound_75 (by decide) ?_
        cases h
        exact iv_zret C hr hlk rfl rfl dL_areTimesSound_76
      · replace h := iw_ift h10 h
        refine iv_iload_n (pc := 28) C 3 dL_areTimesSound_28 rfl rfl ?_
        refine iv_iload_n (pc := 29) C 2 dL_areTimesSound_29 rfl rfl ?_
        have vJ52 : f_L_areTimesSound_J52 n p2 r2 v2 v6 m9  = some (r, σ') → iw_V p l e rm_L_areTimesSound s m ([.ref (G.2.1 0), .int p2] : List Value).toArray below meth c0 0 0 (MQ below (iw_Q (some (.int r)) G σ') ([.ref (G.2.1 0), .int p2] : List Value).toArray s 0 0 (iw_A G)) 8 G (iw_A G) m9 52 [(0, .ref (G.2.1 0)), (1, .int p2), (2, .int v2), (3, .int v6)] [] := by
          intro h
          unfold f_L_areTimesSound_J52 at h
          refine iv_iload_n (pc := 52) C 3 dL_areTimesSound_52 rfl rfl ?_
          refine iv_sipush (pc := 53) C (-1000 : Int32) dL_areTimesSound_53 (by decide) ?_
          have vJ77 : f_L_areTimesSound_J77 n p2 r2 v2 v6 m9  = some (r, σ') → iw_V p l e rm_L_areTimesSound s m ([.ref (G.2.1 0), .int p2] : List Value).toArray below meth c0 0 0 (MQ below (iw_Q (some (.int r)) G σ') ([.ref (G.2.1 0), .int p2] : List Value).toArray s 0 0 (iw_A G)) 8 G (iw_A G) m9 77 [(0, .ref (G.2.1 0)), (1, .int p2), (2, .int v2), (3, .int v6)] [] := by
            intro h
            unfold f_L_areTimesSound_J77 at h
            refine iv_iload_n (pc := 77) C 2 dL_areTimesSound_77 rfl rfl ?_
            refine iv_iload_n (pc := 78) C 1 dL_areTimesSound_78 rfl rfl ?_
            have vJ94 : ∀ (v11 : Int32), f_L_areTimesSound_J94 n p2 r2 v2 v6 m9 v11 = some (r, σ') → iw_V p l e rm_L_areTimesSound s m ([.ref (G.2.1 0), .int p2] : List Value).toArray below meth c0 0 0 (MQ below (iw_Q (some (.int r)) G σ') ([.ref (G.2.1 0), .int p2] : List Value).toArray s 0 0 (iw_A G)) 8 G (iw_A G) m9 94 [(0, .ref (G.2.1 0)), (1, .int p2), (2, .int v2), (3, .int v6)] [.int v11] := by
              intro v11 h
              unfold f_L_areTimesSound_J94 at h
              refine iv_istore (pc := 94) C [(4, .int v11), (0, .ref (G.2.1 0)), (1, .int p2), (2, .int v2), (3, .int v6)] dL_areTimesSound_94 (by decide) rfl ?_
              refine iv_iconst (pc := 96) C (0 : Int32) dL_areTimesSound_96 (by decide) ?_
              refine iv_istore (pc := 97) C [(5, .int (0 : Int32)), (4, .int v11), (0, .ref (G.2.1 0)), (1, .int p2), (2, .int v2), (3, .int v6)] dL_areTimesSound_97 (by decide) rfl ?_
              have vX99 : ∀ (v12 : Int32) (m13 : iw_M), f_L_areTimesSound_X247_99 r2 v2 v12 m13 = some (r, σ') → iw_V p l e rm_L_areTimesSound s m ([.ref (G.2.1 0), .int p2] : List Value).toArray below meth c0 0 0 (MQ below (iw_Q (some (.int r)) G σ') ([.ref (G.2.1 0), .int p2] : List Value).toArray s 0 0 (iw_A G)) 8 G (iw_A G) m13 247 [(0, .ref (G.2.1 0)), (1, .int p2), (2, .int v2), (4, .int v12)] [] := by
                intro v12 m13 h
                unfold f_L_areTimesSound_X247_99 at h
                refine iv_iload (pc := 247) C 3 dL_areTimesSound_247 rfl ?_
                refine iv_if_ne (pc := 249) C 254 dL_areTimesSound_249 (by decide) (fun h14 => ?_) (fun h14 => ?_)
                · replace h := iw_iff h14 h
                  obtain ⟨v15, ev15⟩ : ∃ y : Int32, y = v2 + (1 : Int32) := ⟨_, rfl⟩
                  replace h := iw_lete ev15 h
                  refine iv_iinc (pc := 254) C 2 v15 [(2, .int v15), (0, .ref (G.2.1 0)), (1, .int p2), (4, .int v12)] dL_areTimesSound_254 rfl (by rw [ev15]; rfl) (by decide) rfl ?_
                  refine iv_goto (pc := 257) C 2 dL_areTimesSound_257 (by decide) ?_
                  exact iv_sub [1, 2, 0] rfl (hr2 v15 m13 h)
                · replace h := iw_ift h14 h
                  refine iv_iconst (pc := 252) C (0 : Int32) dL_areTimesSound_252 (by decide) ?_
                  cases h
                  exact iv_zret C hr hlk rfl rfl dL_areTimesSound_253
              have vB99 : ∀ (k99 : Int32 → iw_M → Option (Int32 × iw_M)) (r99 : Int32 → Int32 → iw_M → Option (Int32 × iw_M)), (∀ (v12 : Int32) (m13 : iw_M), k99 v12 m13 = some (r, σ') → iw_V p l e rm_L_areTimesSound s m ([.ref (G.2.1 0), .int p2] : List Value).toArray below meth c0 0 0 (MQ below (iw_Q (some (.int r)) G σ') ([.ref (G.2.1 0), .int p2] : List Value).toArray s 0 0 (iw_A G)) 8 G (iw_A G) m13 247 [(0, .ref (G.2.1 0)), (1, .int p2), (2, .int v2), (4, .int v12)] []) → (∀ (v16 : Int32) (v17 : Int32) (m18 : iw_M), r99 v16 v17 m18 = some (r, σ') → iw_V p l e rm_L_areTimesSound s m ([.ref (G.2.1 0), .int p2] : List Value).toArray below meth c0 0 0 (MQ below (iw_Q (some (.int r)) G σ') ([.ref (G.2.1 0), .int p2] : List Value).toArray s 0 0 (iw_A G)) 8 G (iw_A G) m18 99 [(0, .ref (G.2.1 0)), (1, .int p2), (2, .int v2), (3, .int v6), (4, .int v16), (5, .int v17)] []) → ∀ (v16 : Int32) (v17 : Int32) (m18 : iw_M), f_L_areTimesSound_B99 n p2 v2 v6 k99 r99 v16 v17 m18 = some (r, σ') → iw_V p l e rm_L_areTimesSound s m ([.ref (G.2.1 0), .int p2] : List Value).toArray below meth c0 0 0 (MQ below (iw_Q (some (.int r)) G σ') ([.ref (G.2.1 0), .int p2] : List Value).toArray s 0 0 (iw_A G)) 8 G (iw_A G) m18 99 [(0, .ref (G.2.1 0)), (1, .int p2), (2, .int v2), (3, .int v6), (4, .int v16), (5, .int v17)] [] := by
                intro k99 r99 hk99 hr99 v16 v17 m18 h
                unfold f_L_areTimesSound_B99 at h
                refine iv_iload (pc := 99) C 5 dL_areTimesSound_99 rfl ?_
                refine iv_aload_n (pc := 101) C 0 dL_areTimesSound_101 rfl rfl ?_
                refine iv_iconst (pc := 102) C (1 : Int32) dL_areTimesSound_102 (by decide) ?_
                obtain ⟨v19, ev19, h⟩ := iw_be h
                refine iv_callV (pc := 103) (b := 0) (ci := 5) C [.int (1 : Int32)] (k_X5_count l G hJ n (1 : Int32) m18 ev19) gL_areTimesSound_X5_count rfl qd_X5_count ⟨rfl, rfl, Nat.le_of_ble_eq_true rfl, Nat.le_of_ble_eq_true rfl⟩ (iw_ix hJ (by decide)) iw_Eo0 rfl rfl rfl (Nat.le_of_ble_eq_true rfl) dL_areTimesSound_103 ?_
                refine iv_icmp_ge (pc := 106) C 247 dL_areTimesSound_106 (by decide) (fun h20 => ?_) (fun h20 => ?_)
                · replace h := iw_ift h20 h
                  exact iv_sub [0, 1, 2, 4] rfl (hk99 v16 m18 h)
                · replace h := iw_iff h20 h
                  refine iv_aload_n (pc := 109) C 0 dL_areTimesSound_109 rfl rfl ?_
                  refine iv_iload (pc := 110) C 5 dL_areTimesSound_110 rfl ?_
                  refine iv_iconst (pc := 112) C (0 : Int32) dL_areTimesSound_112 (by decide) ?_
                  refine iv_callV (pc := 113) (b := 0) (ci := 5) C [.int v17, .int (0 : Int32)] (k_X5_linkPart l G hJ v17 (0 : Int32) m18 rfl) gL_areTimesSound_X5_linkPart rfl qd_X5_linkPart ⟨rfl, rfl, Nat.le_of_ble_eq_true rfl, Nat.le_of_ble_eq_true rfl⟩ (iw_ix hJ (by decide)) iw_Eo0 rfl rfl rfl (Nat.le_of_ble_eq_true rfl) dL_areTimesSound_113 ?_
                  refine iv_iload_n (pc := 116) C 2 dL_areTimesSound_116 rfl rfl ?_
                  have vJ152 : ∀ (v21 : Int32), f_L_areTimesSound_J152 n p2 v2 v6 r99 v16 v17 m18 v21 = some (r, σ') → iw_V p l e rm_L_areTimesSound s m ([.ref (G.2.1 0), .int p2] : List Value).toArray below meth c0 0 0 (MQ below (iw_Q (some (.int r)) G σ') ([.ref (G.2.1 0), .int p2] : List Value).toArray s 0 0 (iw_A G)) 8 G (iw_A G) m18 152 [(0, .ref (G.2.1 0)), (1, .int p2), (2, .int v2), (3, .int v6), (4, .int v16), (5, .int v17)] [.int v21] := by
                    intro v21 h
                    unfold f_L_areTimesSound_J152 at h
                    refine iv_istore (pc := 152) C [(6, .int v21), (0, .ref (G.2.1 0)), (1, .int p2), (2, .int v2), (3, .int v6), (4, .int v16), (5, .int v17)] dL_areTimesSound_152 (by decide) rfl ?_
                    refine iv_iload (pc := 154) C 0 dL_areTimesSound_154 rfl ?_
                    have vJ241 : ∀ (v22 : Int32) (m23 : iw_M), f_L_areTimesSound_J241 r99 v17 v22 m23 = some (r, σ') → iw_V p l e rm_L_areTimesSound s m ([.ref (G.2.1 0), .int p2] : List Value).toArray below meth c0 0 0 (MQ below (iw_Q (some (.int r)) G σ') ([.ref (G.2.1 0), .int p2] : List Value).toArray s 0 0 (iw_A G)) 8 G (iw_A G) m23 241 [(0, .ref (G.2.1 0)), (1, .int p2), (2, .int v2), (3, .int v6), (4, .int v22), (5, .int v17)] [] := by
                      intro v22 m23 h
                      unfold f_L_areTimesSound_J241 at h
                      obtain ⟨v24, ev24⟩ : ∃ y : Int32, y = v17 + (1 : Int32) := ⟨_, rfl⟩
                      replace h := iw_lete ev24 h
                      refine iv_iinc (pc := 241) C 5 v24 [(5, .int v24), (0, .ref (G.2.1 0)), (1, .int p2), (2, .int v2), (3, .int v6), (4, .int v22)] dL_areTimesSound_241 rfl (by rw [ev24]; rfl) (by decide) rfl ?_
                      refine iv_goto (pc := 244) C 99 dL_areTimesSound_244 (by decide) ?_
                      exact iv_sub [1, 2, 3, 4, 5, 0] rfl (hr99 v22 v24 m23 h)
                    refine iv_if_lt (pc := 156) C 241 dL_areTimesSound_156 (by decide) (fun h25 => ?_) (fun h25 => ?_)
                    · replace h := iw_ift h25 h
                      exact iv_sub [1, 2, 3, 4, 5, 6] rfl (vJ241 v16 m18 h)
                    · replace h := iw_iff h25 h
                      refine iv_aload_n (pc := 159) C 1 dL_areTimesSound_159 rfl rfl ?_
                      refine iv_iload_n (pc := 160) C 2 dL_areTimesSound_160 rfl rfl ?_
                      refine iv_iload (pc := 161) C 0 dL_areTimesSound_161 rfl ?_
                      obtain ⟨v26, m27, ev26, h⟩ := iw_b2e h
                      refine iv_callV (pc := 163) (b := 0) (ci := 5) C [.int p2, .int v21] (k_X5_quickest l G hJ n p2 v21 m18 ev26) gL_areTimesSound_X5_quickest rfl qd_X5_quickest ⟨rfl, rfl, Nat.le_of_ble_eq_true rfl, Nat.le_of_ble_eq_true rfl⟩ (iw_ix hJ (by decide)) iw_Eo0 rfl rfl rfl (Nat.le_of_ble_eq_true rfl) dL_areTimesSound_163 ?_
                      refine iv_istore (pc := 166) C [(7, .int v26), (6, .int v21), (0, .ref (G.2.1 0)), (1, .int p2), (2, .int v2), (3, .int v6), (4, .int v16), (5, .int v17)] dL_areTimesSound_166 (by decide) rfl ?_
                      refine iv_iload (pc := 168) C 0 dL_areTimesSound_168 rfl ?_
                      refine iv_sipush (pc := 170) C (-1000 : Int32) dL_areTimesSound_170 (by decide) ?_
                      have vJ207 : f_L_areTimesSound_J207 v6 r99 v16 v17 v26 m27  = some (r, σ') → iw_V p l e rm_L_areTimesSound s m ([.ref (G.2.1 0), .int p2] : List Value).toArray below meth c0 0 0 (MQ below (iw_Q (some (.int r)) G σ') ([.ref (G.2.1 0), .int p2] : List Value).toArray s 0 0 (iw_A G)) 8 G (iw_A G) m27 207 [(0, .ref (G.2.1 0)), (1, .int p2), (2, .int v2), (3, .int v6), (4, .int v16), (5, .int v17), (7, .int v26)] [] := by
                        intro h
                        unfold f_L_areTimesSound_J207 at h
                        refine iv_iload (pc := 207) C 4 dL_areTimesSound_207 rfl ?_
                        have vJ239 : ∀ (v28 : Int32), f_L_areTimesSound_J239 r99 v17 m27 v28 = some (r, σ') → iw_V p l e rm_L_areTimesSound s m ([.ref (G.2.1 0), .int p2] : List Value).toArray below meth c0 0 0 (MQ below (iw_Q (some (.int r)) G σ') ([.ref (G.2.1 0), .int p2] : List Value).toArray s 0 0 (iw_A G)) 8 G (iw_A G) m27 239 [(0, .ref (G.2.1 0)), (1, .int p2), (2, .int v2), (3, .int v6), (5, .int v17)] [.int v28] := by
                          intro v28 h
                          unfold f_L_areTimesSound_J239 at h
                          refine iv_istore (pc := 239) C [(4, .int v28), (0, .ref (G.2.1 0)), (1, .int p2), (2, .int v2), (3, .int v6), (5, .int v17)] dL_areTimesSound_239 (by decide) rfl ?_
                          exact iv_sub [1, 2, 3, 4, 0, 5] rfl (vJ241 v28 m27 h)
                        have vJ234 : f_L_areTimesSound_J234 r99 v17 m27  = some (r, σ') → iw_V p l e rm_L_areTimesSound s m ([.ref (G.2.1 0), .int p2] : List Value).toArray below meth c0 0 0 (MQ below (iw_Q (some (.int r)) G σ') ([.ref (G.2.1 0), .int p2] : List Value).toArray s 0 0 (iw_A G)) 8 G (iw_A G) m27 234 [(0, .ref (G.2.1 0)), (1, .int p2), (2, .int v2), (3, .int v6), (5, .int v17)] [] := by
                          intro h
                          unfold f_L_areTimesSound_J234 at h
                          refine iv_iconst (pc := 234) C (1 : Int32) dL_areTimesSound_234 (by decide) ?_
                          refine iv_goto (pc := 235) C 239 dL_areTimesSound_235 (by decide) ?_
                          exact iv_sub [0, 1, 2, 3, 4] rfl (vJ239 (1 : Int32) h)
                        refine iv_if_ne (pc := 209) C 234 dL_areTimesSound_209 (by decide) (fun h29 => ?_) (fun h29 => ?_)
                        · replace h := iw_iff h29 h
                          exact iv_sub [0, 1, 2, 3, 5] rfl (vJ234 h)
                        · replace h := iw_ift h29 h
                          refine iv_iload (pc := 212) C 6 dL_areTimesSound_212 rfl ?_
                          refine iv_sipush (pc := 214) C (-1000 : Int32) dL_areTimesSound_214 (by decide) ?_
                          have vJ238 : f_L_areTimesSound_J238 r99 v17 m27  = some (r, σ') → iw_V p l e rm_L_areTimesSound s m ([.ref (G.2.1 0), .int p2] : List Value).toArray below meth c0 0 0 (MQ below (iw_Q (some (.int r)) G σ') ([.ref (G.2.1 0), .int p2] : List Value).toArray s 0 0 (iw_A G)) 8 G (iw_A G) m27 238 [(0, .ref (G.2.1 0)), (1, .int p2), (2, .int v2), (3, .int v6), (5, .int v17)] [] := by
                            intro h
                            unfold f_L_areTimesSound_J238 at h
                            refine iv_iconst (pc := 238) C (0 : Int32) dL_areTimesSound_238 (by decide) ?_
                            exact iv_sub [0, 1, 2, 3, 4] rfl (vJ239 (0 : Int32) h)
                          refine iv_icmp_eq (pc := 217) C 238 dL_areTimesSound_217 (by decide) (fun h30 => ?_) (fun h30 => ?_)
                          · replace h := iw_ift h30 h
                            exact iv_sub [0, 1, 2, 3, 5] rfl (vJ238 h)
                          · replace h := iw_iff h30 h
                            refine iv_iload (pc := 220) C 6 dL_areTimesSound_220 rfl ?_
                            refine iv_aload_n (pc := 222) C 0 dL_areTimesSound_222 rfl rfl ?_
                            refine iv_iload (pc := 223) C 5 dL_areTimesSound_223 rfl ?_
                            refine iv_iconst (pc := 225) C (2 : Int32) dL_areTimesSound_225 (by decide) ?_
                            refine iv_callV (pc := 226) (b := 0) (ci := 5) C [.int v17, .int (2 : Int32)] (k_X5_linkPart l G hJ v17 (2 : Int32) m27 rfl) gL_areTimesSound_X5_linkPart rfl qd_X5_linkPart ⟨rfl, rfl, Nat.le_of_ble_eq_true rfl, Nat.le_of_ble_eq_true rfl⟩ (iw_ix hJ (by decide)) iw_Eo0 rfl rfl rfl (Nat.le_of_ble_eq_true rfl) dL_areTimesSound_226 ?_
                            refine iv_iadd (pc := 229) C dL_areTimesSound_229 ?_
                            refine iv_iload_n (pc := 230) C 3 dL_areTimesSound_230 rfl rfl ?_
                            refine iv_icmp_ne (pc := 231) C 238 dL_areTimesSound_231 (by decide) (fun h31 => ?_) (fun h31 => ?_)
                            · replace h := iw_iff h31 h
                              exact iv_sub [0, 1, 2, 3, 5] rfl (vJ238 h)
                            · replace h := iw_ift h31 h
                              exact iv_sub [0, 1, 2, 3, 5] rfl (vJ234 h)
                      refine iv_icmp_eq (pc := 173) C 207 dL_areTimesSound_173 (by decide) (fun h32 => ?_) (fun h32 => ?_)
                      · replace h := iw_ift h32 h
                        exact iv_sub [2, 3, 4, 5, 6, 7, 0] rfl (vJ207 h)
                      · replace h := iw_iff h32 h
                        refine iv_aload_n (pc := 176) C 2 dL_areTimesSound_176 rfl rfl ?_
                        refine iv_iload_n (pc := 177) C 4 dL_areTimesSound_177 rfl rfl ?_
                        refine iv_callV (pc := 178) (b := 0) (ci := 5) C [.int v2] (k_X5_energy l G hJ v2 m27 rfl) gL_areTimesSound_X5_energy rfl qd_X5_energy ⟨rfl, rfl, Nat.le_of_ble_eq_true rfl, Nat.le_of_ble_eq_true rfl⟩ (iw_ix hJ (by decide)) iw_Eo0 rfl rfl rfl (Nat.le_of_ble_eq_true rfl) dL_areTimesSound_178 ?_
                        refine iv_if_le (pc := 181) C 207 dL_areTimesSound_181 (by decide) (fun h33 => ?_) (fun h33 => ?_)
                        · replace h := iw_ift h33 h
                          exact iv_sub [2, 3, 4, 5, 6, 7, 0] rfl (vJ207 h)
                        · replace h := iw_iff h33 h
                          refine iv_iload_n (pc := 184) C 5 dL_areTimesSound_184 rfl rfl ?_
                          refine iv_sipush (pc := 185) C (-1000 : Int32) dL_areTimesSound_185 (by decide) ?_
                          refine iv_icmp_eq (pc := 188) C 205 dL_areTimesSound_188 (by decide) (fun h34 => ?_) (fun h34 => ?_)
                          · replace h := iw_ift h34 h
                            refine iv_iconst (pc := 205) C (0 : Int32) dL_areTimesSound_205 (by decide) ?_
                            cases h
                            exact iv_zret C hr hlk rfl rfl dL_areTimesSound_206
                          · replace h := iw_iff h34 h
                            refine iv_iload_n (pc := 191) C 5 dL_areTimesSound_191 rfl rfl ?_
                            refine iv_iload (pc := 192) C 0 dL_areTimesSound_192 rfl ?_
                            refine iv_aload_n (pc := 194) C 2 dL_areTimesSound_194 rfl rfl ?_
                            refine iv_iload (pc := 195) C 7 dL_areTimesSound_195 rfl ?_
                            refine iv_iconst (pc := 197) C (2 : Int32) dL_areTimesSound_197 (by decide) ?_
                            refine iv_callV (pc := 198) (b := 0) (ci := 5) C [.int v17, .int (2 : Int32)] (k_X5_linkPart l G hJ v17 (2 : Int32) m27 rfl) gL_areTimesSound_X5_linkPart rfl qd_X5_linkPart ⟨rfl, rfl, Nat.le_of_ble_eq_true rfl, Nat.le_of_ble_eq_true rfl⟩ (iw_ix hJ (by decide)) iw_Eo0 rfl rfl rfl (Nat.le_of_ble_eq_true rfl) dL_areTimesSound_198 ?_
                            refine iv_iadd (pc := 201) C dL_areTimesSound_201 ?_
                            refine iv_icmp_le (pc := 202) C 207 dL_areTimesSound_202 (by decide) (fun h35 => ?_) (fun h35 => ?_)
                            · replace h := iw_ift h35 h
                              exact iv_sub [2, 3, 4, 5, 6, 7, 0] rfl (vJ207 h)
                            · replace h := iw_iff h35 h
                              refine iv_iconst (pc := 205) C (0 : Int32) dL_areTimesSound_205 (by decide) ?_
                              cases h
                              exact iv_zret C hr hlk rfl rfl dL_areTimesSound_206
                  refine iv_icmp_ne (pc := 117) C 130 dL_areTimesSound_117 (by decide) (fun h36 => ?_) (fun h36 => ?_)
                  · replace h := iw_iff h36 h
                    refine iv_aload_n (pc := 130) C 0 dL_areTimesSound_130 rfl rfl ?_
                    refine iv_iload (pc := 131) C 5 dL_areTimesSound_131 rfl ?_
                    refine iv_iconst (pc := 133) C (1 : Int32) dL_areTimesSound_133 (by decide) ?_
                    refine iv_callV (pc := 134) (b := 0) (ci := 5) C [.int v17, .int (1 : Int32)] (k_X5_linkPart l G hJ v17 (1 : Int32) m18 rfl) gL_areTimesSound_X5_linkPart rfl qd_X5_linkPart ⟨rfl, rfl, Nat.le_of_ble_eq_true rfl, Nat.le_of_ble_eq_true rfl⟩ (iw_ix hJ (by decide)) iw_Eo0 rfl rfl rfl (Nat.le_of_ble_eq_true rfl) dL_areTimesSound_134 ?_
                    refine iv_iload_n (pc := 137) C 2 dL_areTimesSound_137 rfl rfl ?_
                    refine iv_icmp_ne (pc := 138) C 151 dL_areTimesSound_138 (by decide) (fun h37 => ?_) (fun h37 => ?_)
                    · replace h := iw_iff h37 h
                      refine iv_iconst (pc := 151) C (-1 : Int32) dL_areTimesSound_151 (by decide) ?_
                      exact iv_sub [0, 1, 2, 3, 4, 5] rfl (vJ152 (-1 : Int32) h)
                    · replace h := iw_ift h37 h
                      refine iv_aload_n (pc := 141) C 0 dL_areTimesSound_141 rfl rfl ?_
                      refine iv_iload (pc := 142) C 5 dL_areTimesSound_142 rfl ?_
                      refine iv_iconst (pc := 144) C (0 : Int32) dL_areTimesSound_144 (by decide) ?_
                      refine iv_callV (pc := 145) (b := 0) (ci := 5) C [.int v17, .int (0 : Int32)] (k_X5_linkPart l G hJ v17 (0 : Int32) m18 rfl) gL_areTimesSound_X5_linkPart rfl qd_X5_linkPart ⟨rfl, rfl, Nat.le_of_ble_eq_true rfl, Nat.le_of_ble_eq_true rfl⟩ (iw_ix hJ (by decide)) iw_Eo0 rfl rfl rfl (Nat.le_of_ble_eq_true rfl) dL_areTimesSound_145 ?_
                      refine iv_goto (pc := 148) C 152 dL_areTimesSound_148 (by decide) ?_
                      exact iv_sub [0, 1, 2, 3, 4, 5] rfl (vJ152 (f_X5_linkPart v17 (0 : Int32) m18) h)
                  · replace h := iw_ift h36 h
                    refine iv_aload_n (pc := 120) C 0 dL_areTimesSound_120 rfl rfl ?_
                    refine iv_iload (pc := 121) C 5 dL_areTimesSound_121 rfl ?_
                    refine iv_iconst (pc := 123) C (1 : Int32) dL_areTimesSound_123 (by decide) ?_
                    refine iv_callV (pc := 124) (b := 0) (ci := 5) C [.int v17, .int (1 : Int32)] (k_X5_linkPart l G hJ v17 (1 : Int32) m18 rfl) gL_areTimesSound_X5_linkPart rfl qd_X5_linkPart ⟨rfl, rfl, Nat.le_of_ble_eq_true rfl, Nat.le_of_ble_eq_true rfl⟩ (iw_ix hJ (by decide)) iw_Eo0 rfl rfl rfl (Nat.le_of_ble_eq_true rfl) dL_areTimesSound_124 ?_
                    refine iv_goto (pc := 127) C 152 dL_areTimesSound_127 (by decide) ?_
                    exact iv_sub [0, 1, 2, 3, 4, 5] rfl (vJ152 (f_X5_linkPart v17 (1 : Int32) m18) h)
              have vL99 : ∀ (nn : Nat) (v16 : Int32) (v17 : Int32) (m18 : iw_M), f_L_areTimesSound_L99 n p2 v2 v6 (f_L_areTimesSound_X247_99 r2 v2) nn v16 v17 m18 = some (r, σ') → iw_V p l e rm_L_areTimesSound s m ([.ref (G.2.1 0), .int p2] : List Value).toArray below meth c0 0 0 (MQ below (iw_Q (some (.int r)) G σ') ([.ref (G.2.1 0), .int p2] : List Value).toArray s 0 0 (iw_A G)) 8 G (iw_A G) m18 99 [(0, .ref (G.2.1 0)), (1, .int p2), (2, .int v2), (3, .int v6), (4, .int v16), (5, .int v17)] [] := by
                intro nn
                induction nn with
                | zero => intro v16 v17 m18 h; exact absurd h (fun q => by cases q)
                | succ nn ih => intro v16 v17 m18 h; exact vB99 (f_L_areTimesSound_X247_99 r2 v2) (f_L_areTimesSound_L99 n p2 v2 v6 (f_L_areTimesSound_X247_99 r2 v2) nn) vX99 ih v16 v17 m18 h
              exact iv_sub [2, 3, 4, 5, 1, 0] rfl (vL99 n v11 (0 : Int32) m9 h)
            have vJ89 : f_L_areTimesSound_J89 n p2 r2 v2 v6 m9  = some (r, σ') → iw_V p l e rm_L_areTimesSound s m ([.ref (G.2.1 0), .int p2] : List Value).toArray below meth c0 0 0 (MQ below (iw_Q (some (.int r)) G σ') ([.ref (G.2.1 0), .int p2] : List Value).toArray s 0 0 (iw_A G)) 8 G (iw_A G) m9 89 [(0, .ref (G.2.1 0)), (1, .int p2), (2, .int v2), (3, .int v6)] [] := by
              intro h
              unfold f_L_areTimesSound_J89 at h
              refine iv_iconst (pc := 89) C (1 : Int32) dL_areTimesSound_89 (by decide) ?_
              refine iv_goto (pc := 90) C 94 dL_areTimesSound_90 (by decide) ?_
              exact iv_sub [0, 1, 2, 3] rfl (vJ94 (1 : Int32) h)
            refine iv_icmp_eq (pc := 79) C 89 dL_areTimesSound_79 (by decide) (fun h38 => ?_) (fun h38 => ?_)
            · replace h := iw_ift h38 h
              exact iv_sub [0, 1, 2, 3] rfl (vJ89 h)
            · replace h := iw_iff h38 h
              refine iv_iload_n (pc := 82) C 3 dL_areTimesSound_82 rfl rfl ?_
              refine iv_sipush (pc := 83) C (-1000 : Int32) dL_areTimesSound_83 (by decide) ?_
              refine iv_icmp_ne (pc := 86) C 93 dL_areTimesSound_86 (by decide) (fun h39 => ?_) (fun h39 => ?_)
              · replace h := iw_iff h39 h
                refine iv_iconst (pc := 93) C (0 : Int32) dL_areTimesSound_93 (by decide) ?_
                exact iv_sub [0, 1, 2, 3] rfl (vJ94 (0 : Int32) h)
              · replace h := iw_ift h39 h
                exact iv_sub [0, 1, 2, 3] rfl (vJ89 h)
          refine iv_icmp_eq (pc := 56) C 77 dL_areTimesSound_56 (by decide) (fun h40 => ?_) (fun h40 => ?_)
          · replace h := iw_ift h40 h
            exact iv_sub [0, 1, 2, 3] rfl (vJ77 h)
          · replace h := iw_iff h40 h
            refine iv_aload_n (pc := 59) C 0 dL_areTimesSound_59 rfl rfl ?_
            refine iv_iload_n (pc := 60) C 2 dL_areTimesSound_60 rfl rfl ?_
            refine iv_callV (pc := 61) (b := 0) (ci := 5) C [.int v2] (k_X5_energy l G hJ v2 m9 rfl) gL_areTimesSound_X5_energy rfl qd_X5_energy ⟨rfl, rfl, Nat.le_of_ble_eq_true rfl, Nat.le_of_ble_eq_true rfl⟩ (iw_ix hJ (by decide)) iw_Eo0 rfl rfl rfl (Nat.le_of_ble_eq_true rfl) dL_areTimesSound_61 ?_
            refine iv_if_eq (pc := 64) C 75 dL_areTimesSound_64 (by decide) (fun h41 => ?_) (fun h41 => ?_)
            · replace h := iw_ift h41 h
              refine iv_iconst (pc := 75) C (0 : Int32) dL_areTimesSound_75 (by decide) ?_
              cases h
              exact iv_zret C hr hlk rfl rfl dL_areTimesSound_76
            · replace h := iw_iff h41 h
              refine iv_aload_n (pc := 67) C 0 dL_areTimesSound_67 rfl rfl ?_
              refine iv_iload_n (pc := 68) C 1 dL_areTimesSound_68 rfl rfl ?_
              refine iv_callV (pc := 69) (b := 0) (ci := 5) C [.int p2] (k_X5_energy l G hJ p2 m9 rfl) gL_areTimesSound_X5_energy rfl qd_X5_energy ⟨rfl, rfl, Nat.le_of_ble_eq_true rfl, Nat.le_of_ble_eq_true rfl⟩ (iw_ix hJ (by decide)) iw_Eo0 rfl rfl rfl (Nat.le_of_ble_eq_true rfl) dL_areTimesSound_69 ?_
              refine iv_if_ne (pc := 72) C 77 dL_areTimesSound_72 (by decide) (fun h42 => ?_) (fun h42 => ?_)
              · replace h := iw_iff h42 h
                exact iv_sub [0, 1, 2, 3] rfl (vJ77 h)
              · replace h := iw_ift h42 h
                refine iv_iconst (pc := 75) C (0 : Int32) dL_areTimesSound_75 (by decide) ?_
                cases h
                exact iv_zret C hr hlk rfl rfl dL_areTimesSound_76
        refine iv_icmp_ne (pc := 30) C 52 dL_areTimesSound_30 (by decide) (fun h43 => ?_) (fun h43 => ?_)
        · replace h := iw_iff h43 h
          exact iv_sub [1, 2, 3, 0] rfl (vJ52 h)
        · replace h := iw_ift h43 h
          refine iv_iload_n (pc := 33) C 0 dL_areTimesSound_33 rfl rfl ?_
          refine iv_aload_n (pc := 34) C 1 dL_areTimesSound_34 rfl rfl ?_
          refine iv_iload_n (pc := 35) C 3 dL_areTimesSound_35 rfl rfl ?_
          refine iv_callV (pc := 36) (b := 0) (ci := 5) C [.int v2] (k_X5_energy l G hJ v2 m9 rfl) gL_areTimesSound_X5_energy rfl qd_X5_energy ⟨rfl, rfl, Nat.le_of_ble_eq_true rfl, Nat.le_of_ble_eq_true rfl⟩ (iw_ix hJ (by decide)) iw_Eo0 rfl rfl rfl (Nat.le_of_ble_eq_true rfl) dL_areTimesSound_36 ?_
          have vJ49 : ∀ (v44 : Int32), f_L_areTimesSound_J49 n p2 r2 v2 v6 m9 v44 = some (r, σ') → iw_V p l e rm_L_areTimesSound s m ([.ref (G.2.1 0), .int p2] : List Value).toArray below meth c0 0 0 (MQ below (iw_Q (some (.int r)) G σ') ([.ref (G.2.1 0), .int p2] : List Value).toArray s 0 0 (iw_A G)) 8 G (iw_A G) m9 49 [(0, .ref (G.2.1 0)), (1, .int p2), (2, .int v2), (3, .int v6)] [.int v44, .int v6] := by
            intro v44 h
            unfold f_L_areTimesSound_J49 at h
            refine iv_icmp_ne (pc := 49) C 75 dL_areTimesSound_49 (by decide) (fun h45 => ?_) (fun h45 => ?_)
            · replace h := iw_iff h45 h
              refine iv_iconst (pc := 75) C (0 : Int32) dL_areTimesSound_75 (by decide) ?_
              cases h
              exact iv_zret C hr hlk rfl rfl dL_areTimesSound_76
            · replace h := iw_ift h45 h
              exact iv_sub [0, 1, 2, 3] rfl (vJ52 h)
          refine iv_if_le (pc := 39) C 46 dL_areTimesSound_39 (by decide) (fun h46 => ?_) (fun h46 => ?_)
          · replace h := iw_ift h46 h
            refine iv_sipush (pc := 46) C (-1000 : Int32) dL_areTimesSound_46 (by decide) ?_
            exact iv_sub [1, 2, 3, 0] rfl (vJ49 (-1000 : Int32) h)
          · replace h := iw_iff h46 h
            refine iv_iconst (pc := 42) C (0 : Int32) dL_areTimesSound_42 (by decide) ?_
            refine iv_goto (pc := 43) C 49 dL_areTimesSound_43 (by decide) ?_
            exact iv_sub [1, 2, 3, 0] rfl (vJ49 (0 : Int32) h)
  have vL2 : ∀ (nn : Nat) (v2 : Int32) (m3 : iw_M), f_L_areTimesSound_L2 n p2 (f_L_areTimesSound_X260_2) nn v2 m3 = some (r, σ') → iw_V p l e rm_L_areTimesSound s m ([.ref (G.2.1 0), .int p2] : List Value).toArray below meth c0 0 0 (MQ below (iw_Q (some (.int r)) G σ') ([.ref (G.2.1 0), .int p2] : List Value).toArray s 0 0 (iw_A G)) 8 G (iw_A G) m3 2 [(0, .ref (G.2.1 0)), (1, .int p2), (2, .int v2)] [] := by
    intro nn
    induction nn with
    | zero => intro v2 m3 h; exact absurd h (fun q => by cases q)
    | succ nn ih => intro v2 m3 h; exact vB2 (f_L_areTimesSound_X260_2) (f_L_areTimesSound_L2 n p2 (f_L_areTimesSound_X260_2) nn) vX2 ih v2 m3 h
  exact iv_sub [1, 2, 0] rfl (vL2 n (0 : Int32) σ h)
theorem qd_L_areTimesSound : yL_areTimesSound.cls ≠ "java/lang/invoke/MethodHandle" ∧ yL_areTimesSound.cls ≠ "java/lang/invoke/VarHandle" ∧ (parseMethodDescriptor yL_areTimesSound.desc).map (fun d => d.parameters.length) = some 2 := by decide +kernel
def f_L_isForetold_J130 (n : Nat) (v1 : Int64) (m10 : iw_M) : Option (Int32 × iw_M) :=
iw_let2 (f_X5_undo m10) fun v15 m16 =>
if v15 < (0 : Int32) then
(some ((0 : Int32), m16))
else
((f_X5_digest n m16).bind fun v18 =>
if v18 = v1 then
(some ((1 : Int32), m16))
else
(some ((0 : Int32), m16)))
def f_L_isForetold_J121 (n : Nat) (v1 : Int64) (v2 : Int32) (m10 : iw_M) (v14 : Int32) : Option (Int32 × iw_M) :=
if v14 = v2 then
(f_L_isForetold_J130 n v1 m10)
else
(some ((0 : Int32), m10))
def f_L_isForetold_J107 (n : Nat) (p2 : Int32) (v1 : Int64) (v2 : Int32) (v5 : Int32) (m10 : iw_M) (v14 : Int32) : Option (Int32 × iw_M) :=
if v5 = (-1000 : Int32) then
(f_L_isForetold_J121 n v1 v2 m10 v14)
else
(if v5 ≤ p2 then
(f_L_isForetold_J130 n v1 m10)
else
(f_L_isForetold_J121 n v1 v2 m10 v14))
def f_L_isForetold_J78 (n : Nat) (p2 : Int32) (v1 : Int64) (v2 : Int32) (v5 : Int32) (m10 : iw_M) : Option (Int32 × iw_M) :=
(f_X5_count n (6 : Int32) m10).bind fun v14 =>
if v5 = (-1000 : Int32) then
(f_L_isForetold_J107 n p2 v1 v2 v5 m10 v14)
else
(if p2 < v5 then
(f_L_isForetold_J107 n p2 v1 v2 v5 m10 v14)
else
(if v2 ≤ v14 then
(some ((0 : Int32), m10))
else
(f_L_isForetold_J107 n p2 v1 v2 v5 m10 v14)))
def f_L_isForetold (n : Nat) (p2 : Int32) (σ : iw_M) : Option (Int32 × iw_M) :=
(f_X5_digest n σ).bind fun v1 =>
(f_X5_count n (6 : Int32) σ).bind fun v2 =>
iw_b2 (f_X5_willDeliver n p2 σ) fun v3 m4 =>
iw_b2 (f_X5_firstDeath n m4) fun v5 m6 =>
(f_X5_count n (10 : Int32) m6).bind fun v7 =>
(f_X5_count n (3 : Int32) m6).bind fun v8 =>
iw_b2 (f_X5_rounds n p2 m6) fun v9 m10 =>
if v9 = v3 then
((f_X5_count n (5 : Int32) m10).bind fun v12 =>
if v12 < p2 then
(some ((0 : Int32), m10))
else
(if v8 = (0 : Int32) then
((f_X5_count n (10 : Int32) m10).bind fun v27 =>
if v27 = v7 then
(f_L_isForetold_J78 n p2 v1 v2 v5 m10)
else
(some ((0 : Int32), m10)))
else
(f_L_isForetold_J78 n p2 v1 v2 v5 m10)))
else
(some ((0 : Int32), m10))
abbrev rm_L_isForetold : Room := { frames := 7, cells := 0, slots := 0, locals := 174 }
set_option maxHeartbeats 4000000 in
set_option maxRecDepth 100000 in
theorem k_L_isForetold (l : Launch) (G : iw_G) (hJ : iw_JX G) (n : Nat) (p2 : Int32) (σ : iw_M) {r : Int32} {σ' : iw_M} (h : f_L_isForetold n p2 σ = some (r, σ')) : iw_Ct l yL_isForetold wsL_isForetold rm_L_isForetold G ([.ref (G.2.1 0), .int p2] : List Value) σ (some (.int r)) σ' := by
  refine iv_start (nL := 10) (own := RL) (ret := (some .boolean)) (cc := cL_isForetold) (by decide +kernel) rfl rfl hJ.1 (Nat.le_of_ble_eq_true rfl) ?_
  intro p e s m below meth c0 C hr hlk
  refine iv_sub (lv' := [(0, .ref (G.2.1 0)), (1, .int p2)]) [0, 1] rfl ?_
  unfold f_L_isForetold at h
  refine iv_aload_n (pc := 0) C 0 dL_isForetold_0 rfl rfl ?_
  obtain ⟨v1, ev1, h⟩ := iw_be h
  refine iv_callV (pc := 1) (b := 0) (ci := 5) C [] (k_X5_digest l G hJ n σ ev1) gL_isForetold_X5_digest rfl qd_X5_digest ⟨rfl, rfl, Nat.le_of_ble_eq_true rfl, Nat.le_of_ble_eq_true rfl⟩ (iw_ix hJ (by decide)) iw_Eo0 rfl rfl rfl (Nat.le_of_ble_eq_true rfl) dL_isForetold_1 ?_
  refine iv_lstore_n (pc := 4) C [(2, .long v1), (0, .ref (G.2.1 0)), (1, .int p2)] dL_isForetold_4 rfl (by decide) rfl ?_
  refine iv_aload_n (pc := 5) C 1 dL_isForetold_5 rfl rfl ?_
  refine iv_bipush (pc := 6) C (6 : Int32) dL_isForetold_6 (by decide) ?_
  obtain ⟨v2, ev2, h⟩ := iw_be h
  refine iv_callV (pc := 8) (b := 0) (ci := 5) C [.int (6 : Int32)] (k_X5_count l G hJ n (6 : Int32) σ ev2) gL_isForetold_X5_count rfl qd_X5_count ⟨rfl, rfl, Nat.le_of_ble_eq_true rfl, Nat.le_of_ble_eq_true rfl⟩ (iw_ix hJ (by decide)) iw_Eo0 rfl rfl rfl (Nat.le_of_ble_eq_true rfl) dL_isForetold_8 ?_
  refine iv_istore (pc := 11) C [(4, .int v2), (2, .long v1), (0, .ref (G.2.1 0)), (1, .int p2)] dL_isForetold_11 (by decide) rfl ?_
  refine iv_aload_n (pc := 13) C 2 dL_isForetold_13 rfl rfl ?_
  refine iv_iload_n (pc := 14) C 3 dL_isForetold_14 rfl rfl ?_
  obtain ⟨v3, m4, ev3, h⟩ := iw_b2e h
  refine iv_callV (pc := 15) (b := 0) (ci := 5) C [.int p2] (k_X5_willDeliver l G hJ n p2 σ ev3) gL_isForetold_X5_willDeliver rfl qd_X5_willDeliver ⟨rfl, rfl, Nat.le_of_ble_eq_true rfl, Nat.le_of_ble_eq_true rfl⟩ (iw_ix hJ (by decide)) iw_Eo0 rfl rfl rfl (Nat.le_of_ble_eq_true rfl) dL_isForetold_15 ?_
  refine iv_istore (pc := 18) C [(5, .int v3), (4, .int v2), (2, .long v1), (0, .ref (G.2.1 0)), (1, .int p2)] dL_isForetold_18 (by decide) rfl ?_
  refine iv_aload_n (pc := 20) C 3 dL_isForetold_20 rfl rfl ?_
  obtain ⟨v5, m6, ev5, h⟩ := iw_b2e h
  refine iv_callV (pc := 21) (b := 0) (ci := 5) C [] (k_X5_firstDeath l G hJ n m4 ev5) gL_isForetold_X5_firstDeath rfl qd_X5_firstDeath ⟨rfl, rfl, Nat.le_of_ble_eq_true rfl, Nat.le_of_ble_eq_true rfl⟩ (iw_ix hJ (by decide)) iw_Eo0 rfl rfl rfl (Nat.le_of_ble_eq_true rfl) dL_isForetold_21 ?_
  refine iv_istore (pc := 24) C [(6, .int v5), (5, .int v3), (4, .int v2), (2, .long v1), (0, .ref (G.2.1 0)), (1, .int p2)] dL_isForetold_24 (by decide) rfl ?_
  refine iv_aload_n (pc := 26) C 4 dL_isForetold_26 rfl rfl ?_
  refine iv_bipush (pc := 27) C (10 : Int32) dL_isForetold_27 (by decide) ?_
  obtain ⟨v7, ev7, h⟩ := iw_be h
  refine iv_callV (pc := 29) (b := 0) (ci := 5) C [.int (10 : Int32)] (k_X5_count l G hJ n (10 : Int32) m6 ev7) gL_isForetold_X5_count rfl qd_X5_count ⟨rfl, rfl, Nat.le_of_ble_eq_true rfl, Nat.le_of_ble_eq_true rfl⟩ (iw_ix hJ (by decide)) iw_Eo0 rfl rfl rfl (Nat.le_of_ble_eq_true rfl) dL_isForetold_29 ?_
  refine iv_istore (pc := 32) C [(7, .int v7), (6, .int v5), (5, .int v3), (4, .int v2), (2, .long v1), (0, .ref (G.2.1 0)), (1, .int p2)] dL_isForetold_32 (by decide) rfl ?_
  refine iv_aload_n (pc := 34) C 5 dL_isForetold_34 rfl rfl ?_
  refine iv_iconst (pc := 35) C (3 : Int32) dL_isForetold_35 (by decide) ?_
  obtain ⟨v8, ev8, h⟩ := iw_be h
  refine iv_callV (pc := 36) (b := 0) (ci := 5) C [.int (3 : Int32)] (k_X5_count l G hJ n (3 : Int32) m6 ev8) gL_isForetold_X5_count rfl qd_X5_count ⟨rfl, rfl, Nat.le_of_ble_eq_true rfl, Nat.le_of_ble_eq_true rfl⟩ (iw_ix hJ (by decide)) iw_Eo0 rfl rfl rfl (Nat.le_of_ble_eq_true rfl) dL_isForetold_36 ?_
  refine iv_istore (pc := 39) C [(8, .int v8), (7, .int v7), (6, .int v5), (5, .int v3), (4, .int v2), (2, .long v1), (0, .ref (G.2.1 0)), (1, .int p2)] dL_isForetold_39 (by decide) rfl ?_
  refine iv_aload_n (pc := 41) C 6 dL_isForetold_41 rfl rfl ?_
  refine iv_iload_n (pc := 42) C 7 dL_isForetold_42 rfl rfl ?_
  obtain ⟨v9, m10, ev9, h⟩ := iw_b2e h
  refine iv_callV (pc := 43) (b := 0) (ci := 5) C [.int p2] (k_X5_rounds l G hJ n p2 m6 ev9) gL_isForetold_X5_rounds rfl qd_X5_rounds ⟨rfl, rfl, Nat.le_of_ble_eq_true rfl, Nat.le_of_ble_eq_true rfl⟩ (iw_ix hJ (by decide)) iw_Eo0 rfl rfl rfl (Nat.le_of_ble_eq_true rfl) dL_isForetold_43 ?_
  refine iv_iload (pc := 46) C 3 dL_isForetold_46 rfl ?_
  refine iv_icmp_ne (pc := 48) C 76 dL_isForetold_48 (by decide) (fun h11 => ?_) (fun h11 => ?_)
  · replace h := iw_iff h11 h
    refine iv_iconst (pc := 76) C (0 : Int32) dL_isForetold_76 (by decide) ?_
    cases h
    exact iv_zret C hr hlk rfl rfl dL_isForetold_77
  · replace h := iw_ift h11 h
    refine iv_aload_n (pc := 51) C 6 dL_isForetold_51 rfl rfl ?_
    refine iv_iconst (pc := 52) C (5 : Int32) dL_isForetold_52 (by decide) ?_
    obtain ⟨v12, ev12, h⟩ := iw_be h
    refine iv_callV (pc := 53) (b := 0) (ci := 5) C [.int (5 : Int32)] (k_X5_count l G hJ n (5 : Int32) m10 ev12) gL_isForetold_X5_count rfl qd_X5_count ⟨rfl, rfl, Nat.le_of_ble_eq_true rfl, Nat.le_of_ble_eq_true rfl⟩ (iw_ix hJ (by decide)) iw_Eo0 rfl rfl rfl (Nat.le_of_ble_eq_true rfl) dL_isForetold_53 ?_
    refine iv_iload_n (pc := 56) C 7 dL_isForetold_56 rfl rfl ?_
    refine iv_icmp_lt (pc := 57) C 76 dL_isForetold_57 (by decide) (fun h13 => ?_) (fun h13 => ?_)
    · replace h := iw_ift h13 h
      refine iv_iconst (pc := 76) C (0 : Int32) dL_isForetold_76 (by decide) ?_
      cases h
      exact iv_zret C hr hlk rfl rfl dL_isForetold_77
    · replace h := iw_iff h13 h
      refine iv_iload (pc := 60) C 0 dL_isForetold_60 rfl ?_
      have vJ78 : f_L_isForetold_J78 n p2 v1 v2 v5 m10  = some (r, σ') → iw_V p l e rm_L_isForetold s m ([.ref (G.2.1 0), .int p2] : List Value).toArray below meth c0 0 0 (MQ below (iw_Q (some (.int r)) G σ') ([.ref (G.2.1 0), .int p2] : List Value).toArray s 0 0 (iw_A G)) 10 G (iw_A G) m10 78 [(0, .ref (G.2.1 0)), (1, .int p2), (2, .long v1), (4, .int v2), (6, .int v5)] [] := by
        intro h
        unfold f_L_isForetold_J78 at h
        refine iv_aload_n (pc := 78) C 0 dL_isForetold_78 rfl rfl ?_
        refine iv_bipush (pc := 79) C (6 : Int32) dL_isForetold_79 (by decide) ?_
        obtain ⟨v14, ev14, h⟩ := iw_be h
        refine iv_callV (pc := 81) (b := 0) (ci := 5) C [.int (6 : Int32)] (k_X5_count l G hJ n (6 : Int32) m10 ev14) gL_isForetold_X5_count rfl qd_X5_count ⟨rfl, rfl, Nat.le_of_ble_eq_true rfl, Nat.le_of_ble_eq_true rfl⟩ (iw_ix hJ (by decide)) iw_Eo0 rfl rfl rfl (Nat.le_of_ble_eq_true rfl) dL_isForetold_81 ?_
        refine iv_istore (pc := 84) C [(9, .int v14), (0, .ref (G.2.1 0)), (1, .int p2), (2, .long v1), (4, .int v2), (6, .int v5)] dL_isForetold_84 (by decide) rfl ?_
        refine iv_iload (pc := 86) C 5 dL_isForetold_86 rfl ?_
        refine iv_sipush (pc := 88) C (-1000 : Int32) dL_isForetold_88 (by decide) ?_
        have vJ107 : f_L_isForetold_J107 n p2 v1 v2 v5 m10 v14  = some (r, σ') → iw_V p l e rm_L_isForetold s m ([.ref (G.2.1 0), .int p2] : List Value).toArray below meth c0 0 0 (MQ below (iw_Q (some (.int r)) G σ') ([.ref (G.2.1 0), .int p2] : List Value).toArray s 0 0 (iw_A G)) 10 G (iw_A G) m10 107 [(0, .ref (G.2.1 0)), (1, .int p2), (2, .long v1), (4, .int v2), (6, .int v5), (9, .int v14)] [] := by
          intro h
          unfold f_L_isForetold_J107 at h
          refine iv_iload (pc := 107) C 4 dL_isForetold_107 rfl ?_
          refine iv_sipush (pc := 109) C (-1000 : Int32) dL_isForetold_109 (by decide) ?_
          have vJ130 : f_L_isForetold_J130 n v1 m10  = some (r, σ') → iw_V p l e rm_L_isForetold s m ([.ref (G.2.1 0), .int p2] : List Value).toArray below meth c0 0 0 (MQ below (iw_Q (some (.int r)) G σ') ([.ref (G.2.1 0), .int p2] : List Value).toArray s 0 0 (iw_A G)) 10 G (iw_A G) m10 130 [(0, .ref (G.2.1 0)), (2, .long v1)] [] := by
            intro h
            unfold f_L_isForetold_J130 at h
            refine iv_aload_n (pc := 130) C 0 dL_isForetold_130 rfl rfl ?_
            obtain ⟨v15, m16, ev15, h⟩ := iw_let2e h
            refine iv_callV (pc := 131) (b := 0) (ci := 5) C [] (k_X5_undo l G hJ m10 ev15) gL_isForetold_X5_undo rfl qd_X5_undo ⟨rfl, rfl, Nat.le_of_ble_eq_true rfl, Nat.le_of_ble_eq_true rfl⟩ (iw_ix hJ (by decide)) iw_Eo0 rfl rfl rfl (Nat.le_of_ble_eq_true rfl) dL_isForetold_131 ?_
            refine iv_if_lt (pc := 134) C 150 dL_isForetold_134 (by decide) (fun h17 => ?_) (fun h17 => ?_)
            · replace h := iw_ift h17 h
              refine iv_iconst (pc := 150) C (0 : Int32) dL_isForetold_150 (by decide) ?_
              cases h
              exact iv_zret C hr hlk rfl rfl dL_isForetold_151
            · replace h := iw_iff h17 h
              refine iv_aload_n (pc := 137) C 0 dL_isForetold_137 rfl rfl ?_
              obtain ⟨v18, ev18, h⟩ := iw_be h
              refine iv_callV (pc := 138) (b := 0) (ci := 5) C [] (k_X5_digest l G hJ n m16 ev18) gL_isForetold_X5_digest rfl qd_X5_digest ⟨rfl, rfl, Nat.le_of_ble_eq_true rfl, Nat.le_of_ble_eq_true rfl⟩ (iw_ix hJ (by decide)) iw_Eo0 rfl rfl rfl (Nat.le_of_ble_eq_true rfl) dL_isForetold_138 ?_
              refine iv_lload_n (pc := 141) C 1 dL_isForetold_141 rfl rfl ?_
              refine iv_lcmp_ne (pc := 142) C 150 dL_isForetold_142 dL_isForetold_143 (by decide) (fun h19 => ?_) (fun h19 => ?_)
              · replace h := iw_iff h19 h
                refine iv_iconst (pc := 150) C (0 : Int32) dL_isForetold_150 (by decide) ?_
                cases h
                exact iv_zret C hr hlk rfl rfl dL_isForetold_151
              · replace h := iw_ift h19 h
                refine iv_iconst (pc := 146) C (1 : Int32) dL_isForetold_146 (by decide) ?_
                refine iv_goto (pc := 147) C 151 dL_isForetold_147 (by decide) ?_
                cases h
                exact iv_zret C hr hlk rfl rfl dL_isForetold_151
          have vJ121 : f_L_isForetold_J121 n v1 v2 m10 v14  = some (r, σ') → iw_V p l e rm_L_isForetold s m ([.ref (G.2.1 0), .int p2] : List Value).toArray below meth c0 0 0 (MQ below (iw_Q (some (.int r)) G σ') ([.ref (G.2.1 0), .int p2] : List Value).toArray s 0 0 (iw_A G)) 10 G (iw_A G) m10 121 [(0, .ref (G.2.1 0)), (2, .long v1), (4, .int v2), (9, .int v14)] [] := by
            intro h
            unfold f_L_isForetold_J121 at h
            refine iv_iload (pc := 121) C 3 dL_isForetold_121 rfl ?_
            refine iv_iload (pc := 123) C 2 dL_isForetold_123 rfl ?_
            refine iv_icmp_eq (pc := 125) C 130 dL_isForetold_125 (by decide) (fun h20 => ?_) (fun h20 => ?_)
            · replace h := iw_ift h20 h
              exact iv_sub [0, 1] rfl (vJ130 h)
            · replace h := iw_iff h20 h
              refine iv_iconst (pc := 128) C (0 : Int32) dL_isForetold_128 (by decide) ?_
              cases h
              exact iv_zret C hr hlk rfl rfl dL_isForetold_129
          refine iv_icmp_eq (pc := 112) C 121 dL_isForetold_112 (by decide) (fun h21 => ?_) (fun h21 => ?_)
          · replace h := iw_ift h21 h
            exact iv_sub [0, 2, 3, 5] rfl (vJ121 h)
          · replace h := iw_iff h21 h
            refine iv_iload (pc := 115) C 4 dL_isForetold_115 rfl ?_
            refine iv_iload_n (pc := 117) C 1 dL_isForetold_117 rfl rfl ?_
            refine iv_icmp_le (pc := 118) C 130 dL_isForetold_118 (by decide) (fun h22 => ?_) (fun h22 => ?_)
            · replace h := iw_ift h22 h
              exact iv_sub [0, 2] rfl (vJ130 h)
            · replace h := iw_iff h22 h
              exact iv_sub [0, 2, 3, 5] rfl (vJ121 h)
        refine iv_icmp_eq (pc := 91) C 107 dL_isForetold_91 (by decide) (fun h23 => ?_) (fun h23 => ?_)
        · replace h := iw_ift h23 h
          exact iv_sub [1, 2, 3, 4, 5, 0] rfl (vJ107 h)
        · replace h := iw_iff h23 h
          refine iv_iload (pc := 94) C 5 dL_isForetold_94 rfl ?_
          refine iv_iload_n (pc := 96) C 2 dL_isForetold_96 rfl rfl ?_
          refine iv_icmp_gt (pc := 97) C 107 dL_isForetold_97 (by decide) (fun h24 => ?_) (fun h24 => ?_)
          · replace h := iw_ift h24 h
            exact iv_sub [1, 2, 3, 4, 5, 0] rfl (vJ107 h)
          · replace h := iw_iff h24 h
            refine iv_iload (pc := 100) C 0 dL_isForetold_100 rfl ?_
            refine iv_iload (pc := 102) C 4 dL_isForetold_102 rfl ?_
            refine iv_icmp_ge (pc := 104) C 128 dL_isForetold_104 (by decide) (fun h25 => ?_) (fun h25 => ?_)
            · replace h := iw_ift h25 h
              refine iv_iconst (pc := 128) C (0 : Int32) dL_isForetold_128 (by decide) ?_
              cases h
              exact iv_zret C hr hlk rfl rfl dL_isForetold_129
            · replace h := iw_iff h25 h
              exact iv_sub [1, 2, 3, 4, 5, 0] rfl (vJ107 h)
      refine iv_if_ne (pc := 62) C 78 dL_isForetold_62 (by decide) (fun h26 => ?_) (fun h26 => ?_)
      · replace h := iw_iff h26 h
        exact iv_sub [6, 7, 5, 4, 2] rfl (vJ78 h)
      · replace h := iw_ift h26 h
        refine iv_aload_n (pc := 65) C 6 dL_isForetold_65 rfl rfl ?_
        refine iv_bipush (pc := 66) C (10 : Int32) dL_isForetold_66 (by decide) ?_
        obtain ⟨v27, ev27, h⟩ := iw_be h
        refine iv_callV (pc := 68) (b := 0) (ci := 5) C [.int (10 : Int32)] (k_X5_count l G hJ n (10 : Int32) m10 ev27) gL_isForetold_X5_count rfl qd_X5_count ⟨rfl, rfl, Nat.le_of_ble_eq_true rfl, Nat.le_of_ble_eq_true rfl⟩ (iw_ix hJ (by decide)) iw_Eo0 rfl rfl rfl (Nat.le_of_ble_eq_true rfl) dL_isForetold_68 ?_
        refine iv_iload (pc := 71) C 1 dL_isForetold_71 rfl ?_
        refine iv_icmp_eq (pc := 73) C 78 dL_isForetold_73 (by decide) (fun h28 => ?_) (fun h28 => ?_)
        · replace h := iw_ift h28 h
          exact iv_sub [6, 7, 5, 4, 2] rfl (vJ78 h)
        · replace h := iw_iff h28 h
          refine iv_iconst (pc := 76) C (0 : Int32) dL_isForetold_76 (by decide) ?_
          cases h
          exact iv_zret C hr hlk rfl rfl dL_isForetold_77
theorem qd_L_isForetold : yL_isForetold.cls ≠ "java/lang/invoke/MethodHandle" ∧ yL_isForetold.cls ≠ "java/lang/invoke/VarHandle" ∧ (parseMethodDescriptor yL_isForetold.desc).map (fun d => d.parameters.length) = some 2 := by decide +kernel
def f_L_changes_J134 (v8 : Int32) (m9 : iw_M) (v10 : Int32) (v11 : Int32) : Option (Int32 × iw_M) :=
(iw_wr m9 84 (0 : Int32) (v10 + v11)).bind fun m12 =>
some (v8, m12)
def f_L_changes_J105 (n : Nat) (p2 : Int32) (σ : iw_M) (v5 : Int32) : Option (Int32 × iw_M) :=
(f_L_low (p2 >>> ((4 : Int32) &&& 31)) v5).bind fun v6 =>
iw_let ((1 : Int32) + v6) fun v7 =>
iw_b2 (f_X5_addNode n v7 σ) fun v8 m9 =>
(iw_rd m9 84 (0 : Int32)).bind fun v10 =>
if v8 < (0 : Int32) then
(f_L_changes_J134 v8 m9 v10 (0 : Int32))
else
(f_L_changes_J134 v8 m9 v10 v7)
def f_L_changes_J177 (v17 : Int32) (m18 : iw_M) (v19 : Int32) (v20 : Int32) : Option (Int32 × iw_M) :=
(iw_wr m18 84 (0 : Int32) (v19 + v20)).bind fun m21 =>
some (v17, m21)
def f_L_changes (n : Nat) (p2 : Int32) (σ : iw_M) : Option (Int32 × iw_M) :=
(f_L_low (p2 >>> ((4 : Int32) &&& 31)) (10 : Int32)).bind fun v1 =>
(f_L_low (p2 >>> ((8 : Int32) &&& 31)) (10 : Int32)).bind fun v2 =>
(f_L_low p2 (14 : Int32)).bind fun v3 =>
if v3 = (0 : Int32) then
(if ((p2 >>> ((20 : Int32) &&& 31)) &&& (1 : Int32)) = (0 : Int32) then
(f_L_changes_J105 n p2 σ (40 : Int32))
else
(f_L_changes_J105 n p2 σ (400 : Int32)))
else if v3 = (1 : Int32) then
((f_L_low (p2 >>> ((8 : Int32) &&& 31)) (60 : Int32)).bind fun v16 =>
iw_let2 (f_X5_charge v1 v16 σ) fun v17 m18 =>
(iw_rd m18 84 (0 : Int32)).bind fun v19 =>
if v17 < (0 : Int32) then
(f_L_changes_J177 v17 m18 v19 (0 : Int32))
else
(f_L_changes_J177 v17 m18 v19 (v16 - v17)))
else if v3 = (2 : Int32) ∨ v3 = (3 : Int32) ∨ v3 = (4 : Int32) then
((f_L_low (p2 >>> ((12 : Int32) &&& 31)) (6 : Int32)).bind fun v24 =>
iw_b2 (f_X5_link n v1 v2 ((1 : Int32) + v24) σ) fun v25 m26 =>
some (v25, m26))
else if v3 = (5 : Int32) then
((f_L_low (p2 >>> ((4 : Int32) &&& 31)) (20 : Int32)).bind fun v28 =>
iw_b2 (f_X5_cut n v28 σ) fun v29 m30 =>
some (v29, m30))
else if v3 = (6 : Int32) then
((f_L_low (p2 >>> ((8 : Int32) &&& 31)) (2 : Int32)).bind fun v32 =>
(f_L_low (p2 >>> ((10 : Int32) &&& 31)) (201 : Int32)).bind fun v33 =>
iw_b2 (f_X5_addSensor n v1 v32 (v33 - (100 : Int32)) σ) fun v34 m35 =>
some (v34, m35))
else if v3 = (7 : Int32) then
((f_L_low (p2 >>> ((4 : Int32) &&& 31)) (6 : Int32)).bind fun v37 =>
(f_L_low (p2 >>> ((8 : Int32) &&& 31)) (201 : Int32)).bind fun v38 =>
iw_let2 (f_X5_measure v37 (v38 - (100 : Int32)) σ) fun v39 m40 =>
some (v39, m40))
else if v3 = (8 : Int32) ∨ v3 = (9 : Int32) then
((f_L_low (p2 >>> ((8 : Int32) &&& 31)) (2 : Int32)).bind fun v42 =>
(f_L_low (p2 >>> ((10 : Int32) &&& 31)) (150 : Int32)).bind fun v43 =>
(f_L_low (p2 >>> ((18 : Int32) &&& 31)) (51 : Int32)).bind fun v44 =>
(f_X5_count n (5 : Int32) σ).bind fun v45 =>
(f_L_low (p2 >>> ((20 : Int32) &&& 31)) (30 : Int32)).bind fun v46 =>
iw_b2 (f_X5_ask n v1 v42 (v43 - (100 : Int32)) ((50 : Int32) + v44) (v45 + v46) σ) fun v47 m48 =>
some (v47, m48))
else if v3 = (10 : Int32) then
(if ((p2 >>> ((4 : Int32) &&& 31)) &&& (1 : Int32)) = (0 : Int32) then
((f_L_low (p2 >>> ((5 : Int32) &&& 31)) (5 : Int32)).bind fun v54 =>
iw_b2 (f_X5_withdraw n v54 σ) fun v55 m56 =>
some (v55, m56))
else
((f_L_low (p2 >>> ((5 : Int32) &&& 31)) (12 : Int32)).bind fun v51 =>
iw_b2 (f_X5_setPeriod n ((1 : Int32) + v51) σ) fun v52 m53 =>
some (v52, m53)))
else ((f_L_low (p2 >>> ((4 : Int32) &&& 31)) (8 : Int32)).bind fun v57 =>
iw_b2 (f_X5_rounds n ((1 : Int32) + v57) σ) fun v58 m59 =>
some (v58, m59))
abbrev rm_L_changes : Room := { frames := 7, cells := 0, slots := 0, locals := 174 }
set_option maxHeartbeats 4000000 in
set_option maxRecDepth 100000 in
theorem k_L_changes (l : Launch) (G : iw_G) (hJ : iw_JX G) (n : Nat) (p2 : Int32) (σ : iw_M) {r : Int32} {σ' : iw_M} (h : f_L_changes n p2 σ = some (r, σ')) : iw_Ct l yL_changes wsL_changes rm_L_changes G ([.ref (G.2.1 0), .int p2, .ref (G.2.1 84)] : List Value) σ (some (.int r)) σ' := by
  refine iv_start (nL := 9) (own := RL) (ret := (some .int)) (cc := cL_changes) (by decide +kernel) rfl rfl hJ.1 (Nat.le_of_ble_eq_true rfl) ?_
  intro p e s m below meth c0 C hr hlk
  refine iv_sub (lv' := [(0, .ref (G.2.1 0)), (1, .int p2), (2, .ref (G.2.1 84))]) [0, 1, 2] rfl ?_
  unfold f_L_changes at h
  refine iv_iload_n (pc := 0) C 1 dL_changes_0 rfl rfl ?_
  refine iv_iconst (pc := 1) C (4 : Int32) dL_changes_1 (by decide) ?_
  refine iv_ishr (pc := 2) C dL_changes_2 ?_
  refine iv_bipush (pc := 3) C (10 : Int32) dL_changes_3 (by decide) ?_
  obtain ⟨v1, ev1, h⟩ := iw_be h
  refine iv_callS (pc := 5) C [.int (p2 >>> ((4 : Int32) &&& 31)), .int (10 : Int32)] (k_L_low l G hJ (p2 >>> ((4 : Int32) &&& 31)) (10 : Int32) σ ev1) gL_changes_L_low rfl qd_L_low ⟨rfl, rfl, Nat.le_of_ble_eq_true rfl, Nat.le_of_ble_eq_true rfl⟩ rfl rfl (Nat.le_of_ble_eq_true rfl) dL_changes_5 ?_
  refine iv_istore_n (pc := 8) C [(3, .int v1), (0, .ref (G.2.1 0)), (1, .int p2), (2, .ref (G.2.1 84))] dL_changes_8 rfl (by decide) rfl ?_
  refine iv_iload_n (pc := 9) C 2 dL_changes_9 rfl rfl ?_
  refine iv_bipush (pc := 10) C (8 : Int32) dL_changes_10 (by decide) ?_
  refine iv_ishr (pc := 12) C dL_changes_12 ?_
  refine iv_bipush (pc := 13) C (10 : Int32) dL_changes_13 (by decide) ?_
  obtain ⟨v2, ev2, h⟩ := iw_be h
  refine iv_callS (pc := 15) C [.int (p2 >>> ((8 : Int32) &&& 31)), .int (10 : Int32)] (k_L_low l G hJ (p2 >>> ((8 : Int32) &&& 31)) (10 : Int32) σ ev2) gL_changes_L_low rfl qd_L_low ⟨rfl, rfl, Nat.le_of_ble_eq_true rfl, Nat.le_of_ble_eq_true rfl⟩ rfl rfl (Nat.le_of_ble_eq_true rfl) dL_changes_15 ?_
  refine iv_istore (pc := 18) C [(4, .int v2), (3, .int v1), (0, .ref (G.2.1 0)), (1, .int p2), (2, .ref (G.2.1 84))] dL_changes_18 (by decide) rfl ?_
  refine iv_iload_n (pc := 20) C 3 dL_changes_20 rfl rfl ?_
  refine iv_bipush (pc := 21) C (14 : Int32) dL_changes_21 (by decide) ?_
  obtain ⟨v3, ev3, h⟩ := iw_be h
  refine iv_callS (pc := 23) C [.int p2, .int (14 : Int32)] (k_L_low l G hJ p2 (14 : Int32) σ ev3) gL_changes_L_low rfl qd_L_low ⟨rfl, rfl, Nat.le_of_ble_eq_true rfl, Nat.le_of_ble_eq_true rfl⟩ rfl rfl (Nat.le_of_ble_eq_true rfl) dL_changes_23 ?_
  by_cases h4 : v3 = (0 : Int32)
  · replace h := iw_ift h4 h
    have hth4 : ¬ Int32.toInt v3 < 0 ∧ ¬ 10 < Int32.toInt v3 ∧ ∃ off, (#[(58), (113), (156), (156), (156), (175), (188), (215), (241), (241), (295)] : Array Int)[(Int32.toInt v3 - 0).toNat]? = some off ∧ (26 : Int) + off = 84 := by
      clear h; rcases h4 with rfl <;> exact ⟨by decide, by decide, _, rfl, by decide⟩
    obtain ⟨h1h4, h2h4, offh4, h3h4, h4h4⟩ := hth4
    refine iv_tin (pc := 26) C 84 dL_changes_26 h1h4 h2h4 h3h4 h4h4 ?_
    refine iv_iconst (pc := 84) C (1 : Int32) dL_changes_84 (by decide) ?_
    refine iv_iload_n (pc := 85) C 3 dL_changes_85 rfl rfl ?_
    refine iv_iconst (pc := 86) C (4 : Int32) dL_changes_86 (by decide) ?_
    refine iv_ishr (pc := 87) C dL_changes_87 ?_
    refine iv_iload_n (pc := 88) C 3 dL_changes_88 rfl rfl ?_
    refine iv_bipush (pc := 89) C (20 : Int32) dL_changes_89 (by decide) ?_
    refine iv_ishr (pc := 91) C dL_changes_91 ?_
    refine iv_iconst (pc := 92) C (1 : Int32) dL_changes_92 (by decide) ?_
    refine iv_iand (pc := 93) C dL_changes_93 ?_
    have vJ105 : ∀ (v5 : Int32), f_L_changes_J105 n p2 σ v5 = some (r, σ') → iw_V p l e rm_L_changes s m ([.ref (G.2.1 0), .int p2, .ref (G.2.1 84)] : List Value).toArray below meth c0 0 0 (MQ below (iw_Q (some (.int r)) G σ') ([.ref (G.2.1 0), .int p2, .ref (G.2.1 84)] : List Value).toArray s 0 0 (iw_A G)) 9 G (iw_A G) σ 105 [(0, .ref (G.2.1 0)), (2, .ref (G.2.1 84))] [.int v5, .int (p2 >>> ((4 : Int32) &&& 31)), .int (1 : Int32)] := by
      intro v5 h
      unfold f_L_changes_J105 at h
      obtain ⟨v6, ev6, h⟩ := iw_be h
      refine iv_callS (pc := 105) C [.int (p2 >>> ((4 : Int32) &&& 31)), .int v5] (k_L_low l G hJ (p2 >>> ((4 : Int32) &&& 31)) v5 σ ev6) gL_changes_L_low rfl qd_L_low ⟨rfl, rfl, Nat.le_of_ble_eq_true rfl, Nat.le_of_ble_eq_true rfl⟩ rfl rfl (Nat.le_of_ble_eq_true rfl) dL_changes_105 ?_
      refine iv_iadd (pc := 108) C dL_changes_108 ?_
      refine iv_topi (fun v7 ev7 => ?_)
      replace h := iw_lete ev7 h
      refine iv_istore (pc := 109) C [(5, .int v7), (0, .ref (G.2.1 0)), (2, .ref (G.2.1 84))] dL_changes_109 (by decide) rfl ?_
      refine iv_aload_n (pc := 111) C 1 dL_changes_111 rfl rfl ?_
      refine iv_iload (pc := 112) C 0 dL_changes_112 rfl ?_
      obtain ⟨v8, m9, ev8, h⟩ := iw_b2e h
      refine iv_callV (pc := 114) (b := 0) (ci := 5) C [.int v7] (k_X5_addNode l G hJ n v7 σ ev8) gL_changes_X5_addNode rfl qd_X5_addNode ⟨rfl, rfl, Nat.le_of_ble_eq_true rfl, Nat.le_of_ble_eq_true rfl⟩ (iw_ix hJ (by decide)) iw_Eo0 rfl rfl rfl (Nat.le_of_ble_eq_true rfl) dL_changes_114 ?_
      refine iv_istore (pc := 117) C [(6, .int v8), (5, .int v7), (0, .ref (G.2.1 0)), (2, .ref (G.2.1 84))] dL_changes_117 (by decide) rfl ?_
      refine iv_aload_n (pc := 119) C 3 dL_changes_119 rfl rfl ?_
      refine iv_iconst (pc := 120) C (0 : Int32) dL_changes_120 (by decide) ?_
      refine iv_dup2 (pc := 121) C rfl rfl dL_changes_121 ?_
      obtain ⟨v10, ev10, h⟩ := iw_be h
      refine iv_rd (pc := 122) C 84 (iw_lx hJ rfl (by decide)) ev10 dL_changes_122 ?_
      refine iv_iload (pc := 123) C 0 dL_changes_123 rfl ?_
      have vJ134 : ∀ (v11 : Int32), f_L_changes_J134 v8 m9 v10 v11 = some (r, σ') → iw_V p l e rm_L_changes s m ([.ref (G.2.1 0), .int p2, .ref (G.2.1 84)] : List Value).toArray below meth c0 0 0 (MQ below (iw_Q (some (.int r)) G σ') ([.ref (G.2.1 0), .int p2, .ref (G.2.1 84)] : List Value).toArray s 0 0 (iw_A G)) 9 G (iw_A G) m9 134 [(6, .int v8)] [.int v11, .int v10, .int (0 : Int32), .ref (G.2.1 84)] := by
        intro v11 h
        unfold f_L_changes_J134 at h
        refine iv_iadd (pc := 134) C dL_changes_134 ?_
        obtain ⟨m12, em12, h⟩ := iw_be h
        refine iv_wr (pc := 135) C 84 (iw_lx hJ rfl (by decide)) em12 dL_changes_135 ?_
        refine iv_iload (pc := 136) C 0 dL_changes_136 rfl ?_
        cases h
        exact iv_iret C hr hlk rfl rfl dL_changes_138
      refine iv_if_lt (pc := 125) C 133 dL_changes_125 (by decide) (fun h13 => ?_) (fun h13 => ?_)
      · replace h := iw_ift h13 h
        refine iv_iconst (pc := 133) C (0 : Int32) dL_changes_133 (by decide) ?_
        exact iv_sub [0] rfl (vJ134 (0 : Int32) h)
      · replace h := iw_iff h13 h
        refine iv_iload (pc := 128) C 1 dL_changes_128 rfl ?_
        refine iv_goto (pc := 130) C 134 dL_changes_130 (by decide) ?_
        exact iv_sub [0] rfl (vJ134 v7 h)
    refine iv_if_ne (pc := 94) C 102 dL_changes_94 (by decide) (fun h14 => ?_) (fun h14 => ?_)
    · replace h := iw_iff h14 h
      refine iv_sipush (pc := 102) C (400 : Int32) dL_changes_102 (by decide) ?_
      exact iv_sub [2, 4] rfl (vJ105 (400 : Int32) h)
    · replace h := iw_ift h14 h
      refine iv_bipush (pc := 97) C (40 : Int32) dL_changes_97 (by decide) ?_
      refine iv_goto (pc := 99) C 105 dL_changes_99 (by decide) ?_
      exact iv_sub [2, 4] rfl (vJ105 (40 : Int32) h)
  replace h := iw_iff h4 h
  by_cases h15 : v3 = (1 : Int32)
  · replace h := iw_ift h15 h
    have hth15 : ¬ Int32.toInt v3 < 0 ∧ ¬ 10 < Int32.toInt v3 ∧ ∃ off, (#[(58), (113), (156), (156), (156), (175), (188), (215), (241), (241), (295)] : Array Int)[(Int32.toInt v3 - 0).toNat]? = some off ∧ (26 : Int) + off = 139 := by
      clear h; rcases h15 with rfl <;> exact ⟨by decide, by decide, _, rfl, by decide⟩
    obtain ⟨h1h15, h2h15, offh15, h3h15, h4h15⟩ := hth15
    refine iv_tin (pc := 26) C 139 dL_changes_26 h1h15 h2h15 h3h15 h4h15 ?_
    refine iv_iload_n (pc := 139) C 3 dL_changes_139 rfl rfl ?_
    refine iv_bipush (pc := 140) C (8 : Int32) dL_changes_140 (by decide) ?_
    refine iv_ishr (pc := 142) C dL_changes_142 ?_
    refine iv_bipush (pc := 143) C (60 : Int32) dL_changes_143 (by decide) ?_
    obtain ⟨v16, ev16, h⟩ := iw_be h
    refine iv_callS (pc := 145) C [.int (p2 >>> ((8 : Int32) &&& 31)), .int (60 : Int32)] (k_L_low l G hJ (p2 >>> ((8 : Int32) &&& 31)) (60 : Int32) σ ev16) gL_changes_L_low rfl qd_L_low ⟨rfl, rfl, Nat.le_of_ble_eq_true rfl, Nat.le_of_ble_eq_true rfl⟩ rfl rfl (Nat.le_of_ble_eq_true rfl) dL_changes_145 ?_
    refine iv_istore (pc := 148) C [(7, .int v16), (4, .int v2), (3, .int v1), (0, .ref (G.2.1 0)), (1, .int p2), (2, .ref (G.2.1 84))] dL_changes_148 (by decide) rfl ?_
    refine iv_aload_n (pc := 150) C 3 dL_changes_150 rfl rfl ?_
    refine iv_iload_n (pc := 151) C 2 dL_changes_151 rfl rfl ?_
    refine iv_iload (pc := 152) C 0 dL_changes_152 rfl ?_
    obtain ⟨v17, m18, ev17, h⟩ := iw_let2e h
    refine iv_callV (pc := 154) (b := 0) (ci := 5) C [.int v1, .int v16] (k_X5_charge l G hJ v1 v16 σ ev17) gL_changes_X5_charge rfl qd_X5_charge ⟨rfl, rfl, Nat.le_of_ble_eq_true rfl, Nat.le_of_ble_eq_true rfl⟩ (iw_ix hJ (by decide)) iw_Eo0 rfl rfl rfl (Nat.le_of_ble_eq_true rfl) dL_changes_154 ?_
    refine iv_istore (pc := 157) C [(8, .int v17), (7, .int v16), (4, .int v2), (3, .int v1), (0, .ref (G.2.1 0)), (1, .int p2), (2, .ref (G.2.1 84))] dL_changes_157 (by decide) rfl ?_
    refine iv_aload_n (pc := 159) C 6 dL_changes_159 rfl rfl ?_
    refine iv_iconst (pc := 160) C (0 : Int32) dL_changes_160 (by decide) ?_
    refine iv_dup2 (pc := 161) C rfl rfl dL_changes_161 ?_
    obtain ⟨v19, ev19, h⟩ := iw_be h
    refine iv_rd (pc := 162) C 84 (iw_lx hJ rfl (by decide)) ev19 dL_changes_162 ?_
    refine iv_iload (pc := 163) C 0 dL_changes_163 rfl ?_
    have vJ177 : ∀ (v20 : Int32), f_L_changes_J177 v17 m18 v19 v20 = some (r, σ') → iw_V p l e rm_L_changes s m ([.ref (G.2.1 0), .int p2, .ref (G.2.1 84)] : List Value).toArray below meth c0 0 0 (MQ below (iw_Q (some (.int r)) G σ') ([.ref (G.2.1 0), .int p2, .ref (G.2.1 84)] : List Value).toArray s 0 0 (iw_A G)) 9 G (iw_A G) m18 177 [(8, .int v17)] [.int v20, .int v19, .int (0 : Int32), .ref (G.2.1 84)] := by
      intro v20 h
      unfold f_L_changes_J177 at h
      refine iv_iadd (pc := 177) C dL_changes_177 ?_
      obtain ⟨m21, em21, h⟩ := iw_be h
      refine iv_wr (pc := 178) C 84 (iw_lx hJ rfl (by decide)) em21 dL_changes_178 ?_
      refine iv_iload (pc := 179) C 0 dL_changes_179 rfl ?_
      cases h
      exact iv_iret C hr hlk rfl rfl dL_changes_181
    refine iv_if_lt (pc := 165) C 176 dL_changes_165 (by decide) (fun h22 => ?_) (fun h22 => ?_)
    · replace h := iw_ift h22 h
      refine iv_iconst (pc := 176) C (0 : Int32) dL_changes_176 (by decide) ?_
      exact iv_sub [0] rfl (vJ177 (0 : Int32) h)
    · replace h := iw_iff h22 h
      refine iv_iload (pc := 168) C 1 dL_changes_168 rfl ?_
      refine iv_iload (pc := 170) C 0 dL_changes_170 rfl ?_
      refine iv_isub (pc := 172) C dL_changes_172 ?_
      refine iv_goto (pc := 173) C 177 dL_changes_173 (by decide) ?_
      exact iv_sub [0] rfl (vJ177 (v16 - v17) h)
  replace h := iw_iff h15 h
  by_cases h23 : v3 = (2 : Int32) ∨ v3 = (3 : Int32) ∨ v3 = (4 : Int32)
  · replace h := iw_ift h23 h
    have hth23 : ¬ Int32.toInt v3 < 0 ∧ ¬ 10 < Int32.toInt v3 ∧ ∃ off, (#[(58), (113), (156), (156), (156), (175), (188), (215), (241), (241), (295)] : Array Int)[(Int32.toInt v3 - 0).toNat]? = some off ∧ (26 : Int) + off = 182 := by
      clear h; rcases h23 with rfl | rfl | rfl <;> exact ⟨by decide, by decide, _, rfl, by decide⟩
    obtain ⟨h1h23, h2h23, offh23, h3h23, h4h23⟩ := hth23
    refine iv_tin (pc := 26) C 182 dL_changes_26 h1h23 h2h23 h3h23 h4h23 ?_
    refine iv_aload_n (pc := 182) C 2 dL_changes_182 rfl rfl ?_
    refine iv_iload_n (pc := 183) C 1 dL_changes_183 rfl rfl ?_
    refine iv_iload (pc := 184) C 0 dL_changes_184 rfl ?_
    refine iv_iconst (pc := 186) C (1 : Int32) dL_changes_186 (by decide) ?_
    refine iv_iload_n (pc := 187) C 3 dL_changes_187 rfl rfl ?_
    refine iv_bipush (pc := 188) C (12 : Int32) dL_changes_188 (by decide) ?_
    refine iv_ishr (pc := 190) C dL_changes_190 ?_
    refine iv_bipush (pc := 191) C (6 : Int32) dL_changes_191 (by decide) ?_
    obtain ⟨v24, ev24, h⟩ := iw_be h
    refine iv_callS (pc := 193) C [.int (p2 >>> ((12 : Int32) &&& 31)), .int (6 : Int32)] (k_L_low l G hJ (p2 >>> ((12 : Int32) &&& 31)) (6 : Int32) σ ev24) gL_changes_L_low rfl qd_L_low ⟨rfl, rfl, Nat.le_of_ble_eq_true rfl, Nat.le_of_ble_eq_true rfl⟩ rfl rfl (Nat.le_of_ble_eq_true rfl) dL_changes_193 ?_
    refine iv_iadd (pc := 196) C dL_changes_196 ?_
    obtain ⟨v25, m26, ev25, h⟩ := iw_b2e h
    refine iv_callV (pc := 197) (b := 0) (ci := 5) C [.int v1, .int v2, .int ((1 : Int32) + v24)] (k_X5_link l G hJ n v1 v2 ((1 : Int32) + v24) σ ev25) gL_changes_X5_link rfl qd_X5_link ⟨rfl, rfl, Nat.le_of_ble_eq_true rfl, Nat.le_of_ble_eq_true rfl⟩ (iw_ix hJ (by decide)) iw_Eo0 rfl rfl rfl (Nat.le_of_ble_eq_true rfl) dL_changes_197 ?_
    cases h
    exact iv_iret C hr hlk rfl rfl dL_changes_200
  replace h := iw_iff h23 h
  by_cases h27 : v3 = (5 : Int32)
  · replace h := iw_ift h27 h
    have hth27 : ¬ Int32.toInt v3 < 0 ∧ ¬ 10 < Int32.toInt v3 ∧ ∃ off, (#[(58), (113), (156), (156), (156), (175), (188), (215), (241), (241), (295)] : Array Int)[(Int32.toInt v3 - 0).toNat]? = some off ∧ (26 : Int) + off = 201 := by
      clear h; rcases h27 with rfl <;> exact ⟨by decide, by decide, _, rfl, by decide⟩
    obtain ⟨h1h27, h2h27, offh27, h3h27, h4h27⟩ := hth27
    refine iv_tin (pc := 26) C 201 dL_changes_26 h1h27 h2h27 h3h27 h4h27 ?_
    refine iv_aload_n (pc := 201) C 2 dL_changes_201 rfl rfl ?_
    refine iv_iload_n (pc := 202) C 3 dL_changes_202 rfl rfl ?_
    refine iv_iconst (pc := 203) C (4 : Int32) dL_changes_203 (by decide) ?_
    refine iv_ishr (pc := 204) C dL_changes_204 ?_
    refine iv_bipush (pc := 205) C (20 : Int32) dL_changes_205 (by decide) ?_
    obtain ⟨v28, ev28, h⟩ := iw_be h
    refine iv_callS (pc := 207) C [.int (p2 >>> ((4 : Int32) &&& 31)), .int (20 : Int32)] (k_L_low l G hJ (p2 >>> ((4 : Int32) &&& 31)) (20 : Int32) σ ev28) gL_changes_L_low rfl qd_L_low ⟨rfl, rfl, Nat.le_of_ble_eq_true rfl, Nat.le_of_ble_eq_true rfl⟩ rfl rfl (Nat.le_of_ble_eq_true rfl) dL_changes_207 ?_
    obtain ⟨v29, m30, ev29, h⟩ := iw_b2e h
    refine iv_callV (pc := 210) (b := 0) (ci := 5) C [.int v28] (k_X5_cut l G hJ n v28 σ ev29) gL_changes_X5_cut rfl qd_X5_cut ⟨rfl, rfl, Nat.le_of_ble_eq_true rfl, Nat.le_of_ble_eq_true rfl⟩ (iw_ix hJ (by decide)) iw_Eo0 rfl rfl rfl (Nat.le_of_ble_eq_true rfl) dL_changes_210 ?_
    cases h
    exact iv_iret C hr hlk rfl rfl dL_changes_213
  replace h := iw_iff h27 h
  by_cases h31 : v3 = (6 : Int32)
  · replace h := iw_ift h31 h
    have hth31 : ¬ Int32.toInt v3 < 0 ∧ ¬ 10 < Int32.toInt v3 ∧ ∃ off, (#[(58), (113), (156), (156), (156), (175), (188), (215), (241), (241), (295)] : Array Int)[(Int32.toInt v3 - 0).toNat]? = some off ∧ (26 : Int) + off = 214 := by
      clear h; rcases h31 with rfl <;> exact ⟨by decide, by decide, _, rfl, by decide⟩
    obtain ⟨h1h31, h2h31, offh31, h3h31, h4h31⟩ := hth31
    refine iv_tin (pc := 26) C 214 dL_changes_26 h1h31 h2h31 h3h31 h4h31 ?_
    refine iv_aload_n (pc := 214) C 2 dL_changes_214 rfl rfl ?_
    refine iv_iload_n (pc := 215) C 1 dL_changes_215 rfl rfl ?_
    refine iv_iload_n (pc := 216) C 3 dL_changes_216 rfl rfl ?_
    refine iv_bipush (pc := 217) C (8 : Int32) dL_changes_217 (by decide) ?_
    refine iv_ishr (pc := 219) C dL_changes_219 ?_
    refine iv_iconst (pc := 220) C (2 : Int32) dL_changes_220 (by decide) ?_
    obtain ⟨v32, ev32, h⟩ := iw_be h
    refine iv_callS (pc := 221) C [.int (p2 >>> ((8 : Int32) &&& 31)), .int (2 : Int32)] (k_L_low l G hJ (p2 >>> ((8 : Int32) &&& 31)) (2 : Int32) σ ev32) gL_changes_L_low rfl qd_L_low ⟨rfl, rfl, Nat.le_of_ble_eq_true rfl, Nat.le_of_ble_eq_true rfl⟩ rfl rfl (Nat.le_of_ble_eq_true rfl) dL_changes_221 ?_
    refine iv_iload_n (pc := 224) C 3 dL_changes_224 rfl rfl ?_
    refine iv_bipush (pc := 225) C (10 : Int32) dL_changes_225 (by decide) ?_
    refine iv_ishr (pc := 227) C dL_changes_227 ?_
    refine iv_sipush (pc := 228) C (201 : Int32) dL_changes_228 (by decide) ?_
    obtain ⟨v33, ev33, h⟩ := iw_be h
    refine iv_callS (pc := 231) C [.int (p2 >>> ((10 : Int32) &&& 31)), .int (201 : Int32)] (k_L_low l G hJ (p2 >>> ((10 : Int32) &&& 31)) (201 : Int32) σ ev33) gL_changes_L_low rfl qd_L_low ⟨rfl, rfl, Nat.le_of_ble_eq_true rfl, Nat.le_of_ble_eq_true rfl⟩ rfl rfl (Nat.le_of_ble_eq_true rfl) dL_changes_231 ?_
    refine iv_bipush (pc := 234) C (100 : Int32) dL_changes_234 (by decide) ?_
    refine iv_isub (pc := 236) C dL_changes_236 ?_
    obtain ⟨v34, m35, ev34, h⟩ := iw_b2e h
    refine iv_callV (pc := 237) (b := 0) (ci := 5) C [.int v1, .int v32, .int (v33 - (100 : Int32))] (k_X5_addSensor l G hJ n v1 v32 (v33 - (100 : Int32)) σ ev34) gL_changes_X5_addSensor rfl qd_X5_addSensor ⟨rfl, rfl, Nat.le_of_ble_eq_true rfl, Nat.le_of_ble_eq_true rfl⟩ (iw_ix hJ (by decide)) iw_Eo0 rfl rfl rfl (Nat.le_of_ble_eq_true rfl) dL_changes_237 ?_
    cases h
    exact iv_iret C hr hlk rfl rfl dL_changes_240
  replace h := iw_iff h31 h
  by_cases h36 : v3 = (7 : Int32)
  · replace h := iw_ift h36 h
    have hth36 : ¬ Int32.toInt v3 < 0 ∧ ¬ 10 < Int32.toInt v3 ∧ ∃ off, (#[(58), (113), (156), (156), (156), (175), (188), (215), (241), (241), (295)] : Array Int)[(Int32.toInt v3 - 0).toNat]? = some off ∧ (26 : Int) + off = 241 := by
      clear h; rcases h36 with rfl <;> exact ⟨by decide, by decide, _, rfl, by decide⟩
    obtain ⟨h1h36, h2h36, offh36, h3h36, h4h36⟩ := hth36
    refine iv_tin (pc := 26) C 241 dL_changes_26 h1h36 h2h36 h3h36 h4h36 ?_
    refine iv_aload_n (pc := 241) C 2 dL_changes_241 rfl rfl ?_
    refine iv_iload_n (pc := 242) C 3 dL_changes_242 rfl rfl ?_
    refine iv_iconst (pc := 243) C (4 : Int32) dL_changes_243 (by decide) ?_
    refine iv_ishr (pc := 244) C dL_changes_244 ?_
    refine iv_bipush (pc := 245) C (6 : Int32) dL_changes_245 (by decide) ?_
    obtain ⟨v37, ev37, h⟩ := iw_be h
    refine iv_callS (pc := 247) C [.int (p2 >>> ((4 : Int32) &&& 31)), .int (6 : Int32)] (k_L_low l G hJ (p2 >>> ((4 : Int32) &&& 31)) (6 : Int32) σ ev37) gL_changes_L_low rfl qd_L_low ⟨rfl, rfl, Nat.le_of_ble_eq_true rfl, Nat.le_of_ble_eq_true rfl⟩ rfl rfl (Nat.le_of_ble_eq_true rfl) dL_changes_247 ?_
    refine iv_iload_n (pc := 250) C 3 dL_changes_250 rfl rfl ?_
    refine iv_bipush (pc := 251) C (8 : Int32) dL_changes_251 (by decide) ?_
    refine iv_ishr (pc := 253) C dL_changes_253 ?_
    refine iv_sipush (pc := 254) C (201 : Int32) dL_changes_254 (by decide) ?_
    obtain ⟨v38, ev38, h⟩ := iw_be h
    refine iv_callS (pc := 257) C [.int (p2 >>> ((8 : Int32) &&& 31)), .int (201 : Int32)] (k_L_low l G hJ (p2 >>> ((8 : Int32) &&& 31)) (201 : Int32) σ ev38) gL_changes_L_low rfl qd_L_low ⟨rfl, rfl, Nat.le_of_ble_eq_true rfl, Nat.le_of_ble_eq_true rfl⟩ rfl rfl (Nat.le_of_ble_eq_true rfl) dL_changes_257 ?_
    refine iv_bipush (pc := 260) C (100 : Int32) dL_changes_260 (by decide) ?_
    refine iv_isub (pc := 262) C dL_changes_262 ?_
    obtain ⟨v39, m40, ev39, h⟩ := iw_let2e h
    refine iv_callV (pc := 263) (b := 0) (ci := 5) C [.int v37, .int (v38 - (100 : Int32))] (k_X5_measure l G hJ v37 (v38 - (100 : Int32)) σ ev39) gL_changes_X5_measure rfl qd_X5_measure ⟨rfl, rfl, Nat.le_of_ble_eq_true rfl, Nat.le_of_ble_eq_true rfl⟩ (iw_ix hJ (by decide)) iw_Eo0 rfl rfl rfl (Nat.le_of_ble_eq_true rfl) dL_changes_263 ?_
    cases h
    exact iv_iret C hr hlk rfl rfl dL_changes_266
  replace h := iw_iff h36 h
  by_cases h41 : v3 = (8 : Int32) ∨ v3 = (9 : Int32)
  · replace h := iw_ift h41 h
    have hth41 : ¬ Int32.toInt v3 < 0 ∧ ¬ 10 < Int32.toInt v3 ∧ ∃ off, (#[(58), (113), (156), (156), (156), (175), (188), (215), (241), (241), (295)] : Array Int)[(Int32.toInt v3 - 0).toNat]? = some off ∧ (26 : Int) + off = 267 := by
      clear h; rcases h41 with rfl | rfl <;> exact ⟨by decide, by decide, _, rfl, by decide⟩
    obtain ⟨h1h41, h2h41, offh41, h3h41, h4h41⟩ := hth41
    refine iv_tin (pc := 26) C 267 dL_changes_26 h1h41 h2h41 h3h41 h4h41 ?_
    refine iv_aload_n (pc := 267) C 2 dL_changes_267 rfl rfl ?_
    refine iv_iload_n (pc := 268) C 1 dL_changes_268 rfl rfl ?_
    refine iv_iload_n (pc := 269) C 3 dL_changes_269 rfl rfl ?_
    refine iv_bipush (pc := 270) C (8 : Int32) dL_changes_270 (by decide) ?_
    refine iv_ishr (pc := 272) C dL_changes_272 ?_
    refine iv_iconst (pc := 273) C (2 : Int32) dL_changes_273 (by decide) ?_
    obtain ⟨v42, ev42, h⟩ := iw_be h
    refine iv_callS (pc := 274) C [.int (p2 >>> ((8 : Int32) &&& 31)), .int (2 : Int32)] (k_L_low l G hJ (p2 >>> ((8 : Int32) &&& 31)) (2 : Int32) σ ev42) gL_changes_L_low rfl qd_L_low ⟨rfl, rfl, Nat.le_of_ble_eq_true rfl, Nat.le_of_ble_eq_true rfl⟩ rfl rfl (Nat.le_of_ble_eq_true rfl) dL_changes_274 ?_
    refine iv_iload_n (pc := 277) C 3 dL_changes_277 rfl rfl ?_
    refine iv_bipush (pc := 278) C (10 : Int32) dL_changes_278 (by decide) ?_
    refine iv_ishr (pc := 280) C dL_changes_280 ?_
    refine iv_sipush (pc := 281) C (150 : Int32) dL_changes_281 (by decide) ?_
    obtain ⟨v43, ev43, h⟩ := iw_be h
    refine iv_callS (pc := 284) C [.int (p2 >>> ((10 : Int32) &&& 31)), .int (150 : Int32)] (k_L_low l G hJ (p2 >>> ((10 : Int32) &&& 31)) (150 : Int32) σ ev43) gL_changes_L_low rfl qd_L_low ⟨rfl, rfl, Nat.le_of_ble_eq_true rfl, Nat.le_of_ble_eq_true rfl⟩ rfl rfl (Nat.le_of_ble_eq_true rfl) dL_changes_284 ?_
    refine iv_bipush (pc := 287) C (100 : Int32) dL_changes_287 (by decide) ?_
    refine iv_isub (pc := 289) C dL_changes_289 ?_
    refine iv_bipush (pc := 290) C (50 : Int32) dL_changes_290 (by decide) ?_
    refine iv_iload_n (pc := 292) C 3 dL_changes_292 rfl rfl ?_
    refine iv_bipush (pc := 293) C (18 : Int32) dL_changes_293 (by decide) ?_
    refine iv_ishr (pc := 295) C dL_changes_295 ?_
    refine iv_bipush (pc := 296) C (51 : Int32) dL_changes_296 (by decide) ?_
    obtain ⟨v44, ev44, h⟩ := iw_be h
    refine iv_callS (pc := 298) C [.int (p2 >>> ((18 : Int32) &&& 31)), .int (51 : Int32)] (k_L_low l G hJ (p2 >>> ((18 : Int32) &&& 31)) (51 : Int32) σ ev44) gL_changes_L_low rfl qd_L_low ⟨rfl, rfl, Nat.le_of_ble_eq_true rfl, Nat.le_of_ble_eq_true rfl⟩ rfl rfl (Nat.le_of_ble_eq_true rfl) dL_changes_298 ?_
    refine iv_iadd (pc := 301) C dL_changes_301 ?_
    refine iv_aload_n (pc := 302) C 2 dL_changes_302 rfl rfl ?_
    refine iv_iconst (pc := 303) C (5 : Int32) dL_changes_303 (by decide) ?_
    obtain ⟨v45, ev45, h⟩ := iw_be h
    refine iv_callV (pc := 304) (b := 0) (ci := 5) C [.int (5 : Int32)] (k_X5_count l G hJ n (5 : Int32) σ ev45) gL_changes_X5_count rfl qd_X5_count ⟨rfl, rfl, Nat.le_of_ble_eq_true rfl, Nat.le_of_ble_eq_true rfl⟩ (iw_ix hJ (by decide)) iw_Eo0 rfl rfl rfl (Nat.le_of_ble_eq_true rfl) dL_changes_304 ?_
    refine iv_iload_n (pc := 307) C 3 dL_changes_307 rfl rfl ?_
    refine iv_bipush (pc := 308) C (20 : Int32) dL_changes_308 (by decide) ?_
    refine iv_ishr (pc := 310) C dL_changes_310 ?_
    refine iv_bipush (pc := 311) C (30 : Int32) dL_changes_311 (by decide) ?_
    obtain ⟨v46, ev46, h⟩ := iw_be h
    refine iv_callS (pc := 313) C [.int (p2 >>> ((20 : Int32) &&& 31)), .int (30 : Int32)] (k_L_low l G hJ (p2 >>> ((20 : Int32) &&& 31)) (30 : Int32) σ ev46) gL_changes_L_low rfl qd_L_low ⟨rfl, rfl, Nat.le_of_ble_eq_true rfl, Nat.le_of_ble_eq_true rfl⟩ rfl rfl (Nat.le_of_ble_eq_true rfl) dL_changes_313 ?_
    refine iv_iadd (pc := 316) C dL_changes_316 ?_
    obtain ⟨v47, m48, ev47, h⟩ := iw_b2e h
    refine iv_callV (pc := 317) (b := 0) (ci := 5) C [.int v1, .int v42, .int (v43 - (100 : Int32)), .int ((50 : Int32) + v44), .int (v45 + v46)] (k_X5_ask l G hJ n v1 v42 (v43 - (100 : Int32)) ((50 : Int32) + v44) (v45 + v46) σ ev47) gL_changes_X5_ask rfl qd_X5_ask ⟨rfl, rfl, Nat.le_of_ble_eq_true rfl, Nat.le_of_ble_eq_true rfl⟩ (iw_ix hJ (by decide)) iw_Eo0 rfl rfl rfl (Nat.le_of_ble_eq_true rfl) dL_changes_317 ?_
    cases h
    exact iv_iret C hr hlk rfl rfl dL_changes_320
  replace h := iw_iff h41 h
  by_cases h49 : v3 = (10 : Int32)
  · replace h := iw_ift h49 h
    have hth49 : ¬ Int32.toInt v3 < 0 ∧ ¬ 10 < Int32.toInt v3 ∧ ∃ off, (#[(58), (113), (156), (156), (156), (175), (188), (215), (241), (241), (295)] : Array Int)[(Int32.toInt v3 - 0).toNat]? = some off ∧ (26 : Int) + off = 321 := by
      clear h; rcases h49 with rfl <;> exact ⟨by decide, by decide, _, rfl, by decide⟩
    obtain ⟨h1h49, h2h49, offh49, h3h49, h4h49⟩ := hth49
    refine iv_tin (pc := 26) C 321 dL_changes_26 h1h49 h2h49 h3h49 h4h49 ?_
    refine iv_iload_n (pc := 321) C 3 dL_changes_321 rfl rfl ?_
    refine iv_iconst (pc := 322) C (4 : Int32) dL_changes_322 (by decide) ?_
    refine iv_ishr (pc := 323) C dL_changes_323 ?_
    refine iv_iconst (pc := 324) C (1 : Int32) dL_changes_324 (by decide) ?_
    refine iv_iand (pc := 325) C dL_changes_325 ?_
    refine iv_if_ne (pc := 326) C 343 dL_changes_326 (by decide) (fun h50 => ?_) (fun h50 => ?_)
    · replace h := iw_iff h50 h
      refine iv_aload_n (pc := 343) C 2 dL_changes_343 rfl rfl ?_
      refine iv_iconst (pc := 344) C (1 : Int32) dL_changes_344 (by decide) ?_
      refine iv_iload_n (pc := 345) C 3 dL_changes_345 rfl rfl ?_
      refine iv_iconst (pc := 346) C (5 : Int32) dL_changes_346 (by decide) ?_
      refine iv_ishr (pc := 347) C dL_changes_347 ?_
      refine iv_bipush (pc := 348) C (12 : Int32) dL_changes_348 (by decide) ?_
      obtain ⟨v51, ev51, h⟩ := iw_be h
      refine iv_callS (pc := 350) C [.int (p2 >>> ((5 : Int32) &&& 31)), .int (12 : Int32)] (k_L_low l G hJ (p2 >>> ((5 : Int32) &&& 31)) (12 : Int32) σ ev51) gL_changes_L_low rfl qd_L_low ⟨rfl, rfl, Nat.le_of_ble_eq_true rfl, Nat.le_of_ble_eq_true rfl⟩ rfl rfl (Nat.le_of_ble_eq_true rfl) dL_changes_350 ?_
      refine iv_iadd (pc := 353) C dL_changes_353 ?_
      obtain ⟨v52, m53, ev52, h⟩ := iw_b2e h
      refine iv_callV (pc := 354) (b := 0) (ci := 5) C [.int ((1 : Int32) + v51)] (k_X5_setPeriod l G hJ n ((1 : Int32) + v51) σ ev52) gL_changes_X5_setPeriod rfl qd_X5_setPeriod ⟨rfl, rfl, Nat.le_of_ble_eq_true rfl, Nat.le_of_ble_eq_true rfl⟩ (iw_ix hJ (by decide)) iw_Eo0 rfl rfl rfl (Nat.le_of_ble_eq_true rfl) dL_changes_354 ?_
      cases h
      exact iv_iret C hr hlk rfl rfl dL_changes_357
    · replace h := iw_ift h50 h
      refine iv_aload_n (pc := 329) C 2 dL_changes_329 rfl rfl ?_
      refine iv_iload_n (pc := 330) C 3 dL_changes_330 rfl rfl ?_
      refine iv_iconst (pc := 331) C (5 : Int32) dL_changes_331 (by decide) ?_
      refine iv_ishr (pc := 332) C dL_changes_332 ?_
      refine iv_iconst (pc := 333) C (5 : Int32) dL_changes_333 (by decide) ?_
      obtain ⟨v54, ev54, h⟩ := iw_be h
      refine iv_callS (pc := 334) C [.int (p2 >>> ((5 : Int32) &&& 31)), .int (5 : Int32)] (k_L_low l G hJ (p2 >>> ((5 : Int32) &&& 31)) (5 : Int32) σ ev54) gL_changes_L_low rfl qd_L_low ⟨rfl, rfl, Nat.le_of_ble_eq_true rfl, Nat.le_of_ble_eq_true rfl⟩ rfl rfl (Nat.le_of_ble_eq_true rfl) dL_changes_334 ?_
      obtain ⟨v55, m56, ev55, h⟩ := iw_b2e h
      refine iv_callV (pc := 337) (b := 0) (ci := 5) C [.int v54] (k_X5_withdraw l G hJ n v54 σ ev55) gL_changes_X5_withdraw rfl qd_X5_withdraw ⟨rfl, rfl, Nat.le_of_ble_eq_true rfl, Nat.le_of_ble_eq_true rfl⟩ (iw_ix hJ (by decide)) iw_Eo0 rfl rfl rfl (Nat.le_of_ble_eq_true rfl) dL_changes_337 ?_
      refine iv_goto (pc := 340) C 357 dL_changes_340 (by decide) ?_
      cases h
      exact iv_iret C hr hlk rfl rfl dL_changes_357
  replace h := iw_iff h49 h
  have hout : Int32.toInt v3 < 0 ∨ 10 < Int32.toInt v3 := iw_swout 10 (fun k hk e => by
    rcases (show k = 0 ∨ k = 1 ∨ k = 2 ∨ k = 3 ∨ k = 4 ∨ k = 5 ∨ k = 6 ∨ k = 7 ∨ k = 8 ∨ k = 9 ∨ k = 10 by omega) with rfl | rfl | rfl | rfl | rfl | rfl | rfl | rfl | rfl | rfl | rfl
    · exact h4 (e)
    · exact h15 (e)
    · exact h23 (Or.inl e)
    · exact h23 (Or.inr (Or.inl e))
    · exact h23 (Or.inr (Or.inr (e)))
    · exact h27 (e)
    · exact h31 (e)
    · exact h36 (e)
    · exact h41 (Or.inl e)
    · exact h41 (Or.inr (e))
    · exact h49 (e))
  refine iv_tout (pc := 26) C 358 dL_changes_26 hout (by decide) ?_
  refine iv_aload_n (pc := 358) C 2 dL_changes_358 rfl rfl ?_
  refine iv_iconst (pc := 359) C (1 : Int32) dL_changes_359 (by decide) ?_
  refine iv_iload_n (pc := 360) C 3 dL_changes_360 rfl rfl ?_
  refine iv_iconst (pc := 361) C (4 : Int32) dL_changes_361 (by decide) ?_
  refine iv_ishr (pc := 362) C dL_changes_362 ?_
  refine iv_bipush (pc := 363) C (8 : Int32) dL_changes_363 (by decide) ?_
  obtain ⟨v57, ev57, h⟩ := iw_be h
  refine iv_callS (pc := 365) C [.int (p2 >>> ((4 : Int32) &&& 31)), .int (8 : Int32)] (k_L_low l G hJ (p2 >>> ((4 : Int32) &&& 31)) (8 : Int32) σ ev57) gL_changes_L_low rfl qd_L_low ⟨rfl, rfl, Nat.le_of_ble_eq_true rfl, Nat.le_of_ble_eq_true rfl⟩ rfl rfl (Nat.le_of_ble_eq_true rfl) dL_changes_365 ?_
  refine iv_iadd (pc := 368) C dL_changes_368 ?_
  obtain ⟨v58, m59, ev58, h⟩ := iw_b2e h
  refine iv_callV (pc := 369) (b := 0) (ci := 5) C [.int ((1 : Int32) + v57)] (k_X5_rounds l G hJ n ((1 : Int32) + v57) σ ev58) gL_changes_X5_rounds rfl qd_X5_rounds ⟨rfl, rfl, Nat.le_of_ble_eq_true rfl, Nat.le_of_ble_eq_true rfl⟩ (iw_ix hJ (by decide)) iw_Eo0 rfl rfl rfl (Nat.le_of_ble_eq_true rfl) dL_changes_369 ?_
  cases h
  exact iv_iret C hr hlk rfl rfl dL_changes_372
theorem qd_L_changes : yL_changes.cls ≠ "java/lang/invoke/MethodHandle" ∧ yL_changes.cls ≠ "java/lang/invoke/VarHandle" ∧ (parseMethodDescriptor yL_changes.desc).map (fun d => d.parameters.length) = some 3 := by decide +kernel
