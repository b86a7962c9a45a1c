def f_X6_sends_X114_5 (p1 : Int32) (v1 : Int32) (m2 : iw_M) : Option (iw_M) :=
(iw_rd m2 85 (((100 : Int32) + ((7 : Int32) * p1)) + (5 : Int32))).bind fun v3 =>
(iw_wr m2 85 (((100 : Int32) + ((7 : Int32) * p1)) + (5 : Int32)) (v3 + (1 : Int32))).bind fun m4 =>
(iw_rd m4 85 (((100 : Int32) + ((7 : Int32) * p1)) + (6 : Int32))).bind fun v5 =>
(iw_wr m4 85 (((100 : Int32) + ((7 : Int32) * p1)) + (6 : Int32)) (v5 + v1)).bind fun m6 =>
some m6
def f_X6_sends_J108 (r5 : Int32 → Int32 → iw_M → Option (iw_M)) (v8 : Int32) (v16 : Int32) (m18 : iw_M) : Option (iw_M) :=
iw_let (v8 + (1 : Int32)) fun v19 =>
r5 v16 v19 m18
def f_X6_sends_B5 (n : Nat) (p1 : Int32) (p2 : Int32) (k5 : Int32 → iw_M → Option (iw_M)) (r5 : Int32 → Int32 → iw_M → Option (iw_M)) (v7 : Int32) (v8 : Int32) (m9 : iw_M) : Option (iw_M) :=
(f_X6_lengthOf p1 p2 m9).bind fun v10 =>
if v10 ≤ v8 then
(k5 v7 m9)
else
((f_X6_nodeOf p1 p2 (v8 - (1 : Int32)) m9).bind fun v12 =>
(f_X6_nodeOf p1 p2 v8 m9).bind fun v13 =>
(f_X6_linkOf n v12 v13 m9).bind fun v14 =>
(f_X6_ofLink v14 (2 : Int32) m9).bind fun v15 =>
iw_let (v7 + v15) fun v16 =>
(iw_rd m9 91 ((((100 : Int32) * p2) + ((10 : Int32) * v12)) + v13)).bind fun v17 =>
if v17 = (0 : Int32) then
((iw_wr m9 91 ((((100 : Int32) * p2) + ((10 : Int32) * v12)) + v13) ((1 : Int32) &&& 1)).bind fun m21 =>
(f_X6_spends v12 (2 : Int32) m21).bind fun m22 =>
(f_X6_spends v13 (1 : Int32) m22).bind fun m23 =>
f_X6_sends_J108 r5 v8 v16 m23)
else
(f_X6_sends_J108 r5 v8 v16 m9))
def f_X6_sends_L5 (n : Nat) (p1 : Int32) (p2 : Int32) (k5 : Int32 → iw_M → Option (iw_M)) (nn : Nat) : Int32 → Int32 → iw_M → Option (iw_M) :=
iw_it (fun r5 => f_X6_sends_B5 n p1 p2 k5 r5) (fun _ _ _ => none) nn
def f_X6_sends (n : Nat) (p1 : Int32) (p2 : Int32) (σ : iw_M) : Option (iw_M) :=
f_X6_sends_L5 n p1 p2 (f_X6_sends_X114_5 p1) n (0 : Int32) (1 : Int32) σ
abbrev rm_X6_sends : Room := { frames := 2, cells := 0, slots := 0, locals := 48 }
theorem lk_X6_sends_7 : Cond.fieldLink RX6 7 RX6 (TX6 0).2.1 (TX6 0).2.2.1 ∈ wsX6_sends := by decide +kernel
theorem lk_X6_sends_29 : Cond.fieldLink RX6 29 RX6 (TX6 9).2.1 (TX6 9).2.2.1 ∈ wsX6_sends := by decide +kernel
theorem in_X6_sends_6 : ∀ w ∈ u_ws RX6 TX6 16, w ∈ wsX6_sends := by decide +kernel
set_option maxHeartbeats 4000000 in
set_option maxRecDepth 100000 in
theorem k_X6_sends (l : Launch) (G : iw_G) (hJ : iw_JM G) (n : Nat) (p1 : Int32) (p2 : Int32) (σ : iw_M) {σ' : iw_M} (h : f_X6_sends n p1 p2 σ = some σ') : iw_Ct l yX6_sends wsX6_sends rm_X6_sends G ([.ref (G.2.1 84), .int p1, .int p2] : List Value) σ none σ' := by
  refine iv_start (nL := 7) (own := RX6) (ret := none) (cc := cX6_sends) (by decide +kernel) rfl rfl hJ.1 (Nat.le_of_ble_eq_true rfl) ?_
  intro p e s m below meth c0 C hr hlk
  refine iv_sub (lv' := [(0, .ref (G.2.1 84)), (1, .int p1), (2, .int p2)]) [0, 1, 2] rfl ?_
  unfold f_X6_sends at h
  refine iv_iconst (pc := 0) C (0 : Int32) dX6_sends_0 (by decide) ?_
  refine iv_istore_n (pc := 1) C [(3, .int (0 : Int32)), (0, .ref (G.2.1 84)), (1, .int p1), (2, .int p2)] dX6_sends_1 rfl (by decide) rfl ?_
  refine iv_iconst (pc := 2) C (1 : Int32) dX6_sends_2 (by decide) ?_
  refine iv_istore (pc := 3) C [(4, .int (1 : Int32)), (3, .int (0 : Int32)), (0, .ref (G.2.1 84)), (1, .int p1), (2, .int p2)] dX6_sends_3 (by decide) rfl ?_
  have vX5 : ∀ (v1 : Int32) (m2 : iw_M), f_X6_sends_X114_5 p1 v1 m2 = some σ' → iw_V p l e rm_X6_sends s m ([.ref (G.2.1 84), .int p1, .int p2] : List Value).toArray below meth c0 0 0 (MQ below (iw_Q none G σ') ([.ref (G.2.1 84), .int p1, .int p2] : List Value).toArray s 0 0 (iw_A G)) 7 G (iw_A G) m2 114 [(0, .ref (G.2.1 84)), (1, .int p1), (3, .int v1)] [] := by
    intro v1 m2 h
    unfold f_X6_sends_X114_5 at h
    refine iv_aload_n (pc := 114) C 0 dX6_sends_114 rfl rfl ?_
    refine iv_getf (pc := 115) (T := TX6) (N := 16) (ci := 6) C 84 0 in_X6_sends_6 (iw_im hJ (by decide)) iw_Eo84 rfl (by decide) lk_X6_sends_7 rfl rfl dX6_sends_115 ?_
    refine iv_bipush (pc := 118) C (100 : Int32) dX6_sends_118 (by decide) ?_
    refine iv_bipush (pc := 120) C (7 : Int32) dX6_sends_120 (by decide) ?_
    refine iv_iload_n (pc := 122) C 1 dX6_sends_122 rfl rfl ?_
    refine iv_imul (pc := 123) C dX6_sends_123 ?_
    refine iv_iadd (pc := 124) C dX6_sends_124 ?_
    refine iv_iconst (pc := 125) C (5 : Int32) dX6_sends_125 (by decide) ?_
    refine iv_iadd (pc := 126) C dX6_sends_126 ?_
    refine iv_dup2 (pc := 127) C rfl rfl dX6_sends_127 ?_
    obtain ⟨v3, ev3, h⟩ := iw_be h
    refine iv_rd (pc := 128) C 85 (iw_lm hJ rfl (by decide)) ev3 dX6_sends_128 ?_
    refine iv_iconst (pc := 129) C (1 : Int32) dX6_sends_129 (by decide) ?_
    refine iv_iadd (pc := 130) C dX6_sends_130 ?_
    obtain ⟨m4, em4, h⟩ := iw_be h
    refine iv_wr (pc := 131) C 85 (iw_lm hJ rfl (by decide)) em4 dX6_sends_131 ?_
    refine iv_aload_n (pc := 132) C 0 dX6_sends_132 rfl rfl ?_
    refine iv_getf (pc := 133) (T := TX6) (N := 16) (ci := 6) C 84 0 in_X6_sends_6 (iw_im hJ (by decide)) iw_Eo84 rfl (by decide) lk_X6_sends_7 rfl rfl dX6_sends_133 ?_
    refine iv_bipush (pc := 136) C (100 : Int32) dX6_sends_136 (by decide) ?_
    refine iv_bipush (pc := 138) C (7 : Int32) dX6_sends_138 (by decide) ?_
    refine iv_iload_n (pc := 140) C 1 dX6_sends_140 rfl rfl ?_
    refine iv_imul (pc := 141) C dX6_sends_141 ?_
    refine iv_iadd (pc := 142) C dX6_sends_142 ?_
    refine iv_bipush (pc := 143) C (6 : Int32) dX6_sends_143 (by decide) ?_
    refine iv_iadd (pc := 145) C dX6_sends_145 ?_
    refine iv_dup2 (pc := 146) C rfl rfl dX6_sends_146 ?_
    obtain ⟨v5, ev5, h⟩ := iw_be h
    refine iv_rd (pc := 147) C 85 (iw_lm hJ rfl (by decide)) ev5 dX6_sends_147 ?_
    refine iv_iload_n (pc := 148) C 2 dX6_sends_148 rfl rfl ?_
    refine iv_iadd (pc := 149) C dX6_sends_149 ?_
    obtain ⟨m6, em6, h⟩ := iw_be h
    refine iv_wr (pc := 150) C 85 (iw_lm hJ rfl (by decide)) em6 dX6_sends_150 ?_
    cases h
    exact iv_vret C hr hlk rfl rfl dX6_sends_151
  have vB5 : ∀ (k5 : Int32 → iw_M → Option (iw_M)) (r5 : Int32 → Int32 → iw_M → Option (iw_M)), (∀ (v1 : Int32) (m2 : iw_M), k5 v1 m2 = some σ' → iw_V p l e rm_X6_sends s m ([.ref (G.2.1 84), .int p1, .int p2] : List Value).toArray below meth c0 0 0 (MQ below (iw_Q none G σ') ([.ref (G.2.1 84), .int p1, .int p2] : List Value).toArray s 0 0 (iw_A G)) 7 G (iw_A G) m2 114 [(0, .ref (G.2.1 84)), (1, .int p1), (3, .int v1)] []) → (∀ (v7 : Int32) (v8 : Int32) (m9 : iw_M), r5 v7 v8 m9 = some σ' → iw_V p l e rm_X6_sends s m ([.ref (G.2.1 84), .int p1, .int p2] : List Value).toArray below meth c0 0 0 (MQ below (iw_Q none G σ') ([.ref (G.2.1 84), .int p1, .int p2] : List Value).toArray s 0 0 (iw_A G)) 7 G (iw_A G) m9 5 [(0, .ref (G.2.1 84)), (1, .int p1), (2, .int p2), (3, .int v7), (4, .int v8)] []) → ∀ (v7 : Int32) (v8 : Int32) (m9 : iw_M), f_X6_sends_B5 n p1 p2 k5 r5 v7 v8 m9 = some σ' → iw_V p l e rm_X6_sends s m ([.ref (G.2.1 84), .int p1, .int p2] : List Value).toArray below meth c0 0 0 (MQ below (iw_Q none G σ') ([.ref (G.2.1 84), .int p1, .int p2] : List Value).toArray s 0 0 (iw_A G)) 7 G (iw_A G) m9 5 [(0, .ref (G.2.1 84)), (1, .int p1), (2, .int p2), (3, .int v7), (4, .int v8)] [] := by
    intro k5 r5 hk5 hr5 v7 v8 m9 h
    unfold f_X6_sends_B5 at h
    refine iv_iload (pc := 5) C 4 dX6_sends_5 rfl ?_
    refine iv_aload_n (pc := 7) C 0 dX6_sends_7 rfl rfl ?_
    refine iv_iload_n (pc := 8) C 1 dX6_sends_8 rfl rfl ?_
    refine iv_iload_n (pc := 9) C 2 dX6_sends_9 rfl rfl ?_
    obtain ⟨v10, ev10, h⟩ := iw_be h
    refine iv_callV (pc := 10) (b := 84) (ci := 6) C [.int p1, .int p2] (k_X6_lengthOf l G hJ p1 p2 m9 ev10) gX6_sends_X6_lengthOf rfl qd_X6_lengthOf ⟨rfl, rfl, Nat.le_of_ble_eq_true rfl, Nat.le_of_ble_eq_true rfl⟩ (iw_im hJ (by decide)) iw_Eo84 rfl rfl rfl (Nat.le_of_ble_eq_true rfl) dX6_sends_10 ?_
    refine iv_icmp_ge (pc := 13) C 114 dX6_sends_13 (by decide) (fun h11 => ?_) (fun h11 => ?_)
    · replace h := iw_ift h11 h
      exact iv_sub [0, 1, 3] rfl (hk5 v7 m9 h)
    · replace h := iw_iff h11 h
      refine iv_aload_n (pc := 16) C 0 dX6_sends_16 rfl rfl ?_
      refine iv_iload_n (pc := 17) C 1 dX6_sends_17 rfl rfl ?_
      refine iv_iload_n (pc := 18) C 2 dX6_sends_18 rfl rfl ?_
      refine iv_iload (pc := 19) C 4 dX6_sends_19 rfl ?_
      refine iv_iconst (pc := 21) C (1 : Int32) dX6_sends_21 (by decide) ?_
      refine iv_isub (pc := 22) C dX6_sends_22 ?_
      obtain ⟨v12, ev12, h⟩ := iw_be h
      refine iv_callV (pc := 23) (b := 84) (ci := 6) C [.int p1, .int p2, .int (v8 - (1 : Int32))] (k_X6_nodeOf l G hJ p1 p2 (v8 - (1 : Int32)) m9 ev12) gX6_sends_X6_nodeOf rfl qd_X6_nodeOf ⟨rfl, rfl, Nat.le_of_ble_eq_true rfl, Nat.le_of_ble_eq_true rfl⟩ (iw_im hJ (by decide)) iw_Eo84 rfl rfl rfl (Nat.le_of_ble_eq_true rfl) dX6_sends_23 ?_
      refine iv_istore (pc := 26) C [(5, .int v12), (0, .ref (G.2.1 84)), (1, .int p1), (2, .int p2), (3, .int v7), (4, .int v8)] dX6_sends_26 (by decide) rfl ?_
      refine iv_aload_n (pc := 28) C 1 dX6_sends_28 rfl rfl ?_
      refine iv_iload_n (pc := 29) C 2 dX6_sends_29 rfl rfl ?_
      refine iv_iload_n (pc := 30) C 3 dX6_sends_30 rfl rfl ?_
      refine iv_iload (pc := 31) C 5 dX6_sends_31 rfl ?_
      obtain ⟨v13, ev13, h⟩ := iw_be h
      refine iv_callV (pc := 33) (b := 84) (ci := 6) C [.int p1, .int p2, .int v8] (k_X6_nodeOf l G hJ p1 p2 v8 m9 ev13) gX6_sends_X6_nodeOf rfl qd_X6_nodeOf ⟨rfl, rfl, Nat.le_of_ble_eq_true rfl, Nat.le_of_ble_eq_true rfl⟩ (iw_im hJ (by decide)) iw_Eo84 rfl rfl rfl (Nat.le_of_ble_eq_true rfl) dX6_sends_33 ?_
      refine iv_istore (pc := 36) C [(6, .int v13), (5, .int v12), (0, .ref (G.2.1 84)), (1, .int p1), (2, .int p2), (3, .int v7), (4, .int v8)] dX6_sends_36 (by decide) rfl ?_
      refine iv_iload_n (pc := 38) C 5 dX6_sends_38 rfl rfl ?_
      refine iv_aload_n (pc := 39) C 2 dX6_sends_39 rfl rfl ?_
      refine iv_aload_n (pc := 40) C 2 dX6_sends_40 rfl rfl ?_
      refine iv_iload (pc := 41) C 1 dX6_sends_41 rfl ?_
      refine iv_iload (pc := 43) C 0 dX6_sends_43 rfl ?_
      obtain ⟨v14, ev14, h⟩ := iw_be h
      refine iv_callV (pc := 45) (b := 84) (ci := 6) C [.int v12, .int v13] (k_X6_linkOf l G hJ n v12 v13 m9 ev14) gX6_sends_X6_linkOf rfl qd_X6_linkOf ⟨rfl, rfl, Nat.le_of_ble_eq_true rfl, Nat.le_of_ble_eq_true rfl⟩ (iw_im hJ (by decide)) iw_Eo84 rfl rfl rfl (Nat.le_of_ble_eq_true rfl) dX6_sends_45 ?_
      refine iv_iconst (pc := 48) C (2 : Int32) dX6_sends_48 (by decide) ?_
      obtain ⟨v15, ev15, h⟩ := iw_be h
      refine iv_callV (pc := 49) (b := 84) (ci := 6) C [.int v14, .int (2 : Int32)] (k_X6_ofLink l G hJ v14 (2 : Int32) m9 ev15) gX6_sends_X6_ofLink rfl qd_X6_ofLink ⟨rfl, rfl, Nat.le_of_ble_eq_true rfl, Nat.le_of_ble_eq_true rfl⟩ (iw_im hJ (by decide)) iw_Eo84 rfl rfl rfl (Nat.le_of_ble_eq_true rfl) dX6_sends_49 ?_
      refine iv_iadd (pc := 52) C dX6_sends_52 ?_
      refine iv_topi (fun v16 ev16 => ?_)
      replace h := iw_lete ev16 h
      refine iv_istore_n (pc := 53) C [(3, .int v16), (6, .int v13), (5, .int v12), (0, .ref (G.2.1 84)), (1, .int p1), (2, .int p2), (4, .int v8)] dX6_sends_53 rfl (by decide) rfl ?_
      refine iv_aload_n (pc := 54) C 3 dX6_sends_54 rfl rfl ?_
      refine iv_getf (pc := 55) (T := TX6) (N := 16) (ci := 6) C 84 9 in_X6_sends_6 (iw_im hJ (by decide)) iw_Eo84 rfl (by decide) lk_X6_sends_29 rfl rfl dX6_sends_55 ?_
      refine iv_bipush (pc := 58) C (100 : Int32) dX6_sends_58 (by decide) ?_
      refine iv_iload_n (pc := 60) C 5 dX6_sends_60 rfl rfl ?_
      refine iv_imul (pc := 61) C dX6_sends_61 ?_
      refine iv_bipush (pc := 62) C (10 : Int32) dX6_sends_62 (by decide) ?_
      refine iv_iload (pc := 64) C 2 dX6_sends_64 rfl ?_
      refine iv_imul (pc := 66) C dX6_sends_66 ?_
      refine iv_iadd (pc := 67) C dX6_sends_67 ?_
      refine iv_iload (pc := 68) C 1 dX6_sends_68 rfl ?_
      refine iv_iadd (pc := 70) C dX6_sends_70 ?_
      obtain ⟨v17, ev17, h⟩ := iw_be h
      refine iv_rdz (pc := 71) C 91 (iw_zm hJ rfl (by decide)) ev17 dX6_sends_71 ?_
      have vJ108 : ∀ (m18 : iw_M), f_X6_sends_J108 r5 v8 v16 m18 = some σ' → iw_V p l e rm_X6_sends s m ([.ref (G.2.1 84), .int p1, .int p2] : List Value).toArray below meth c0 0 0 (MQ below (iw_Q none G σ') ([.ref (G.2.1 84), .int p1, .int p2] : List Value).toArray s 0 0 (iw_A G)) 7 G (iw_A G) m18 108 [(0, .ref (G.2.1 84)), (1, .int p1), (2, .int p2), (3, .int v16), (4, .int v8)] [] := by
        intro m18 h
        unfold f_X6_sends_J108 at h
        obtain ⟨v19, ev19⟩ : ∃ y : Int32, y = v8 + (1 : Int32) := ⟨_, rfl⟩
        replace h := iw_lete ev19 h
        refine iv_iinc (pc := 108) C 4 v19 [(4, .int v19), (0, .ref (G.2.1 84)), (1, .int p1), (2, .int p2), (3, .int v16)] dX6_sends_108 rfl (by rw [ev19]; rfl) (by decide) rfl ?_
        refine iv_goto (pc := 111) C 5 dX6_sends_111 (by decide) ?_
        exact iv_sub [1, 2, 3, 4, 0] rfl (hr5 v16 v19 m18 h)
      refine iv_if_ne (pc := 72) C 108 dX6_sends_72 (by decide) (fun h20 => ?_) (fun h20 => ?_)
      · replace h := iw_iff h20 h
        exact iv_sub [3, 4, 5, 0, 6] rfl (vJ108 m9 h)
      · replace h := iw_ift h20 h
        refine iv_aload_n (pc := 75) C 3 dX6_sends_75 rfl rfl ?_
        refine iv_getf (pc := 76) (T := TX6) (N := 16) (ci := 6) C 84 9 in_X6_sends_6 (iw_im hJ (by decide)) iw_Eo84 rfl (by decide) lk_X6_sends_29 rfl rfl dX6_sends_76 ?_
        refine iv_bipush (pc := 79) C (100 : Int32) dX6_sends_79 (by decide) ?_
        refine iv_iload_n (pc := 81) C 5 dX6_sends_81 rfl rfl ?_
        refine iv_imul (pc := 82) C dX6_sends_82 ?_
        refine iv_bipush (pc := 83) C (10 : Int32) dX6_sends_83 (by decide) ?_
        refine iv_iload (pc := 85) C 2 dX6_sends_85 rfl ?_
        refine iv_imul (pc := 87) C dX6_sends_87 ?_
        refine iv_iadd (pc := 88) C dX6_sends_88 ?_
        refine iv_iload (pc := 89) C 1 dX6_sends_89 rfl ?_
        refine iv_iadd (pc := 91) C dX6_sends_91 ?_
        refine iv_iconst (pc := 92) C (1 : Int32) dX6_sends_92 (by decide) ?_
        obtain ⟨m21, em21, h⟩ := iw_be h
        refine iv_wrz (pc := 93) C 91 (iw_zm hJ rfl (by decide)) em21 dX6_sends_93 ?_
        refine iv_aload_n (pc := 94) C 3 dX6_sends_94 rfl rfl ?_
        refine iv_iload (pc := 95) C 2 dX6_sends_95 rfl ?_
        refine iv_iconst (pc := 97) C (2 : Int32) dX6_sends_97 (by decide) ?_
        obtain ⟨m22, em22, h⟩ := iw_be h
        refine iv_callV (pc := 98) (b := 84) (ci := 6) C [.int v12, .int (2 : Int32)] (k_X6_spends l G hJ v12 (2 : Int32) m21 em22) gX6_sends_X6_spends rfl qd_X6_spends ⟨rfl, rfl, Nat.le_of_ble_eq_true rfl, Nat.le_of_ble_eq_true rfl⟩ (iw_im hJ (by decide)) iw_Eo84 rfl rfl rfl (Nat.le_of_ble_eq_true rfl) dX6_sends_98 ?_
        refine iv_aload_n (pc := 101) C 3 dX6_sends_101 rfl rfl ?_
        refine iv_iload (pc := 102) C 1 dX6_sends_102 rfl ?_
        refine iv_iconst (pc := 104) C (1 : Int32) dX6_sends_104 (by decide) ?_
        obtain ⟨m23, em23, h⟩ := iw_be h
        refine iv_callV (pc := 105) (b := 84) (ci := 6) C [.int v13, .int (1 : Int32)] (k_X6_spends l G hJ v13 (1 : Int32) m22 em23) gX6_sends_X6_spends rfl qd_X6_spends ⟨rfl, rfl, Nat.le_of_ble_eq_true rfl, Nat.le_of_ble_eq_true rfl⟩ (iw_im hJ (by decide)) iw_Eo84 rfl rfl rfl (Nat.le_of_ble_eq_true rfl) dX6_sends_105 ?_
        exact iv_sub [3, 4, 5, 0, 6] rfl (vJ108 m23 h)
  have vL5 : ∀ (nn : Nat) (v7 : Int32) (v8 : Int32) (m9 : iw_M), f_X6_sends_L5 n p1 p2 (f_X6_sends_X114_5 p1) nn v7 v8 m9 = some σ' → iw_V p l e rm_X6_sends s m ([.ref (G.2.1 84), .int p1, .int p2] : List Value).toArray below meth c0 0 0 (MQ below (iw_Q none G σ') ([.ref (G.2.1 84), .int p1, .int p2] : List Value).toArray s 0 0 (iw_A G)) 7 G (iw_A G) m9 5 [(0, .ref (G.2.1 84)), (1, .int p1), (2, .int p2), (3, .int v7), (4, .int v8)] [] := by
    intro nn
    induction nn with
    | zero => intro v7 v8 m9 h; exact absurd h (fun q => by cases q)
    | succ nn ih => intro v7 v8 m9 h; exact vB5 (f_X6_sends_X114_5 p1) (f_X6_sends_L5 n p1 p2 (f_X6_sends_X114_5 p1) nn) vX5 ih v7 v8 m9 h
  exact iv_sub [2, 3, 4, 1, 0] rfl (vL5 n (0 : Int32) (1 : Int32) σ h)
theorem qd_X6_sends : yX6_sends.cls = RX6 ∧ yX6_sends.cls ≠ "java/lang/invoke/MethodHandle" ∧ yX6_sends.cls ≠ "java/lang/invoke/VarHandle" ∧ (parseMethodDescriptor yX6_sends.desc).map (fun d => d.parameters.length) = some 2 := by decide +kernel
def f_X6_matches (p1 : Int32) (p2 : Int32) (σ : iw_M) : Option (Int32) :=
(f_X6_ofInterest p1 (1 : Int32) σ).bind fun v1 =>
(f_X6_ofSensor p2 (1 : Int32) σ).bind fun v2 =>
if v1 = v2 then
((f_X6_ofSensor p2 (2 : Int32) σ).bind fun v4 =>
(f_X6_ofInterest p1 (2 : Int32) σ).bind fun v5 =>
(f_X6_ofInterest p1 (3 : Int32) σ).bind fun v6 =>
if (f_X6_in v4 v5 v6) = (0 : Int32) then
(some (0 : Int32))
else
(some (1 : Int32)))
else
(some (0 : Int32))
abbrev rm_X6_matches : Room := { frames := 1, cells := 0, slots := 0, locals := 22 }
set_option maxHeartbeats 4000000 in
set_option maxRecDepth 100000 in
theorem k_X6_matches (l : Launch) (G : iw_G) (hJ : iw_JM G) (p1 : Int32) (p2 : Int32) (σ : iw_M) {r : Int32} (h : f_X6_matches p1 p2 σ = some r) : iw_Ct l yX6_matches wsX6_matches rm_X6_matches G ([.ref (G.2.1 84), .int p1, .int p2] : List Value) σ (some (.int r)) σ := by
  refine iv_start (nL := 3) (own := RX6) (ret := (some .boolean)) (cc := cX6_matches) (by decide +kernel) rfl rfl hJ.1 (Nat.le_of_ble_eq_true rfl) ?_
  intro p e s m below meth c0 C hr hlk
  refine iv_sub (lv' := [(0, .ref (G.2.1 84)), (1, .int p1), (2, .int p2)]) [0, 1, 2] rfl ?_
  unfold f_X6_matches at h
  refine iv_aload_n (pc := 0) C 0 dX6_matches_0 rfl rfl ?_
  refine iv_iload_n (pc := 1) C 1 dX6_matches_1 rfl rfl ?_
  refine iv_iconst (pc := 2) C (1 : Int32) dX6_matches_2 (by decide) ?_
  obtain ⟨v1, ev1, h⟩ := iw_be h
  refine iv_callV (pc := 3) (b := 84) (ci := 6) C [.int p1, .int (1 : Int32)] (k_X6_ofInterest l G hJ p1 (1 : Int32) σ ev1) gX6_matches_X6_ofInterest rfl qd_X6_ofInterest ⟨rfl, rfl, Nat.le_of_ble_eq_true rfl, Nat.le_of_ble_eq_true rfl⟩ (iw_im hJ (by decide)) iw_Eo84 rfl rfl rfl (Nat.le_of_ble_eq_true rfl) dX6_matches_3 ?_
  refine iv_aload_n (pc := 6) C 0 dX6_matches_6 rfl rfl ?_
  refine iv_iload_n (pc := 7) C 2 dX6_matches_7 rfl rfl ?_
  refine iv_iconst (pc := 8) C (1 : Int32) dX6_matches_8 (by decide) ?_
  obtain ⟨v2, ev2, h⟩ := iw_be h
  refine iv_callV (pc := 9) (b := 84) (ci := 6) C [.int p2, .int (1 : Int32)] (k_X6_ofSensor l G hJ p2 (1 : Int32) σ ev2) gX6_matches_X6_ofSensor rfl qd_X6_ofSensor ⟨rfl, rfl, Nat.le_of_ble_eq_true rfl, Nat.le_of_ble_eq_true rfl⟩ (iw_im hJ (by decide)) iw_Eo84 rfl rfl rfl (Nat.le_of_ble_eq_true rfl) dX6_matches_9 ?_
  refine iv_icmp_ne (pc := 12) C 43 dX6_matches_12 (by decide) (fun h3 => ?_) (fun h3 => ?_)
  · replace h := iw_iff h3 h
    refine iv_iconst (pc := 43) C (0 : Int32) dX6_matches_43 (by decide) ?_
    cases h
    exact iv_zret C hr hlk rfl rfl dX6_matches_44
  · replace h := iw_ift h3 h
    refine iv_aload_n (pc := 15) C 0 dX6_matches_15 rfl rfl ?_
    refine iv_iload_n (pc := 16) C 2 dX6_matches_16 rfl rfl ?_
    refine iv_iconst (pc := 17) C (2 : Int32) dX6_matches_17 (by decide) ?_
    obtain ⟨v4, ev4, h⟩ := iw_be h
    refine iv_callV (pc := 18) (b := 84) (ci := 6) C [.int p2, .int (2 : Int32)] (k_X6_ofSensor l G hJ p2 (2 : Int32) σ ev4) gX6_matches_X6_ofSensor rfl qd_X6_ofSensor ⟨rfl, rfl, Nat.le_of_ble_eq_true rfl, Nat.le_of_ble_eq_true rfl⟩ (iw_im hJ (by decide)) iw_Eo84 rfl rfl rfl (Nat.le_of_ble_eq_true rfl) dX6_matches_18 ?_
    refine iv_aload_n (pc := 21) C 0 dX6_matches_21 rfl rfl ?_
    refine iv_iload_n (pc := 22) C 1 dX6_matches_22 rfl rfl ?_
    refine iv_iconst (pc := 23) C (2 : Int32) dX6_matches_23 (by decide) ?_
    obtain ⟨v5, ev5, h⟩ := iw_be h
    refine iv_callV (pc := 24) (b := 84) (ci := 6) C [.int p1, .int (2 : Int32)] (k_X6_ofInterest l G hJ p1 (2 : Int32) σ ev5) gX6_matches_X6_ofInterest rfl qd_X6_ofInterest ⟨rfl, rfl, Nat.le_of_ble_eq_true rfl, Nat.le_of_ble_eq_true rfl⟩ (iw_im hJ (by decide)) iw_Eo84 rfl rfl rfl (Nat.le_of_ble_eq_true rfl) dX6_matches_24 ?_
    refine iv_aload_n (pc := 27) C 0 dX6_matches_27 rfl rfl ?_
    refine iv_iload_n (pc := 28) C 1 dX6_matches_28 rfl rfl ?_
    refine iv_iconst (pc := 29) C (3 : Int32) dX6_matches_29 (by decide) ?_
    obtain ⟨v6, ev6, h⟩ := iw_be h
    refine iv_callV (pc := 30) (b := 84) (ci := 6) C [.int p1, .int (3 : Int32)] (k_X6_ofInterest l G hJ p1 (3 : Int32) σ ev6) gX6_matches_X6_ofInterest rfl qd_X6_ofInterest ⟨rfl, rfl, Nat.le_of_ble_eq_true rfl, Nat.le_of_ble_eq_true rfl⟩ (iw_im hJ (by decide)) iw_Eo84 rfl rfl rfl (Nat.le_of_ble_eq_true rfl) dX6_matches_30 ?_
    refine iv_callS (pc := 33) C [.int v4, .int v5, .int v6] (k_X6_in l G hJ v4 v5 v6 σ rfl) gX6_matches_X6_in rfl qd_X6_in ⟨rfl, rfl, Nat.le_of_ble_eq_true rfl, Nat.le_of_ble_eq_true rfl⟩ rfl rfl (Nat.le_of_ble_eq_true rfl) dX6_matches_33 ?_
    refine iv_if_eq (pc := 36) C 43 dX6_matches_36 (by decide) (fun h7 => ?_) (fun h7 => ?_)
    · replace h := iw_ift h7 h
      refine iv_iconst (pc := 43) C (0 : Int32) dX6_matches_43 (by decide) ?_
      cases h
      exact iv_zret C hr hlk rfl rfl dX6_matches_44
    · replace h := iw_iff h7 h
      refine iv_iconst (pc := 39) C (1 : Int32) dX6_matches_39 (by decide) ?_
      refine iv_goto (pc := 40) C 44 dX6_matches_40 (by decide) ?_
      cases h
      exact iv_zret C hr hlk rfl rfl dX6_matches_44
theorem qd_X6_matches : yX6_matches.cls = RX6 ∧ yX6_matches.cls ≠ "java/lang/invoke/MethodHandle" ∧ yX6_matches.cls ≠ "java/lang/invoke/VarHandle" ∧ (parseMethodDescriptor yX6_matches.desc).map (fun d => d.parameters.length) = some 2 := by decide +kernel
def f_X6_turns_J41 (p1 : Int32) (p2 : Int32) (m1 : iw_M) : Option (Int32 × iw_M) :=
(iw_wr m1 85 (f_X6_wayAt p1 p2) (0 : Int32)).bind fun m3 =>
some ((0 : Int32), m3)
def f_X6_turns_J86 (n : Nat) (p1 : Int32) (p2 : Int32) (m14 : iw_M) : Option (Int32 × iw_M) :=
(f_X6_lengthOf p1 p2 m14).bind fun v15 =>
if v15 = (0 : Int32) then
(some ((0 : Int32), m14))
else
((f_X6_sends n p1 p2 m14).bind fun m17 =>
some ((1 : Int32), m17))
def f_X6_turns_J80 (n : Nat) (p1 : Int32) (p2 : Int32) (m1 : iw_M) : Option (Int32 × iw_M) :=
(f_X6_explores n p1 p2 m1).bind fun m18 =>
f_X6_turns_J86 n p1 p2 m18
def f_X6_turns (n : Nat) (p1 : Int32) (p2 : Int32) (σ : iw_M) : Option (Int32 × iw_M) :=
(f_X6_looksAlive n σ).bind fun m1 =>
(f_X6_matches p1 p2 m1).bind fun v2 =>
if v2 = (0 : Int32) then
(f_X6_turns_J41 p1 p2 m1)
else
((f_X6_ofSensor p2 (0 : Int32) m1).bind fun v5 =>
(iw_rd m1 87 v5).bind fun v6 =>
if v6 = (0 : Int32) then
(f_X6_turns_J41 p1 p2 m1)
else
((f_X6_ofInterest p1 (0 : Int32) m1).bind fun v8 =>
(iw_rd m1 87 v8).bind fun v9 =>
if v9 = (0 : Int32) then
(f_X6_turns_J41 p1 p2 m1)
else
((iw_rd m1 85 (5 : Int32)).bind fun v11 =>
(iw_rd m1 85 (4 : Int32)).bind fun v12 =>
(iw_rem v11 v12).bind fun v13 =>
if v13 = (0 : Int32) then
(f_X6_turns_J80 n p1 p2 m1)
else
((f_X6_isWholeWay n p1 p2 m1).bind fun v20 =>
if v20 = (0 : Int32) then
(f_X6_turns_J80 n p1 p2 m1)
else
(f_X6_turns_J86 n p1 p2 m1)))))
abbrev rm_X6_turns : Room := { frames := 4, cells := 0, slots := 0, locals := 96 }
theorem lk_X6_turns_7 : Cond.fieldLink RX6 7 RX6 (TX6 0).2.1 (TX6 0).2.2.1 ∈ wsX6_turns := by decide +kernel
theorem lk_X6_turns_16 : Cond.fieldLink RX6 16 RX6 (TX6 3).2.1 (TX6 3).2.2.1 ∈ wsX6_turns := by decide +kernel
theorem in_X6_turns_6 : ∀ w ∈ u_ws RX6 TX6 16, w ∈ wsX6_turns := by decide +kernel
set_option maxHeartbeats 4000000 in
set_option maxRecDepth 100000 in
theorem k_X6_turns (l : Launch) (G : iw_G) (hJ : iw_JM G) (n : Nat) (p1 : Int32) (p2 : Int32) (σ : iw_M) {r : Int32} {σ' : iw_M} (h : f_X6_turns n p1 p2 σ = some (r, σ')) : iw_Ct l yX6_turns wsX6_turns rm_X6_turns G ([.ref (G.2.1 84), .int p1, .int p2] : List Value) σ (some (.int r)) σ' := by
  refine iv_start (nL := 3) (own := RX6) (ret := (some .boolean)) (cc := cX6_turns) (by decide +kernel) rfl rfl hJ.1 (Nat.le_of_ble_eq_true rfl) ?_
  intro p e s m below meth c0 C hr hlk
  refine iv_sub (lv' := [(0, .ref (G.2.1 84)), (1, .int p1), (2, .int p2)]) [0, 1, 2] rfl ?_
  unfold f_X6_turns at h
  refine iv_aload_n (pc := 0) C 0 dX6_turns_0 rfl rfl ?_
  obtain ⟨m1, em1, h⟩ := iw_be h
  refine iv_callV (pc := 1) (b := 84) (ci := 6) C [] (k_X6_looksAlive l G hJ n σ em1) gX6_turns_X6_looksAlive rfl qd_X6_looksAlive ⟨rfl, rfl, Nat.le_of_ble_eq_true rfl, Nat.le_of_ble_eq_true rfl⟩ (iw_im hJ (by decide)) iw_Eo84 rfl rfl rfl (Nat.le_of_ble_eq_true rfl) dX6_turns_1 ?_
  refine iv_aload_n (pc := 4) C 0 dX6_turns_4 rfl rfl ?_
  refine iv_iload_n (pc := 5) C 1 dX6_turns_5 rfl rfl ?_
  refine iv_iload_n (pc := 6) C 2 dX6_turns_6 rfl rfl ?_
  obtain ⟨v2, ev2, h⟩ := iw_be h
  refine iv_callV (pc := 7) (b := 84) (ci := 6) C [.int p1, .int p2] (k_X6_matches l G hJ p1 p2 m1 ev2) gX6_turns_X6_matches rfl qd_X6_matches ⟨rfl, rfl, Nat.le_of_ble_eq_true rfl, Nat.le_of_ble_eq_true rfl⟩ (iw_im hJ (by decide)) iw_Eo84 rfl rfl rfl (Nat.le_of_ble_eq_true rfl) dX6_turns_7 ?_
  have vJ41 : f_X6_turns_J41 p1 p2 m1  = some (r, σ') → iw_V p l e rm_X6_turns s m ([.ref (G.2.1 84), .int p1, .int p2] : List Value).toArray below meth c0 0 0 (MQ below (iw_Q (some (.int r)) G σ') ([.ref (G.2.1 84), .int p1, .int p2] : List Value).toArray s 0 0 (iw_A G)) 3 G (iw_A G) m1 41 [(0, .ref (G.2.1 84)), (1, .int p1), (2, .int p2)] [] := by
    intro h
    unfold f_X6_turns_J41 at h
    refine iv_aload_n (pc := 41) C 0 dX6_turns_41 rfl rfl ?_
    refine iv_getf (pc := 42) (T := TX6) (N := 16) (ci := 6) C 84 0 in_X6_turns_6 (iw_im hJ (by decide)) iw_Eo84 rfl (by decide) lk_X6_turns_7 rfl rfl dX6_turns_42 ?_
    refine iv_aload_n (pc := 45) C 0 dX6_turns_45 rfl rfl ?_
    refine iv_iload_n (pc := 46) C 1 dX6_turns_46 rfl rfl ?_
    refine iv_iload_n (pc := 47) C 2 dX6_turns_47 rfl rfl ?_
    refine iv_callV (pc := 48) (b := 84) (ci := 6) C [.int p1, .int p2] (k_X6_wayAt l G hJ p1 p2 m1 rfl) gX6_turns_X6_wayAt rfl qd_X6_wayAt ⟨rfl, rfl, Nat.le_of_ble_eq_true rfl, Nat.le_of_ble_eq_true rfl⟩ (iw_im hJ (by decide)) iw_Eo84 rfl rfl rfl (Nat.le_of_ble_eq_true rfl) dX6_turns_48 ?_
    refine iv_iconst (pc := 51) C (0 : Int32) dX6_turns_51 (by decide) ?_
    obtain ⟨m3, em3, h⟩ := iw_be h
    refine iv_wr (pc := 52) C 85 (iw_lm hJ rfl (by decide)) em3 dX6_turns_52 ?_
    refine iv_iconst (pc := 53) C (0 : Int32) dX6_turns_53 (by decide) ?_
    cases h
    exact iv_zret C hr hlk rfl rfl dX6_turns_54
  refine iv_if_eq (pc := 10) C 41 dX6_turns_10 (by decide) (fun h4 => ?_) (fun h4 => ?_)
  · replace h := iw_ift h4 h
    exact iv_sub [0, 1, 2] rfl (vJ41 h)
  · replace h := iw_iff h4 h
    refine iv_aload_n (pc := 13) C 0 dX6_turns_13 rfl rfl ?_
    refine iv_getf (pc := 14) (T := TX6) (N := 16) (ci := 6) C 84 3 in_X6_turns_6 (iw_im hJ (by decide)) iw_Eo84 rfl (by decide) lk_X6_turns_16 rfl rfl dX6_turns_14 ?_
    refine iv_aload_n (pc := 17) C 0 dX6_turns_17 rfl rfl ?_
    refine iv_iload_n (pc := 18) C 2 dX6_turns_18 rfl rfl ?_
    refine iv_iconst (pc := 19) C (0 : Int32) dX6_turns_19 (by decide) ?_
    obtain ⟨v5, ev5, h⟩ := iw_be h
    refine iv_callV (pc := 20) (b := 84) (ci := 6) C [.int p2, .int (0 : Int32)] (k_X6_ofSensor l G hJ p2 (0 : Int32) m1 ev5) gX6_turns_X6_ofSensor rfl qd_X6_ofSensor ⟨rfl, rfl, Nat.le_of_ble_eq_true rfl, Nat.le_of_ble_eq_true rfl⟩ (iw_im hJ (by decide)) iw_Eo84 rfl rfl rfl (Nat.le_of_ble_eq_true rfl) dX6_turns_20 ?_
    obtain ⟨v6, ev6, h⟩ := iw_be h
    refine iv_rdz (pc := 23) C 87 (iw_zm hJ rfl (by decide)) ev6 dX6_turns_23 ?_
    refine iv_if_eq (pc := 24) C 41 dX6_turns_24 (by decide) (fun h7 => ?_) (fun h7 => ?_)
    · replace h := iw_ift h7 h
      exact iv_sub [0, 1, 2] rfl (vJ41 h)
    · replace h := iw_iff h7 h
      refine iv_aload_n (pc := 27) C 0 dX6_turns_27 rfl rfl ?_
      refine iv_getf (pc := 28) (T := TX6) (N := 16) (ci := 6) C 84 3 in_X6_turns_6 (iw_im hJ (by decide)) iw_Eo84 rfl (by decide) lk_X6_turns_16 rfl rfl dX6_turns_28 ?_
      refine iv_aload_n (pc := 31) C 0 dX6_turns_31 rfl rfl ?_
      refine iv_iload_n (pc := 32) C 1 dX6_turns_32 rfl rfl ?_
      refine iv_iconst (pc := 33) C (0 : Int32) dX6_turns_33 (by decide) ?_
      obtain ⟨v8, ev8, h⟩ := iw_be h
      refine iv_callV (pc := 34) (b := 84) (ci := 6) C [.int p1, .int (0 : Int32)] (k_X6_ofInterest l G hJ p1 (0 : Int32) m1 ev8) gX6_turns_X6_ofInterest rfl qd_X6_ofInterest ⟨rfl, rfl, Nat.le_of_ble_eq_true rfl, Nat.le_of_ble_eq_true rfl⟩ (iw_im hJ (by decide)) iw_Eo84 rfl rfl rfl (Nat.le_of_ble_eq_true rfl) dX6_turns_34 ?_
      obtain ⟨v9, ev9, h⟩ := iw_be h
      refine iv_rdz (pc := 37) C 87 (iw_zm hJ rfl (by decide)) ev9 dX6_turns_37 ?_
      refine iv_if_ne (pc := 38) C 55 dX6_turns_38 (by decide) (fun h10 => ?_) (fun h10 => ?_)
      · replace h := iw_iff h10 h
        refine iv_aload_n (pc := 55) C 0 dX6_turns_55 rfl rfl ?_
        refine iv_getf (pc := 56) (T := TX6) (N := 16) (ci := 6) C 84 0 in_X6_turns_6 (iw_im hJ (by decide)) iw_Eo84 rfl (by decide) lk_X6_turns_7 rfl rfl dX6_turns_56 ?_
        refine iv_iconst (pc := 59) C (5 : Int32) dX6_turns_59 (by decide) ?_
        obtain ⟨v11, ev11, h⟩ := iw_be h
        refine iv_rd (pc := 60) C 85 (iw_lm hJ rfl (by decide)) ev11 dX6_turns_60 ?_
        refine iv_aload_n (pc := 61) C 0 dX6_turns_61 rfl rfl ?_
        refine iv_getf (pc := 62) (T := TX6) (N := 16) (ci := 6) C 84 0 in_X6_turns_6 (iw_im hJ (by decide)) iw_Eo84 rfl (by decide) lk_X6_turns_7 rfl rfl dX6_turns_62 ?_
        refine iv_iconst (pc := 65) C (4 : Int32) dX6_turns_65 (by decide) ?_
        obtain ⟨v12, ev12, h⟩ := iw_be h
        refine iv_rd (pc := 66) C 85 (iw_lm hJ rfl (by decide)) ev12 dX6_turns_66 ?_
        obtain ⟨v13, ev13, h⟩ := iw_be h
        refine iv_rem (pc := 67) C ev13 dX6_turns_67 ?_
        have vJ86 : ∀ (m14 : iw_M), f_X6_turns_J86 n p1 p2 m14 = some (r, σ') → iw_V p l e rm_X6_turns s m ([.ref (G.2.1 84), .int p1, .int p2] : List Value).toArray below meth c0 0 0 (MQ below (iw_Q (some (.int r)) G σ') ([.ref (G.2.1 84), .int p1, .int p2] : List Value).toArray s 0 0 (iw_A G)) 3 G (iw_A G) m14 86 [(0, .ref (G.2.1 84)), (1, .int p1), (2, .int p2)] [] := by
          intro m14 h
          unfold f_X6_turns_J86 at h
          refine iv_aload_n (pc := 86) C 0 dX6_turns_86 rfl rfl ?_
          refine iv_iload_n (pc := 87) C 1 dX6_turns_87 rfl rfl ?_
          refine iv_iload_n (pc := 88) C 2 dX6_turns_88 rfl rfl ?_
          obtain ⟨v15, ev15, h⟩ := iw_be h
          refine iv_callV (pc := 89) (b := 84) (ci := 6) C [.int p1, .int p2] (k_X6_lengthOf l G hJ p1 p2 m14 ev15) gX6_turns_X6_lengthOf rfl qd_X6_lengthOf ⟨rfl, rfl, Nat.le_of_ble_eq_true rfl, Nat.le_of_ble_eq_true rfl⟩ (iw_im hJ (by decide)) iw_Eo84 rfl rfl rfl (Nat.le_of_ble_eq_true rfl) dX6_turns_89 ?_
          refine iv_if_ne (pc := 92) C 97 dX6_turns_92 (by decide) (fun h16 => ?_) (fun h16 => ?_)
          · replace h := iw_iff h16 h
            refine iv_aload_n (pc := 97) C 0 dX6_turns_97 rfl rfl ?_
            refine iv_iload_n (pc := 98) C 1 dX6_turns_98 rfl rfl ?_
            refine iv_iload_n (pc := 99) C 2 dX6_turns_99 rfl rfl ?_
            obtain ⟨m17, em17, h⟩ := iw_be h
            refine iv_callV (pc := 100) (b := 84) (ci := 6) C [.int p1, .int p2] (k_X6_sends l G hJ n p1 p2 m14 em17) gX6_turns_X6_sends rfl qd_X6_sends ⟨rfl, rfl, Nat.le_of_ble_eq_true rfl, Nat.le_of_ble_eq_true rfl⟩ (iw_im hJ (by decide)) iw_Eo84 rfl rfl rfl (Nat.le_of_ble_eq_true rfl) dX6_turns_100 ?_
            refine iv_iconst (pc := 103) C (1 : Int32) dX6_turns_103 (by decide) ?_
            cases h
            exact iv_zret C hr hlk rfl rfl dX6_turns_104
          · replace h := iw_ift h16 h
            refine iv_iconst (pc := 95) C (0 : Int32) dX6_turns_95 (by decide) ?_
            cases h
            exact iv_zret C hr hlk rfl rfl dX6_turns_96
        have vJ80 : f_X6_turns_J80 n p1 p2 m1  = some (r, σ') → iw_V p l e rm_X6_turns s m ([.ref (G.2.1 84), .int p1, .int p2] : List Value).toArray below meth c0 0 0 (MQ below (iw_Q (some (.int r)) G σ') ([.ref (G.2.1 84), .int p1, .int p2] : List Value).toArray s 0 0 (iw_A G)) 3 G (iw_A G) m1 80 [(0, .ref (G.2.1 84)), (1, .int p1), (2, .int p2)] [] := by
          intro h
          unfold f_X6_turns_J80 at h
          refine iv_aload_n (pc := 80) C 0 dX6_turns_80 rfl rfl ?_
          refine iv_iload_n (pc := 81) C 1 dX6_turns_81 rfl rfl ?_
          refine iv_iload_n (pc := 82) C 2 dX6_turns_82 rfl rfl ?_
          obtain ⟨m18, em18, h⟩ := iw_be h
          refine iv_callV (pc := 83) (b := 84) (ci := 6) C [.int p1, .int p2] (k_X6_explores l G hJ n p1 p2 m1 em18) gX6_turns_X6_explores rfl qd_X6_explores ⟨rfl, rfl, Nat.le_of_ble_eq_true rfl, Nat.le_of_ble_eq_true rfl⟩ (iw_im hJ (by decide)) iw_Eo84 rfl rfl rfl (Nat.le_of_ble_eq_true rfl) dX6_turns_83 ?_
          exact iv_sub [0, 1, 2] rfl (vJ86 m18 h)
        refine iv_if_eq (pc := 68) C 80 dX6_turns_68 (by decide) (fun h19 => ?_) (fun h19 => ?_)
        · replace h := iw_ift h19 h
          exact iv_sub [0, 1, 2] rfl (vJ80 h)
        · replace h := iw_iff h19 h
          refine iv_aload_n (pc := 71) C 0 dX6_turns_71 rfl rfl ?_
          refine iv_iload_n (pc := 72) C 1 dX6_turns_72 rfl rfl ?_
          refine iv_iload_n (pc := 73) C 2 dX6_turns_73 rfl rfl ?_
          obtain ⟨v20, ev20, h⟩ := iw_be h
          refine iv_callV (pc := 74) (b := 84) (ci := 6) C [.int p1, .int p2] (k_X6_isWholeWay l G hJ n p1 p2 m1 ev20) gX6_turns_X6_isWholeWay rfl qd_X6_isWholeWay ⟨rfl, rfl, Nat.le_of_ble_eq_true rfl, Nat.le_of_ble_eq_true rfl⟩ (iw_im hJ (by decide)) iw_Eo84 rfl rfl rfl (Nat.le_of_ble_eq_true rfl) dX6_turns_74 ?_
          refine iv_if_ne (pc := 77) C 86 dX6_turns_77 (by decide) (fun h21 => ?_) (fun h21 => ?_)
          · replace h := iw_iff h21 h
            exact iv_sub [0, 1, 2] rfl (vJ86 m1 h)
          · replace h := iw_ift h21 h
            exact iv_sub [0, 1, 2] rfl (vJ80 h)
      · replace h := iw_ift h10 h
        exact iv_sub [0, 1, 2] rfl (vJ41 h)
theorem qd_X6_turns : yX6_turns.cls = RX6 ∧ yX6_turns.cls ≠ "java/lang/invoke/MethodHandle" ∧ yX6_turns.cls ≠ "java/lang/invoke/VarHandle" ∧ (parseMethodDescriptor yX6_turns.desc).map (fun d => d.parameters.length) = some 2 := by decide +kernel
def f_X6_goesOn_X127_76 (v5 : Int32) (m6 : iw_M) : Option (Int32 × iw_M) :=
(iw_rd m6 85 (5 : Int32)).bind fun v7 =>
(iw_wr m6 85 (5 : Int32) (v7 + (1 : Int32))).bind fun m8 =>
some (v5, m8)
def f_X6_goesOn_X121_88 (r76 : Int32 → Int32 → iw_M → Option (Int32 × iw_M)) (v10 : Int32) (v14 : Int32) (m15 : iw_M) : Option (Int32 × iw_M) :=
iw_let (v10 + (1 : Int32)) fun v16 =>
r76 v14 v16 m15
def f_X6_goesOn_J113 (r88 : Int32 → Int32 → iw_M → Option (Int32 × iw_M)) (v17 : Int32) (v18 : Int32) (m23 : iw_M) (v24 : Int32) : Option (Int32 × iw_M) :=
iw_let (v17 + v24) fun v25 =>
iw_let (v18 + (1 : Int32)) fun v26 =>
r88 v25 v26 m23
def f_X6_goesOn_B88 (n : Nat) (v10 : Int32) (k88 : Int32 → iw_M → Option (Int32 × iw_M)) (r88 : Int32 → Int32 → iw_M → Option (Int32 × iw_M)) (v17 : Int32) (v18 : Int32) (m19 : iw_M) : Option (Int32 × iw_M) :=
(iw_rd m19 85 (2 : Int32)).bind fun v20 =>
if v20 ≤ v18 then
(k88 v17 m19)
else
(iw_b2 (f_X6_turns n v10 v18 m19) fun v22 m23 =>
if v22 = (0 : Int32) then
(f_X6_goesOn_J113 r88 v17 v18 m23 (0 : Int32))
else
(f_X6_goesOn_J113 r88 v17 v18 m23 (1 : Int32)))
def f_X6_goesOn_L88 (n : Nat) (v10 : Int32) (k88 : Int32 → iw_M → Option (Int32 × iw_M)) (nn : Nat) : Int32 → Int32 → iw_M → Option (Int32 × iw_M) :=
iw_it (fun r88 => f_X6_goesOn_B88 n v10 k88 r88) (fun _ _ _ => none) nn
def f_X6_goesOn_B76 (n : Nat) (k76 : Int32 → iw_M → Option (Int32 × iw_M)) (r76 : Int32 → Int32 → iw_M → Option (Int32 × iw_M)) (v9 : Int32) (v10 : Int32) (m11 : iw_M) : Option (Int32 × iw_M) :=
(iw_rd m11 85 (3 : Int32)).bind fun v12 =>
if v12 ≤ v10 then
(k76 v9 m11)
else
(f_X6_goesOn_L88 n v10 (f_X6_goesOn_X121_88 r76 v10) n v9 (0 : Int32) m11)
def f_X6_goesOn_L76 (n : Nat) (k76 : Int32 → iw_M → Option (Int32 × iw_M)) (nn : Nat) : Int32 → Int32 → iw_M → Option (Int32 × iw_M) :=
iw_it (fun r76 => f_X6_goesOn_B76 n k76 r76) (fun _ _ _ => none) nn
def f_X6_goesOn_X72_52 (n : Nat) (m4 : iw_M) : Option (Int32 × iw_M) :=
f_X6_goesOn_L76 n (f_X6_goesOn_X127_76) n (0 : Int32) (0 : Int32) m4
def f_X6_goesOn_B52 (k52 : iw_M → Option (Int32 × iw_M)) (r52 : Int32 → iw_M → Option (Int32 × iw_M)) (v28 : Int32) (m29 : iw_M) : Option (Int32 × iw_M) :=
if (600 : Int32) ≤ v28 then
(k52 m29)
else
((iw_wr m29 91 v28 ((0 : Int32) &&& 1)).bind fun m31 =>
iw_let (v28 + (1 : Int32)) fun v32 =>
r52 v32 m31)
def f_X6_goesOn_L52 (k52 : iw_M → Option (Int32 × iw_M)) (nn : Nat) : Int32 → iw_M → Option (Int32 × iw_M) :=
iw_it (fun r52 => f_X6_goesOn_B52 k52 r52) (fun _ _ => none) nn
def f_X6_goesOn_X50_9 (n : Nat) (m3 : iw_M) : Option (Int32 × iw_M) :=
f_X6_goesOn_L52 (f_X6_goesOn_X72_52 n) n (0 : Int32) m3
def f_X6_goesOn_J44 (r9 : Int32 → iw_M → Option (Int32 × iw_M)) (v33 : Int32) (m38 : iw_M) : Option (Int32 × iw_M) :=
iw_let (v33 + (-1 : Int32)) fun v39 =>
r9 v39 m38
def f_X6_goesOn_B9 (n : Nat) (k9 : iw_M → Option (Int32 × iw_M)) (r9 : Int32 → iw_M → Option (Int32 × iw_M)) (v33 : Int32) (m34 : iw_M) : Option (Int32 × iw_M) :=
if v33 < (0 : Int32) then
(k9 m34)
else
((f_X6_ofInterest v33 (4 : Int32) m34).bind fun v36 =>
(iw_rd m34 85 (5 : Int32)).bind fun v37 =>
if v37 ≤ v36 then
(f_X6_goesOn_J44 r9 v33 m34)
else
((f_X6_removes n v33 m34).bind fun m41 =>
(iw_rd m41 85 (11 : Int32)).bind fun v42 =>
(iw_wr m41 85 (11 : Int32) (v42 + (1 : Int32))).bind fun m43 =>
f_X6_goesOn_J44 r9 v33 m43))
def f_X6_goesOn_L9 (n : Nat) (k9 : iw_M → Option (Int32 × iw_M)) (nn : Nat) : Int32 → iw_M → Option (Int32 × iw_M) :=
iw_it (fun r9 => f_X6_goesOn_B9 n k9 r9) (fun _ _ => none) nn
def f_X6_goesOn (n : Nat) (σ : iw_M) : Option (Int32 × iw_M) :=
(iw_rd σ 85 (3 : Int32)).bind fun v1 =>
iw_let (v1 - (1 : Int32)) fun v2 =>
f_X6_goesOn_L9 n (f_X6_goesOn_X50_9 n) n v2 σ
abbrev rm_X6_goesOn : Room := { frames := 5, cells := 0, slots := 0, locals := 118 }
theorem lk_X6_goesOn_7 : Cond.fieldLink RX6 7 RX6 (TX6 0).2.1 (TX6 0).2.2.1 ∈ wsX6_goesOn := by decide +kernel
theorem lk_X6_goesOn_29 : Cond.fieldLink RX6 29 RX6 (TX6 9).2.1 (TX6 9).2.2.1 ∈ wsX6_goesOn := by decide +kernel
theorem in_X6_goesOn_6 : ∀ w ∈ u_ws RX6 TX6 16, w ∈ wsX6_goesOn := by decide +kernel
set_option maxHeartbeats 4000000 in
set_option maxRecDepth 100000 in
theorem k_X6_goesOn (l : Launch) (G : iw_G) (hJ : iw_JM G) (n : Nat) (σ : iw_M) {r : Int32} {σ' : iw_M} (h : f_X6_goesOn n σ = some (r, σ')) : iw_Ct l yX6_goesOn wsX6_goesOn rm_X6_goesOn G ([.ref (G.2.1 84)] : List Value) σ (some (.int r)) σ' := by
  refine iv_start (nL := 4) (own := RX6) (ret := (some .int)) (cc := cX6_goesOn) (by decide +kernel) rfl rfl hJ.1 (Nat.le_of_ble_eq_true rfl) ?_
  intro p e s m below meth c0 C hr hlk
  refine iv_sub (lv' := [(0, .ref (G.2.1 84))]) [0] rfl ?_
  unfold f_X6_goesOn at h
  refine iv_aload_n (pc := 0) C 0 dX6_goesOn_0 rfl rfl ?_
  refine iv_getf (pc := 1) (T := TX6) (N := 16) (ci := 6) C 84 0 in_X6_goesOn_6 (iw_im hJ (by decide)) iw_Eo84 rfl (by decide) lk_X6_goesOn_7 rfl rfl dX6_goesOn_1 ?_
  refine iv_iconst (pc := 4) C (3 : Int32) dX6_goesOn_4 (by decide) ?_
  obtain ⟨v1, ev1, h⟩ := iw_be h
  refine iv_rd (pc := 5) C 85 (iw_lm hJ rfl (by decide)) ev1 dX6_goesOn_5 ?_
  refine iv_iconst (pc := 6) C (1 : Int32) dX6_goesOn_6 (by decide) ?_
  refine iv_isub (pc := 7) C dX6_goesOn_7 ?_
  refine iv_topi (fun v2 ev2 => ?_)
  replace h := iw_lete ev2 h
  refine iv_istore_n (pc := 8) C [(1, .int v2), (0, .ref (G.2.1 84))] dX6_goesOn_8 rfl (by decide) rfl ?_
  have vX9 : ∀ (m3 : iw_M), f_X6_goesOn_X50_9 n m3 = some (r, σ') → iw_V p l e rm_X6_goesOn s m ([.ref (G.2.1 84)] : List Value).toArray below meth c0 0 0 (MQ below (iw_Q (some (.int r)) G σ') ([.ref (G.2.1 84)] : List Value).toArray s 0 0 (iw_A G)) 4 G (iw_A G) m3 50 [(0, .ref (G.2.1 84))] [] := by
    intro m3 h
    unfold f_X6_goesOn_X50_9 at h
    refine iv_iconst (pc := 50) C (0 : Int32) dX6_goesOn_50 (by decide) ?_
    refine iv_istore_n (pc := 51) C [(1, .int (0 : Int32)), (0, .ref (G.2.1 84))] dX6_goesOn_51 rfl (by decide) rfl ?_
    have vX52 : ∀ (m4 : iw_M), f_X6_goesOn_X72_52 n m4 = some (r, σ') → iw_V p l e rm_X6_goesOn s m ([.ref (G.2.1 84)] : List Value).toArray below meth c0 0 0 (MQ below (iw_Q (some (.int r)) G σ') ([.ref (G.2.1 84)] : List Value).toArray s 0 0 (iw_A G)) 4 G (iw_A G) m4 72 [(0, .ref (G.2.1 84))] [] := by
      intro m4 h
      unfold f_X6_goesOn_X72_52 at h
      refine iv_iconst (pc := 72) C (0 : Int32) dX6_goesOn_72 (by decide) ?_
      refine iv_istore_n (pc := 73) C [(1, .int (0 : Int32)), (0, .ref (G.2.1 84))] dX6_goesOn_73 rfl (by decide) rfl ?_
      refine iv_iconst (pc := 74) C (0 : Int32) dX6_goesOn_74 (by decide) ?_
      refine iv_istore_n (pc := 75) C [(2, .int (0 : Int32)), (1, .int (0 : Int32)), (0, .ref (G.2.1 84))] dX6_goesOn_75 rfl (by decide) rfl ?_
      have vX76 : ∀ (v5 : Int32) (m6 : iw_M), f_X6_goesOn_X127_76 v5 m6 = some (r, σ') → iw_V p l e rm_X6_goesOn s m ([.ref (G.2.1 84)] : List Value).toArray below meth c0 0 0 (MQ below (iw_Q (some (.int r)) G σ') ([.ref (G.2.1 84)] : List Value).toArray s 0 0 (iw_A G)) 4 G (iw_A G) m6 127 [(0, .ref (G.2.1 84)), (1, .int v5)] [] := by
        intro v5 m6 h
        unfold f_X6_goesOn_X127_76 at h
        refine iv_aload_n (pc := 127) C 0 dX6_goesOn_127 rfl rfl ?_
        refine iv_getf (pc := 128) (T := TX6) (N := 16) (ci := 6) C 84 0 in_X6_goesOn_6 (iw_im hJ (by decide)) iw_Eo84 rfl (by decide) lk_X6_goesOn_7 rfl rfl dX6_goesOn_128 ?_
        refine iv_iconst (pc := 131) C (5 : Int32) dX6_goesOn_131 (by decide) ?_
        refine iv_dup2 (pc := 132) C rfl rfl dX6_goesOn_132 ?_
        obtain ⟨v7, ev7, h⟩ := iw_be h
        refine iv_rd (pc := 133) C 85 (iw_lm hJ rfl (by decide)) ev7 dX6_goesOn_133 ?_
        refine iv_iconst (pc := 134) C (1 : Int32) dX6_goesOn_134 (by decide) ?_
        refine iv_iadd (pc := 135) C dX6_goesOn_135 ?_
        obtain ⟨m8, em8, h⟩ := iw_be h
        refine iv_wr (pc := 136) C 85 (iw_lm hJ rfl (by decide)) em8 dX6_goesOn_136 ?_
        refine iv_iload_n (pc := 137) C 1 dX6_goesOn_137 rfl rfl ?_
        cases h
        exact iv_iret C hr hlk rfl rfl dX6_goesOn_138
      have vB76 : ∀ (k76 : Int32 → iw_M → Option (Int32 × iw_M)) (r76 : Int32 → Int32 → iw_M → Option (Int32 × iw_M)), (∀ (v5 : Int32) (m6 : iw_M), k76 v5 m6 = some (r, σ') → iw_V p l e rm_X6_goesOn s m ([.ref (G.2.1 84)] : List Value).toArray below meth c0 0 0 (MQ below (iw_Q (some (.int r)) G σ') ([.ref (G.2.1 84)] : List Value).toArray s 0 0 (iw_A G)) 4 G (iw_A G) m6 127 [(0, .ref (G.2.1 84)), (1, .int v5)] []) → (∀ (v9 : Int32) (v10 : Int32) (m11 : iw_M), r76 v9 v10 m11 = some (r, σ') → iw_V p l e rm_X6_goesOn s m ([.ref (G.2.1 84)] : List Value).toArray below meth c0 0 0 (MQ below (iw_Q (some (.int r)) G σ') ([.ref (G.2.1 84)] : List Value).toArray s 0 0 (iw_A G)) 4 G (iw_A G) m11 76 [(0, .ref (G.2.1 84)), (1, .int v9), (2, .int v10)] []) → ∀ (v9 : Int32) (v10 : Int32) (m11 : iw_M), f_X6_goesOn_B76 n k76 r76 v9 v10 m11 = some (r, σ') → iw_V p l e rm_X6_goesOn s m ([.ref (G.2.1 84)] : List Value).toArray below meth c0 0 0 (MQ below (iw_Q (some (.int r)) G σ') ([.ref (G.2.1 84)] : List Value).toArray s 0 0 (iw_A G)) 4 G (iw_A G) m11 76 [(0, .ref (G.2.1 84)), (1, .int v9), (2, .int v10)] [] := by
        intro k76 r76 hk76 hr76 v9 v10 m11 h
        unfold f_X6_goesOn_B76 at h
        refine iv_iload_n (pc := 76) C 2 dX6_goesOn_76 rfl rfl ?_
        refine iv_aload_n (pc := 77) C 0 dX6_goesOn_77 rfl rfl ?_
        refine iv_getf (pc := 78) (T := TX6) (N := 16) (ci := 6) C 84 0 in_X6_goesOn_6 (iw_im hJ (by decide)) iw_Eo84 rfl (by decide) lk_X6_goesOn_7 rfl rfl dX6_goesOn_78 ?_
        refine iv_iconst (pc := 81) C (3 : Int32) dX6_goesOn_81 (by decide) ?_
        obtain ⟨v12, ev12, h⟩ := iw_be h
        refine iv_rd (pc := 82) C 85 (iw_lm hJ rfl (by decide)) ev12 dX6_goesOn_82 ?_
        refine iv_icmp_ge (pc := 83) C 127 dX6_goesOn_83 (by decide) (fun h13 => ?_) (fun h13 => ?_)
        · replace h := iw_ift h13 h
          exact iv_sub [0, 1] rfl (hk76 v9 m11 h)
        · replace h := iw_iff h13 h
          refine iv_iconst (pc := 86) C (0 : Int32) dX6_goesOn_86 (by decide) ?_
          refine iv_istore_n (pc := 87) C [(3, .int (0 : Int32)), (0, .ref (G.2.1 84)), (1, .int v9), (2, .int v10)] dX6_goesOn_87 rfl (by decide) rfl ?_
          have vX88 : ∀ (v14 : Int32) (m15 : iw_M), f_X6_goesOn_X121_88 r76 v10 v14 m15 = some (r, σ') → iw_V p l e rm_X6_goesOn s m ([.ref (G.2.1 84)] : List Value).toArray below meth c0 0 0 (MQ below (iw_Q (some (.int r)) G σ') ([.ref (G.2.1 84)] : List Value).toArray s 0 0 (iw_A G)) 4 G (iw_A G) m15 121 [(0, .ref (G.2.1 84)), (1, .int v14), (2, .int v10)] [] := by
            intro v14 m15 h
            unfold f_X6_goesOn_X121_88 at h
            obtain ⟨v16, ev16⟩ : ∃ y : Int32, y = v10 + (1 : Int32) := ⟨_, rfl⟩
            replace h := iw_lete ev16 h
            refine iv_iinc (pc := 121) C 2 v16 [(2, .int v16), (0, .ref (G.2.1 84)), (1, .int v14)] dX6_goesOn_121 rfl (by rw [ev16]; rfl) (by decide) rfl ?_
            refine iv_goto (pc := 124) C 76 dX6_goesOn_124 (by decide) ?_
            exact iv_sub [1, 2, 0] rfl (hr76 v14 v16 m15 h)
          have vB88 : ∀ (k88 : Int32 → iw_M → Option (Int32 × iw_M)) (r88 : Int32 → Int32 → iw_M → Option (Int32 × iw_M)), (∀ (v14 : Int32) (m15 : iw_M), k88 v14 m15 = some (r, σ') → iw_V p l e rm_X6_goesOn s m ([.ref (G.2.1 84)] : List Value).toArray below meth c0 0 0 (MQ below (iw_Q (some (.int r)) G σ') ([.ref (G.2.1 84)] : List Value).toArray s 0 0 (iw_A G)) 4 G (iw_A G) m15 121 [(0, .ref (G.2.1 84)), (1, .int v14), (2, .int v10)] []) → (∀ (v17 : Int32) (v18 : Int32) (m19 : iw_M), r88 v17 v18 m19 = some (r, σ') → iw_V p l e rm_X6_goesOn s m ([.ref (G.2.1 84)] : List Value).toArray below meth c0 0 0 (MQ below (iw_Q (some (.int r)) G σ') ([.ref (G.2.1 84)] : List Value).toArray s 0 0 (iw_A G)) 4 G (iw_A G) m19 88 [(0, .ref (G.2.1 84)), (1, .int v17), (2, .int v10), (3, .int v18)] []) → ∀ (v17 : Int32) (v18 : Int32) (m19 : iw_M), f_X6_goesOn_B88 n v10 k88 r88 v17 v18 m19 = some (r, σ') → iw_V p l e rm_X6_goesOn s m ([.ref (G.2.1 84)] : List Value).toArray below meth c0 0 0 (MQ below (iw_Q (some (.int r)) G σ') ([.ref (G.2.1 84)] : List Value).toArray s 0 0 (iw_A G)) 4 G (iw_A G) m19 88 [(0, .ref (G.2.1 84)), (1, .int v17), (2, .int v10), (3, .int v18)] [] := by
            intro k88 r88 hk88 hr88 v17 v18 m19 h
            unfold f_X6_goesOn_B88 at h
            refine iv_iload_n (pc := 88) C 3 dX6_goesOn_88 rfl rfl ?_
            refine iv_aload_n (pc := 89) C 0 dX6_goesOn_89 rfl rfl ?_
            refine iv_getf (pc := 90) (T := TX6) (N := 16) (ci := 6) C 84 0 in_X6_goesOn_6 (iw_im hJ (by decide)) iw_Eo84 rfl (by decide) lk_X6_goesOn_7 rfl rfl dX6_goesOn_90 ?_
            refine iv_iconst (pc := 93) C (2 : Int32) dX6_goesOn_93 (by decide) ?_
            obtain ⟨v20, ev20, h⟩ := iw_be h
            refine iv_rd (pc := 94) C 85 (iw_lm hJ rfl (by decide)) ev20 dX6_goesOn_94 ?_
            refine iv_icmp_ge (pc := 95) C 121 dX6_goesOn_95 (by decide) (fun h21 => ?_) (fun h21 => ?_)
            · replace h := iw_ift h21 h
              exact iv_sub [0, 1, 2] rfl (hk88 v17 m19 h)
            · replace h := iw_iff h21 h
              refine iv_iload_n (pc := 98) C 1 dX6_goesOn_98 rfl rfl ?_
              refine iv_aload_n (pc := 99) C 0 dX6_goesOn_99 rfl rfl ?_
              refine iv_iload_n (pc := 100) C 2 dX6_goesOn_100 rfl rfl ?_
              refine iv_iload_n (pc := 101) C 3 dX6_goesOn_101 rfl rfl ?_
              obtain ⟨v22, m23, ev22, h⟩ := iw_b2e h
              refine iv_callV (pc := 102) (b := 84) (ci := 6) C [.int v10, .int v18] (k_X6_turns l G hJ n v10 v18 m19 ev22) gX6_goesOn_X6_turns rfl qd_X6_turns ⟨rfl, rfl, Nat.le_of_ble_eq_true rfl, Nat.le_of_ble_eq_true rfl⟩ (iw_im hJ (by decide)) iw_Eo84 rfl rfl rfl (Nat.le_of_ble_eq_true rfl) dX6_goesOn_102 ?_
              have vJ113 : ∀ (v24 : Int32), f_X6_goesOn_J113 r88 v17 v18 m23 v24 = some (r, σ') → iw_V p l e rm_X6_goesOn s m ([.ref (G.2.1 84)] : List Value).toArray below meth c0 0 0 (MQ below (iw_Q (some (.int r)) G σ') ([.ref (G.2.1 84)] : List Value).toArray s 0 0 (iw_A G)) 4 G (iw_A G) m23 113 [(0, .ref (G.2.1 84)), (2, .int v10), (3, .int v18)] [.int v24, .int v17] := by
                intro v24 h
                unfold f_X6_goesOn_J113 at h
                refine iv_iadd (pc := 113) C dX6_goesOn_113 ?_
                refine iv_topi (fun v25 ev25 => ?_)
                replace h := iw_lete ev25 h
                refine iv_istore_n (pc := 114) C [(1, .int v25), (0, .ref (G.2.1 84)), (2, .int v10), (3, .int v18)] dX6_goesOn_114 rfl (by decide) rfl ?_
                obtain ⟨v26, ev26⟩ : ∃ y : Int32, y = v18 + (1 : Int32) := ⟨_, rfl⟩
                replace h := iw_lete ev26 h
                refine iv_iinc (pc := 115) C 3 v26 [(3, .int v26), (1, .int v25), (0, .ref (G.2.1 84)), (2, .int v10)] dX6_goesOn_115 rfl (by rw [ev26]; rfl) (by decide) rfl ?_
                refine iv_goto (pc := 118) C 88 dX6_goesOn_118 (by decide) ?_
                exact iv_sub [2, 1, 3, 0] rfl (hr88 v25 v26 m23 h)
              refine iv_if_eq (pc := 105) C 112 dX6_goesOn_105 (by decide) (fun h27 => ?_) (fun h27 => ?_)
              · replace h := iw_ift h27 h
                refine iv_iconst (pc := 112) C (0 : Int32) dX6_goesOn_112 (by decide) ?_
                exact iv_sub [0, 2, 3] rfl (vJ113 (0 : Int32) h)
              · replace h := iw_iff h27 h
                refine iv_iconst (pc := 108) C (1 : Int32) dX6_goesOn_108 (by decide) ?_
                refine iv_goto (pc := 109) C 113 dX6_goesOn_109 (by decide) ?_
                exact iv_sub [0, 2, 3] rfl (vJ113 (1 : Int32) h)
          have vL88 : ∀ (nn : Nat) (v17 : Int32) (v18 : Int32) (m19 : iw_M), f_X6_goesOn_L88 n v10 (f_X6_goesOn_X121_88 r76 v10) nn v17 v18 m19 = some (r, σ') → iw_V p l e rm_X6_goesOn s m ([.ref (G.2.1 84)] : List Value).toArray below meth c0 0 0 (MQ below (iw_Q (some (.int r)) G σ') ([.ref (G.2.1 84)] : List Value).toArray s 0 0 (iw_A G)) 4 G (iw_A G) m19 88 [(0, .ref (G.2.1 84)), (1, .int v17), (2, .int v10), (3, .int v18)] [] := by
            intro nn
            induction nn with
            | zero => intro v17 v18 m19 h; exact absurd h (fun q => by cases q)
            | succ nn ih => intro v17 v18 m19 h; exact vB88 (f_X6_goesOn_X121_88 r76 v10) (f_X6_goesOn_L88 n v10 (f_X6_goesOn_X121_88 r76 v10) nn) vX88 ih v17 v18 m19 h
          exact iv_sub [1, 2, 3, 0] rfl (vL88 n v9 (0 : Int32) m11 h)
      have vL76 : ∀ (nn : Nat) (v9 : Int32) (v10 : Int32) (m11 : iw_M), f_X6_goesOn_L76 n (f_X6_goesOn_X127_76) nn v9 v10 m11 = some (r, σ') → iw_V p l e rm_X6_goesOn s m ([.ref (G.2.1 84)] : List Value).toArray below meth c0 0 0 (MQ below (iw_Q (some (.int r)) G σ') ([.ref (G.2.1 84)] : List Value).toArray s 0 0 (iw_A G)) 4 G (iw_A G) m11 76 [(0, .ref (G.2.1 84)), (1, .int v9), (2, .int v10)] [] := by
        intro nn
        induction nn with
        | zero => intro v9 v10 m11 h; exact absurd h (fun q => by cases q)
        | succ nn ih => intro v9 v10 m11 h; exact vB76 (f_X6_goesOn_X127_76) (f_X6_goesOn_L76 n (f_X6_goesOn_X127_76) nn) vX76 ih v9 v10 m11 h
      exact iv_sub [2, 1, 0] rfl (vL76 n (0 : Int32) (0 : Int32) m4 h)
    have vB52 : ∀ (k52 : iw_M → Option (Int32 × iw_M)) (r52 : Int32 → iw_M → Option (Int32 × iw_M)), (∀ (m4 : iw_M), k52 m4 = some (r, σ') → iw_V p l e rm_X6_goesOn s m ([.ref (G.2.1 84)] : List Value).toArray below meth c0 0 0 (MQ below (iw_Q (some (.int r)) G σ') ([.ref (G.2.1 84)] : List Value).toArray s 0 0 (iw_A G)) 4 G (iw_A G) m4 72 [(0, .ref (G.2.1 84))] []) → (∀ (v28 : Int32) (m29 : iw_M), r52 v28 m29 = some (r, σ') → iw_V p l e rm_X6_goesOn s m ([.ref (G.2.1 84)] : List Value).toArray below meth c0 0 0 (MQ below (iw_Q (some (.int r)) G σ') ([.ref (G.2.1 84)] : List Value).toArray s 0 0 (iw_A G)) 4 G (iw_A G) m29 52 [(0, .ref (G.2.1 84)), (1, .int v28)] []) → ∀ (v28 : Int32) (m29 : iw_M), f_X6_goesOn_B52  k52 r52 v28 m29 = some (r, σ') → iw_V p l e rm_X6_goesOn s m ([.ref (G.2.1 84)] : List Value).toArray below meth c0 0 0 (MQ below (iw_Q (some (.int r)) G σ') ([.ref (G.2.1 84)] : List Value).toArray s 0 0 (iw_A G)) 4 G (iw_A G) m29 52 [(0, .ref (G.2.1 84)), (1, .int v28)] [] := by
      intro k52 r52 hk52 hr52 v28 m29 h
      unfold f_X6_goesOn_B52 at h
      refine iv_iload_n (pc := 52) C 1 dX6_goesOn_52 rfl rfl ?_
      refine iv_sipush (pc := 53) C (600 : Int32) dX6_goesOn_53 (by decide) ?_
      refine iv_icmp_ge (pc := 56) C 72 dX6_goesOn_56 (by decide) (fun h30 => ?_) (fun h30 => ?_)
      · replace h := iw_ift h30 h
        exact iv_sub [0] rfl (hk52 m29 h)
      · replace h := iw_iff h30 h
        refine iv_aload_n (pc := 59) C 0 dX6_goesOn_59 rfl rfl ?_
        refine iv_getf (pc := 60) (T := TX6) (N := 16) (ci := 6) C 84 9 in_X6_goesOn_6 (iw_im hJ (by decide)) iw_Eo84 rfl (by decide) lk_X6_goesOn_29 rfl rfl dX6_goesOn_60 ?_
        refine iv_iload_n (pc := 63) C 1 dX6_goesOn_63 rfl rfl ?_
        refine iv_iconst (pc := 64) C (0 : Int32) dX6_goesOn_64 (by decide) ?_
        obtain ⟨m31, em31, h⟩ := iw_be h
        refine iv_wrz (pc := 65) C 91 (iw_zm hJ rfl (by decide)) em31 dX6_goesOn_65 ?_
        obtain ⟨v32, ev32⟩ : ∃ y : Int32, y = v28 + (1 : Int32) := ⟨_, rfl⟩
        replace h := iw_lete ev32 h
        refine iv_iinc (pc := 66) C 1 v32 [(1, .int v32), (0, .ref (G.2.1 84))] dX6_goesOn_66 rfl (by rw [ev32]; rfl) (by decide) rfl ?_
        refine iv_goto (pc := 69) C 52 dX6_goesOn_69 (by decide) ?_
        exact iv_sub [1, 0] rfl (hr52 v32 m31 h)
    have vL52 : ∀ (nn : Nat) (v28 : Int32) (m29 : iw_M), f_X6_goesOn_L52  (f_X6_goesOn_X72_52 n) nn v28 m29 = some (r, σ') → iw_V p l e rm_X6_goesOn s m ([.ref (G.2.1 84)] : List Value).toArray below meth c0 0 0 (MQ below (iw_Q (some (.int r)) G σ') ([.ref (G.2.1 84)] : List Value).toArray s 0 0 (iw_A G)) 4 G (iw_A G) m29 52 [(0, .ref (G.2.1 84)), (1, .int v28)] [] := by
      intro nn
      induction nn with
      | zero => intro v28 m29 h; exact absurd h (fun q => by cases q)
      | succ nn ih => intro v28 m29 h; exact vB52 (f_X6_goesOn_X72_52 n) (f_X6_goesOn_L52  (f_X6_goesOn_X72_52 n) nn) vX52 ih v28 m29 h
    exact iv_sub [1, 0] rfl (vL52 n (0 : Int32) m3 h)
  have vB9 : ∀ (k9 : iw_M → Option (Int32 × iw_M)) (r9 : Int32 → iw_M → Option (Int32 × iw_M)), (∀ (m3 : iw_M), k9 m3 = some (r, σ') → iw_V p l e rm_X6_goesOn s m ([.ref (G.2.1 84)] : List Value).toArray below meth c0 0 0 (MQ below (iw_Q (some (.int r)) G σ') ([.ref (G.2.1 84)] : List Value).toArray s 0 0 (iw_A G)) 4 G (iw_A G) m3 50 [(0, .ref (G.2.1 84))] []) → (∀ (v33 : Int32) (m34 : iw_M), r9 v33 m34 = some (r, σ') → iw_V p l e rm_X6_goesOn s m ([.ref (G.2.1 84)] : List Value).toArray below meth c0 0 0 (MQ below (iw_Q (some (.int r)) G σ') ([.ref (G.2.1 84)] : List Value).toArray s 0 0 (iw_A G)) 4 G (iw_A G) m34 9 [(0, .ref (G.2.1 84)), (1, .int v33)] []) → ∀ (v33 : Int32) (m34 : iw_M), f_X6_goesOn_B9 n k9 r9 v33 m34 = some (r, σ') → iw_V p l e rm_X6_goesOn s m ([.ref (G.2.1 84)] : List Value).toArray below meth c0 0 0 (MQ below (iw_Q (some (.int r)) G σ') ([.ref (G.2.1 84)] : List Value).toArray s 0 0 (iw_A G)) 4 G (iw_A G) m34 9 [(0, .ref (G.2.1 84)), (1, .int v33)] [] := by
    intro k9 r9 hk9 hr9 v33 m34 h
    unfold f_X6_goesOn_B9 at h
    refine iv_iload_n (pc := 9) C 1 dX6_goesOn_9 rfl rfl ?_
    refine iv_if_lt (pc := 10) C 50 dX6_goesOn_10 (by decide) (fun h35 => ?_) (fun h35 => ?_)
    · replace h := iw_ift h35 h
      exact iv_sub [0] rfl (hk9 m34 h)
    · replace h := iw_iff h35 h
      refine iv_aload_n (pc := 13) C 0 dX6_goesOn_13 rfl rfl ?_
      refine iv_iload_n (pc := 14) C 1 dX6_goesOn_14 rfl rfl ?_
      refine iv_iconst (pc := 15) C (4 : Int32) dX6_goesOn_15 (by decide) ?_
      obtain ⟨v36, ev36, h⟩ := iw_be h
      refine iv_callV (pc := 16) (b := 84) (ci := 6) C [.int v33, .int (4 : Int32)] (k_X6_ofInterest l G hJ v33 (4 : Int32) m34 ev36) gX6_goesOn_X6_ofInterest rfl qd_X6_ofInterest ⟨rfl, rfl, Nat.le_of_ble_eq_true rfl, Nat.le_of_ble_eq_true rfl⟩ (iw_im hJ (by decide)) iw_Eo84 rfl rfl rfl (Nat.le_of_ble_eq_true rfl) dX6_goesOn_16 ?_
      refine iv_aload_n (pc := 19) C 0 dX6_goesOn_19 rfl rfl ?_
      refine iv_getf (pc := 20) (T := TX6) (N := 16) (ci := 6) C 84 0 in_X6_goesOn_6 (iw_im hJ (by decide)) iw_Eo84 rfl (by decide) lk_X6_goesOn_7 rfl rfl dX6_goesOn_20 ?_
      refine iv_iconst (pc := 23) C (5 : Int32) dX6_goesOn_23 (by decide) ?_
      obtain ⟨v37, ev37, h⟩ := iw_be h
      refine iv_rd (pc := 24) C 85 (iw_lm hJ rfl (by decide)) ev37 dX6_goesOn_24 ?_
      have vJ44 : ∀ (m38 : iw_M), f_X6_goesOn_J44 r9 v33 m38 = some (r, σ') → iw_V p l e rm_X6_goesOn s m ([.ref (G.2.1 84)] : List Value).toArray below meth c0 0 0 (MQ below (iw_Q (some (.int r)) G σ') ([.ref (G.2.1 84)] : List Value).toArray s 0 0 (iw_A G)) 4 G (iw_A G) m38 44 [(0, .ref (G.2.1 84)), (1, .int v33)] [] := by
        intro m38 h
        unfold f_X6_goesOn_J44 at h
        obtain ⟨v39, ev39⟩ : ∃ y : Int32, y = v33 + (-1 : Int32) := ⟨_, rfl⟩
        replace h := iw_lete ev39 h
        refine iv_iinc (pc := 44) C 1 v39 [(1, .int v39), (0, .ref (G.2.1 84))] dX6_goesOn_44 rfl (by rw [ev39]; rfl) (by decide) rfl ?_
        refine iv_goto (pc := 47) C 9 dX6_goesOn_47 (by decide) ?_
        exact iv_sub [1, 0] rfl (hr9 v39 m38 h)
      refine iv_icmp_ge (pc := 25) C 44 dX6_goesOn_25 (by decide) (fun h40 => ?_) (fun h40 => ?_)
      · replace h := iw_ift h40 h
        exact iv_sub [0, 1] rfl (vJ44 m34 h)
      · replace h := iw_iff h40 h
        refine iv_aload_n (pc := 28) C 0 dX6_goesOn_28 rfl rfl ?_
        refine iv_iload_n (pc := 29) C 1 dX6_goesOn_29 rfl rfl ?_
        obtain ⟨m41, em41, h⟩ := iw_be h
        refine iv_callV (pc := 30) (b := 84) (ci := 6) C [.int v33] (k_X6_removes l G hJ n v33 m34 em41) gX6_goesOn_X6_removes rfl qd_X6_removes ⟨rfl, rfl, Nat.le_of_ble_eq_true rfl, Nat.le_of_ble_eq_true rfl⟩ (iw_im hJ (by decide)) iw_Eo84 rfl rfl rfl (Nat.le_of_ble_eq_true rfl) dX6_goesOn_30 ?_
        refine iv_aload_n (pc := 33) C 0 dX6_goesOn_33 rfl rfl ?_
        refine iv_getf (pc := 34) (T := TX6) (N := 16) (ci := 6) C 84 0 in_X6_goesOn_6 (iw_im hJ (by decide)) iw_Eo84 rfl (by decide) lk_X6_goesOn_7 rfl rfl dX6_goesOn_34 ?_
        refine iv_bipush (pc := 37) C (11 : Int32) dX6_goesOn_37 (by decide) ?_
        refine iv_dup2 (pc := 39) C rfl rfl dX6_goesOn_39 ?_
        obtain ⟨v42, ev42, h⟩ := iw_be h
        refine iv_rd (pc := 40) C 85 (iw_lm hJ rfl (by decide)) ev42 dX6_goesOn_40 ?_
        refine iv_iconst (pc := 41) C (1 : Int32) dX6_goesOn_41 (by decide) ?_
        refine iv_iadd (pc := 42) C dX6_goesOn_42 ?_
        obtain ⟨m43, em43, h⟩ := iw_be h
        refine iv_wr (pc := 43) C 85 (iw_lm hJ rfl (by decide)) em43 dX6_goesOn_43 ?_
        exact iv_sub [0, 1] rfl (vJ44 m43 h)
  have vL9 : ∀ (nn : Nat) (v33 : Int32) (m34 : iw_M), f_X6_goesOn_L9 n (f_X6_goesOn_X50_9 n) nn v33 m34 = some (r, σ') → iw_V p l e rm_X6_goesOn s m ([.ref (G.2.1 84)] : List Value).toArray below meth c0 0 0 (MQ below (iw_Q (some (.int r)) G σ') ([.ref (G.2.1 84)] : List Value).toArray s 0 0 (iw_A G)) 4 G (iw_A G) m34 9 [(0, .ref (G.2.1 84)), (1, .int v33)] [] := by
    intro nn
    induction nn with
    | zero => intro v33 m34 h; exact absurd h (fun q => by cases q)
    | succ nn ih => intro v33 m34 h; exact vB9 (f_X6_goesOn_X50_9 n) (f_X6_goesOn_L9 n (f_X6_goesOn_X50_9 n) nn) vX9 ih v33 m34 h
  exact iv_sub [1, 0] rfl (vL9 n v2 σ h)
theorem qd_X6_goesOn : yX6_goesOn.cls = RX6 ∧ yX6_goesOn.cls ≠ "java/lang/invoke/MethodHandle" ∧ yX6_goesOn.cls ≠ "java/lang/invoke/VarHandle" ∧ (parseMethodDescriptor yX6_goesOn.desc).map (fun d => d.parameters.length) = some 0 := by decide +kernel
def f_X6_goesFor_X22_4 (v1 : Int32) (m2 : iw_M) : Option (Int32 × iw_M) :=
some (v1, m2)
def f_X6_goesFor_B4 (n : Nat) (p1 : Int32) (k4 : Int32 → iw_M → Option (Int32 × iw_M)) (r4 : Int32 → Int32 → iw_M → Option (Int32 × iw_M)) (v3 : Int32) (v4 : Int32) (m5 : iw_M) : Option (Int32 × iw_M) :=
if p1 ≤ v4 then
(k4 v3 m5)
else
(iw_b2 (f_X6_goesOn n m5) fun v7 m8 =>
iw_let (v3 + v7) fun v9 =>
iw_let (v4 + (1 : Int32)) fun v10 =>
r4 v9 v10 m8)
def f_X6_goesFor_L4 (n : Nat) (p1 : Int32) (k4 : Int32 → iw_M → Option (Int32 × iw_M)) (nn : Nat) : Int32 → Int32 → iw_M → Option (Int32 × iw_M) :=
iw_it (fun r4 => f_X6_goesFor_B4 n p1 k4 r4) (fun _ _ _ => none) nn
def f_X6_goesFor (n : Nat) (p1 : Int32) (σ : iw_M) : Option (Int32 × iw_M) :=
f_X6_goesFor_L4 n p1 (f_X6_goesFor_X22_4) n (0 : Int32) (0 : Int32) σ
abbrev rm_X6_goesFor : Room := { frames := 6, cells := 0, slots := 0, locals := 141 }
set_option maxHeartbeats 4000000 in
set_option maxRecDepth 100000 in
theorem k_X6_goesFor (l : Launch) (G : iw_G) (hJ : iw_JM G) (n : Nat) (p1 : Int32) (σ : iw_M) {r : Int32} {σ' : iw_M} (h : f_X6_goesFor n p1 σ = some (r, σ')) : iw_Ct l yX6_goesFor wsX6_goesFor rm_X6_goesFor G ([.ref (G.2.1 84), .int p1] : List Value) σ (some (.int r)) σ' := by
  refine iv_start (nL := 4) (own := RX6) (ret := (some .int)) (cc := cX6_goesFor) (by decide +kernel) rfl rfl hJ.1 (Nat.le_of_ble_eq_true rfl) ?_
  intro p e s m below meth c0 C hr hlk
  refine iv_sub (lv' := [(0, .ref (G.2.1 84)), (1, .int p1)]) [0, 1] rfl ?_
  unfold f_X6_goesFor at h
  refine iv_iconst (pc := 0) C (0 : Int32) dX6_goesFor_0 (by decide) ?_
  refine iv_istore_n (pc := 1) C [(2, .int (0 : Int32)), (0, .ref (G.2.1 84)), (1, .int p1)] dX6_goesFor_1 rfl (by decide) rfl ?_
  refine iv_iconst (pc := 2) C (0 : Int32) dX6_goesFor_2 (by decide) ?_
  refine iv_istore_n (pc := 3) C [(3, .int (0 : Int32)), (2, .int (0 : Int32)), (0, .ref (G.2.1 84)), (1, .int p1)] dX6_goesFor_3 rfl (by decide) rfl ?_
  have vX4 : ∀ (v1 : Int32) (m2 : iw_M), f_X6_goesFor_X22_4 v1 m2 = some (r, σ') → iw_V p l e rm_X6_goesFor s m ([.ref (G.2.1 84), .int p1] : List Value).toArray below meth c0 0 0 (MQ below (iw_Q (some (.int r)) G σ') ([.ref (G.2.1 84), .int p1] : List Value).toArray s 0 0 (iw_A G)) 4 G (iw_A G) m2 22 [(2, .int v1)] [] := by
    intro v1 m2 h
    unfold f_X6_goesFor_X22_4 at h
    refine iv_iload_n (pc := 22) C 0 dX6_goesFor_22 rfl rfl ?_
    cases h
    exact iv_iret C hr hlk rfl rfl dX6_goesFor_23
  have vB4 : ∀ (k4 : Int32 → iw_M → Option (Int32 × iw_M)) (r4 : Int32 → Int32 → iw_M → Option (Int32 × iw_M)), (∀ (v1 : Int32) (m2 : iw_M), k4 v1 m2 = some (r, σ') → iw_V p l e rm_X6_goesFor s m ([.ref (G.2.1 84), .int p1] : List Value).toArray below meth c0 0 0 (MQ below (iw_Q (some (.int r)) G σ') ([.ref (G.2.1 84), .int p1] : List Value).toArray s 0 0 (iw_A G)) 4 G (iw_A G) m2 22 [(2, .int v1)] []) → (∀ (v3 : Int32) (v4 : Int32) (m5 : iw_M), r4 v3 v4 m5 = some (r, σ') → iw_V p l e rm_X6_goesFor s m ([.ref (G.2.1 84), .int p1] : List Value).toArray below meth c0 0 0 (MQ below (iw_Q (some (.int r)) G σ') ([.ref (G.2.1 84), .int p1] : List Value).toArray s 0 0 (iw_A G)) 4 G (iw_A G) m5 4 [(0, .ref (G.2.1 84)), (1, .int p1), (2, .int v3), (3, .int v4)] []) → ∀ (v3 : Int32) (v4 : Int32) (m5 : iw_M), f_X6_goesFor_B4 n p1 k4 r4 v3 v4 m5 = some (r, σ') → iw_V p l e rm_X6_goesFor s m ([.ref (G.2.1 84), .int p1] : List Value).toArray below meth c0 0 0 (MQ below (iw_Q (some (.int r)) G σ') ([.ref (G.2.1 84), .int p1] : List Value).toArray s 0 0 (iw_A G)) 4 G (iw_A G) m5 4 [(0, .ref (G.2.1 84)), (1, .int p1), (2, .int v3), (3, .int v4)] [] := by
    intro k4 r4 hk4 hr4 v3 v4 m5 h
    unfold f_X6_goesFor_B4 at h
    refine iv_iload_n (pc := 4) C 3 dX6_goesFor_4 rfl rfl ?_
    refine iv_iload_n (pc := 5) C 1 dX6_goesFor_5 rfl rfl ?_
    refine iv_icmp_ge (pc := 6) C 22 dX6_goesFor_6 (by decide) (fun h6 => ?_) (fun h6 => ?_)
    · replace h := iw_ift h6 h
      exact iv_sub [2] rfl (hk4 v3 m5 h)
    · replace h := iw_iff h6 h
      refine iv_iload_n (pc := 9) C 2 dX6_goesFor_9 rfl rfl ?_
      refine iv_aload_n (pc := 10) C 0 dX6_goesFor_10 rfl rfl ?_
      obtain ⟨v7, m8, ev7, h⟩ := iw_b2e h
      refine iv_callV (pc := 11) (b := 84) (ci := 6) C [] (k_X6_goesOn l G hJ n m5 ev7) gX6_goesFor_X6_goesOn rfl qd_X6_goesOn ⟨rfl, rfl, Nat.le_of_ble_eq_true rfl, Nat.le_of_ble_eq_true rfl⟩ (iw_im hJ (by decide)) iw_Eo84 rfl rfl rfl (Nat.le_of_ble_eq_true rfl) dX6_goesFor_11 ?_
      refine iv_iadd (pc := 14) C dX6_goesFor_14 ?_
      refine iv_topi (fun v9 ev9 => ?_)
      replace h := iw_lete ev9 h
      refine iv_istore_n (pc := 15) C [(2, .int v9), (0, .ref (G.2.1 84)), (1, .int p1), (3, .int v4)] dX6_goesFor_15 rfl (by decide) rfl ?_
      obtain ⟨v10, ev10⟩ : ∃ y : Int32, y = v4 + (1 : Int32) := ⟨_, rfl⟩
      replace h := iw_lete ev10 h
      refine iv_iinc (pc := 16) C 3 v10 [(3, .int v10), (2, .int v9), (0, .ref (G.2.1 84)), (1, .int p1)] dX6_goesFor_16 rfl (by rw [ev10]; rfl) (by decide) rfl ?_
      refine iv_goto (pc := 19) C 4 dX6_goesFor_19 (by decide) ?_
      exact iv_sub [2, 3, 1, 0] rfl (hr4 v9 v10 m8 h)
  have vL4 : ∀ (nn : Nat) (v3 : Int32) (v4 : Int32) (m5 : iw_M), f_X6_goesFor_L4 n p1 (f_X6_goesFor_X22_4) nn v3 v4 m5 = some (r, σ') → iw_V p l e rm_X6_goesFor s m ([.ref (G.2.1 84), .int p1] : List Value).toArray below meth c0 0 0 (MQ below (iw_Q (some (.int r)) G σ') ([.ref (G.2.1 84), .int p1] : List Value).toArray s 0 0 (iw_A G)) 4 G (iw_A G) m5 4 [(0, .ref (G.2.1 84)), (1, .int p1), (2, .int v3), (3, .int v4)] [] := by
    intro nn
    induction nn with
    | zero => intro v3 v4 m5 h; exact absurd h (fun q => by cases q)
    | succ nn ih => intro v3 v4 m5 h; exact vB4 (f_X6_goesFor_X22_4) (f_X6_goesFor_L4 n p1 (f_X6_goesFor_X22_4) nn) vX4 ih v3 v4 m5 h
  exact iv_sub [2, 3, 1, 0] rfl (vL4 n (0 : Int32) (0 : Int32) σ h)
theorem qd_X6_goesFor : yX6_goesFor.cls = RX6 ∧ yX6_goesFor.cls ≠ "java/lang/invoke/MethodHandle" ∧ yX6_goesFor.cls ≠ "java/lang/invoke/VarHandle" ∧ (parseMethodDescriptor yX6_goesFor.desc).map (fun d => d.parameters.length) = some 1 := by decide +kernel
def f_X6_rounds (n : Nat) (p1 : Int32) (σ : iw_M) : Option (Int32 × iw_M) :=
if (f_X6_in p1 (1 : Int32) (100 : Int32)) = (0 : Int32) then
(some ((-1002 : Int32), σ))
else
((iw_rd σ 85 (5 : Int32)).bind fun v2 =>
if (v2 + p1) ≤ (100000 : Int32) then
((f_X6_saves n σ).bind fun m4 =>
iw_b2 (f_X6_goesFor n p1 m4) fun v5 m6 =>
some (v5, m6))
else
(some ((-1004 : Int32), σ)))
abbrev rm_X6_rounds : Room := { frames := 7, cells := 0, slots := 0, locals := 164 }
theorem lk_X6_rounds_7 : Cond.fieldLink RX6 7 RX6 (TX6 0).2.1 (TX6 0).2.2.1 ∈ wsX6_rounds := by decide +kernel
theorem in_X6_rounds_6 : ∀ w ∈ u_ws RX6 TX6 16, w ∈ wsX6_rounds := by decide +kernel
set_option maxHeartbeats 4000000 in
set_option maxRecDepth 100000 in
theorem k_X6_rounds (l : Launch) (G : iw_G) (hJ : iw_JM G) (n : Nat) (p1 : Int32) (σ : iw_M) {r : Int32} {σ' : iw_M} (h : f_X6_rounds n p1 σ = some (r, σ')) : iw_Ct l yX6_rounds wsX6_rounds rm_X6_rounds G ([.ref (G.2.1 84), .int p1] : List Value) σ (some (.int r)) σ' := by
  refine iv_start (nL := 2) (own := RX6) (ret := (some .int)) (cc := cX6_rounds) (by decide +kernel) rfl rfl hJ.1 (Nat.le_of_ble_eq_true rfl) ?_
  intro p e s m below meth c0 C hr hlk
  refine iv_sub (lv' := [(0, .ref (G.2.1 84)), (1, .int p1)]) [0, 1] rfl ?_
  unfold f_X6_rounds at h
  refine iv_iload_n (pc := 0) C 1 dX6_rounds_0 rfl rfl ?_
  refine iv_iconst (pc := 1) C (1 : Int32) dX6_rounds_1 (by decide) ?_
  refine iv_bipush (pc := 2) C (100 : Int32) dX6_rounds_2 (by decide) ?_
  refine iv_callS (pc := 4) C [.int p1, .int (1 : Int32), .int (100 : Int32)] (k_X6_in l G hJ p1 (1 : Int32) (100 : Int32) σ rfl) gX6_rounds_X6_in rfl qd_X6_in ⟨rfl, rfl, Nat.le_of_ble_eq_true rfl, Nat.le_of_ble_eq_true rfl⟩ rfl rfl (Nat.le_of_ble_eq_true rfl) dX6_rounds_4 ?_
  refine iv_if_ne (pc := 7) C 14 dX6_rounds_7 (by decide) (fun h1 => ?_) (fun h1 => ?_)
  · replace h := iw_iff h1 h
    refine iv_aload_n (pc := 14) C 0 dX6_rounds_14 rfl rfl ?_
    refine iv_getf (pc := 15) (T := TX6) (N := 16) (ci := 6) C 84 0 in_X6_rounds_6 (iw_im hJ (by decide)) iw_Eo84 rfl (by decide) lk_X6_rounds_7 rfl rfl dX6_rounds_15 ?_
    refine iv_iconst (pc := 18) C (5 : Int32) dX6_rounds_18 (by decide) ?_
    obtain ⟨v2, ev2, h⟩ := iw_be h
    refine iv_rd (pc := 19) C 85 (iw_lm hJ rfl (by decide)) ev2 dX6_rounds_19 ?_
    refine iv_iload_n (pc := 20) C 1 dX6_rounds_20 rfl rfl ?_
    refine iv_iadd (pc := 21) C dX6_rounds_21 ?_
    refine iv_ldc (pc := 22) C (100000 : Int32) (by decide +kernel) dX6_rounds_22 ?_
    refine iv_icmp_le (pc := 24) C 31 dX6_rounds_24 (by decide) (fun h3 => ?_) (fun h3 => ?_)
    · replace h := iw_ift h3 h
      refine iv_aload_n (pc := 31) C 0 dX6_rounds_31 rfl rfl ?_
      obtain ⟨m4, em4, h⟩ := iw_be h
      refine iv_callV (pc := 32) (b := 84) (ci := 6) C [] (k_X6_saves l G hJ n σ em4) gX6_rounds_X6_saves rfl qd_X6_saves ⟨rfl, rfl, Nat.le_of_ble_eq_true rfl, Nat.le_of_ble_eq_true rfl⟩ (iw_im hJ (by decide)) iw_Eo84 rfl rfl rfl (Nat.le_of_ble_eq_true rfl) dX6_rounds_32 ?_
      refine iv_aload_n (pc := 35) C 0 dX6_rounds_35 rfl rfl ?_
      refine iv_iload_n (pc := 36) C 1 dX6_rounds_36 rfl rfl ?_
      obtain ⟨v5, m6, ev5, h⟩ := iw_b2e h
      refine iv_callV (pc := 37) (b := 84) (ci := 6) C [.int p1] (k_X6_goesFor l G hJ n p1 m4 ev5) gX6_rounds_X6_goesFor rfl qd_X6_goesFor ⟨rfl, rfl, Nat.le_of_ble_eq_true rfl, Nat.le_of_ble_eq_true rfl⟩ (iw_im hJ (by decide)) iw_Eo84 rfl rfl rfl (Nat.le_of_ble_eq_true rfl) dX6_rounds_37 ?_
      cases h
      exact iv_iret C hr hlk rfl rfl dX6_rounds_40
    · replace h := iw_iff h3 h
      refine iv_sipush (pc := 27) C (-1004 : Int32) dX6_rounds_27 (by decide) ?_
      cases h
      exact iv_iret C hr hlk rfl rfl dX6_rounds_30
  · replace h := iw_ift h1 h
    refine iv_sipush (pc := 10) C (-1002 : Int32) dX6_rounds_10 (by decide) ?_
    cases h
    exact iv_iret C hr hlk rfl rfl dX6_rounds_13
theorem qd_X6_rounds : yX6_rounds.cls = RX6 ∧ yX6_rounds.cls ≠ "java/lang/invoke/MethodHandle" ∧ yX6_rounds.cls ≠ "java/lang/invoke/VarHandle" ∧ (parseMethodDescriptor yX6_rounds.desc).map (fun d => d.parameters.length) = some 1 := by decide +kernel
def f_X6_wayLength (p1 : Int32) (p2 : Int32) (σ : iw_M) : Option (Int32) :=
(f_X6_isInterest p1 σ).bind fun v1 =>
if v1 = (0 : Int32) then
(some (-1001 : Int32))
else
((f_X6_isSensor p2 σ).bind fun v3 =>
if v3 = (0 : Int32) then
(some (-1001 : Int32))
else
((f_X6_lengthOf p1 p2 σ).bind fun v5 =>
some v5))
abbrev rm_X6_wayLength : Room := { frames := 2, cells := 0, slots := 0, locals := 44 }
set_option maxHeartbeats 4000000 in
set_option maxRecDepth 100000 in
theorem k_X6_wayLength (l : Launch) (G : iw_G) (hJ : iw_JM G) (p1 : Int32) (p2 : Int32) (σ : iw_M) {r : Int32} (h : f_X6_wayLength p1 p2 σ = some r) : iw_Ct l yX6_wayLength wsX6_wayLength rm_X6_wayLength G ([.ref (G.2.1 84), .int p1, .int p2] : List Value) σ (some (.int r)) σ := by
  refine iv_start (nL := 3) (own := RX6) (ret := (some .int)) (cc := cX6_wayLength) (by decide +kernel) rfl rfl hJ.1 (Nat.le_of_ble_eq_true rfl) ?_
  intro p e s m below meth c0 C hr hlk
  refine iv_sub (lv' := [(0, .ref (G.2.1 84)), (1, .int p1), (2, .int p2)]) [0, 1, 2] rfl ?_
  unfold f_X6_wayLength at h
  refine iv_aload_n (pc := 0) C 0 dX6_wayLength_0 rfl rfl ?_
  refine iv_iload_n (pc := 1) C 1 dX6_wayLength_1 rfl rfl ?_
  obtain ⟨v1, ev1, h⟩ := iw_be h
  refine iv_callV (pc := 2) (b := 84) (ci := 6) C [.int p1] (k_X6_isInterest l G hJ p1 σ ev1) gX6_wayLength_X6_isInterest rfl qd_X6_isInterest ⟨rfl, rfl, Nat.le_of_ble_eq_true rfl, Nat.le_of_ble_eq_true rfl⟩ (iw_im hJ (by decide)) iw_Eo84 rfl rfl rfl (Nat.le_of_ble_eq_true rfl) dX6_wayLength_2 ?_
  refine iv_if_eq (pc := 5) C 25 dX6_wayLength_5 (by decide) (fun h2 => ?_) (fun h2 => ?_)
  · replace h := iw_ift h2 h
    refine iv_sipush (pc := 25) C (-1001 : Int32) dX6_wayLength_25 (by decide) ?_
    cases h
    exact iv_iret C hr hlk rfl rfl dX6_wayLength_28
  · replace h := iw_iff h2 h
    refine iv_aload_n (pc := 8) C 0 dX6_wayLength_8 rfl rfl ?_
    refine iv_iload_n (pc := 9) C 2 dX6_wayLength_9 rfl rfl ?_
    obtain ⟨v3, ev3, h⟩ := iw_be h
    refine iv_callV (pc := 10) (b := 84) (ci := 6) C [.int p2] (k_X6_isSensor l G hJ p2 σ ev3) gX6_wayLength_X6_isSensor rfl qd_X6_isSensor ⟨rfl, rfl, Nat.le_of_ble_eq_true rfl, Nat.le_of_ble_eq_true rfl⟩ (iw_im hJ (by decide)) iw_Eo84 rfl rfl rfl (Nat.le_of_ble_eq_true rfl) dX6_wayLength_10 ?_
    refine iv_if_eq (pc := 13) C 25 dX6_wayLength_13 (by decide) (fun h4 => ?_) (fun h4 => ?_)
    · replace h := iw_ift h4 h
      refine iv_sipush (pc := 25) C (-1001 : Int32) dX6_wayLength_25 (by decide) ?_
      cases h
      exact iv_iret C hr hlk rfl rfl dX6_wayLength_28
    · replace h := iw_iff h4 h
      refine iv_aload_n (pc := 16) C 0 dX6_wayLength_16 rfl rfl ?_
      refine iv_iload_n (pc := 17) C 1 dX6_wayLength_17 rfl rfl ?_
      refine iv_iload_n (pc := 18) C 2 dX6_wayLength_18 rfl rfl ?_
      obtain ⟨v5, ev5, h⟩ := iw_be h
      refine iv_callV (pc := 19) (b := 84) (ci := 6) C [.int p1, .int p2] (k_X6_lengthOf l G hJ p1 p2 σ ev5) gX6_wayLength_X6_lengthOf rfl qd_X6_lengthOf ⟨rfl, rfl, Nat.le_of_ble_eq_true rfl, Nat.le_of_ble_eq_true rfl⟩ (iw_im hJ (by decide)) iw_Eo84 rfl rfl rfl (Nat.le_of_ble_eq_true rfl) dX6_wayLength_19 ?_
      refine iv_goto (pc := 22) C 28 dX6_wayLength_22 (by decide) ?_
      cases h
      exact iv_iret C hr hlk rfl rfl dX6_wayLength_28
theorem qd_X6_wayLength : yX6_wayLength.cls = RX6 ∧ yX6_wayLength.cls ≠ "java/lang/invoke/MethodHandle" ∧ yX6_wayLength.cls ≠ "java/lang/invoke/VarHandle" ∧ (parseMethodDescriptor yX6_wayLength.desc).map (fun d => d.parameters.length) = some 2 := by decide +kernel
def f_X6_wayNode (p1 : Int32) (p2 : Int32) (p3 : Int32) (σ : iw_M) : Option (Int32) :=
(f_X6_isInterest p1 σ).bind fun v1 =>
if v1 = (0 : Int32) then
(some (-1001 : Int32))
else
((f_X6_isSensor p2 σ).bind fun v3 =>
if v3 = (0 : Int32) then
(some (-1001 : Int32))
else
(if (0 : Int32) ≤ p3 then
((f_X6_lengthOf p1 p2 σ).bind fun v6 =>
if v6 ≤ p3 then
(some (-1000 : Int32))
else
((f_X6_nodeOf p1 p2 p3 σ).bind fun v8 =>
some v8))
else
(some (-1002 : Int32))))
abbrev rm_X6_wayNode : Room := { frames := 2, cells := 0, slots := 0, locals := 45 }
set_option maxHeartbeats 4000000 in
set_option maxRecDepth 100000 in
theorem k_X6_wayNode (l : Launch) (G : iw_G) (hJ : iw_JM G) (p1 : Int32) (p2 : Int32) (p3 : Int32) (σ : iw_M) {r : Int32} (h : f_X6_wayNode p1 p2 p3 σ = some r) : iw_Ct l yX6_wayNode wsX6_wayNode rm_X6_wayNode G ([.ref (G.2.1 84), .int p1, .int p2, .int p3] : List Value) σ (some (.int r)) σ := by
  refine iv_start (nL := 4) (own := RX6) (ret := (some .int)) (cc := cX6_wayNode) (by decide +kernel) rfl rfl hJ.1 (Nat.le_of_ble_eq_true rfl) ?_
  intro p e s m below meth c0 C hr hlk
  refine iv_sub (lv' := [(0, .ref (G.2.1 84)), (1, .int p1), (2, .int p2), (3, .int p3)]) [0, 1, 2, 3] rfl ?_
  unfold f_X6_wayNode at h
  refine iv_aload_n (pc := 0) C 0 dX6_wayNode_0 rfl rfl ?_
  refine iv_iload_n (pc := 1) C 1 dX6_wayNode_1 rfl rfl ?_
  obtain ⟨v1, ev1, h⟩ := iw_be h
  refine iv_callV (pc := 2) (b := 84) (ci := 6) C [.int p1] (k_X6_isInterest l G hJ p1 σ ev1) gX6_wayNode_X6_isInterest rfl qd_X6_isInterest ⟨rfl, rfl, Nat.le_of_ble_eq_true rfl, Nat.le_of_ble_eq_true rfl⟩ (iw_im hJ (by decide)) iw_Eo84 rfl rfl rfl (Nat.le_of_ble_eq_true rfl) dX6_wayNode_2 ?_
  refine iv_if_eq (pc := 5) C 16 dX6_wayNode_5 (by decide) (fun h2 => ?_) (fun h2 => ?_)
  · replace h := iw_ift h2 h
    refine iv_sipush (pc := 16) C (-1001 : Int32) dX6_wayNode_16 (by decide) ?_
    cases h
    exact iv_iret C hr hlk rfl rfl dX6_wayNode_19
  · replace h := iw_iff h2 h
    refine iv_aload_n (pc := 8) C 0 dX6_wayNode_8 rfl rfl ?_
    refine iv_iload_n (pc := 9) C 2 dX6_wayNode_9 rfl rfl ?_
    obtain ⟨v3, ev3, h⟩ := iw_be h
    refine iv_callV (pc := 10) (b := 84) (ci := 6) C [.int p2] (k_X6_isSensor l G hJ p2 σ ev3) gX6_wayNode_X6_isSensor rfl qd_X6_isSensor ⟨rfl, rfl, Nat.le_of_ble_eq_true rfl, Nat.le_of_ble_eq_true rfl⟩ (iw_im hJ (by decide)) iw_Eo84 rfl rfl rfl (Nat.le_of_ble_eq_true rfl) dX6_wayNode_10 ?_
    refine iv_if_ne (pc := 13) C 20 dX6_wayNode_13 (by decide) (fun h4 => ?_) (fun h4 => ?_)
    · replace h := iw_iff h4 h
      refine iv_iload_n (pc := 20) C 3 dX6_wayNode_20 rfl rfl ?_
      refine iv_if_ge (pc := 21) C 28 dX6_wayNode_21 (by decide) (fun h5 => ?_) (fun h5 => ?_)
      · replace h := iw_ift h5 h
        refine iv_iload_n (pc := 28) C 3 dX6_wayNode_28 rfl rfl ?_
        refine iv_aload_n (pc := 29) C 0 dX6_wayNode_29 rfl rfl ?_
        refine iv_iload_n (pc := 30) C 1 dX6_wayNode_30 rfl rfl ?_
        refine iv_iload_n (pc := 31) C 2 dX6_wayNode_31 rfl rfl ?_
        obtain ⟨v6, ev6, h⟩ := iw_be h
        refine iv_callV (pc := 32) (b := 84) (ci := 6) C [.int p1, .int p2] (k_X6_lengthOf l G hJ p1 p2 σ ev6) gX6_wayNode_X6_lengthOf rfl qd_X6_lengthOf ⟨rfl, rfl, Nat.le_of_ble_eq_true rfl, Nat.le_of_ble_eq_true rfl⟩ (iw_im hJ (by decide)) iw_Eo84 rfl rfl rfl (Nat.le_of_ble_eq_true rfl) dX6_wayNode_32 ?_
        refine iv_icmp_ge (pc := 35) C 48 dX6_wayNode_35 (by decide) (fun h7 => ?_) (fun h7 => ?_)
        · replace h := iw_ift h7 h
          refine iv_sipush (pc := 48) C (-1000 : Int32) dX6_wayNode_48 (by decide) ?_
          cases h
          exact iv_iret C hr hlk rfl rfl dX6_wayNode_51
        · replace h := iw_iff h7 h
          refine iv_aload_n (pc := 38) C 0 dX6_wayNode_38 rfl rfl ?_
          refine iv_iload_n (pc := 39) C 1 dX6_wayNode_39 rfl rfl ?_
          refine iv_iload_n (pc := 40) C 2 dX6_wayNode_40 rfl rfl ?_
          refine iv_iload_n (pc := 41) C 3 dX6_wayNode_41 rfl rfl ?_
          obtain ⟨v8, ev8, h⟩ := iw_be h
          refine iv_callV (pc := 42) (b := 84) (ci := 6) C [.int p1, .int p2, .int p3] (k_X6_nodeOf l G hJ p1 p2 p3 σ ev8) gX6_wayNode_X6_nodeOf rfl qd_X6_nodeOf ⟨rfl, rfl, Nat.le_of_ble_eq_true rfl, Nat.le_of_ble_eq_true rfl⟩ (iw_im hJ (by decide)) iw_Eo84 rfl rfl rfl (Nat.le_of_ble_eq_true rfl) dX6_wayNode_42 ?_
          refine iv_goto (pc := 45) C 51 dX6_wayNode_45 (by decide) ?_
          cases h
          exact iv_iret C hr hlk rfl rfl dX6_wayNode_51
      · replace h := iw_iff h5 h
        refine iv_sipush (pc := 24) C (-1002 : Int32) dX6_wayNode_24 (by decide) ?_
        cases h
        exact iv_iret C hr hlk rfl rfl dX6_wayNode_27
    · replace h := iw_ift h4 h
      refine iv_sipush (pc := 16) C (-1001 : Int32) dX6_wayNode_16 (by decide) ?_
      cases h
      exact iv_iret C hr hlk rfl rfl dX6_wayNode_19
theorem qd_X6_wayNode : yX6_wayNode.cls = RX6 ∧ yX6_wayNode.cls ≠ "java/lang/invoke/MethodHandle" ∧ yX6_wayNode.cls ≠ "java/lang/invoke/VarHandle" ∧ (parseMethodDescriptor yX6_wayNode.desc).map (fun d => d.parameters.length) = some 3 := by decide +kernel
def f_X6_isWhole (n : Nat) (p1 : Int32) (p2 : Int32) (σ : iw_M) : Option (Int32) :=
(f_X6_isInterest p1 σ).bind fun v1 =>
if v1 = (0 : Int32) then
(some (-1001 : Int32))
else
((f_X6_isSensor p2 σ).bind fun v3 =>
if v3 = (0 : Int32) then
(some (-1001 : Int32))
else
((f_X6_isWholeWay n p1 p2 σ).bind fun v5 =>
if v5 = (0 : Int32) then
(some (0 : Int32))
else
(some (1 : Int32))))
abbrev rm_X6_isWhole : Room := { frames := 3, cells := 0, slots := 0, locals := 72 }
set_option maxHeartbeats 4000000 in
set_option maxRecDepth 100000 in
theorem k_X6_isWhole (l : Launch) (G : iw_G) (hJ : iw_JM G) (n : Nat) (p1 : Int32) (p2 : Int32) (σ : iw_M) {r : Int32} (h : f_X6_isWhole n p1 p2 σ = some r) : iw_Ct l yX6_isWhole wsX6_isWhole rm_X6_isWhole G ([.ref (G.2.1 84), .int p1, .int p2] : List Value) σ (some (.int r)) σ := by
  refine iv_start (nL := 3) (own := RX6) (ret := (some .int)) (cc := cX6_isWhole) (by decide +kernel) rfl rfl hJ.1 (Nat.le_of_ble_eq_true rfl) ?_
  intro p e s m below meth c0 C hr hlk
  refine iv_sub (lv' := [(0, .ref (G.2.1 84)), (1, .int p1), (2, .int p2)]) [0, 1, 2] rfl ?_
  unfold f_X6_isWhole at h
  refine iv_aload_n (pc := 0) C 0 dX6_isWhole_0 rfl rfl ?_
  refine iv_iload_n (pc := 1) C 1 dX6_isWhole_1 rfl rfl ?_
  obtain ⟨v1, ev1, h⟩ := iw_be h
  refine iv_callV (pc := 2) (b := 84) (ci := 6) C [.int p1] (k_X6_isInterest l G hJ p1 σ ev1) gX6_isWhole_X6_isInterest rfl qd_X6_isInterest ⟨rfl, rfl, Nat.le_of_ble_eq_true rfl, Nat.le_of_ble_eq_true rfl⟩ (iw_im hJ (by decide)) iw_Eo84 rfl rfl rfl (Nat.le_of_ble_eq_true rfl) dX6_isWhole_2 ?_
  refine iv_if_eq (pc := 5) C 16 dX6_isWhole_5 (by decide) (fun h2 => ?_) (fun h2 => ?_)
  · replace h := iw_ift h2 h
    refine iv_sipush (pc := 16) C (-1001 : Int32) dX6_isWhole_16 (by decide) ?_
    cases h
    exact iv_iret C hr hlk rfl rfl dX6_isWhole_19
  · replace h := iw_iff h2 h
    refine iv_aload_n (pc := 8) C 0 dX6_isWhole_8 rfl rfl ?_
    refine iv_iload_n (pc := 9) C 2 dX6_isWhole_9 rfl rfl ?_
    obtain ⟨v3, ev3, h⟩ := iw_be h
    refine iv_callV (pc := 10) (b := 84) (ci := 6) C [.int p2] (k_X6_isSensor l G hJ p2 σ ev3) gX6_isWhole_X6_isSensor rfl qd_X6_isSensor ⟨rfl, rfl, Nat.le_of_ble_eq_true rfl, Nat.le_of_ble_eq_true rfl⟩ (iw_im hJ (by decide)) iw_Eo84 rfl rfl rfl (Nat.le_of_ble_eq_true rfl) dX6_isWhole_10 ?_
    refine iv_if_ne (pc := 13) C 20 dX6_isWhole_13 (by decide) (fun h4 => ?_) (fun h4 => ?_)
    · replace h := iw_iff h4 h
      refine iv_aload_n (pc := 20) C 0 dX6_isWhole_20 rfl rfl ?_
      refine iv_iload_n (pc := 21) C 1 dX6_isWhole_21 rfl rfl ?_
      refine iv_iload_n (pc := 22) C 2 dX6_isWhole_22 rfl rfl ?_
      obtain ⟨v5, ev5, h⟩ := iw_be h
      refine iv_callV (pc := 23) (b := 84) (ci := 6) C [.int p1, .int p2] (k_X6_isWholeWay l G hJ n p1 p2 σ ev5) gX6_isWhole_X6_isWholeWay rfl qd_X6_isWholeWay ⟨rfl, rfl, Nat.le_of_ble_eq_true rfl, Nat.le_of_ble_eq_true rfl⟩ (iw_im hJ (by decide)) iw_Eo84 rfl rfl rfl (Nat.le_of_ble_eq_true rfl) dX6_isWhole_23 ?_
      refine iv_if_eq (pc := 26) C 33 dX6_isWhole_26 (by decide) (fun h6 => ?_) (fun h6 => ?_)
      · replace h := iw_ift h6 h
        refine iv_iconst (pc := 33) C (0 : Int32) dX6_isWhole_33 (by decide) ?_
        cases h
        exact iv_iret C hr hlk rfl rfl dX6_isWhole_34
      · replace h := iw_iff h6 h
        refine iv_iconst (pc := 29) C (1 : Int32) dX6_isWhole_29 (by decide) ?_
        refine iv_goto (pc := 30) C 34 dX6_isWhole_30 (by decide) ?_
        cases h
        exact iv_iret C hr hlk rfl rfl dX6_isWhole_34
    · replace h := iw_ift h4 h
      refine iv_sipush (pc := 16) C (-1001 : Int32) dX6_isWhole_16 (by decide) ?_
      cases h
      exact iv_iret C hr hlk rfl rfl dX6_isWhole_19
theorem qd_X6_isWhole : yX6_isWhole.cls = RX6 ∧ yX6_isWhole.cls ≠ "java/lang/invoke/MethodHandle" ∧ yX6_isWhole.cls ≠ "java/lang/invoke/VarHandle" ∧ (parseMethodDescriptor yX6_isWhole.desc).map (fun d => d.parameters.length) = some 2 := by decide +kernel
def f_X6_quickest (n : Nat) (p1 : Int32) (p2 : Int32) (σ : iw_M) : Option (Int32 × iw_M) :=
(f_X6_isNode p1 σ).bind fun v1 =>
if v1 = (0 : Int32) then
(some ((-1001 : Int32), σ))
else
((f_X6_isNode p2 σ).bind fun v3 =>
if v3 = (0 : Int32) then
(some ((-1001 : Int32), σ))
else
((f_X6_looksAlive n σ).bind fun m5 =>
(f_X6_reaches n p1 m5).bind fun m6 =>
(iw_rd m6 86 p2).bind fun v7 =>
some (v7, m6)))
abbrev rm_X6_quickest : Room := { frames := 2, cells := 0, slots := 0, locals := 47 }
theorem lk_X6_quickest_13 : Cond.fieldLink RX6 13 RX6 (TX6 2).2.1 (TX6 2).2.2.1 ∈ wsX6_quickest := by decide +kernel
theorem in_X6_quickest_6 : ∀ w ∈ u_ws RX6 TX6 16, w ∈ wsX6_quickest := by decide +kernel
set_option maxHeartbeats 4000000 in
set_option maxRecDepth 100000 in
theorem k_X6_quickest (l : Launch) (G : iw_G) (hJ : iw_JM G) (n : Nat) (p1 : Int32) (p2 : Int32) (σ : iw_M) {r : Int32} {σ' : iw_M} (h : f_X6_quickest n p1 p2 σ = some (r, σ')) : iw_Ct l yX6_quickest wsX6_quickest rm_X6_quickest G ([.ref (G.2.1 84), .int p1, .int p2] : List Value) σ (some (.int r)) σ' := by
  refine iv_start (nL := 3) (own := RX6) (ret := (some .int)) (cc := cX6_quickest) (by decide +kernel) rfl rfl hJ.1 (Nat.le_of_ble_eq_true rfl) ?_
  intro p e s m below meth c0 C hr hlk
  refine iv_sub (lv' := [(0, .ref (G.2.1 84)), (1, .int p1), (2, .int p2)]) [0, 1, 2] rfl ?_
  unfold f_X6_quickest at h
  refine iv_aload_n (pc := 0) C 0 dX6_quickest_0 rfl rfl ?_
  refine iv_iload_n (pc := 1) C 1 dX6_quickest_1 rfl rfl ?_
  obtain ⟨v1, ev1, h⟩ := iw_be h
  refine iv_callV (pc := 2) (b := 84) (ci := 6) C [.int p1] (k_X6_isNode l G hJ p1 σ ev1) gX6_quickest_X6_isNode rfl qd_X6_isNode ⟨rfl, rfl, Nat.le_of_ble_eq_true rfl, Nat.le_of_ble_eq_true rfl⟩ (iw_im hJ (by decide)) iw_Eo84 rfl rfl rfl (Nat.le_of_ble_eq_true rfl) dX6_quickest_2 ?_
  refine iv_if_eq (pc := 5) C 16 dX6_quickest_5 (by decide) (fun h2 => ?_) (fun h2 => ?_)
  · replace h := iw_ift h2 h
    refine iv_sipush (pc := 16) C (-1001 : Int32) dX6_quickest_16 (by decide) ?_
    cases h
    exact iv_iret C hr hlk rfl rfl dX6_quickest_19
  · replace h := iw_iff h2 h
    refine iv_aload_n (pc := 8) C 0 dX6_quickest_8 rfl rfl ?_
    refine iv_iload_n (pc := 9) C 2 dX6_quickest_9 rfl rfl ?_
    obtain ⟨v3, ev3, h⟩ := iw_be h
    refine iv_callV (pc := 10) (b := 84) (ci := 6) C [.int p2] (k_X6_isNode l G hJ p2 σ ev3) gX6_quickest_X6_isNode rfl qd_X6_isNode ⟨rfl, rfl, Nat.le_of_ble_eq_true rfl, Nat.le_of_ble_eq_true rfl⟩ (iw_im hJ (by decide)) iw_Eo84 rfl rfl rfl (Nat.le_of_ble_eq_true rfl) dX6_quickest_10 ?_
    refine iv_if_ne (pc := 13) C 20 dX6_quickest_13 (by decide) (fun h4 => ?_) (fun h4 => ?_)
    · replace h := iw_iff h4 h
      refine iv_aload_n (pc := 20) C 0 dX6_quickest_20 rfl rfl ?_
      obtain ⟨m5, em5, h⟩ := iw_be h
      refine iv_callV (pc := 21) (b := 84) (ci := 6) C [] (k_X6_looksAlive l G hJ n σ em5) gX6_quickest_X6_looksAlive rfl qd_X6_looksAlive ⟨rfl, rfl, Nat.le_of_ble_eq_true rfl, Nat.le_of_ble_eq_true rfl⟩ (iw_im hJ (by decide)) iw_Eo84 rfl rfl rfl (Nat.le_of_ble_eq_true rfl) dX6_quickest_21 ?_
      refine iv_aload_n (pc := 24) C 0 dX6_quickest_24 rfl rfl ?_
      refine iv_iload_n (pc := 25) C 1 dX6_quickest_25 rfl rfl ?_
      obtain ⟨m6, em6, h⟩ := iw_be h
      refine iv_callV (pc := 26) (b := 84) (ci := 6) C [.int p1] (k_X6_reaches l G hJ n p1 m5 em6) gX6_quickest_X6_reaches rfl qd_X6_reaches ⟨rfl, rfl, Nat.le_of_ble_eq_true rfl, Nat.le_of_ble_eq_true rfl⟩ (iw_im hJ (by decide)) iw_Eo84 rfl rfl rfl (Nat.le_of_ble_eq_true rfl) dX6_quickest_26 ?_
      refine iv_aload_n (pc := 29) C 0 dX6_quickest_29 rfl rfl ?_
      refine iv_getf (pc := 30) (T := TX6) (N := 16) (ci := 6) C 84 2 in_X6_quickest_6 (iw_im hJ (by decide)) iw_Eo84 rfl (by decide) lk_X6_quickest_13 rfl rfl dX6_quickest_30 ?_
      refine iv_iload_n (pc := 33) C 2 dX6_quickest_33 rfl rfl ?_
      obtain ⟨v7, ev7, h⟩ := iw_be h
      refine iv_rd (pc := 34) C 86 (iw_lm hJ rfl (by decide)) ev7 dX6_quickest_34 ?_
      cases h
      exact iv_iret C hr hlk rfl rfl dX6_quickest_35
    · replace h := iw_ift h4 h
      refine iv_sipush (pc := 16) C (-1001 : Int32) dX6_quickest_16 (by decide) ?_
      cases h
      exact iv_iret C hr hlk rfl rfl dX6_quickest_19
theorem qd_X6_quickest : yX6_quickest.cls = RX6 ∧ yX6_quickest.cls ≠ "java/lang/invoke/MethodHandle" ∧ yX6_quickest.cls ≠ "java/lang/invoke/VarHandle" ∧ (parseMethodDescriptor yX6_quickest.desc).map (fun d => d.parameters.length) = some 2 := by decide +kernel
def f_X6_load_X109_16 (v3 : Int32) : Option (Int32) :=
some v3
def f_X6_load_X103_29 (r16 : Int32 → Int32 → Option (Int32)) (v5 : Int32) (v8 : Int32) : Option (Int32) :=
iw_let (v5 + (1 : Int32)) fun v9 =>
r16 v8 v9
def f_X6_load_X97_43 (r29 : Int32 → Int32 → Option (Int32)) (v11 : Int32) (v14 : Int32) : Option (Int32) :=
iw_let (v11 + (1 : Int32)) fun v15 =>
r29 v14 v15
def f_X6_load_J89 (r43 : Int32 → Int32 → Option (Int32)) (v16 : Int32) (v17 : Int32) (v23 : Int32) : Option (Int32) :=
iw_let (v16 + v23) fun v24 =>
iw_let (v17 + (1 : Int32)) fun v25 =>
r43 v24 v25
def f_X6_load_B43 (n : Nat) (p1 : Int32) (σ : iw_M) (v5 : Int32) (v11 : Int32) (k43 : Int32 → Option (Int32)) (r43 : Int32 → Int32 → Option (Int32)) (v16 : Int32) (v17 : Int32) : Option (Int32) :=
(f_X6_lengthOf v5 v11 σ).bind fun v18 =>
if v18 ≤ v17 then
(k43 v16)
else
((f_X6_nodeOf v5 v11 (v17 - (1 : Int32)) σ).bind fun v20 =>
(f_X6_nodeOf v5 v11 v17 σ).bind fun v21 =>
(f_X6_linkOf n v20 v21 σ).bind fun v22 =>
if v22 = p1 then
(f_X6_load_J89 r43 v16 v17 (1 : Int32))
else
(f_X6_load_J89 r43 v16 v17 (0 : Int32)))
def f_X6_load_L43 (n : Nat) (p1 : Int32) (σ : iw_M) (v5 : Int32) (v11 : Int32) (k43 : Int32 → Option (Int32)) (nn : Nat) : Int32 → Int32 → Option (Int32) :=
iw_it (fun r43 => f_X6_load_B43 n p1 σ v5 v11 k43 r43) (fun _ _ => none) nn
def f_X6_load_B29 (n : Nat) (p1 : Int32) (σ : iw_M) (v5 : Int32) (k29 : Int32 → Option (Int32)) (r29 : Int32 → Int32 → Option (Int32)) (v10 : Int32) (v11 : Int32) : Option (Int32) :=
(iw_rd σ 85 (2 : Int32)).bind fun v12 =>
if v12 ≤ v11 then
(k29 v10)
else
(f_X6_load_L43 n p1 σ v5 v11 (f_X6_load_X97_43 r29 v11) n v10 (1 : Int32))
def f_X6_load_L29 (n : Nat) (p1 : Int32) (σ : iw_M) (v5 : Int32) (k29 : Int32 → Option (Int32)) (nn : Nat) : Int32 → Int32 → Option (Int32) :=
iw_it (fun r29 => f_X6_load_B29 n p1 σ v5 k29 r29) (fun _ _ => none) nn
def f_X6_load_B16 (n : Nat) (p1 : Int32) (σ : iw_M) (k16 : Int32 → Option (Int32)) (r16 : Int32 → Int32 → Option (Int32)) (v4 : Int32) (v5 : Int32) : Option (Int32) :=
(iw_rd σ 85 (3 : Int32)).bind fun v6 =>
if v6 ≤ v5 then
(k16 v4)
else
(f_X6_load_L29 n p1 σ v5 (f_X6_load_X103_29 r16 v5) n v4 (0 : Int32))
def f_X6_load_L16 (n : Nat) (p1 : Int32) (σ : iw_M) (k16 : Int32 → Option (Int32)) (nn : Nat) : Int32 → Int32 → Option (Int32) :=
iw_it (fun r16 => f_X6_load_B16 n p1 σ k16 r16) (fun _ _ => none) nn
def f_X6_load (n : Nat) (p1 : Int32) (σ : iw_M) : Option (Int32) :=
(f_X6_isLink p1 σ).bind fun v1 =>
if v1 = (0 : Int32) then
(some (-1001 : Int32))
else
(f_X6_load_L16 n p1 σ (f_X6_load_X109_16) n (0 : Int32) (0 : Int32))
abbrev rm_X6_load : Room := { frames := 2, cells := 0, slots := 0, locals := 48 }
theorem lk_X6_load_7 : Cond.fieldLink RX6 7 RX6 (TX6 0).2.1 (TX6 0).2.2.1 ∈ wsX6_load := by decide +kernel
theorem in_X6_load_6 : ∀ w ∈ u_ws RX6 TX6 16, w ∈ wsX6_load := by decide +kernel
set_option maxHeartbeats 4000000 in
set_option maxRecDepth 100000 in
theorem k_X6_load (l : Launch) (G : iw_G) (hJ : iw_JM G) (n : Nat) (p1 : Int32) (σ : iw_M) {r : Int32} (h : f_X6_load n p1 σ = some r) : iw_Ct l yX6_load wsX6_load rm_X6_load G ([.ref (G.2.1 84), .int p1] : List Value) σ (some (.int r)) σ := by
  refine iv_start (nL := 6) (own := RX6) (ret := (some .int)) (cc := cX6_load) (by decide +kernel) rfl rfl hJ.1 (Nat.le_of_ble_eq_true rfl) ?_
  intro p e s m below meth c0 C hr hlk
  refine iv_sub (lv' := [(0, .ref (G.2.1 84)), (1, .int p1)]) [0, 1] rfl ?_
  unfold f_X6_load at h
  refine iv_aload_n (pc := 0) C 0 dX6_load_0 rfl rfl ?_
  refine iv_iload_n (pc := 1) C 1 dX6_load_1 rfl rfl ?_
  obtain ⟨v1, ev1, h⟩ := iw_be h
  refine iv_callV (pc := 2) (b := 84) (ci := 6) C [.int p1] (k_X6_isLink l G hJ p1 σ ev1) gX6_load_X6_isLink rfl qd_X6_isLink ⟨rfl, rfl, Nat.le_of_ble_eq_true rfl, Nat.le_of_ble_eq_true rfl⟩ (iw_im hJ (by decide)) iw_Eo84 rfl rfl rfl (Nat.le_of_ble_eq_true rfl) dX6_load_2 ?_
  refine iv_if_ne (pc := 5) C 12 dX6_load_5 (by decide) (fun h2 => ?_) (fun h2 => ?_)
  · replace h := iw_iff h2 h
    refine iv_iconst (pc := 12) C (0 : Int32) dX6_load_12 (by decide) ?_
    refine iv_istore_n (pc := 13) C [(2, .int (0 : Int32)), (0, .ref (G.2.1 84)), (1, .int p1)] dX6_load_13 rfl (by decide) rfl ?_
    refine iv_iconst (pc := 14) C (0 : Int32) dX6_load_14 (by decide) ?_
    refine iv_istore_n (pc := 15) C [(3, .int (0 : Int32)), (2, .int (0 : Int32)), (0, .ref (G.2.1 84)), (1, .int p1)] dX6_load_15 rfl (by decide) rfl ?_
    have vX16 : ∀ (v3 : Int32), f_X6_load_X109_16 v3 = some r → iw_V p l e rm_X6_load s m ([.ref (G.2.1 84), .int p1] : List Value).toArray below meth c0 0 0 (MQ below (iw_Q (some (.int r)) G σ) ([.ref (G.2.1 84), .int p1] : List Value).toArray s 0 0 (iw_A G)) 6 G (iw_A G) σ 109 [(2, .int v3)] [] := by
      intro v3 h
      unfold f_X6_load_X109_16 at h
      refine iv_iload_n (pc := 109) C 0 dX6_load_109 rfl rfl ?_
      cases h
      exact iv_iret C hr hlk rfl rfl dX6_load_110
    have vB16 : ∀ (k16 : Int32 → Option (Int32)) (r16 : Int32 → Int32 → Option (Int32)), (∀ (v3 : Int32), k16 v3 = some r → iw_V p l e rm_X6_load s m ([.ref (G.2.1 84), .int p1] : List Value).toArray below meth c0 0 0 (MQ below (iw_Q (some (.int r)) G σ) ([.ref (G.2.1 84), .int p1] : List Value).toArray s 0 0 (iw_A G)) 6 G (iw_A G) σ 109 [(2, .int v3)] []) → (∀ (v4 : Int32) (v5 : Int32), r16 v4 v5 = some r → iw_V p l e rm_X6_load s m ([.ref (G.2.1 84), .int p1] : List Value).toArray below meth c0 0 0 (MQ below (iw_Q (some (.int r)) G σ) ([.ref (G.2.1 84), .int p1] : List Value).toArray s 0 0 (iw_A G)) 6 G (iw_A G) σ 16 [(0, .ref (G.2.1 84)), (1, .int p1), (2, .int v4), (3, .int v5)] []) → ∀ (v4 : Int32) (v5 : Int32), f_X6_load_B16 n p1 σ k16 r16 v4 v5 = some r → iw_V p l e rm_X6_load s m ([.ref (G.2.1 84), .int p1] : List Value).toArray below meth c0 0 0 (MQ below (iw_Q (some (.int r)) G σ) ([.ref (G.2.1 84), .int p1] : List Value).toArray s 0 0 (iw_A G)) 6 G (iw_A G) σ 16 [(0, .ref (G.2.1 84)), (1, .int p1), (2, .int v4), (3, .int v5)] [] := by
      intro k16 r16 hk16 hr16 v4 v5 h
      unfold f_X6_load_B16 at h
      refine iv_iload_n (pc := 16) C 3 dX6_load_16 rfl rfl ?_
      refine iv_aload_n (pc := 17) C 0 dX6_load_17 rfl rfl ?_
      refine iv_getf (pc := 18) (T := TX6) (N := 16) (ci := 6) C 84 0 in_X6_load_6 (iw_im hJ (by decide)) iw_Eo84 rfl (by decide) lk_X6_load_7 rfl rfl dX6_load_18 ?_
      refine iv_iconst (pc := 21) C (3 : Int32) dX6_load_21 (by decide) ?_
      obtain ⟨v6, ev6, h⟩ := iw_be h
      refine iv_rd (pc := 22) C 85 (iw_lm hJ rfl (by decide)) ev6 dX6_load_22 ?_
      refine iv_icmp_ge (pc := 23) C 109 dX6_load_23 (by decide) (fun h7 => ?_) (fun h7 => ?_)
      · replace h := iw_ift h7 h
        exact iv_sub [2] rfl (hk16 v4 h)
      · replace h := iw_iff h7 h
        refine iv_iconst (pc := 26) C (0 : Int32) dX6_load_26 (by decide) ?_
        refine iv_istore (pc := 27) C [(4, .int (0 : Int32)), (0, .ref (G.2.1 84)), (1, .int p1), (2, .int v4), (3, .int v5)] dX6_load_27 (by decide) rfl ?_
        have vX29 : ∀ (v8 : Int32), f_X6_load_X103_29 r16 v5 v8 = some r → iw_V p l e rm_X6_load s m ([.ref (G.2.1 84), .int p1] : List Value).toArray below meth c0 0 0 (MQ below (iw_Q (some (.int r)) G σ) ([.ref (G.2.1 84), .int p1] : List Value).toArray s 0 0 (iw_A G)) 6 G (iw_A G) σ 103 [(0, .ref (G.2.1 84)), (1, .int p1), (2, .int v8), (3, .int v5)] [] := by
          intro v8 h
          unfold f_X6_load_X103_29 at h
          obtain ⟨v9, ev9⟩ : ∃ y : Int32, y = v5 + (1 : Int32) := ⟨_, rfl⟩
          replace h := iw_lete ev9 h
          refine iv_iinc (pc := 103) C 3 v9 [(3, .int v9), (0, .ref (G.2.1 84)), (1, .int p1), (2, .int v8)] dX6_load_103 rfl (by rw [ev9]; rfl) (by decide) rfl ?_
          refine iv_goto (pc := 106) C 16 dX6_load_106 (by decide) ?_
          exact iv_sub [1, 2, 3, 0] rfl (hr16 v8 v9 h)
        have vB29 : ∀ (k29 : Int32 → Option (Int32)) (r29 : Int32 → Int32 → Option (Int32)), (∀ (v8 : Int32), k29 v8 = some r → iw_V p l e rm_X6_load s m ([.ref (G.2.1 84), .int p1] : List Value).toArray below meth c0 0 0 (MQ below (iw_Q (some (.int r)) G σ) ([.ref (G.2.1 84), .int p1] : List Value).toArray s 0 0 (iw_A G)) 6 G (iw_A G) σ 103 [(0, .ref (G.2.1 84)), (1, .int p1), (2, .int v8), (3, .int v5)] []) → (∀ (v10 : Int32) (v11 : Int32), r29 v10 v11 = some r → iw_V p l e rm_X6_load s m ([.ref (G.2.1 84), .int p1] : List Value).toArray below meth c0 0 0 (MQ below (iw_Q (some (.int r)) G σ) ([.ref (G.2.1 84), .int p1] : List Value).toArray s 0 0 (iw_A G)) 6 G (iw_A G) σ 29 [(0, .ref (G.2.1 84)), (1, .int p1), (2, .int v10), (3, .int v5), (4, .int v11)] []) → ∀ (v10 : Int32) (v11 : Int32), f_X6_load_B29 n p1 σ v5 k29 r29 v10 v11 = some r → iw_V p l e rm_X6_load s m ([.ref (G.2.1 84), .int p1] : List Value).toArray below meth c0 0 0 (MQ below (iw_Q (some (.int r)) G σ) ([.ref (G.2.1 84), .int p1] : List Value).toArray s 0 0 (iw_A G)) 6 G (iw_A G) σ 29 [(0, .ref (G.2.1 84)), (1, .int p1), (2, .int v10), (3, .int v5), (4, .int v11)] [] := by
          intro k29 r29 hk29 hr29 v10 v11 h
          unfold f_X6_load_B29 at h
          refine iv_iload (pc := 29) C 4 dX6_load_29 rfl ?_
          refine iv_aload_n (pc := 31) C 0 dX6_load_31 rfl rfl ?_
          refine iv_getf (pc := 32) (T := TX6) (N := 16) (ci := 6) C 84 0 in_X6_load_6 (iw_im hJ (by decide)) iw_Eo84 rfl (by decide) lk_X6_load_7 rfl rfl dX6_load_32 ?_
          refine iv_iconst (pc := 35) C (2 : Int32) dX6_load_35 (by decide) ?_
          obtain ⟨v12, ev12, h⟩ := iw_be h
          refine iv_rd (pc := 36) C 85 (iw_lm hJ rfl (by decide)) ev12 dX6_load_36 ?_
          refine iv_icmp_ge (pc := 37) C 103 dX6_load_37 (by decide) (fun h13 => ?_) (fun h13 => ?_)
          · replace h := iw_ift h13 h
            exact iv_sub [0, 1, 2, 3] rfl (hk29 v10 h)
          · replace h := iw_iff h13 h
            refine iv_iconst (pc := 40) C (1 : Int32) dX6_load_40 (by decide) ?_
            refine iv_istore (pc := 41) C [(5, .int (1 : Int32)), (0, .ref (G.2.1 84)), (1, .int p1), (2, .int v10), (3, .int v5), (4, .int v11)] dX6_load_41 (by decide) rfl ?_
            have vX43 : ∀ (v14 : Int32), f_X6_load_X97_43 r29 v11 v14 = some r → iw_V p l e rm_X6_load s m ([.ref (G.2.1 84), .int p1] : List Value).toArray below meth c0 0 0 (MQ below (iw_Q (some (.int r)) G σ) ([.ref (G.2.1 84), .int p1] : List Value).toArray s 0 0 (iw_A G)) 6 G (iw_A G) σ 97 [(0, .ref (G.2.1 84)), (1, .int p1), (2, .int v14), (3, .int v5), (4, .int v11)] [] := by
              intro v14 h
              unfold f_X6_load_X97_43 at h
              obtain ⟨v15, ev15⟩ : ∃ y : Int32, y = v11 + (1 : Int32) := ⟨_, rfl⟩
              replace h := iw_lete ev15 h
              refine iv_iinc (pc := 97) C 4 v15 [(4, .int v15), (0, .ref (G.2.1 84)), (1, .int p1), (2, .int v14), (3, .int v5)] dX6_load_97 rfl (by rw [ev15]; rfl) (by decide) rfl ?_
              refine iv_goto (pc := 100) C 29 dX6_load_100 (by decide) ?_
              exact iv_sub [1, 2, 3, 4, 0] rfl (hr29 v14 v15 h)
            have vB43 : ∀ (k43 : Int32 → Option (Int32)) (r43 : Int32 → Int32 → Option (Int32)), (∀ (v14 : Int32), k43 v14 = some r → iw_V p l e rm_X6_load s m ([.ref (G.2.1 84), .int p1] : List Value).toArray below meth c0 0 0 (MQ below (iw_Q (some (.int r)) G σ) ([.ref (G.2.1 84), .int p1] : List Value).toArray s 0 0 (iw_A G)) 6 G (iw_A G) σ 97 [(0, .ref (G.2.1 84)), (1, .int p1), (2, .int v14), (3, .int v5), (4, .int v11)] []) → (∀ (v16 : Int32) (v17 : Int32), r43 v16 v17 = some r → iw_V p l e rm_X6_load s m ([.ref (G.2.1 84), .int p1] : List Value).toArray below meth c0 0 0 (MQ below (iw_Q (some (.int r)) G σ) ([.ref (G.2.1 84), .int p1] : List Value).toArray s 0 0 (iw_A G)) 6 G (iw_A G) σ 43 [(0, .ref (G.2.1 84)), (1, .int p1), (2, .int v16), (3, .int v5), (4, .int v11), (5, .int v17)] []) → ∀ (v16 : Int32) (v17 : Int32), f_X6_load_B43 n p1 σ v5 v11 k43 r43 v16 v17 = some r → iw_V p l e rm_X6_load s m ([.ref (G.2.1 84), .int p1] : List Value).toArray below meth c0 0 0 (MQ below (iw_Q (some (.int r)) G σ) ([.ref (G.2.1 84), .int p1] : List Value).toArray s 0 0 (iw_A G)) 6 G (iw_A G) σ 43 [(0, .ref (G.2.1 84)), (1, .int p1), (2, .int v16), (3, .int v5), (4, .int v11), (5, .int v17)] [] := by
              intro k43 r43 hk43 hr43 v16 v17 h
              unfold f_X6_load_B43 at h
              refine iv_iload (pc := 43) C 5 dX6_load_43 rfl ?_
              refine iv_aload_n (pc := 45) C 0 dX6_load_45 rfl rfl ?_
              refine iv_iload_n (pc := 46) C 3 dX6_load_46 rfl rfl ?_
              refine iv_iload (pc := 47) C 4 dX6_load_47 rfl ?_
              obtain ⟨v18, ev18, h⟩ := iw_be h
              refine iv_callV (pc := 49) (b := 84) (ci := 6) C [.int v5, .int v11] (k_X6_lengthOf l G hJ v5 v11 σ ev18) gX6_load_X6_lengthOf rfl qd_X6_lengthOf ⟨rfl, rfl, Nat.le_of_ble_eq_true rfl, Nat.le_of_ble_eq_true rfl⟩ (iw_im hJ (by decide)) iw_Eo84 rfl rfl rfl (Nat.le_of_ble_eq_true rfl) dX6_load_49 ?_
              refine iv_icmp_ge (pc := 52) C 97 dX6_load_52 (by decide) (fun h19 => ?_) (fun h19 => ?_)
              · replace h := iw_ift h19 h
                exact iv_sub [0, 1, 2, 3, 4] rfl (hk43 v16 h)
              · replace h := iw_iff h19 h
                refine iv_iload_n (pc := 55) C 2 dX6_load_55 rfl rfl ?_
                refine iv_aload_n (pc := 56) C 0 dX6_load_56 rfl rfl ?_
                refine iv_aload_n (pc := 57) C 0 dX6_load_57 rfl rfl ?_
                refine iv_iload_n (pc := 58) C 3 dX6_load_58 rfl rfl ?_
                refine iv_iload (pc := 59) C 4 dX6_load_59 rfl ?_
                refine iv_iload (pc := 61) C 5 dX6_load_61 rfl ?_
                refine iv_iconst (pc := 63) C (1 : Int32) dX6_load_63 (by decide) ?_
                refine iv_isub (pc := 64) C dX6_load_64 ?_
                obtain ⟨v20, ev20, h⟩ := iw_be h
                refine iv_callV (pc := 65) (b := 84) (ci := 6) C [.int v5, .int v11, .int (v17 - (1 : Int32))] (k_X6_nodeOf l G hJ v5 v11 (v17 - (1 : Int32)) σ ev20) gX6_load_X6_nodeOf rfl qd_X6_nodeOf ⟨rfl, rfl, Nat.le_of_ble_eq_true rfl, Nat.le_of_ble_eq_true rfl⟩ (iw_im hJ (by decide)) iw_Eo84 rfl rfl rfl (Nat.le_of_ble_eq_true rfl) dX6_load_65 ?_
                refine iv_aload_n (pc := 68) C 0 dX6_load_68 rfl rfl ?_
                refine iv_iload_n (pc := 69) C 3 dX6_load_69 rfl rfl ?_
                refine iv_iload (pc := 70) C 4 dX6_load_70 rfl ?_
                refine iv_iload (pc := 72) C 5 dX6_load_72 rfl ?_
                obtain ⟨v21, ev21, h⟩ := iw_be h
                refine iv_callV (pc := 74) (b := 84) (ci := 6) C [.int v5, .int v11, .int v17] (k_X6_nodeOf l G hJ v5 v11 v17 σ ev21) gX6_load_X6_nodeOf rfl qd_X6_nodeOf ⟨rfl, rfl, Nat.le_of_ble_eq_true rfl, Nat.le_of_ble_eq_true rfl⟩ (iw_im hJ (by decide)) iw_Eo84 rfl rfl rfl (Nat.le_of_ble_eq_true rfl) dX6_load_74 ?_
                obtain ⟨v22, ev22, h⟩ := iw_be h
                refine iv_callV (pc := 77) (b := 84) (ci := 6) C [.int v20, .int v21] (k_X6_linkOf l G hJ n v20 v21 σ ev22) gX6_load_X6_linkOf rfl qd_X6_linkOf ⟨rfl, rfl, Nat.le_of_ble_eq_true rfl, Nat.le_of_ble_eq_true rfl⟩ (iw_im hJ (by decide)) iw_Eo84 rfl rfl rfl (Nat.le_of_ble_eq_true rfl) dX6_load_77 ?_
                refine iv_iload_n (pc := 80) C 1 dX6_load_80 rfl rfl ?_
                have vJ89 : ∀ (v23 : Int32), f_X6_load_J89 r43 v16 v17 v23 = some r → iw_V p l e rm_X6_load s m ([.ref (G.2.1 84), .int p1] : List Value).toArray below meth c0 0 0 (MQ below (iw_Q (some (.int r)) G σ) ([.ref (G.2.1 84), .int p1] : List Value).toArray s 0 0 (iw_A G)) 6 G (iw_A G) σ 89 [(0, .ref (G.2.1 84)), (1, .int p1), (3, .int v5), (4, .int v11), (5, .int v17)] [.int v23, .int v16] := by
                  intro v23 h
                  unfold f_X6_load_J89 at h
                  refine iv_iadd (pc := 89) C dX6_load_89 ?_
                  refine iv_topi (fun v24 ev24 => ?_)
                  replace h := iw_lete ev24 h
                  refine iv_istore_n (pc := 90) C [(2, .int v24), (0, .ref (G.2.1 84)), (1, .int p1), (3, .int v5), (4, .int v11), (5, .int v17)] dX6_load_90 rfl (by decide) rfl ?_
                  obtain ⟨v25, ev25⟩ : ∃ y : Int32, y = v17 + (1 : Int32) := ⟨_, rfl⟩
                  replace h := iw_lete ev25 h
                  refine iv_iinc (pc := 91) C 5 v25 [(5, .int v25), (2, .int v24), (0, .ref (G.2.1 84)), (1, .int p1), (3, .int v5), (4, .int v11)] dX6_load_91 rfl (by rw [ev25]; rfl) (by decide) rfl ?_
                  refine iv_goto (pc := 94) C 43 dX6_load_94 (by decide) ?_
                  exact iv_sub [2, 3, 1, 4, 5, 0] rfl (hr43 v24 v25 h)
                refine iv_icmp_ne (pc := 81) C 88 dX6_load_81 (by decide) (fun h26 => ?_) (fun h26 => ?_)
                · replace h := iw_iff h26 h
                  refine iv_iconst (pc := 88) C (0 : Int32) dX6_load_88 (by decide) ?_
                  exact iv_sub [0, 1, 3, 4, 5] rfl (vJ89 (0 : Int32) h)
                · replace h := iw_ift h26 h
                  refine iv_iconst (pc := 84) C (1 : Int32) dX6_load_84 (by decide) ?_
                  refine iv_goto (pc := 85) C 89 dX6_load_85 (by decide) ?_
                  exact iv_sub [0, 1, 3, 4, 5] rfl (vJ89 (1 : Int32) h)
            have vL43 : ∀ (nn : Nat) (v16 : Int32) (v17 : Int32), f_X6_load_L43 n p1 σ v5 v11 (f_X6_load_X97_43 r29 v11) nn v16 v17 = some r → iw_V p l e rm_X6_load s m ([.ref (G.2.1 84), .int p1] : List Value).toArray below meth c0 0 0 (MQ below (iw_Q (some (.int r)) G σ) ([.ref (G.2.1 84), .int p1] : List Value).toArray s 0 0 (iw_A G)) 6 G (iw_A G) σ 43 [(0, .ref (G.2.1 84)), (1, .int p1), (2, .int v16), (3, .int v5), (4, .int v11), (5, .int v17)] [] := by
              intro nn
              induction nn with
              | zero => intro v16 v17 h; exact absurd h (fun q => by cases q)
              | succ nn ih => intro v16 v17 h; exact vB43 (f_X6_load_X97_43 r29 v11) (f_X6_load_L43 n p1 σ v5 v11 (f_X6_load_X97_43 r29 v11) nn) vX43 ih v16 v17 h
            exact iv_sub [1, 2, 3, 4, 5, 0] rfl (vL43 n v10 (1 : Int32) h)
        have vL29 : ∀ (nn : Nat) (v10 : Int32) (v11 : Int32), f_X6_load_L29 n p1 σ v5 (f_X6_load_X103_29 r16 v5) nn v10 v11 = some r → iw_V p l e rm_X6_load s m ([.ref (G.2.1 84), .int p1] : List Value).toArray below meth c0 0 0 (MQ below (iw_Q (some (.int r)) G σ) ([.ref (G.2.1 84), .int p1] : List Value).toArray s 0 0 (iw_A G)) 6 G (iw_A G) σ 29 [(0, .ref (G.2.1 84)), (1, .int p1), (2, .int v10), (3, .int v5), (4, .int v11)] [] := by
          intro nn
          induction nn with
          | zero => intro v10 v11 h; exact absurd h (fun q => by cases q)
          | succ nn ih => intro v10 v11 h; exact vB29 (f_X6_load_X103_29 r16 v5) (f_X6_load_L29 n p1 σ v5 (f_X6_load_X103_29 r16 v5) nn) vX29 ih v10 v11 h
        exact iv_sub [1, 2, 3, 4, 0] rfl (vL29 n v4 (0 : Int32) h)
    have vL16 : ∀ (nn : Nat) (v4 : Int32) (v5 : Int32), f_X6_load_L16 n p1 σ (f_X6_load_X109_16) nn v4 v5 = some r → iw_V p l e rm_X6_load s m ([.ref (G.2.1 84), .int p1] : List Value).toArray below meth c0 0 0 (MQ below (iw_Q (some (.int r)) G σ) ([.ref (G.2.1 84), .int p1] : List Value).toArray s 0 0 (iw_A G)) 6 G (iw_A G) σ 16 [(0, .ref (G.2.1 84)), (1, .int p1), (2, .int v4), (3, .int v5)] [] := by
      intro nn
      induction nn with
      | zero => intro v4 v5 h; exact absurd h (fun q => by cases q)
      | succ nn ih => intro v4 v5 h; exact vB16 (f_X6_load_X109_16) (f_X6_load_L16 n p1 σ (f_X6_load_X109_16) nn) vX16 ih v4 v5 h
    exact iv_sub [2, 3, 1, 0] rfl (vL16 n (0 : Int32) (0 : Int32) h)
  · replace h := iw_ift h2 h
    refine iv_sipush (pc := 8) C (-1001 : Int32) dX6_load_8 (by decide) ?_
    cases h
    exact iv_iret C hr hlk rfl rfl dX6_load_11
theorem qd_X6_load : yX6_load.cls = RX6 ∧ yX6_load.cls ≠ "java/lang/invoke/MethodHandle" ∧ yX6_load.cls ≠ "java/lang/invoke/VarHandle" ∧ (parseMethodDescriptor yX6_load.desc).map (fun d => d.parameters.length) = some 1 := by decide +kernel
def f_X6_firstDeath_X60_18 (n : Nat) (v3 : Int32) (m4 : iw_M) : Option (Int32 × iw_M) :=
(f_X6_copies n (6 : Int32) (0 : Int32) m4).bind fun m5 =>
some (v3, m5)
def f_X6_firstDeath_J56 (r18 : Int32 → Int32 → iw_M → Option (Int32 × iw_M)) (m12 : iw_M) (v13 : Int32) (v15 : Int32) : Option (Int32 × iw_M) :=
r18 v13 v15 m12
def f_X6_firstDeath_B18 (n : Nat) (v2 : Int32) (k18 : Int32 → iw_M → Option (Int32 × iw_M)) (r18 : Int32 → Int32 → iw_M → Option (Int32 × iw_M)) (v6 : Int32) (v7 : Int32) (m8 : iw_M) : Option (Int32 × iw_M) :=
if (500 : Int32) ≤ v6 then
(k18 v7 m8)
else
(if v7 = (-1000 : Int32) then
(iw_b2 (f_X6_goesOn n m8) fun v11 m12 =>
iw_let (v6 + (1 : Int32)) fun v13 =>
(f_X6_living n m12).bind fun v14 =>
if v2 ≤ v14 then
(f_X6_firstDeath_J56 r18 m12 v13 (-1000 : Int32))
else
(f_X6_firstDeath_J56 r18 m12 v13 v13))
else
(k18 v7 m8))
def f_X6_firstDeath_L18 (n : Nat) (v2 : Int32) (k18 : Int32 → iw_M → Option (Int32 × iw_M)) (nn : Nat) : Int32 → Int32 → iw_M → Option (Int32 × iw_M) :=
iw_it (fun r18 => f_X6_firstDeath_B18 n v2 k18 r18) (fun _ _ _ => none) nn
def f_X6_firstDeath (n : Nat) (σ : iw_M) : Option (Int32 × iw_M) :=
(f_X6_copies n (0 : Int32) (6 : Int32) σ).bind fun m1 =>
(f_X6_living n m1).bind fun v2 =>
f_X6_firstDeath_L18 n v2 (f_X6_firstDeath_X60_18 n) n (0 : Int32) (-1000 : Int32) m1
abbrev rm_X6_firstDeath : Room := { frames := 6, cells := 0, slots := 0, locals := 141 }
set_option maxHeartbeats 4000000 in
set_option maxRecDepth 100000 in
theorem k_X6_firstDeath (l : Launch) (G : iw_G) (hJ : iw_JM G) (n : Nat) (σ : iw_M) {r : Int32} {σ' : iw_M} (h : f_X6_firstDeath n σ = some (r, σ')) : iw_Ct l yX6_firstDeath wsX6_firstDeath rm_X6_firstDeath G ([.ref (G.2.1 84)] : List Value) σ (some (.int r)) σ' := by
  refine iv_start (nL := 5) (own := RX6) (ret := (some .int)) (cc := cX6_firstDeath) (by decide +kernel) rfl rfl hJ.1 (Nat.le_of_ble_eq_true rfl) ?_
  intro p e s m below meth c0 C hr hlk
  refine iv_sub (lv' := [(0, .ref (G.2.1 84))]) [0] rfl ?_
  unfold f_X6_firstDeath at h
  refine iv_aload_n (pc := 0) C 0 dX6_firstDeath_0 rfl rfl ?_
  refine iv_iconst (pc := 1) C (0 : Int32) dX6_firstDeath_1 (by decide) ?_
  refine iv_bipush (pc := 2) C (6 : Int32) dX6_firstDeath_2 (by decide) ?_
  obtain ⟨m1, em1, h⟩ := iw_be h
  refine iv_callV (pc := 4) (b := 84) (ci := 6) C [.int (0 : Int32), .int (6 : Int32)] (k_X6_copies l G hJ n (0 : Int32) (6 : Int32) σ em1) gX6_firstDeath_X6_copies rfl qd_X6_copies ⟨rfl, rfl, Nat.le_of_ble_eq_true rfl, Nat.le_of_ble_eq_true rfl⟩ (iw_im hJ (by decide)) iw_Eo84 rfl rfl rfl (Nat.le_of_ble_eq_true rfl) dX6_firstDeath_4 ?_
  refine iv_aload_n (pc := 7) C 0 dX6_firstDeath_7 rfl rfl ?_
  obtain ⟨v2, ev2, h⟩ := iw_be h
  refine iv_callV (pc := 8) (b := 84) (ci := 6) C [] (k_X6_living l G hJ n m1 ev2) gX6_firstDeath_X6_living rfl qd_X6_living ⟨rfl, rfl, Nat.le_of_ble_eq_true rfl, Nat.le_of_ble_eq_true rfl⟩ (iw_im hJ (by decide)) iw_Eo84 rfl rfl rfl (Nat.le_of_ble_eq_true rfl) dX6_firstDeath_8 ?_
  refine iv_istore_n (pc := 11) C [(1, .int v2), (0, .ref (G.2.1 84))] dX6_firstDeath_11 rfl (by decide) rfl ?_
  refine iv_iconst (pc := 12) C (0 : Int32) dX6_firstDeath_12 (by decide) ?_
  refine iv_istore_n (pc := 13) C [(2, .int (0 : Int32)), (1, .int v2), (0, .ref (G.2.1 84))] dX6_firstDeath_13 rfl (by decide) rfl ?_
  refine iv_sipush (pc := 14) C (-1000 : Int32) dX6_firstDeath_14 (by decide) ?_
  refine iv_istore_n (pc := 17) C [(3, .int (-1000 : Int32)), (2, .int (0 : Int32)), (1, .int v2), (0, .ref (G.2.1 84))] dX6_firstDeath_17 rfl (by decide) rfl ?_
  have vX18 : ∀ (v3 : Int32) (m4 : iw_M), f_X6_firstDeath_X60_18 n v3 m4 = some (r, σ') → iw_V p l e rm_X6_firstDeath s m ([.ref (G.2.1 84)] : List Value).toArray below meth c0 0 0 (MQ below (iw_Q (some (.int r)) G σ') ([.ref (G.2.1 84)] : List Value).toArray s 0 0 (iw_A G)) 5 G (iw_A G) m4 60 [(0, .ref (G.2.1 84)), (3, .int v3)] [] := by
    intro v3 m4 h
    unfold f_X6_firstDeath_X60_18 at h
    refine iv_aload_n (pc := 60) C 0 dX6_firstDeath_60 rfl rfl ?_
    refine iv_bipush (pc := 61) C (6 : Int32) dX6_firstDeath_61 (by decide) ?_
    refine iv_iconst (pc := 63) C (0 : Int32) dX6_firstDeath_63 (by decide) ?_
    obtain ⟨m5, em5, h⟩ := iw_be h
    refine iv_callV (pc := 64) (b := 84) (ci := 6) C [.int (6 : Int32), .int (0 : Int32)] (k_X6_copies l G hJ n (6 : Int32) (0 : Int32) m4 em5) gX6_firstDeath_X6_copies rfl qd_X6_copies ⟨rfl, rfl, Nat.le_of_ble_eq_true rfl, Nat.le_of_ble_eq_true rfl⟩ (iw_im hJ (by decide)) iw_Eo84 rfl rfl rfl (Nat.le_of_ble_eq_true rfl) dX6_firstDeath_64 ?_
    refine iv_iload_n (pc := 67) C 1 dX6_firstDeath_67 rfl rfl ?_
    cases h
    exact iv_iret C hr hlk rfl rfl dX6_firstDeath_68
  have vB18 : ∀ (k18 : Int32 → iw_M → Option (Int32 × iw_M)) (r18 : Int32 → Int32 → iw_M → Option (Int32 × iw_M)), (∀ (v3 : Int32) (m4 : iw_M), k18 v3 m4 = some (r, σ') → iw_V p l e rm_X6_firstDeath s m ([.ref (G.2.1 84)] : List Value).toArray below meth c0 0 0 (MQ below (iw_Q (some (.int r)) G σ') ([.ref (G.2.1 84)] : List Value).toArray s 0 0 (iw_A G)) 5 G (iw_A G) m4 60 [(0, .ref (G.2.1 84)), (3, .int v3)] []) → (∀ (v6 : Int32) (v7 : Int32) (m8 : iw_M), r18 v6 v7 m8 = some (r, σ') → iw_V p l e rm_X6_firstDeath s m ([.ref (G.2.1 84)] : List Value).toArray below meth c0 0 0 (MQ below (iw_Q (some (.int r)) G σ') ([.ref (G.2.1 84)] : List Value).toArray s 0 0 (iw_A G)) 5 G (iw_A G) m8 18 [(0, .ref (G.2.1 84)), (1, .int v2), (2, .int v6), (3, .int v7)] []) → ∀ (v6 : Int32) (v7 : Int32) (m8 : iw_M), f_X6_firstDeath_B18 n v2 k18 r18 v6 v7 m8 = some (r, σ') → iw_V p l e rm_X6_firstDeath s m ([.ref (G.2.1 84)] : List Value).toArray below meth c0 0 0 (MQ below (iw_Q (some (.int r)) G σ') ([.ref (G.2.1 84)] : List Value).toArray s 0 0 (iw_A G)) 5 G (iw_A G) m8 18 [(0, .ref (G.2.1 84)), (1, .int v2), (2, .int v6), (3, .int v7)] [] := by
    intro k18 r18 hk18 hr18 v6 v7 m8 h
    unfold f_X6_firstDeath_B18 at h
    refine iv_iload_n (pc := 18) C 2 dX6_firstDeath_18 rfl rfl ?_
    refine iv_sipush (pc := 19) C (500 : Int32) dX6_firstDeath_19 (by decide) ?_
    refine iv_icmp_ge (pc := 22) C 60 dX6_firstDeath_22 (by decide) (fun h9 => ?_) (fun h9 => ?_)
    · replace h := iw_ift h9 h
      exact iv_sub [0, 3] rfl (hk18 v7 m8 h)
    · replace h := iw_iff h9 h
      refine iv_iload_n (pc := 25) C 3 dX6_firstDeath_25 rfl rfl ?_
      refine iv_sipush (pc := 26) C (-1000 : Int32) dX6_firstDeath_26 (by decide) ?_
      refine iv_icmp_ne (pc := 29) C 60 dX6_firstDeath_29 (by decide) (fun h10 => ?_) (fun h10 => ?_)
      · replace h := iw_iff h10 h
        exact iv_sub [0, 3] rfl (hk18 v7 m8 h)
      · replace h := iw_ift h10 h
        refine iv_aload_n (pc := 32) C 0 dX6_firstDeath_32 rfl rfl ?_
        obtain ⟨v11, m12, ev11, h⟩ := iw_b2e h
        refine iv_callV (pc := 33) (b := 84) (ci := 6) C [] (k_X6_goesOn l G hJ n m8 ev11) gX6_firstDeath_X6_goesOn rfl qd_X6_goesOn ⟨rfl, rfl, Nat.le_of_ble_eq_true rfl, Nat.le_of_ble_eq_true rfl⟩ (iw_im hJ (by decide)) iw_Eo84 rfl rfl rfl (Nat.le_of_ble_eq_true rfl) dX6_firstDeath_33 ?_
        refine iv_istore (pc := 36) C [(4, .int v11), (0, .ref (G.2.1 84)), (1, .int v2), (2, .int v6), (3, .int v7)] dX6_firstDeath_36 (by decide) rfl ?_
        obtain ⟨v13, ev13⟩ : ∃ y : Int32, y = v6 + (1 : Int32) := ⟨_, rfl⟩
        replace h := iw_lete ev13 h
        refine iv_iinc (pc := 38) C 3 v13 [(2, .int v13), (4, .int v11), (0, .ref (G.2.1 84)), (1, .int v2), (3, .int v7)] dX6_firstDeath_38 rfl (by rw [ev13]; rfl) (by decide) rfl ?_
        refine iv_aload_n (pc := 41) C 2 dX6_firstDeath_41 rfl rfl ?_
        obtain ⟨v14, ev14, h⟩ := iw_be h
        refine iv_callV (pc := 42) (b := 84) (ci := 6) C [] (k_X6_living l G hJ n m12 ev14) gX6_firstDeath_X6_living rfl qd_X6_living ⟨rfl, rfl, Nat.le_of_ble_eq_true rfl, Nat.le_of_ble_eq_true rfl⟩ (iw_im hJ (by decide)) iw_Eo84 rfl rfl rfl (Nat.le_of_ble_eq_true rfl) dX6_firstDeath_42 ?_
        refine iv_iload_n (pc := 45) C 3 dX6_firstDeath_45 rfl rfl ?_
        have vJ56 : ∀ (v15 : Int32), f_X6_firstDeath_J56 r18 m12 v13 v15 = some (r, σ') → iw_V p l e rm_X6_firstDeath s m ([.ref (G.2.1 84)] : List Value).toArray below meth c0 0 0 (MQ below (iw_Q (some (.int r)) G σ') ([.ref (G.2.1 84)] : List Value).toArray s 0 0 (iw_A G)) 5 G (iw_A G) m12 56 [(0, .ref (G.2.1 84)), (1, .int v2), (2, .int v13)] [.int v15] := by
          intro v15 h
          unfold f_X6_firstDeath_J56 at h
          refine iv_istore_n (pc := 56) C [(3, .int v15), (0, .ref (G.2.1 84)), (1, .int v2), (2, .int v13)] dX6_firstDeath_56 rfl (by decide) rfl ?_
          refine iv_goto (pc := 57) C 18 dX6_firstDeath_57 (by decide) ?_
          exact iv_sub [1, 2, 3, 0] rfl (hr18 v13 v15 m12 h)
        refine iv_icmp_ge (pc := 46) C 53 dX6_firstDeath_46 (by decide) (fun h16 => ?_) (fun h16 => ?_)
        · replace h := iw_ift h16 h
          refine iv_sipush (pc := 53) C (-1000 : Int32) dX6_firstDeath_53 (by decide) ?_
          exact iv_sub [2, 3, 0] rfl (vJ56 (-1000 : Int32) h)
        · replace h := iw_iff h16 h
          refine iv_iload_n (pc := 49) C 0 dX6_firstDeath_49 rfl rfl ?_
          refine iv_goto (pc := 50) C 56 dX6_firstDeath_50 (by decide) ?_
          exact iv_sub [2, 3, 0] rfl (vJ56 v13 h)
  have vL18 : ∀ (nn : Nat) (v6 : Int32) (v7 : Int32) (m8 : iw_M), f_X6_firstDeath_L18 n v2 (f_X6_firstDeath_X60_18 n) nn v6 v7 m8 = some (r, σ') → iw_V p l e rm_X6_firstDeath s m ([.ref (G.2.1 84)] : List Value).toArray below meth c0 0 0 (MQ below (iw_Q (some (.int r)) G σ') ([.ref (G.2.1 84)] : List Value).toArray s 0 0 (iw_A G)) 5 G (iw_A G) m8 18 [(0, .ref (G.2.1 84)), (1, .int v2), (2, .int v6), (3, .int v7)] [] := by
    intro nn
    induction nn with
    | zero => intro v6 v7 m8 h; exact absurd h (fun q => by cases q)
    | succ nn ih => intro v6 v7 m8 h; exact vB18 (f_X6_firstDeath_X60_18 n) (f_X6_firstDeath_L18 n v2 (f_X6_firstDeath_X60_18 n) nn) vX18 ih v6 v7 m8 h
  exact iv_sub [3, 2, 1, 0] rfl (vL18 n (0 : Int32) (-1000 : Int32) m1 h)
theorem qd_X6_firstDeath : yX6_firstDeath.cls = RX6 ∧ yX6_firstDeath.cls ≠ "java/lang/invoke/MethodHandle" ∧ yX6_firstDeath.cls ≠ "java/lang/invoke/VarHandle" ∧ (parseMethodDescriptor yX6_firstDeath.desc).map (fun d => d.parameters.length) = some 0 := by decide +kernel
def f_X6_willDeliver (n : Nat) (p1 : Int32) (σ : iw_M) : Option (Int32 × iw_M) :=
if (f_X6_in p1 (1 : Int32) (500 : Int32)) = (0 : Int32) then
(some ((-1002 : Int32), σ))
else
((f_X6_copies n (0 : Int32) (6 : Int32) σ).bind fun m2 =>
iw_b2 (f_X6_goesFor n p1 m2) fun v3 m4 =>
(f_X6_copies n (6 : Int32) (0 : Int32) m4).bind fun m5 =>
some (v3, m5))
abbrev rm_X6_willDeliver : Room := { frames := 7, cells := 0, slots := 0, locals := 164 }
set_option maxHeartbeats 4000000 in
set_option maxRecDepth 100000 in
theorem k_X6_willDeliver (l : Launch) (G : iw_G) (hJ : iw_JM G) (n : Nat) (p1 : Int32) (σ : iw_M) {r : Int32} {σ' : iw_M} (h : f_X6_willDeliver n p1 σ = some (r, σ')) : iw_Ct l yX6_willDeliver wsX6_willDeliver rm_X6_willDeliver G ([.ref (G.2.1 84), .int p1] : List Value) σ (some (.int r)) σ' := by
  refine iv_start (nL := 3) (own := RX6) (ret := (some .int)) (cc := cX6_willDeliver) (by decide +kernel) rfl rfl hJ.1 (Nat.le_of_ble_eq_true rfl) ?_
  intro p e s m below meth c0 C hr hlk
  refine iv_sub (lv' := [(0, .ref (G.2.1 84)), (1, .int p1)]) [0, 1] rfl ?_
  unfold f_X6_willDeliver at h
  refine iv_iload_n (pc := 0) C 1 dX6_willDeliver_0 rfl rfl ?_
  refine iv_iconst (pc := 1) C (1 : Int32) dX6_willDeliver_1 (by decide) ?_
  refine iv_sipush (pc := 2) C (500 : Int32) dX6_willDeliver_2 (by decide) ?_
  refine iv_callS (pc := 5) C [.int p1, .int (1 : Int32), .int (500 : Int32)] (k_X6_in l G hJ p1 (1 : Int32) (500 : Int32) σ rfl) gX6_willDeliver_X6_in rfl qd_X6_in ⟨rfl, rfl, Nat.le_of_ble_eq_true rfl, Nat.le_of_ble_eq_true rfl⟩ rfl rfl (Nat.le_of_ble_eq_true rfl) dX6_willDeliver_5 ?_
  refine iv_if_ne (pc := 8) C 15 dX6_willDeliver_8 (by decide) (fun h1 => ?_) (fun h1 => ?_)
  · replace h := iw_iff h1 h
    refine iv_aload_n (pc := 15) C 0 dX6_willDeliver_15 rfl rfl ?_
    refine iv_iconst (pc := 16) C (0 : Int32) dX6_willDeliver_16 (by decide) ?_
    refine iv_bipush (pc := 17) C (6 : Int32) dX6_willDeliver_17 (by decide) ?_
    obtain ⟨m2, em2, h⟩ := iw_be h
    refine iv_callV (pc := 19) (b := 84) (ci := 6) C [.int (0 : Int32), .int (6 : Int32)] (k_X6_copies l G hJ n (0 : Int32) (6 : Int32) σ em2) gX6_willDeliver_X6_copies rfl qd_X6_copies ⟨rfl, rfl, Nat.le_of_ble_eq_true rfl, Nat.le_of_ble_eq_true rfl⟩ (iw_im hJ (by decide)) iw_Eo84 rfl rfl rfl (Nat.le_of_ble_eq_true rfl) dX6_willDeliver_19 ?_
    refine iv_aload_n (pc := 22) C 0 dX6_willDeliver_22 rfl rfl ?_
    refine iv_iload_n (pc := 23) C 1 dX6_willDeliver_23 rfl rfl ?_
    obtain ⟨v3, m4, ev3, h⟩ := iw_b2e h
    refine iv_callV (pc := 24) (b := 84) (ci := 6) C [.int p1] (k_X6_goesFor l G hJ n p1 m2 ev3) gX6_willDeliver_X6_goesFor rfl qd_X6_goesFor ⟨rfl, rfl, Nat.le_of_ble_eq_true rfl, Nat.le_of_ble_eq_true rfl⟩ (iw_im hJ (by decide)) iw_Eo84 rfl rfl rfl (Nat.le_of_ble_eq_true rfl) dX6_willDeliver_24 ?_
    refine iv_istore_n (pc := 27) C [(2, .int v3), (0, .ref (G.2.1 84)), (1, .int p1)] dX6_willDeliver_27 rfl (by decide) rfl ?_
    refine iv_aload_n (pc := 28) C 1 dX6_willDeliver_28 rfl rfl ?_
    refine iv_bipush (pc := 29) C (6 : Int32) dX6_willDeliver_29 (by decide) ?_
    refine iv_iconst (pc := 31) C (0 : Int32) dX6_willDeliver_31 (by decide) ?_
    obtain ⟨m5, em5, h⟩ := iw_be h
    refine iv_callV (pc := 32) (b := 84) (ci := 6) C [.int (6 : Int32), .int (0 : Int32)] (k_X6_copies l G hJ n (6 : Int32) (0 : Int32) m4 em5) gX6_willDeliver_X6_copies rfl qd_X6_copies ⟨rfl, rfl, Nat.le_of_ble_eq_true rfl, Nat.le_of_ble_eq_true rfl⟩ (iw_im hJ (by decide)) iw_Eo84 rfl rfl rfl (Nat.le_of_ble_eq_true rfl) dX6_willDeliver_32 ?_
    refine iv_iload_n (pc := 35) C 0 dX6_willDeliver_35 rfl rfl ?_
    cases h
    exact iv_iret C hr hlk rfl rfl dX6_willDeliver_36
  · replace h := iw_ift h1 h
    refine iv_sipush (pc := 11) C (-1002 : Int32) dX6_willDeliver_11 (by decide) ?_
    cases h
    exact iv_iret C hr hlk rfl rfl dX6_willDeliver_14
theorem qd_X6_willDeliver : yX6_willDeliver.cls = RX6 ∧ yX6_willDeliver.cls ≠ "java/lang/invoke/MethodHandle" ∧ yX6_willDeliver.cls ≠ "java/lang/invoke/VarHandle" ∧ (parseMethodDescriptor yX6_willDeliver.desc).map (fun d => d.parameters.length) = some 1 := by decide +kernel
def f_X6_bestPeriod_X92_31 (n : Nat) (v3 : Int32) (m4 : iw_M) : Option (Int32 × iw_M) :=
(f_X6_copies n (6 : Int32) (0 : Int32) m4).bind fun m5 =>
some (v3, m5)
def f_X6_bestPeriod_J85 (r31 : Int32 → Int32 → Int32 → iw_M → Option (Int32 × iw_M)) (v8 : Int32) (m14 : iw_M) (v15 : Int32) (v16 : Int32) : Option (Int32 × iw_M) :=
iw_let (v8 + (1 : Int32)) fun v17 =>
r31 v15 v16 v17 m14
def f_X6_bestPeriod_J72 (r31 : Int32 → Int32 → Int32 → iw_M → Option (Int32 × iw_M)) (v7 : Int32) (v8 : Int32) (v13 : Int32) (m14 : iw_M) (v15 : Int32) : Option (Int32 × iw_M) :=
if v13 ≤ v7 then
(f_X6_bestPeriod_J85 r31 v8 m14 v15 v7)
else
(f_X6_bestPeriod_J85 r31 v8 m14 v15 v13)
def f_X6_bestPeriod_B31 (n : Nat) (p1 : Int32) (k31 : Int32 → iw_M → Option (Int32 × iw_M)) (r31 : Int32 → Int32 → Int32 → iw_M → Option (Int32 × iw_M)) (v6 : Int32) (v7 : Int32) (v8 : Int32) (m9 : iw_M) : Option (Int32 × iw_M) :=
if (50 : Int32) < v8 then
(k31 v6 m9)
else
((f_X6_copies n (6 : Int32) (0 : Int32) m9).bind fun m11 =>
(iw_wr m11 85 (4 : Int32) v8).bind fun m12 =>
iw_b2 (f_X6_goesFor n p1 m12) fun v13 m14 =>
if v13 ≤ v7 then
(f_X6_bestPeriod_J72 r31 v7 v8 v13 m14 v6)
else
(f_X6_bestPeriod_J72 r31 v7 v8 v13 m14 v8))
def f_X6_bestPeriod_L31 (n : Nat) (p1 : Int32) (k31 : Int32 → iw_M → Option (Int32 × iw_M)) (nn : Nat) : Int32 → Int32 → Int32 → iw_M → Option (Int32 × iw_M) :=
iw_it (fun r31 => f_X6_bestPeriod_B31 n p1 k31 r31) (fun _ _ _ _ => none) nn
def f_X6_bestPeriod (n : Nat) (p1 : Int32) (σ : iw_M) : Option (Int32 × iw_M) :=
if (f_X6_in p1 (1 : Int32) (200 : Int32)) = (0 : Int32) then
(some ((-1002 : Int32), σ))
else
((f_X6_copies n (0 : Int32) (6 : Int32) σ).bind fun m2 =>
f_X6_bestPeriod_L31 n p1 (f_X6_bestPeriod_X92_31 n) n (1 : Int32) (-1000 : Int32) (1 : Int32) m2)
abbrev rm_X6_bestPeriod : Room := { frames := 7, cells := 0, slots := 0, locals := 164 }
theorem lk_X6_bestPeriod_7 : Cond.fieldLink RX6 7 RX6 (TX6 0).2.1 (TX6 0).2.2.1 ∈ wsX6_bestPeriod := by decide +kernel
theorem in_X6_bestPeriod_6 : ∀ w ∈ u_ws RX6 TX6 16, w ∈ wsX6_bestPeriod := by decide +kernel
set_option maxHeartbeats 4000000 in
set_option maxRecDepth 100000 in
theorem k_X6_bestPeriod (l : Launch) (G : iw_G) (hJ : iw_JM G) (n : Nat) (p1 : Int32) (σ : iw_M) {r : Int32} {σ' : iw_M} (h : f_X6_bestPeriod n p1 σ = some (r, σ')) : iw_Ct l yX6_bestPeriod wsX6_bestPeriod rm_X6_bestPeriod G ([.ref (G.2.1 84), .int p1] : List Value) σ (some (.int r)) σ' := by
  refine iv_start (nL := 6) (own := RX6) (ret := (some .int)) (cc := cX6_bestPeriod) (by decide +kernel) rfl rfl hJ.1 (Nat.le_of_ble_eq_true rfl) ?_
  intro p e s m below meth c0 C hr hlk
  refine iv_sub (lv' := [(0, .ref (G.2.1 84)), (1, .int p1)]) [0, 1] rfl ?_
  unfold f_X6_bestPeriod at h
  refine iv_iload_n (pc := 0) C 1 dX6_bestPeriod_0 rfl rfl ?_
  refine iv_iconst (pc := 1) C (1 : Int32) dX6_bestPeriod_1 (by decide) ?_
  refine iv_sipush (pc := 2) C (200 : Int32) dX6_bestPeriod_2 (by decide) ?_
  refine iv_callS (pc := 5) C [.int p1, .int (1 : Int32), .int (200 : Int32)] (k_X6_in l G hJ p1 (1 : Int32) (200 : Int32) σ rfl) gX6_bestPeriod_X6_in rfl qd_X6_in ⟨rfl, rfl, Nat.le_of_ble_eq_true rfl, Nat.le_of_ble_eq_true rfl⟩ rfl rfl (Nat.le_of_ble_eq_true rfl) dX6_bestPeriod_5 ?_
  refine iv_if_ne (pc := 8) C 15 dX6_bestPeriod_8 (by decide) (fun h1 => ?_) (fun h1 => ?_)
  · replace h := iw_iff h1 h
    refine iv_aload_n (pc := 15) C 0 dX6_bestPeriod_15 rfl rfl ?_
    refine iv_iconst (pc := 16) C (0 : Int32) dX6_bestPeriod_16 (by decide) ?_
    refine iv_bipush (pc := 17) C (6 : Int32) dX6_bestPeriod_17 (by decide) ?_
    obtain ⟨m2, em2, h⟩ := iw_be h
    refine iv_callV (pc := 19) (b := 84) (ci := 6) C [.int (0 : Int32), .int (6 : Int32)] (k_X6_copies l G hJ n (0 : Int32) (6 : Int32) σ em2) gX6_bestPeriod_X6_copies rfl qd_X6_copies ⟨rfl, rfl, Nat.le_of_ble_eq_true rfl, Nat.le_of_ble_eq_true rfl⟩ (iw_im hJ (by decide)) iw_Eo84 rfl rfl rfl (Nat.le_of_ble_eq_true rfl) dX6_bestPeriod_19 ?_
    refine iv_iconst (pc := 22) C (1 : Int32) dX6_bestPeriod_22 (by decide) ?_
    refine iv_istore_n (pc := 23) C [(2, .int (1 : Int32)), (0, .ref (G.2.1 84)), (1, .int p1)] dX6_bestPeriod_23 rfl (by decide) rfl ?_
    refine iv_sipush (pc := 24) C (-1000 : Int32) dX6_bestPeriod_24 (by decide) ?_
    refine iv_istore_n (pc := 27) C [(3, .int (-1000 : Int32)), (2, .int (1 : Int32)), (0, .ref (G.2.1 84)), (1, .int p1)] dX6_bestPeriod_27 rfl (by decide) rfl ?_
    refine iv_iconst (pc := 28) C (1 : Int32) dX6_bestPeriod_28 (by decide) ?_
    refine iv_istore (pc := 29) C [(4, .int (1 : Int32)), (3, .int (-1000 : Int32)), (2, .int (1 : Int32)), (0, .ref (G.2.1 84)), (1, .int p1)] dX6_bestPeriod_29 (by decide) rfl ?_
    have vX31 : ∀ (v3 : Int32) (m4 : iw_M), f_X6_bestPeriod_X92_31 n v3 m4 = some (r, σ') → iw_V p l e rm_X6_bestPeriod s m ([.ref (G.2.1 84), .int p1] : List Value).toArray below meth c0 0 0 (MQ below (iw_Q (some (.int r)) G σ') ([.ref (G.2.1 84), .int p1] : List Value).toArray s 0 0 (iw_A G)) 6 G (iw_A G) m4 92 [(0, .ref (G.2.1 84)), (2, .int v3)] [] := by
      intro v3 m4 h
      unfold f_X6_bestPeriod_X92_31 at h
      refine iv_aload_n (pc := 92) C 0 dX6_bestPeriod_92 rfl rfl ?_
      refine iv_bipush (pc := 93) C (6 : Int32) dX6_bestPeriod_93 (by decide) ?_
      refine iv_iconst (pc := 95) C (0 : Int32) dX6_bestPeriod_95 (by decide) ?_
      obtain ⟨m5, em5, h⟩ := iw_be h
      refine iv_callV (pc := 96) (b := 84) (ci := 6) C [.int (6 : Int32), .int (0 : Int32)] (k_X6_copies l G hJ n (6 : Int32) (0 : Int32) m4 em5) gX6_bestPeriod_X6_copies rfl qd_X6_copies ⟨rfl, rfl, Nat.le_of_ble_eq_true rfl, Nat.le_of_ble_eq_true rfl⟩ (iw_im hJ (by decide)) iw_Eo84 rfl rfl rfl (Nat.le_of_ble_eq_true rfl) dX6_bestPeriod_96 ?_
      refine iv_iload_n (pc := 99) C 1 dX6_bestPeriod_99 rfl rfl ?_
      cases h
      exact iv_iret C hr hlk rfl rfl dX6_bestPeriod_100
    have vB31 : ∀ (k31 : Int32 → iw_M → Option (Int32 × iw_M)) (r31 : Int32 → Int32 → Int32 → iw_M → Option (Int32 × iw_M)), (∀ (v3 : Int32) (m4 : iw_M), k31 v3 m4 = some (r, σ') → iw_V p l e rm_X6_bestPeriod s m ([.ref (G.2.1 84), .int p1] : List Value).toArray below meth c0 0 0 (MQ below (iw_Q (some (.int r)) G σ') ([.ref (G.2.1 84), .int p1] : List Value).toArray s 0 0 (iw_A G)) 6 G (iw_A G) m4 92 [(0, .ref (G.2.1 84)), (2, .int v3)] []) → (∀ (v6 : Int32) (v7 : Int32) (v8 : Int32) (m9 : iw_M), r31 v6 v7 v8 m9 = some (r, σ') → iw_V p l e rm_X6_bestPeriod s m ([.ref (G.2.1 84), .int p1] : List Value).toArray below meth c0 0 0 (MQ below (iw_Q (some (.int r)) G σ') ([.ref (G.2.1 84), .int p1] : List Value).toArray s 0 0 (iw_A G)) 6 G (iw_A G) m9 31 [(0, .ref (G.2.1 84)), (1, .int p1), (2, .int v6), (3, .int v7), (4, .int v8)] []) → ∀ (v6 : Int32) (v7 : Int32) (v8 : Int32) (m9 : iw_M), f_X6_bestPeriod_B31 n p1 k31 r31 v6 v7 v8 m9 = some (r, σ') → iw_V p l e rm_X6_bestPeriod s m ([.ref (G.2.1 84), .int p1] : List Value).toArray below meth c0 0 0 (MQ below (iw_Q (some (.int r)) G σ') ([.ref (G.2.1 84), .int p1] : List Value).toArray s 0 0 (iw_A G)) 6 G (iw_A G) m9 31 [(0, .ref (G.2.1 84)), (1, .int p1), (2, .int v6), (3, .int v7), (4, .int v8)] [] := by
      intro k31 r31 hk31 hr31 v6 v7 v8 m9 h
      unfold f_X6_bestPeriod_B31 at h
      refine iv_iload (pc := 31) C 4 dX6_bestPeriod_31 rfl ?_
      refine iv_bipush (pc := 33) C (50 : Int32) dX6_bestPeriod_33 (by decide) ?_
      refine iv_icmp_gt (pc := 35) C 92 dX6_bestPeriod_35 (by decide) (fun h10 => ?_) (fun h10 => ?_)
      · replace h := iw_ift h10 h
        exact iv_sub [0, 2] rfl (hk31 v6 m9 h)
      · replace h := iw_iff h10 h
        refine iv_aload_n (pc := 38) C 0 dX6_bestPeriod_38 rfl rfl ?_
        refine iv_bipush (pc := 39) C (6 : Int32) dX6_bestPeriod_39 (by decide) ?_
        refine iv_iconst (pc := 41) C (0 : Int32) dX6_bestPeriod_41 (by decide) ?_
        obtain ⟨m11, em11, h⟩ := iw_be h
        refine iv_callV (pc := 42) (b := 84) (ci := 6) C [.int (6 : Int32), .int (0 : Int32)] (k_X6_copies l G hJ n (6 : Int32) (0 : Int32) m9 em11) gX6_bestPeriod_X6_copies rfl qd_X6_copies ⟨rfl, rfl, Nat.le_of_ble_eq_true rfl, Nat.le_of_ble_eq_true rfl⟩ (iw_im hJ (by decide)) iw_Eo84 rfl rfl rfl (Nat.le_of_ble_eq_true rfl) dX6_bestPeriod_42 ?_
        refine iv_aload_n (pc := 45) C 0 dX6_bestPeriod_45 rfl rfl ?_
        refine iv_getf (pc := 46) (T := TX6) (N := 16) (ci := 6) C 84 0 in_X6_bestPeriod_6 (iw_im hJ (by decide)) iw_Eo84 rfl (by decide) lk_X6_bestPeriod_7 rfl rfl dX6_bestPeriod_46 ?_
        refine iv_iconst (pc := 49) C (4 : Int32) dX6_bestPeriod_49 (by decide) ?_
        refine iv_iload (pc := 50) C 4 dX6_bestPeriod_50 rfl ?_
        obtain ⟨m12, em12, h⟩ := iw_be h
        refine iv_wr (pc := 52) C 85 (iw_lm hJ rfl (by decide)) em12 dX6_bestPeriod_52 ?_
        refine iv_aload_n (pc := 53) C 0 dX6_bestPeriod_53 rfl rfl ?_
        refine iv_iload_n (pc := 54) C 1 dX6_bestPeriod_54 rfl rfl ?_
        obtain ⟨v13, m14, ev13, h⟩ := iw_b2e h
        refine iv_callV (pc := 55) (b := 84) (ci := 6) C [.int p1] (k_X6_goesFor l G hJ n p1 m12 ev13) gX6_bestPeriod_X6_goesFor rfl qd_X6_goesFor ⟨rfl, rfl, Nat.le_of_ble_eq_true rfl, Nat.le_of_ble_eq_true rfl⟩ (iw_im hJ (by decide)) iw_Eo84 rfl rfl rfl (Nat.le_of_ble_eq_true rfl) dX6_bestPeriod_55 ?_
        refine iv_istore (pc := 58) C [(5, .int v13), (0, .ref (G.2.1 84)), (1, .int p1), (2, .int v6), (3, .int v7), (4, .int v8)] dX6_bestPeriod_58 (by decide) rfl ?_
        refine iv_iload (pc := 60) C 0 dX6_bestPeriod_60 rfl ?_
        refine iv_iload_n (pc := 62) C 4 dX6_bestPeriod_62 rfl rfl ?_
        have vJ72 : ∀ (v15 : Int32), f_X6_bestPeriod_J72 r31 v7 v8 v13 m14 v15 = some (r, σ') → iw_V p l e rm_X6_bestPeriod s m ([.ref (G.2.1 84), .int p1] : List Value).toArray below meth c0 0 0 (MQ below (iw_Q (some (.int r)) G σ') ([.ref (G.2.1 84), .int p1] : List Value).toArray s 0 0 (iw_A G)) 6 G (iw_A G) m14 72 [(0, .ref (G.2.1 84)), (1, .int p1), (3, .int v7), (4, .int v8), (5, .int v13)] [.int v15] := by
          intro v15 h
          unfold f_X6_bestPeriod_J72 at h
          refine iv_istore_n (pc := 72) C [(2, .int v15), (0, .ref (G.2.1 84)), (1, .int p1), (3, .int v7), (4, .int v8), (5, .int v13)] dX6_bestPeriod_72 rfl (by decide) rfl ?_
          refine iv_iload (pc := 73) C 5 dX6_bestPeriod_73 rfl ?_
          refine iv_iload_n (pc := 75) C 3 dX6_bestPeriod_75 rfl rfl ?_
          have vJ85 : ∀ (v16 : Int32), f_X6_bestPeriod_J85 r31 v8 m14 v15 v16 = some (r, σ') → iw_V p l e rm_X6_bestPeriod s m ([.ref (G.2.1 84), .int p1] : List Value).toArray below meth c0 0 0 (MQ below (iw_Q (some (.int r)) G σ') ([.ref (G.2.1 84), .int p1] : List Value).toArray s 0 0 (iw_A G)) 6 G (iw_A G) m14 85 [(0, .ref (G.2.1 84)), (1, .int p1), (2, .int v15), (4, .int v8)] [.int v16] := by
            intro v16 h
            unfold f_X6_bestPeriod_J85 at h
            refine iv_istore_n (pc := 85) C [(3, .int v16), (0, .ref (G.2.1 84)), (1, .int p1), (2, .int v15), (4, .int v8)] dX6_bestPeriod_85 rfl (by decide) rfl ?_
            obtain ⟨v17, ev17⟩ : ∃ y : Int32, y = v8 + (1 : Int32) := ⟨_, rfl⟩
            replace h := iw_lete ev17 h
            refine iv_iinc (pc := 86) C 4 v17 [(4, .int v17), (3, .int v16), (0, .ref (G.2.1 84)), (1, .int p1), (2, .int v15)] dX6_bestPeriod_86 rfl (by rw [ev17]; rfl) (by decide) rfl ?_
            refine iv_goto (pc := 89) C 31 dX6_bestPeriod_89 (by decide) ?_
            exact iv_sub [2, 3, 4, 1, 0] rfl (hr31 v15 v16 v17 m14 h)
          refine iv_icmp_le (pc := 76) C 84 dX6_bestPeriod_76 (by decide) (fun h18 => ?_) (fun h18 => ?_)
          · replace h := iw_ift h18 h
            refine iv_iload_n (pc := 84) C 3 dX6_bestPeriod_84 rfl rfl ?_
            exact iv_sub [1, 2, 0, 4] rfl (vJ85 v7 h)
          · replace h := iw_iff h18 h
            refine iv_iload (pc := 79) C 5 dX6_bestPeriod_79 rfl ?_
            refine iv_goto (pc := 81) C 85 dX6_bestPeriod_81 (by decide) ?_
            exact iv_sub [1, 2, 0, 4] rfl (vJ85 v13 h)
        refine iv_icmp_le (pc := 63) C 71 dX6_bestPeriod_63 (by decide) (fun h19 => ?_) (fun h19 => ?_)
        · replace h := iw_ift h19 h
          refine iv_iload_n (pc := 71) C 3 dX6_bestPeriod_71 rfl rfl ?_
          exact iv_sub [1, 2, 4, 5, 0] rfl (vJ72 v6 h)
        · replace h := iw_iff h19 h
          refine iv_iload (pc := 66) C 5 dX6_bestPeriod_66 rfl ?_
          refine iv_goto (pc := 68) C 72 dX6_bestPeriod_68 (by decide) ?_
          exact iv_sub [1, 2, 4, 5, 0] rfl (vJ72 v8 h)
    have vL31 : ∀ (nn : Nat) (v6 : Int32) (v7 : Int32) (v8 : Int32) (m9 : iw_M), f_X6_bestPeriod_L31 n p1 (f_X6_bestPeriod_X92_31 n) nn v6 v7 v8 m9 = some (r, σ') → iw_V p l e rm_X6_bestPeriod s m ([.ref (G.2.1 84), .int p1] : List Value).toArray below meth c0 0 0 (MQ below (iw_Q (some (.int r)) G σ') ([.ref (G.2.1 84), .int p1] : List Value).toArray s 0 0 (iw_A G)) 6 G (iw_A G) m9 31 [(0, .ref (G.2.1 84)), (1, .int p1), (2, .int v6), (3, .int v7), (4, .int v8)] [] := by
      intro nn
      induction nn with
      | zero => intro v6 v7 v8 m9 h; exact absurd h (fun q => by cases q)
      | succ nn ih => intro v6 v7 v8 m9 h; exact vB31 (f_X6_bestPeriod_X92_31 n) (f_X6_bestPeriod_L31 n p1 (f_X6_bestPeriod_X92_31 n) nn) vX31 ih v6 v7 v8 m9 h
    exact iv_sub [3, 4, 2, 1, 0] rfl (vL31 n (1 : Int32) (-1000 : Int32) (1 : Int32) m2 h)
  · replace h := iw_ift h1 h
    refine iv_sipush (pc := 11) C (-1002 : Int32) dX6_bestPeriod_11 (by decide) ?_
    cases h
    exact iv_iret C hr hlk rfl rfl dX6_bestPeriod_14
theorem qd_X6_bestPeriod : yX6_bestPeriod.cls = RX6 ∧ yX6_bestPeriod.cls ≠ "java/lang/invoke/MethodHandle" ∧ yX6_bestPeriod.cls ≠ "java/lang/invoke/VarHandle" ∧ (parseMethodDescriptor yX6_bestPeriod.desc).map (fun d => d.parameters.length) = some 1 := by decide +kernel
def f_X6_undo (n : Nat) (σ : iw_M) : Option (Int32 × iw_M) :=
if (σ 84 1) = (0 : Int32) then
(some ((-1003 : Int32), σ))
else
((f_X6_copies n (σ 84 1) (0 : Int32) σ).bind fun m2 =>
iw_let (iw_up m2 84 1 ((m2 84 1) - (1 : Int32))) fun m3 =>
some ((m3 84 1), m3))
abbrev rm_X6_undo : Room := { frames := 1, cells := 0, slots := 0, locals := 23 }
theorem lk_X6_undo_35 : Cond.fieldLink RX6 35 RX6 (TX6 1).2.1 (TX6 1).2.2.1 ∈ wsX6_undo := by decide +kernel
theorem in_X6_undo_6 : ∀ w ∈ u_ws RX6 TX6 16, w ∈ wsX6_undo := by decide +kernel
set_option maxHeartbeats 4000000 in
set_option maxRecDepth 100000 in
theorem k_X6_undo (l : Launch) (G : iw_G) (hJ : iw_JM G) (n : Nat) (σ : iw_M) {r : Int32} {σ' : iw_M} (h : f_X6_undo n σ = some (r, σ')) : iw_Ct l yX6_undo wsX6_undo rm_X6_undo G ([.ref (G.2.1 84)] : List Value) σ (some (.int r)) σ' := by
  refine iv_start (nL := 1) (own := RX6) (ret := (some .int)) (cc := cX6_undo) (by decide +kernel) rfl rfl hJ.1 (Nat.le_of_ble_eq_true rfl) ?_
  intro p e s m below meth c0 C hr hlk
  refine iv_sub (lv' := [(0, .ref (G.2.1 84))]) [0] rfl ?_
  unfold f_X6_undo at h
  refine iv_aload_n (pc := 0) C 0 dX6_undo_0 rfl rfl ?_
  refine iv_getf (pc := 1) (T := TX6) (N := 16) (ci := 6) C 84 1 in_X6_undo_6 (iw_im hJ (by decide)) iw_Eo84 rfl (by decide) lk_X6_undo_35 rfl rfl dX6_undo_1 ?_
  refine iv_if_ne (pc := 4) C 11 dX6_undo_4 (by decide) (fun h1 => ?_) (fun h1 => ?_)
  · replace h := iw_iff h1 h
    refine iv_aload_n (pc := 11) C 0 dX6_undo_11 rfl rfl ?_
    refine iv_aload_n (pc := 12) C 0 dX6_undo_12 rfl rfl ?_
    refine iv_getf (pc := 13) (T := TX6) (N := 16) (ci := 6) C 84 1 in_X6_undo_6 (iw_im hJ (by decide)) iw_Eo84 rfl (by decide) lk_X6_undo_35 rfl rfl dX6_undo_13 ?_
    refine iv_iconst (pc := 16) C (0 : Int32) dX6_undo_16 (by decide) ?_
    obtain ⟨m2, em2, h⟩ := iw_be h
    refine iv_callV (pc := 17) (b := 84) (ci := 6) C [.int (σ 84 1), .int (0 : Int32)] (k_X6_copies l G hJ n (σ 84 1) (0 : Int32) σ em2) gX6_undo_X6_copies rfl qd_X6_copies ⟨rfl, rfl, Nat.le_of_ble_eq_true rfl, Nat.le_of_ble_eq_true rfl⟩ (iw_im hJ (by decide)) iw_Eo84 rfl rfl rfl (Nat.le_of_ble_eq_true rfl) dX6_undo_17 ?_
    refine iv_aload_n (pc := 20) C 0 dX6_undo_20 rfl rfl ?_
    refine iv_dup (pc := 21) C rfl dX6_undo_21 ?_
    refine iv_getf (pc := 22) (T := TX6) (N := 16) (ci := 6) C 84 1 in_X6_undo_6 (iw_im hJ (by decide)) iw_Eo84 rfl (by decide) lk_X6_undo_35 rfl rfl dX6_undo_22 ?_
    refine iv_iconst (pc := 25) C (1 : Int32) dX6_undo_25 (by decide) ?_
    refine iv_isub (pc := 26) C dX6_undo_26 ?_
    refine iv_putf (pc := 27) (T := TX6) (N := 16) (ci := 6) C 84 1 (iw_up m2 84 1 ((m2 84 1) - (1 : Int32))) in_X6_undo_6 (iw_im hJ (by decide)) iw_Eo84 tyX6_ok nmX6 rfl (by decide) lk_X6_undo_35 rfl rfl (tyX6_ok 1 (by decide)) rfl rfl (Nat.le_of_ble_eq_true rfl) rfl (fun b hb => iw_up_ne hb) dX6_undo_27 ?_
    refine iv_topm (fun m3 em3 => ?_)
    replace h := iw_lete em3 h
    refine iv_aload_n (pc := 30) C 0 dX6_undo_30 rfl rfl ?_
    refine iv_getf (pc := 31) (T := TX6) (N := 16) (ci := 6) C 84 1 in_X6_undo_6 (iw_im hJ (by decide)) iw_Eo84 rfl (by decide) lk_X6_undo_35 rfl rfl dX6_undo_31 ?_
    cases h
    exact iv_iret C hr hlk rfl rfl dX6_undo_34
  · replace h := iw_ift h1 h
    refine iv_sipush (pc := 7) C (-1003 : Int32) dX6_undo_7 (by decide) ?_
    cases h
    exact iv_iret C hr hlk rfl rfl dX6_undo_10
theorem qd_X6_undo : yX6_undo.cls = RX6 ∧ yX6_undo.cls ≠ "java/lang/invoke/MethodHandle" ∧ yX6_undo.cls ≠ "java/lang/invoke/VarHandle" ∧ (parseMethodDescriptor yX6_undo.desc).map (fun d => d.parameters.length) = some 0 := by decide +kernel
def f_X6_type (p1 : Int32) (σ : iw_M) : Option (Int32 × iw_M) :=
if (f_X6_in p1 (0 : Int32) (255 : Int32)) = (0 : Int32) then
(some ((-1002 : Int32), σ))
else
(if (σ 84 11) = (120 : Int32) then
(some ((-1004 : Int32), σ))
else
((iw_wr σ 92 (σ 84 11) p1).bind fun m3 =>
iw_let (iw_up m3 84 11 ((m3 84 11) + (1 : Int32))) fun m4 =>
some ((m4 84 11), m4)))
abbrev rm_X6_type : Room := { frames := 1, cells := 0, slots := 0, locals := 22 }
theorem lk_X6_type_162 : Cond.fieldLink RX6 162 RX6 (TX6 11).2.1 (TX6 11).2.2.1 ∈ wsX6_type := by decide +kernel
theorem lk_X6_type_32 : Cond.fieldLink RX6 32 RX6 (TX6 10).2.1 (TX6 10).2.2.1 ∈ wsX6_type := by decide +kernel
theorem in_X6_type_6 : ∀ w ∈ u_ws RX6 TX6 16, w ∈ wsX6_type := by decide +kernel
set_option maxHeartbeats 4000000 in
set_option maxRecDepth 100000 in
theorem k_X6_type (l : Launch) (G : iw_G) (hJ : iw_JM G) (p1 : Int32) (σ : iw_M) {r : Int32} {σ' : iw_M} (h : f_X6_type p1 σ = some (r, σ')) : iw_Ct l yX6_type wsX6_type rm_X6_type G ([.ref (G.2.1 84), .int p1] : List Value) σ (some (.int r)) σ' := by
  refine iv_start (nL := 2) (own := RX6) (ret := (some .int)) (cc := cX6_type) (by decide +kernel) rfl rfl hJ.1 (Nat.le_of_ble_eq_true rfl) ?_
  intro p e s m below meth c0 C hr hlk
  refine iv_sub (lv' := [(0, .ref (G.2.1 84)), (1, .int p1)]) [0, 1] rfl ?_
  unfold f_X6_type at h
  refine iv_iload_n (pc := 0) C 1 dX6_type_0 rfl rfl ?_
  refine iv_iconst (pc := 1) C (0 : Int32) dX6_type_1 (by decide) ?_
  refine iv_sipush (pc := 2) C (255 : Int32) dX6_type_2 (by decide) ?_
  refine iv_callS (pc := 5) C [.int p1, .int (0 : Int32), .int (255 : Int32)] (k_X6_in l G hJ p1 (0 : Int32) (255 : Int32) σ rfl) gX6_type_X6_in rfl qd_X6_in ⟨rfl, rfl, Nat.le_of_ble_eq_true rfl, Nat.le_of_ble_eq_true rfl⟩ rfl rfl (Nat.le_of_ble_eq_true rfl) dX6_type_5 ?_
  refine iv_if_ne (pc := 8) C 15 dX6_type_8 (by decide) (fun h1 => ?_) (fun h1 => ?_)
  · replace h := iw_iff h1 h
    refine iv_aload_n (pc := 15) C 0 dX6_type_15 rfl rfl ?_
    refine iv_getf (pc := 16) (T := TX6) (N := 16) (ci := 6) C 84 11 in_X6_type_6 (iw_im hJ (by decide)) iw_Eo84 rfl (by decide) lk_X6_type_162 rfl rfl dX6_type_16 ?_
    refine iv_bipush (pc := 19) C (120 : Int32) dX6_type_19 (by decide) ?_
    refine iv_icmp_ne (pc := 21) C 28 dX6_type_21 (by decide) (fun h2 => ?_) (fun h2 => ?_)
    · replace h := iw_iff h2 h
      refine iv_aload_n (pc := 28) C 0 dX6_type_28 rfl rfl ?_
      refine iv_getf (pc := 29) (T := TX6) (N := 16) (ci := 6) C 84 10 in_X6_type_6 (iw_im hJ (by decide)) iw_Eo84 rfl (by decide) lk_X6_type_32 rfl rfl dX6_type_29 ?_
      refine iv_aload_n (pc := 32) C 0 dX6_type_32 rfl rfl ?_
      refine iv_getf (pc := 33) (T := TX6) (N := 16) (ci := 6) C 84 11 in_X6_type_6 (iw_im hJ (by decide)) iw_Eo84 rfl (by decide) lk_X6_type_162 rfl rfl dX6_type_33 ?_
      refine iv_iload_n (pc := 36) C 1 dX6_type_36 rfl rfl ?_
      obtain ⟨m3, em3, h⟩ := iw_be h
      refine iv_wr (pc := 37) C 92 (iw_lm hJ rfl (by decide)) em3 dX6_type_37 ?_
      refine iv_aload_n (pc := 38) C 0 dX6_type_38 rfl rfl ?_
      refine iv_dup (pc := 39) C rfl dX6_type_39 ?_
      refine iv_getf (pc := 40) (T := TX6) (N := 16) (ci := 6) C 84 11 in_X6_type_6 (iw_im hJ (by decide)) iw_Eo84 rfl (by decide) lk_X6_type_162 rfl rfl dX6_type_40 ?_
      refine iv_iconst (pc := 43) C (1 : Int32) dX6_type_43 (by decide) ?_
      refine iv_iadd (pc := 44) C dX6_type_44 ?_
      refine iv_putf (pc := 45) (T := TX6) (N := 16) (ci := 6) C 84 11 (iw_up m3 84 11 ((m3 84 11) + (1 : Int32))) in_X6_type_6 (iw_im hJ (by decide)) iw_Eo84 tyX6_ok nmX6 rfl (by decide) lk_X6_type_162 rfl rfl (tyX6_ok 11 (by decide)) rfl rfl (Nat.le_of_ble_eq_true rfl) rfl (fun b hb => iw_up_ne hb) dX6_type_45 ?_
      refine iv_topm (fun m4 em4 => ?_)
      replace h := iw_lete em4 h
      refine iv_aload_n (pc := 48) C 0 dX6_type_48 rfl rfl ?_
      refine iv_getf (pc := 49) (T := TX6) (N := 16) (ci := 6) C 84 11 in_X6_type_6 (iw_im hJ (by decide)) iw_Eo84 rfl (by decide) lk_X6_type_162 rfl rfl dX6_type_49 ?_
      cases h
      exact iv_iret C hr hlk rfl rfl dX6_type_52
    · replace h := iw_ift h2 h
      refine iv_sipush (pc := 24) C (-1004 : Int32) dX6_type_24 (by decide) ?_
      cases h
      exact iv_iret C hr hlk rfl rfl dX6_type_27
  · replace h := iw_ift h1 h
    refine iv_sipush (pc := 11) C (-1002 : Int32) dX6_type_11 (by decide) ?_
    cases h
    exact iv_iret C hr hlk rfl rfl dX6_type_14
theorem qd_X6_type : yX6_type.cls = RX6 ∧ yX6_type.cls ≠ "java/lang/invoke/MethodHandle" ∧ yX6_type.cls ≠ "java/lang/invoke/VarHandle" ∧ (parseMethodDescriptor yX6_type.desc).map (fun d => d.parameters.length) = some 1 := by decide +kernel
def f_X6_clearText (σ : iw_M) : Int32 × iw_M :=
iw_let (σ 84 11) fun v1 =>
iw_let (iw_up σ 84 11 (0 : Int32)) fun m2 =>
(v1, m2)
abbrev rm_X6_clearText : Room := { frames := 0, cells := 0, slots := 0, locals := 0 }
theorem lk_X6_clearText_162 : Cond.fieldLink RX6 162 RX6 (TX6 11).2.1 (TX6 11).2.2.1 ∈ wsX6_clearText := by decide +kernel
theorem in_X6_clearText_6 : ∀ w ∈ u_ws RX6 TX6 16, w ∈ wsX6_clearText := by decide +kernel
set_option maxHeartbeats 4000000 in
set_option maxRecDepth 100000 in
theorem k_X6_clearText (l : Launch) (G : iw_G) (hJ : iw_JM G) (σ : iw_M) {r : Int32} {σ' : iw_M} (h : f_X6_clearText σ = (r, σ')) : iw_Ct l yX6_clearText wsX6_clearText rm_X6_clearText G ([.ref (G.2.1 84)] : List Value) σ (some (.int r)) σ' := by
  refine iv_start (nL := 2) (own := RX6) (ret := (some .int)) (cc := cX6_clearText) (by decide +kernel) rfl rfl hJ.1 (Nat.le_of_ble_eq_true rfl) ?_
  intro p e s m below meth c0 C hr hlk
  refine iv_sub (lv' := [(0, .ref (G.2.1 84))]) [0] rfl ?_
  unfold f_X6_clearText at h
  refine iv_aload_n (pc := 0) C 0 dX6_clearText_0 rfl rfl ?_
  refine iv_getf (pc := 1) (T := TX6) (N := 16) (ci := 6) C 84 11 in_X6_clearText_6 (iw_im hJ (by decide)) iw_Eo84 rfl (by decide) lk_X6_clearText_162 rfl rfl dX6_clearText_1 ?_
  refine iv_topi (fun v1 ev1 => ?_)
  replace h := iw_lete ev1 h
  refine iv_istore_n (pc := 4) C [(1, .int v1), (0, .ref (G.2.1 84))] dX6_clearText_4 rfl (by decide) rfl ?_
  refine iv_aload_n (pc := 5) C 1 dX6_clearText_5 rfl rfl ?_
  refine iv_iconst (pc := 6) C (0 : Int32) dX6_clearText_6 (by decide) ?_
  refine iv_putf (pc := 7) (T := TX6) (N := 16) (ci := 6) C 84 11 (iw_up σ 84 11 (0 : Int32)) in_X6_clearText_6 (iw_im hJ (by decide)) iw_Eo84 tyX6_ok nmX6 rfl (by decide) lk_X6_clearText_162 rfl rfl (tyX6_ok 11 (by decide)) rfl rfl (Nat.le_of_ble_eq_true rfl) rfl (fun b hb => iw_up_ne hb) dX6_clearText_7 ?_
  refine iv_topm (fun m2 em2 => ?_)
  replace h := iw_lete em2 h
  refine iv_iload_n (pc := 10) C 0 dX6_clearText_10 rfl rfl ?_
  cases h
  exact iv_iret C hr hlk rfl rfl dX6_clearText_11
theorem qd_X6_clearText : yX6_clearText.cls = RX6 ∧ yX6_clearText.cls ≠ "java/lang/invoke/MethodHandle" ∧ yX6_clearText.cls ≠ "java/lang/invoke/VarHandle" ∧ (parseMethodDescriptor yX6_clearText.desc).map (fun d => d.parameters.length) = some 0 := by decide +kernel
def f_X6_here_X38_0 (m1 : iw_M) : Option (Int32 × iw_M) :=
if (m1 84 11) ≤ (m1 84 12) then
(some ((-1 : Int32), m1))
else
((iw_rd m1 92 (m1 84 12)).bind fun v3 =>
some (v3, m1))
def f_X6_here_B0 (k0 : iw_M → Option (Int32 × iw_M)) (r0 : iw_M → Option (Int32 × iw_M)) (m4 : iw_M) : Option (Int32 × iw_M) :=
if (m4 84 11) ≤ (m4 84 12) then
(k0 m4)
else
((iw_rd m4 92 (m4 84 12)).bind fun v6 =>
if v6 = (32 : Int32) then
(iw_let (iw_up m4 84 12 ((m4 84 12) + (1 : Int32))) fun m8 =>
r0 m8)
else
(k0 m4))
def f_X6_here_L0 (k0 : iw_M → Option (Int32 × iw_M)) (nn : Nat) : iw_M → Option (Int32 × iw_M) :=
iw_it (fun r0 => f_X6_here_B0 k0 r0) (fun _ => none) nn
def f_X6_here (n : Nat) (σ : iw_M) : Option (Int32 × iw_M) :=
f_X6_here_L0 (f_X6_here_X38_0) n σ
abbrev rm_X6_here : Room := { frames := 0, cells := 0, slots := 0, locals := 0 }
theorem lk_X6_here_165 : Cond.fieldLink RX6 165 RX6 (TX6 12).2.1 (TX6 12).2.2.1 ∈ wsX6_here := by decide +kernel
theorem lk_X6_here_162 : Cond.fieldLink RX6 162 RX6 (TX6 11).2.1 (TX6 11).2.2.1 ∈ wsX6_here := by decide +kernel
theorem lk_X6_here_32 : Cond.fieldLink RX6 32 RX6 (TX6 10).2.1 (TX6 10).2.2.1 ∈ wsX6_here := by decide +kernel
theorem in_X6_here_6 : ∀ w ∈ u_ws RX6 TX6 16, w ∈ wsX6_here := by decide +kernel
set_option maxHeartbeats 4000000 in
set_option maxRecDepth 100000 in
theorem k_X6_here (l : Launch) (G : iw_G) (hJ : iw_JM G) (n : Nat) (σ : iw_M) {r : Int32} {σ' : iw_M} (h : f_X6_here n σ = some (r, σ')) : iw_Ct l yX6_here wsX6_here rm_X6_here G ([.ref (G.2.1 84)] : List Value) σ (some (.int r)) σ' := by
  refine iv_start (nL := 1) (own := RX6) (ret := (some .int)) (cc := cX6_here) (by decide +kernel) rfl rfl hJ.1 (Nat.le_of_ble_eq_true rfl) ?_
  intro p e s m below meth c0 C hr hlk
  refine iv_sub (lv' := [(0, .ref (G.2.1 84))]) [0] rfl ?_
  unfold f_X6_here at h
  have vX0 : ∀ (m1 : iw_M), f_X6_here_X38_0 m1 = some (r, σ') → iw_V p l e rm_X6_here s m ([.ref (G.2.1 84)] : List Value).toArray below meth c0 0 0 (MQ below (iw_Q (some (.int r)) G σ') ([.ref (G.2.1 84)] : List Value).toArray s 0 0 (iw_A G)) 1 G (iw_A G) m1 38 [(0, .ref (G.2.1 84))] [] := by
    intro m1 h
    unfold f_X6_here_X38_0 at h
    refine iv_aload_n (pc := 38) C 0 dX6_here_38 rfl rfl ?_
    refine iv_getf (pc := 39) (T := TX6) (N := 16) (ci := 6) C 84 12 in_X6_here_6 (iw_im hJ (by decide)) iw_Eo84 rfl (by decide) lk_X6_here_165 rfl rfl dX6_here_39 ?_
    refine iv_aload_n (pc := 42) C 0 dX6_here_42 rfl rfl ?_
    refine iv_getf (pc := 43) (T := TX6) (N := 16) (ci := 6) C 84 11 in_X6_here_6 (iw_im hJ (by decide)) iw_Eo84 rfl (by decide) lk_X6_here_162 rfl rfl dX6_here_43 ?_
    refine iv_icmp_ge (pc := 46) C 61 dX6_here_46 (by decide) (fun h2 => ?_) (fun h2 => ?_)
    · replace h := iw_ift h2 h
      refine iv_iconst (pc := 61) C (-1 : Int32) dX6_here_61 (by decide) ?_
      cases h
      exact iv_iret C hr hlk rfl rfl dX6_here_62
    · replace h := iw_iff h2 h
      refine iv_aload_n (pc := 49) C 0 dX6_here_49 rfl rfl ?_
      refine iv_getf (pc := 50) (T := TX6) (N := 16) (ci := 6) C 84 10 in_X6_here_6 (iw_im hJ (by decide)) iw_Eo84 rfl (by decide) lk_X6_here_32 rfl rfl dX6_here_50 ?_
      refine iv_aload_n (pc := 53) C 0 dX6_here_53 rfl rfl ?_
      refine iv_getf (pc := 54) (T := TX6) (N := 16) (ci := 6) C 84 12 in_X6_here_6 (iw_im hJ (by decide)) iw_Eo84 rfl (by decide) lk_X6_here_165 rfl rfl dX6_here_54 ?_
      obtain ⟨v3, ev3, h⟩ := iw_be h
      refine iv_rd (pc := 57) C 92 (iw_lm hJ rfl (by decide)) ev3 dX6_here_57 ?_
      refine iv_goto (pc := 58) C 62 dX6_here_58 (by decide) ?_
      cases h
      exact iv_iret C hr hlk rfl rfl dX6_here_62
  have vB0 : ∀ (k0 : iw_M → Option (Int32 × iw_M)) (r0 : iw_M → Option (Int32 × iw_M)), (∀ (m1 : iw_M), k0 m1 = some (r, σ') → iw_V p l e rm_X6_here s m ([.ref (G.2.1 84)] : List Value).toArray below meth c0 0 0 (MQ below (iw_Q (some (.int r)) G σ') ([.ref (G.2.1 84)] : List Value).toArray s 0 0 (iw_A G)) 1 G (iw_A G) m1 38 [(0, .ref (G.2.1 84))] []) → (∀ (m4 : iw_M), r0 m4 = some (r, σ') → iw_V p l e rm_X6_here s m ([.ref (G.2.1 84)] : List Value).toArray below meth c0 0 0 (MQ below (iw_Q (some (.int r)) G σ') ([.ref (G.2.1 84)] : List Value).toArray s 0 0 (iw_A G)) 1 G (iw_A G) m4 0 [(0, .ref (G.2.1 84))] []) → ∀ (m4 : iw_M), f_X6_here_B0  k0 r0 m4 = some (r, σ') → iw_V p l e rm_X6_here s m ([.ref (G.2.1 84)] : List Value).toArray below meth c0 0 0 (MQ below (iw_Q (some (.int r)) G σ') ([.ref (G.2.1 84)] : List Value).toArray s 0 0 (iw_A G)) 1 G (iw_A G) m4 0 [(0, .ref (G.2.1 84))] [] := by
    intro k0 r0 hk0 hr0 m4 h
    unfold f_X6_here_B0 at h
    refine iv_aload_n (pc := 0) C 0 dX6_here_0 rfl rfl ?_
    refine iv_getf (pc := 1) (T := TX6) (N := 16) (ci := 6) C 84 12 in_X6_here_6 (iw_im hJ (by decide)) iw_Eo84 rfl (by decide) lk_X6_here_165 rfl rfl dX6_here_1 ?_
    refine iv_aload_n (pc := 4) C 0 dX6_here_4 rfl rfl ?_
    refine iv_getf (pc := 5) (T := TX6) (N := 16) (ci := 6) C 84 11 in_X6_here_6 (iw_im hJ (by decide)) iw_Eo84 rfl (by decide) lk_X6_here_162 rfl rfl dX6_here_5 ?_
    refine iv_icmp_ge (pc := 8) C 38 dX6_here_8 (by decide) (fun h5 => ?_) (fun h5 => ?_)
    · replace h := iw_ift h5 h
      exact iv_sub [0] rfl (hk0 m4 h)
    · replace h := iw_iff h5 h
      refine iv_aload_n (pc := 11) C 0 dX6_here_11 rfl rfl ?_
      refine iv_getf (pc := 12) (T := TX6) (N := 16) (ci := 6) C 84 10 in_X6_here_6 (iw_im hJ (by decide)) iw_Eo84 rfl (by decide) lk_X6_here_32 rfl rfl dX6_here_12 ?_
      refine iv_aload_n (pc := 15) C 0 dX6_here_15 rfl rfl ?_
      refine iv_getf (pc := 16) (T := TX6) (N := 16) (ci := 6) C 84 12 in_X6_here_6 (iw_im hJ (by decide)) iw_Eo84 rfl (by decide) lk_X6_here_165 rfl rfl dX6_here_16 ?_
      obtain ⟨v6, ev6, h⟩ := iw_be h
      refine iv_rd (pc := 19) C 92 (iw_lm hJ rfl (by decide)) ev6 dX6_here_19 ?_
      refine iv_bipush (pc := 20) C (32 : Int32) dX6_here_20 (by decide) ?_
      refine iv_icmp_ne (pc := 22) C 38 dX6_here_22 (by decide) (fun h7 => ?_) (fun h7 => ?_)
      · replace h := iw_iff h7 h
        exact iv_sub [0] rfl (hk0 m4 h)
      · replace h := iw_ift h7 h
        refine iv_aload_n (pc := 25) C 0 dX6_here_25 rfl rfl ?_
        refine iv_dup (pc := 26) C rfl dX6_here_26 ?_
        refine iv_getf (pc := 27) (T := TX6) (N := 16) (ci := 6) C 84 12 in_X6_here_6 (iw_im hJ (by decide)) iw_Eo84 rfl (by decide) lk_X6_here_165 rfl rfl dX6_here_27 ?_
        refine iv_iconst (pc := 30) C (1 : Int32) dX6_here_30 (by decide) ?_
        refine iv_iadd (pc := 31) C dX6_here_31 ?_
        refine iv_putf (pc := 32) (T := TX6) (N := 16) (ci := 6) C 84 12 (iw_up m4 84 12 ((m4 84 12) + (1 : Int32))) in_X6_here_6 (iw_im hJ (by decide)) iw_Eo84 tyX6_ok nmX6 rfl (by decide) lk_X6_here_165 rfl rfl (tyX6_ok 12 (by decide)) rfl rfl (Nat.le_of_ble_eq_true rfl) rfl (fun b hb => iw_up_ne hb) dX6_here_32 ?_
        refine iv_topm (fun m8 em8 => ?_)
        replace h := iw_lete em8 h
        refine iv_goto (pc := 35) C 0 dX6_here_35 (by decide) ?_
        exact iv_sub [0] rfl (hr0 m8 h)
  have vL0 : ∀ (nn : Nat) (m4 : iw_M), f_X6_here_L0  (f_X6_here_X38_0) nn m4 = some (r, σ') → iw_V p l e rm_X6_here s m ([.ref (G.2.1 84)] : List Value).toArray below meth c0 0 0 (MQ below (iw_Q (some (.int r)) G σ') ([.ref (G.2.1 84)] : List Value).toArray s 0 0 (iw_A G)) 1 G (iw_A G) m4 0 [(0, .ref (G.2.1 84))] [] := by
    intro nn
    induction nn with
    | zero => intro m4 h; exact absurd h (fun q => by cases q)
    | succ nn ih => intro m4 h; exact vB0 (f_X6_here_X38_0) (f_X6_here_L0  (f_X6_here_X38_0) nn) vX0 ih m4 h
  exact iv_sub [0] rfl (vL0 n σ h)
theorem qd_X6_here : yX6_here.cls = RX6 ∧ yX6_here.cls ≠ "java/lang/invoke/MethodHandle" ∧ yX6_here.cls ≠ "java/lang/invoke/VarHandle" ∧ (parseMethodDescriptor yX6_here.desc).map (fun d => d.parameters.length) = some 0 := by decide +kernel
def f_X6_sign_J28 (m2 : iw_M) (v3 : Int32) (v4 : Int32) : Option (Int32 × iw_M) :=
iw_let (iw_up m2 84 12 ((m2 84 12) + v4)) fun m5 =>
some ((v3 &&& 1), m5)
def f_X6_sign_J13 (m2 : iw_M) (v3 : Int32) : Option (Int32 × iw_M) :=
if v3 = (0 : Int32) then
(f_X6_sign_J28 m2 v3 (0 : Int32))
else
(f_X6_sign_J28 m2 v3 (1 : Int32))
def f_X6_sign (n : Nat) (p1 : Int32) (σ : iw_M) : Option (Int32 × iw_M) :=
iw_b2 (f_X6_here n σ) fun v1 m2 =>
if v1 = p1 then
(f_X6_sign_J13 m2 (1 : Int32))
else
(f_X6_sign_J13 m2 (0 : Int32))
abbrev rm_X6_sign : Room := { frames := 1, cells := 0, slots := 0, locals := 20 }
theorem lk_X6_sign_165 : Cond.fieldLink RX6 165 RX6 (TX6 12).2.1 (TX6 12).2.2.1 ∈ wsX6_sign := by decide +kernel
theorem in_X6_sign_6 : ∀ w ∈ u_ws RX6 TX6 16, w ∈ wsX6_sign := by decide +kernel
set_option maxHeartbeats 4000000 in
set_option maxRecDepth 100000 in
theorem k_X6_sign (l : Launch) (G : iw_G) (hJ : iw_JM G) (n : Nat) (p1 : Int32) (σ : iw_M) {r : Int32} {σ' : iw_M} (h : f_X6_sign n p1 σ = some (r, σ')) : iw_Ct l yX6_sign wsX6_sign rm_X6_sign G ([.ref (G.2.1 84), .int p1] : List Value) σ (some (.int r)) σ' := by
  refine iv_start (nL := 3) (own := RX6) (ret := (some .boolean)) (cc := cX6_sign) (by decide +kernel) rfl rfl hJ.1 (Nat.le_of_ble_eq_true rfl) ?_
  intro p e s m below meth c0 C hr hlk
  refine iv_sub (lv' := [(0, .ref (G.2.1 84)), (1, .int p1)]) [0, 1] rfl ?_
  unfold f_X6_sign at h
  refine iv_aload_n (pc := 0) C 0 dX6_sign_0 rfl rfl ?_
  obtain ⟨v1, m2, ev1, h⟩ := iw_b2e h
  refine iv_callV (pc := 1) (b := 84) (ci := 6) C [] (k_X6_here l G hJ n σ ev1) gX6_sign_X6_here rfl qd_X6_here ⟨rfl, rfl, Nat.le_of_ble_eq_true rfl, Nat.le_of_ble_eq_true rfl⟩ (iw_im hJ (by decide)) iw_Eo84 rfl rfl rfl (Nat.le_of_ble_eq_true rfl) dX6_sign_1 ?_
  refine iv_iload_n (pc := 4) C 1 dX6_sign_4 rfl rfl ?_
  have vJ13 : ∀ (v3 : Int32), f_X6_sign_J13 m2 v3 = some (r, σ') → iw_V p l e rm_X6_sign s m ([.ref (G.2.1 84), .int p1] : List Value).toArray below meth c0 0 0 (MQ below (iw_Q (some (.int r)) G σ') ([.ref (G.2.1 84), .int p1] : List Value).toArray s 0 0 (iw_A G)) 3 G (iw_A G) m2 13 [(0, .ref (G.2.1 84))] [.int v3] := by
    intro v3 h
    unfold f_X6_sign_J13 at h
    refine iv_istore_n (pc := 13) C [(2, .int v3), (0, .ref (G.2.1 84))] dX6_sign_13 rfl (by decide) rfl ?_
    refine iv_aload_n (pc := 14) C 1 dX6_sign_14 rfl rfl ?_
    refine iv_dup (pc := 15) C rfl dX6_sign_15 ?_
    refine iv_getf (pc := 16) (T := TX6) (N := 16) (ci := 6) C 84 12 in_X6_sign_6 (iw_im hJ (by decide)) iw_Eo84 rfl (by decide) lk_X6_sign_165 rfl rfl dX6_sign_16 ?_
    refine iv_iload_n (pc := 19) C 0 dX6_sign_19 rfl rfl ?_
    have vJ28 : ∀ (v4 : Int32), f_X6_sign_J28 m2 v3 v4 = some (r, σ') → iw_V p l e rm_X6_sign s m ([.ref (G.2.1 84), .int p1] : List Value).toArray below meth c0 0 0 (MQ below (iw_Q (some (.int r)) G σ') ([.ref (G.2.1 84), .int p1] : List Value).toArray s 0 0 (iw_A G)) 3 G (iw_A G) m2 28 [(2, .int v3)] [.int v4, .int (m2 84 12), .ref (G.2.1 84)] := by
      intro v4 h
      unfold f_X6_sign_J28 at h
      refine iv_iadd (pc := 28) C dX6_sign_28 ?_
      refine iv_putf (pc := 29) (T := TX6) (N := 16) (ci := 6) C 84 12 (iw_up m2 84 12 ((m2 84 12) + v4)) in_X6_sign_6 (iw_im hJ (by decide)) iw_Eo84 tyX6_ok nmX6 rfl (by decide) lk_X6_sign_165 rfl rfl (tyX6_ok 12 (by decide)) rfl rfl (Nat.le_of_ble_eq_true rfl) rfl (fun b hb => iw_up_ne hb) dX6_sign_29 ?_
      refine iv_topm (fun m5 em5 => ?_)
      replace h := iw_lete em5 h
      refine iv_iload_n (pc := 32) C 0 dX6_sign_32 rfl rfl ?_
      cases h
      exact iv_zret C hr hlk rfl rfl dX6_sign_33
    refine iv_if_eq (pc := 20) C 27 dX6_sign_20 (by decide) (fun h6 => ?_) (fun h6 => ?_)
    · replace h := iw_ift h6 h
      refine iv_iconst (pc := 27) C (0 : Int32) dX6_sign_27 (by decide) ?_
      exact iv_sub [0] rfl (vJ28 (0 : Int32) h)
    · replace h := iw_iff h6 h
      refine iv_iconst (pc := 23) C (1 : Int32) dX6_sign_23 (by decide) ?_
      refine iv_goto (pc := 24) C 28 dX6_sign_24 (by decide) ?_
      exact iv_sub [0] rfl (vJ28 (1 : Int32) h)
  refine iv_icmp_ne (pc := 5) C 12 dX6_sign_5 (by decide) (fun h7 => ?_) (fun h7 => ?_)
  · replace h := iw_iff h7 h
    refine iv_iconst (pc := 12) C (0 : Int32) dX6_sign_12 (by decide) ?_
    exact iv_sub [0] rfl (vJ13 (0 : Int32) h)
  · replace h := iw_ift h7 h
    refine iv_iconst (pc := 8) C (1 : Int32) dX6_sign_8 (by decide) ?_
    refine iv_goto (pc := 9) C 13 dX6_sign_9 (by decide) ?_
    exact iv_sub [0] rfl (vJ13 (1 : Int32) h)
theorem qd_X6_sign : yX6_sign.cls = RX6 ∧ yX6_sign.cls ≠ "java/lang/invoke/MethodHandle" ∧ yX6_sign.cls ≠ "java/lang/invoke/VarHandle" ∧ (parseMethodDescriptor yX6_sign.desc).map (fun d => d.parameters.length) = some 1 := by decide +kernel
def f_X6_finds_J100 (p1 : Int32) (p2 : Int32) (m2 : iw_M) (v4 : Int32) (v6 : Int32) : Option (Int32 × iw_M) :=
iw_let (iw_up m2 84 13 v6) fun m7 =>
if v4 ≤ (m7 84 12) then
(some ((-1000 : Int32), m7))
else
(if (6 : Int32) ≤ (v4 - (m7 84 12)) then
(some ((-1000 : Int32), m7))
else
(if (f_X6_in (m7 84 13) p1 p2) = (0 : Int32) then
(some ((-1000 : Int32), m7))
else
(some (v4, m7))))
def f_X6_finds_X87_15 (p1 : Int32) (p2 : Int32) (p3 : Int32) (m2 : iw_M) (v4 : Int32) (v5 : Int32) : Option (Int32 × iw_M) :=
if p3 = (0 : Int32) then
(f_X6_finds_J100 p1 p2 m2 v4 v5)
else
(f_X6_finds_J100 p1 p2 m2 v4 (-v5))
def f_X6_finds_J79 (r15 : Int32 → Int32 → Option (Int32 × iw_M)) (v12 : Int32) (v18 : Int32) : Option (Int32 × iw_M) :=
iw_let (v12 + (1 : Int32)) fun v19 =>
r15 v19 v18
def f_X6_finds_B15 (v1 : Int32) (m2 : iw_M) (k15 : Int32 → Int32 → Option (Int32 × iw_M)) (r15 : Int32 → Int32 → Option (Int32 × iw_M)) (v12 : Int32) (v13 : Int32) : Option (Int32 × iw_M) :=
if v1 < (0 : Int32) then
(k15 v12 v13)
else
(if (m2 84 11) ≤ v12 then
(k15 v12 v13)
else
((iw_rd m2 92 v12).bind fun v16 =>
if (f_X6_in v16 (48 : Int32) (57 : Int32)) = (0 : Int32) then
(k15 v12 v13)
else
(if (6 : Int32) ≤ (v12 - (m2 84 12)) then
(f_X6_finds_J79 r15 v12 v13)
else
((iw_rd m2 92 v12).bind fun v21 =>
f_X6_finds_J79 r15 v12 ((((10 : Int32) * v13) + v21) - (48 : Int32))))))
def f_X6_finds_L15 (v1 : Int32) (m2 : iw_M) (k15 : Int32 → Int32 → Option (Int32 × iw_M)) (nn : Nat) : Int32 → Int32 → Option (Int32 × iw_M) :=
iw_it (fun r15 => f_X6_finds_B15 v1 m2 k15 r15) (fun _ _ => none) nn
def f_X6_finds (n : Nat) (p1 : Int32) (p2 : Int32) (p3 : Int32) (σ : iw_M) : Option (Int32 × iw_M) :=
iw_b2 (f_X6_here n σ) fun v1 m2 =>
iw_let (m2 84 12) fun v3 =>
f_X6_finds_L15 v1 m2 (f_X6_finds_X87_15 p1 p2 p3 m2) n v3 (0 : Int32)
abbrev rm_X6_finds : Room := { frames := 1, cells := 0, slots := 0, locals := 22 }
theorem lk_X6_finds_165 : Cond.fieldLink RX6 165 RX6 (TX6 12).2.1 (TX6 12).2.2.1 ∈ wsX6_finds := by decide +kernel
theorem lk_X6_finds_171 : Cond.fieldLink RX6 171 RX6 (TX6 13).2.1 (TX6 13).2.2.1 ∈ wsX6_finds := by decide +kernel
theorem lk_X6_finds_162 : Cond.fieldLink RX6 162 RX6 (TX6 11).2.1 (TX6 11).2.2.1 ∈ wsX6_finds := by decide +kernel
theorem lk_X6_finds_32 : Cond.fieldLink RX6 32 RX6 (TX6 10).2.1 (TX6 10).2.2.1 ∈ wsX6_finds := by decide +kernel
theorem in_X6_finds_6 : ∀ w ∈ u_ws RX6 TX6 16, w ∈ wsX6_finds := by decide +kernel
set_option maxHeartbeats 4000000 in
set_option maxRecDepth 100000 in
theorem k_X6_finds (l : Launch) (G : iw_G) (hJ : iw_JM G) (n : Nat) (p1 : Int32) (p2 : Int32) (p3 : Int32) (σ : iw_M) {r : Int32} {σ' : iw_M} (h : f_X6_finds n p1 p2 p3 σ = some (r, σ')) : iw_Ct l yX6_finds wsX6_finds rm_X6_finds G ([.ref (G.2.1 84), .int p1, .int p2, .int p3] : List Value) σ (some (.int r)) σ' := by
  refine iv_start (nL := 7) (own := RX6) (ret := (some .int)) (cc := cX6_finds) (by decide +kernel) rfl rfl hJ.1 (Nat.le_of_ble_eq_true rfl) ?_
  intro p e s m below meth c0 C hr hlk
  refine iv_sub (lv' := [(0, .ref (G.2.1 84)), (1, .int p1), (2, .int p2), (3, .int p3)]) [0, 1, 2, 3] rfl ?_
  unfold f_X6_finds at h
  refine iv_aload_n (pc := 0) C 0 dX6_finds_0 rfl rfl ?_
  obtain ⟨v1, m2, ev1, h⟩ := iw_b2e h
  refine iv_callV (pc := 1) (b := 84) (ci := 6) C [] (k_X6_here l G hJ n σ ev1) gX6_finds_X6_here rfl qd_X6_here ⟨rfl, rfl, Nat.le_of_ble_eq_true rfl, Nat.le_of_ble_eq_true rfl⟩ (iw_im hJ (by decide)) iw_Eo84 rfl rfl rfl (Nat.le_of_ble_eq_true rfl) dX6_finds_1 ?_
  refine iv_istore (pc := 4) C [(4, .int v1), (0, .ref (G.2.1 84)), (1, .int p1), (2, .int p2), (3, .int p3)] dX6_finds_4 (by decide) rfl ?_
  refine iv_aload_n (pc := 6) C 1 dX6_finds_6 rfl rfl ?_
  refine iv_getf (pc := 7) (T := TX6) (N := 16) (ci := 6) C 84 12 in_X6_finds_6 (iw_im hJ (by decide)) iw_Eo84 rfl (by decide) lk_X6_finds_165 rfl rfl dX6_finds_7 ?_
  refine iv_topi (fun v3 ev3 => ?_)
  replace h := iw_lete ev3 h
  refine iv_istore (pc := 10) C [(5, .int v3), (4, .int v1), (0, .ref (G.2.1 84)), (1, .int p1), (2, .int p2), (3, .int p3)] dX6_finds_10 (by decide) rfl ?_
  refine iv_iconst (pc := 12) C (0 : Int32) dX6_finds_12 (by decide) ?_
  refine iv_istore (pc := 13) C [(6, .int (0 : Int32)), (5, .int v3), (4, .int v1), (0, .ref (G.2.1 84)), (1, .int p1), (2, .int p2), (3, .int p3)] dX6_finds_13 (by decide) rfl ?_
  have vX15 : ∀ (v4 : Int32) (v5 : Int32), f_X6_finds_X87_15 p1 p2 p3 m2 v4 v5 = some (r, σ') → iw_V p l e rm_X6_finds s m ([.ref (G.2.1 84), .int p1, .int p2, .int p3] : List Value).toArray below meth c0 0 0 (MQ below (iw_Q (some (.int r)) G σ') ([.ref (G.2.1 84), .int p1, .int p2, .int p3] : List Value).toArray s 0 0 (iw_A G)) 7 G (iw_A G) m2 87 [(0, .ref (G.2.1 84)), (1, .int p1), (2, .int p2), (3, .int p3), (5, .int v4), (6, .int v5)] [] := by
    intro v4 v5 h
    unfold f_X6_finds_X87_15 at h
    refine iv_aload_n (pc := 87) C 0 dX6_finds_87 rfl rfl ?_
    refine iv_iload_n (pc := 88) C 3 dX6_finds_88 rfl rfl ?_
    have vJ100 : ∀ (v6 : Int32), f_X6_finds_J100 p1 p2 m2 v4 v6 = some (r, σ') → iw_V p l e rm_X6_finds s m ([.ref (G.2.1 84), .int p1, .int p2, .int p3] : List Value).toArray below meth c0 0 0 (MQ below (iw_Q (some (.int r)) G σ') ([.ref (G.2.1 84), .int p1, .int p2, .int p3] : List Value).toArray s 0 0 (iw_A G)) 7 G (iw_A G) m2 100 [(0, .ref (G.2.1 84)), (1, .int p1), (2, .int p2), (5, .int v4)] [.int v6, .ref (G.2.1 84)] := by
      intro v6 h
      unfold f_X6_finds_J100 at h
      refine iv_putf (pc := 100) (T := TX6) (N := 16) (ci := 6) C 84 13 (iw_up m2 84 13 v6) in_X6_finds_6 (iw_im hJ (by decide)) iw_Eo84 tyX6_ok nmX6 rfl (by decide) lk_X6_finds_171 rfl rfl (tyX6_ok 13 (by decide)) rfl rfl (Nat.le_of_ble_eq_true rfl) rfl (fun b hb => iw_up_ne hb) dX6_finds_100 ?_
      refine iv_topm (fun m7 em7 => ?_)
      replace h := iw_lete em7 h
      refine iv_iload (pc := 103) C 3 dX6_finds_103 rfl ?_
      refine iv_aload_n (pc := 105) C 0 dX6_finds_105 rfl rfl ?_
      refine iv_getf (pc := 106) (T := TX6) (N := 16) (ci := 6) C 84 12 in_X6_finds_6 (iw_im hJ (by decide)) iw_Eo84 rfl (by decide) lk_X6_finds_165 rfl rfl dX6_finds_106 ?_
      refine iv_icmp_le (pc := 109) C 141 dX6_finds_109 (by decide) (fun h8 => ?_) (fun h8 => ?_)
      · replace h := iw_ift h8 h
        refine iv_sipush (pc := 141) C (-1000 : Int32) dX6_finds_141 (by decide) ?_
        cases h
        exact iv_iret C hr hlk rfl rfl dX6_finds_144
      · replace h := iw_iff h8 h
        refine iv_iload (pc := 112) C 3 dX6_finds_112 rfl ?_
        refine iv_aload_n (pc := 114) C 0 dX6_finds_114 rfl rfl ?_
        refine iv_getf (pc := 115) (T := TX6) (N := 16) (ci := 6) C 84 12 in_X6_finds_6 (iw_im hJ (by decide)) iw_Eo84 rfl (by decide) lk_X6_finds_165 rfl rfl dX6_finds_115 ?_
        refine iv_isub (pc := 118) C dX6_finds_118 ?_
        refine iv_bipush (pc := 119) C (6 : Int32) dX6_finds_119 (by decide) ?_
        refine iv_icmp_ge (pc := 121) C 141 dX6_finds_121 (by decide) (fun h9 => ?_) (fun h9 => ?_)
        · replace h := iw_ift h9 h
          refine iv_sipush (pc := 141) C (-1000 : Int32) dX6_finds_141 (by decide) ?_
          cases h
          exact iv_iret C hr hlk rfl rfl dX6_finds_144
        · replace h := iw_iff h9 h
          refine iv_aload_n (pc := 124) C 0 dX6_finds_124 rfl rfl ?_
          refine iv_getf (pc := 125) (T := TX6) (N := 16) (ci := 6) C 84 13 in_X6_finds_6 (iw_im hJ (by decide)) iw_Eo84 rfl (by decide) lk_X6_finds_171 rfl rfl dX6_finds_125 ?_
          refine iv_iload_n (pc := 128) C 1 dX6_finds_128 rfl rfl ?_
          refine iv_iload_n (pc := 129) C 2 dX6_finds_129 rfl rfl ?_
          refine iv_callS (pc := 130) C [.int (m7 84 13), .int p1, .int p2] (k_X6_in l G hJ (m7 84 13) p1 p2 m7 rfl) gX6_finds_X6_in rfl qd_X6_in ⟨rfl, rfl, Nat.le_of_ble_eq_true rfl, Nat.le_of_ble_eq_true rfl⟩ rfl rfl (Nat.le_of_ble_eq_true rfl) dX6_finds_130 ?_
          refine iv_if_eq (pc := 133) C 141 dX6_finds_133 (by decide) (fun h10 => ?_) (fun h10 => ?_)
          · replace h := iw_ift h10 h
            refine iv_sipush (pc := 141) C (-1000 : Int32) dX6_finds_141 (by decide) ?_
            cases h
            exact iv_iret C hr hlk rfl rfl dX6_finds_144
          · replace h := iw_iff h10 h
            refine iv_iload (pc := 136) C 3 dX6_finds_136 rfl ?_
            refine iv_goto (pc := 138) C 144 dX6_finds_138 (by decide) ?_
            cases h
            exact iv_iret C hr hlk rfl rfl dX6_finds_144
    refine iv_if_eq (pc := 89) C 98 dX6_finds_89 (by decide) (fun h11 => ?_) (fun h11 => ?_)
    · replace h := iw_ift h11 h
      refine iv_iload (pc := 98) C 5 dX6_finds_98 rfl ?_
      exact iv_sub [0, 1, 2, 4] rfl (vJ100 v5 h)
    · replace h := iw_iff h11 h
      refine iv_iload (pc := 92) C 5 dX6_finds_92 rfl ?_
      refine iv_ineg (pc := 94) C dX6_finds_94 ?_
      refine iv_goto (pc := 95) C 100 dX6_finds_95 (by decide) ?_
      exact iv_sub [0, 1, 2, 4] rfl (vJ100 (-v5) h)
  have vB15 : ∀ (k15 : Int32 → Int32 → Option (Int32 × iw_M)) (r15 : Int32 → Int32 → Option (Int32 × iw_M)), (∀ (v4 : Int32) (v5 : Int32), k15 v4 v5 = some (r, σ') → iw_V p l e rm_X6_finds s m ([.ref (G.2.1 84), .int p1, .int p2, .int p3] : List Value).toArray below meth c0 0 0 (MQ below (iw_Q (some (.int r)) G σ') ([.ref (G.2.1 84), .int p1, .int p2, .int p3] : List Value).toArray s 0 0 (iw_A G)) 7 G (iw_A G) m2 87 [(0, .ref (G.2.1 84)), (1, .int p1), (2, .int p2), (3, .int p3), (5, .int v4), (6, .int v5)] []) → (∀ (v12 : Int32) (v13 : Int32), r15 v12 v13 = some (r, σ') → iw_V p l e rm_X6_finds s m ([.ref (G.2.1 84), .int p1, .int p2, .int p3] : List Value).toArray below meth c0 0 0 (MQ below (iw_Q (some (.int r)) G σ') ([.ref (G.2.1 84), .int p1, .int p2, .int p3] : List Value).toArray s 0 0 (iw_A G)) 7 G (iw_A G) m2 15 [(0, .ref (G.2.1 84)), (1, .int p1), (2, .int p2), (3, .int p3), (4, .int v1), (5, .int v12), (6, .int v13)] []) → ∀ (v12 : Int32) (v13 : Int32), f_X6_finds_B15 v1 m2 k15 r15 v12 v13 = some (r, σ') → iw_V p l e rm_X6_finds s m ([.ref (G.2.1 84), .int p1, .int p2, .int p3] : List Value).toArray below meth c0 0 0 (MQ below (iw_Q (some (.int r)) G σ') ([.ref (G.2.1 84), .int p1, .int p2, .int p3] : List Value).toArray s 0 0 (iw_A G)) 7 G (iw_A G) m2 15 [(0, .ref (G.2.1 84)), (1, .int p1), (2, .int p2), (3, .int p3), (4, .int v1), (5, .int v12), (6, .int v13)] [] := by
    intro k15 r15 hk15 hr15 v12 v13 h
    unfold f_X6_finds_B15 at h
    refine iv_iload (pc := 15) C 4 dX6_finds_15 rfl ?_
    refine iv_if_lt (pc := 17) C 87 dX6_finds_17 (by decide) (fun h14 => ?_) (fun h14 => ?_)
    · replace h := iw_ift h14 h
      exact iv_sub [0, 1, 2, 3, 5, 6] rfl (hk15 v12 v13 h)
    · replace h := iw_iff h14 h
      refine iv_iload (pc := 20) C 5 dX6_finds_20 rfl ?_
      refine iv_aload_n (pc := 22) C 0 dX6_finds_22 rfl rfl ?_
      refine iv_getf (pc := 23) (T := TX6) (N := 16) (ci := 6) C 84 11 in_X6_finds_6 (iw_im hJ (by decide)) iw_Eo84 rfl (by decide) lk_X6_finds_162 rfl rfl dX6_finds_23 ?_
      refine iv_icmp_ge (pc := 26) C 87 dX6_finds_26 (by decide) (fun h15 => ?_) (fun h15 => ?_)
      · replace h := iw_ift h15 h
        exact iv_sub [0, 1, 2, 3, 5, 6] rfl (hk15 v12 v13 h)
      · replace h := iw_iff h15 h
        refine iv_aload_n (pc := 29) C 0 dX6_finds_29 rfl rfl ?_
        refine iv_getf (pc := 30) (T := TX6) (N := 16) (ci := 6) C 84 10 in_X6_finds_6 (iw_im hJ (by decide)) iw_Eo84 rfl (by decide) lk_X6_finds_32 rfl rfl dX6_finds_30 ?_
        refine iv_iload (pc := 33) C 5 dX6_finds_33 rfl ?_
        obtain ⟨v16, ev16, h⟩ := iw_be h
        refine iv_rd (pc := 35) C 92 (iw_lm hJ rfl (by decide)) ev16 dX6_finds_35 ?_
        refine iv_bipush (pc := 36) C (48 : Int32) dX6_finds_36 (by decide) ?_
        refine iv_bipush (pc := 38) C (57 : Int32) dX6_finds_38 (by decide) ?_
        refine iv_callS (pc := 40) C [.int v16, .int (48 : Int32), .int (57 : Int32)] (k_X6_in l G hJ v16 (48 : Int32) (57 : Int32) m2 rfl) gX6_finds_X6_in rfl qd_X6_in ⟨rfl, rfl, Nat.le_of_ble_eq_true rfl, Nat.le_of_ble_eq_true rfl⟩ rfl rfl (Nat.le_of_ble_eq_true rfl) dX6_finds_40 ?_
        refine iv_if_eq (pc := 43) C 87 dX6_finds_43 (by decide) (fun h17 => ?_) (fun h17 => ?_)
        · replace h := iw_ift h17 h
          exact iv_sub [0, 1, 2, 3, 5, 6] rfl (hk15 v12 v13 h)
        · replace h := iw_iff h17 h
          refine iv_iload (pc := 46) C 5 dX6_finds_46 rfl ?_
          refine iv_aload_n (pc := 48) C 0 dX6_finds_48 rfl rfl ?_
          refine iv_getf (pc := 49) (T := TX6) (N := 16) (ci := 6) C 84 12 in_X6_finds_6 (iw_im hJ (by decide)) iw_Eo84 rfl (by decide) lk_X6_finds_165 rfl rfl dX6_finds_49 ?_
          refine iv_isub (pc := 52) C dX6_finds_52 ?_
          refine iv_bipush (pc := 53) C (6 : Int32) dX6_finds_53 (by decide) ?_
          have vJ79 : ∀ (v18 : Int32), f_X6_finds_J79 r15 v12 v18 = some (r, σ') → iw_V p l e rm_X6_finds s m ([.ref (G.2.1 84), .int p1, .int p2, .int p3] : List Value).toArray below meth c0 0 0 (MQ below (iw_Q (some (.int r)) G σ') ([.ref (G.2.1 84), .int p1, .int p2, .int p3] : List Value).toArray s 0 0 (iw_A G)) 7 G (iw_A G) m2 79 [(0, .ref (G.2.1 84)), (1, .int p1), (2, .int p2), (3, .int p3), (4, .int v1), (5, .int v12)] [.int v18] := by
            intro v18 h
            unfold f_X6_finds_J79 at h
            refine iv_istore (pc := 79) C [(6, .int v18), (0, .ref (G.2.1 84)), (1, .int p1), (2, .int p2), (3, .int p3), (4, .int v1), (5, .int v12)] dX6_finds_79 (by decide) rfl ?_
            obtain ⟨v19, ev19⟩ : ∃ y : Int32, y = v12 + (1 : Int32) := ⟨_, rfl⟩
            replace h := iw_lete ev19 h
            refine iv_iinc (pc := 81) C 6 v19 [(5, .int v19), (6, .int v18), (0, .ref (G.2.1 84)), (1, .int p1), (2, .int p2), (3, .int p3), (4, .int v1)] dX6_finds_81 rfl (by rw [ev19]; rfl) (by decide) rfl ?_
            refine iv_goto (pc := 84) C 15 dX6_finds_84 (by decide) ?_
            exact iv_sub [2, 3, 4, 5, 6, 0, 1] rfl (hr15 v19 v18 h)
          refine iv_icmp_ge (pc := 55) C 77 dX6_finds_55 (by decide) (fun h20 => ?_) (fun h20 => ?_)
          · replace h := iw_ift h20 h
            refine iv_iload (pc := 77) C 6 dX6_finds_77 rfl ?_
            exact iv_sub [0, 1, 2, 3, 4, 5] rfl (vJ79 v13 h)
          · replace h := iw_iff h20 h
            refine iv_bipush (pc := 58) C (10 : Int32) dX6_finds_58 (by decide) ?_
            refine iv_iload (pc := 60) C 6 dX6_finds_60 rfl ?_
            refine iv_imul (pc := 62) C dX6_finds_62 ?_
            refine iv_aload_n (pc := 63) C 0 dX6_finds_63 rfl rfl ?_
            refine iv_getf (pc := 64) (T := TX6) (N := 16) (ci := 6) C 84 10 in_X6_finds_6 (iw_im hJ (by decide)) iw_Eo84 rfl (by decide) lk_X6_finds_32 rfl rfl dX6_finds_64 ?_
            refine iv_iload (pc := 67) C 5 dX6_finds_67 rfl ?_
            obtain ⟨v21, ev21, h⟩ := iw_be h
            refine iv_rd (pc := 69) C 92 (iw_lm hJ rfl (by decide)) ev21 dX6_finds_69 ?_
            refine iv_iadd (pc := 70) C dX6_finds_70 ?_
            refine iv_bipush (pc := 71) C (48 : Int32) dX6_finds_71 (by decide) ?_
            refine iv_isub (pc := 73) C dX6_finds_73 ?_
            refine iv_goto (pc := 74) C 79 dX6_finds_74 (by decide) ?_
            exact iv_sub [0, 1, 2, 3, 4, 5] rfl (vJ79 ((((10 : Int32) * v13) + v21) - (48 : Int32)) h)
  have vL15 : ∀ (nn : Nat) (v12 : Int32) (v13 : Int32), f_X6_finds_L15 v1 m2 (f_X6_finds_X87_15 p1 p2 p3 m2) nn v12 v13 = some (r, σ') → iw_V p l e rm_X6_finds s m ([.ref (G.2.1 84), .int p1, .int p2, .int p3] : List Value).toArray below meth c0 0 0 (MQ below (iw_Q (some (.int r)) G σ') ([.ref (G.2.1 84), .int p1, .int p2, .int p3] : List Value).toArray s 0 0 (iw_A G)) 7 G (iw_A G) m2 15 [(0, .ref (G.2.1 84)), (1, .int p1), (2, .int p2), (3, .int p3), (4, .int v1), (5, .int v12), (6, .int v13)] [] := by
    intro nn
    induction nn with
    | zero => intro v12 v13 h; exact absurd h (fun q => by cases q)
    | succ nn ih => intro v12 v13 h; exact vB15 (f_X6_finds_X87_15 p1 p2 p3 m2) (f_X6_finds_L15 v1 m2 (f_X6_finds_X87_15 p1 p2 p3 m2) nn) vX15 ih v12 v13 h
  exact iv_sub [3, 4, 5, 6, 2, 1, 0] rfl (vL15 n v3 (0 : Int32) h)
theorem qd_X6_finds : yX6_finds.cls = RX6 ∧ yX6_finds.cls ≠ "java/lang/invoke/MethodHandle" ∧ yX6_finds.cls ≠ "java/lang/invoke/VarHandle" ∧ (parseMethodDescriptor yX6_finds.desc).map (fun d => d.parameters.length) = some 3 := by decide +kernel
def f_X6_reads_J24 (v1 : Int32) (m2 : iw_M) (v3 : Int32) : Option (Int32 × iw_M) :=
iw_let (iw_up m2 84 12 v3) fun m4 =>
if v1 = (-1000 : Int32) then
(some ((0 : Int32), m4))
else
(some ((1 : Int32), m4))
def f_X6_reads (n : Nat) (p1 : Int32) (p2 : Int32) (σ : iw_M) : Option (Int32 × iw_M) :=
iw_b2 (f_X6_finds n p1 p2 (0 : Int32) σ) fun v1 m2 =>
if v1 = (-1000 : Int32) then
(f_X6_reads_J24 v1 m2 (m2 84 12))
else
(f_X6_reads_J24 v1 m2 v1)
abbrev rm_X6_reads : Room := { frames := 2, cells := 0, slots := 0, locals := 48 }
theorem lk_X6_reads_165 : Cond.fieldLink RX6 165 RX6 (TX6 12).2.1 (TX6 12).2.2.1 ∈ wsX6_reads := by decide +kernel
theorem in_X6_reads_6 : ∀ w ∈ u_ws RX6 TX6 16, w ∈ wsX6_reads := by decide +kernel
set_option maxHeartbeats 4000000 in
set_option maxRecDepth 100000 in
theorem k_X6_reads (l : Launch) (G : iw_G) (hJ : iw_JM G) (n : Nat) (p1 : Int32) (p2 : Int32) (σ : iw_M) {r : Int32} {σ' : iw_M} (h : f_X6_reads n p1 p2 σ = some (r, σ')) : iw_Ct l yX6_reads wsX6_reads rm_X6_reads G ([.ref (G.2.1 84), .int p1, .int p2] : List Value) σ (some (.int r)) σ' := by
  refine iv_start (nL := 4) (own := RX6) (ret := (some .boolean)) (cc := cX6_reads) (by decide +kernel) rfl rfl hJ.1 (Nat.le_of_ble_eq_true rfl) ?_
  intro p e s m below meth c0 C hr hlk
  refine iv_sub (lv' := [(0, .ref (G.2.1 84)), (1, .int p1), (2, .int p2)]) [0, 1, 2] rfl ?_
  unfold f_X6_reads at h
  refine iv_aload_n (pc := 0) C 0 dX6_reads_0 rfl rfl ?_
  refine iv_iload_n (pc := 1) C 1 dX6_reads_1 rfl rfl ?_
  refine iv_iload_n (pc := 2) C 2 dX6_reads_2 rfl rfl ?_
  refine iv_iconst (pc := 3) C (0 : Int32) dX6_reads_3 (by decide) ?_
  obtain ⟨v1, m2, ev1, h⟩ := iw_b2e h
  refine iv_callV (pc := 4) (b := 84) (ci := 6) C [.int p1, .int p2, .int (0 : Int32)] (k_X6_finds l G hJ n p1 p2 (0 : Int32) σ ev1) gX6_reads_X6_finds rfl qd_X6_finds ⟨rfl, rfl, Nat.le_of_ble_eq_true rfl, Nat.le_of_ble_eq_true rfl⟩ (iw_im hJ (by decide)) iw_Eo84 rfl rfl rfl (Nat.le_of_ble_eq_true rfl) dX6_reads_4 ?_
  refine iv_istore_n (pc := 7) C [(3, .int v1), (0, .ref (G.2.1 84)), (1, .int p1), (2, .int p2)] dX6_reads_7 rfl (by decide) rfl ?_
  refine iv_aload_n (pc := 8) C 1 dX6_reads_8 rfl rfl ?_
  refine iv_iload_n (pc := 9) C 0 dX6_reads_9 rfl rfl ?_
  refine iv_sipush (pc := 10) C (-1000 : Int32) dX6_reads_10 (by decide) ?_
  have vJ24 : ∀ (v3 : Int32), f_X6_reads_J24 v1 m2 v3 = some (r, σ') → iw_V p l e rm_X6_reads s m ([.ref (G.2.1 84), .int p1, .int p2] : List Value).toArray below meth c0 0 0 (MQ below (iw_Q (some (.int r)) G σ') ([.ref (G.2.1 84), .int p1, .int p2] : List Value).toArray s 0 0 (iw_A G)) 4 G (iw_A G) m2 24 [(3, .int v1)] [.int v3, .ref (G.2.1 84)] := by
    intro v3 h
    unfold f_X6_reads_J24 at h
    refine iv_putf (pc := 24) (T := TX6) (N := 16) (ci := 6) C 84 12 (iw_up m2 84 12 v3) in_X6_reads_6 (iw_im hJ (by decide)) iw_Eo84 tyX6_ok nmX6 rfl (by decide) lk_X6_reads_165 rfl rfl (tyX6_ok 12 (by decide)) rfl rfl (Nat.le_of_ble_eq_true rfl) rfl (fun b hb => iw_up_ne hb) dX6_reads_24 ?_
    refine iv_topm (fun m4 em4 => ?_)
    replace h := iw_lete em4 h
    refine iv_iload_n (pc := 27) C 0 dX6_reads_27 rfl rfl ?_
    refine iv_sipush (pc := 28) C (-1000 : Int32) dX6_reads_28 (by decide) ?_
    refine iv_icmp_eq (pc := 31) C 38 dX6_reads_31 (by decide) (fun h5 => ?_) (fun h5 => ?_)
    · replace h := iw_ift h5 h
      refine iv_iconst (pc := 38) C (0 : Int32) dX6_reads_38 (by decide) ?_
      cases h
      exact iv_zret C hr hlk rfl rfl dX6_reads_39
    · replace h := iw_iff h5 h
      refine iv_iconst (pc := 34) C (1 : Int32) dX6_reads_34 (by decide) ?_
      refine iv_goto (pc := 35) C 39 dX6_reads_35 (by decide) ?_
      cases h
      exact iv_zret C hr hlk rfl rfl dX6_reads_39
  refine iv_icmp_ne (pc := 13) C 23 dX6_reads_13 (by decide) (fun h6 => ?_) (fun h6 => ?_)
  · replace h := iw_iff h6 h
    refine iv_iload_n (pc := 23) C 0 dX6_reads_23 rfl rfl ?_
    exact iv_sub [0] rfl (vJ24 v1 h)
  · replace h := iw_ift h6 h
    refine iv_aload_n (pc := 16) C 1 dX6_reads_16 rfl rfl ?_
    refine iv_getf (pc := 17) (T := TX6) (N := 16) (ci := 6) C 84 12 in_X6_reads_6 (iw_im hJ (by decide)) iw_Eo84 rfl (by decide) lk_X6_reads_165 rfl rfl dX6_reads_17 ?_
    refine iv_goto (pc := 20) C 24 dX6_reads_20 (by decide) ?_
    exact iv_sub [0] rfl (vJ24 (m2 84 12) h)
theorem qd_X6_reads : yX6_reads.cls = RX6 ∧ yX6_reads.cls ≠ "java/lang/invoke/MethodHandle" ∧ yX6_reads.cls ≠ "java/lang/invoke/VarHandle" ∧ (parseMethodDescriptor yX6_reads.desc).map (fun d => d.parameters.length) = some 2 := by decide +kernel
def f_X6_readsNode (n : Nat) (σ : iw_M) : Option (Int32 × iw_M) :=
(iw_rd σ 85 (0 : Int32)).bind fun v1 =>
if v1 = (10 : Int32) then
(some ((0 : Int32), σ))
else
(iw_let (iw_up σ 84 12 ((σ 84 12) + (1 : Int32))) fun m3 =>
iw_b2 (f_X6_reads n (1 : Int32) (10000 : Int32) m3) fun v4 m5 =>
if v4 = (0 : Int32) then
(some ((0 : Int32), m5))
else
((f_X6_laysNode (m5 84 13) m5).bind fun m7 =>
some ((1 : Int32), m7)))
abbrev rm_X6_readsNode : Room := { frames := 3, cells := 0, slots := 0, locals := 71 }
theorem lk_X6_readsNode_7 : Cond.fieldLink RX6 7 RX6 (TX6 0).2.1 (TX6 0).2.2.1 ∈ wsX6_readsNode := by decide +kernel
theorem lk_X6_readsNode_165 : Cond.fieldLink RX6 165 RX6 (TX6 12).2.1 (TX6 12).2.2.1 ∈ wsX6_readsNode := by decide +kernel
theorem lk_X6_readsNode_171 : Cond.fieldLink RX6 171 RX6 (TX6 13).2.1 (TX6 13).2.2.1 ∈ wsX6_readsNode := by decide +kernel
theorem in_X6_readsNode_6 : ∀ w ∈ u_ws RX6 TX6 16, w ∈ wsX6_readsNode := by decide +kernel
set_option maxHeartbeats 4000000 in
set_option maxRecDepth 100000 in
theorem k_X6_readsNode (l : Launch) (G : iw_G) (hJ : iw_JM G) (n : Nat) (σ : iw_M) {r : Int32} {σ' : iw_M} (h : f_X6_readsNode n σ = some (r, σ')) : iw_Ct l yX6_readsNode wsX6_readsNode rm_X6_readsNode G ([.ref (G.2.1 84)] : List Value) σ (some (.int r)) σ' := by
  refine iv_start (nL := 1) (own := RX6) (ret := (some .boolean)) (cc := cX6_readsNode) (by decide +kernel) rfl rfl hJ.1 (Nat.le_of_ble_eq_true rfl) ?_
  intro p e s m below meth c0 C hr hlk
  refine iv_sub (lv' := [(0, .ref (G.2.1 84))]) [0] rfl ?_
  unfold f_X6_readsNode at h
  refine iv_aload_n (pc := 0) C 0 dX6_readsNode_0 rfl rfl ?_
  refine iv_getf (pc := 1) (T := TX6) (N := 16) (ci := 6) C 84 0 in_X6_readsNode_6 (iw_im hJ (by decide)) iw_Eo84 rfl (by decide) lk_X6_readsNode_7 rfl rfl dX6_readsNode_1 ?_
  refine iv_iconst (pc := 4) C (0 : Int32) dX6_readsNode_4 (by decide) ?_
  obtain ⟨v1, ev1, h⟩ := iw_be h
  refine iv_rd (pc := 5) C 85 (iw_lm hJ rfl (by decide)) ev1 dX6_readsNode_5 ?_
  refine iv_bipush (pc := 6) C (10 : Int32) dX6_readsNode_6 (by decide) ?_
  refine iv_icmp_ne (pc := 8) C 13 dX6_readsNode_8 (by decide) (fun h2 => ?_) (fun h2 => ?_)
  · replace h := iw_iff h2 h
    refine iv_aload_n (pc := 13) C 0 dX6_readsNode_13 rfl rfl ?_
    refine iv_dup (pc := 14) C rfl dX6_readsNode_14 ?_
    refine iv_getf (pc := 15) (T := TX6) (N := 16) (ci := 6) C 84 12 in_X6_readsNode_6 (iw_im hJ (by decide)) iw_Eo84 rfl (by decide) lk_X6_readsNode_165 rfl rfl dX6_readsNode_15 ?_
    refine iv_iconst (pc := 18) C (1 : Int32) dX6_readsNode_18 (by decide) ?_
    refine iv_iadd (pc := 19) C dX6_readsNode_19 ?_
    refine iv_putf (pc := 20) (T := TX6) (N := 16) (ci := 6) C 84 12 (iw_up σ 84 12 ((σ 84 12) + (1 : Int32))) in_X6_readsNode_6 (iw_im hJ (by decide)) iw_Eo84 tyX6_ok nmX6 rfl (by decide) lk_X6_readsNode_165 rfl rfl (tyX6_ok 12 (by decide)) rfl rfl (Nat.le_of_ble_eq_true rfl) rfl (fun b hb => iw_up_ne hb) dX6_readsNode_20 ?_
    refine iv_topm (fun m3 em3 => ?_)
    replace h := iw_lete em3 h
    refine iv_aload_n (pc := 23) C 0 dX6_readsNode_23 rfl rfl ?_
    refine iv_iconst (pc := 24) C (1 : Int32) dX6_readsNode_24 (by decide) ?_
    refine iv_sipush (pc := 25) C (10000 : Int32) dX6_readsNode_25 (by decide) ?_
    obtain ⟨v4, m5, ev4, h⟩ := iw_b2e h
    refine iv_callV (pc := 28) (b := 84) (ci := 6) C [.int (1 : Int32), .int (10000 : Int32)] (k_X6_reads l G hJ n (1 : Int32) (10000 : Int32) m3 ev4) gX6_readsNode_X6_reads rfl qd_X6_reads ⟨rfl, rfl, Nat.le_of_ble_eq_true rfl, Nat.le_of_ble_eq_true rfl⟩ (iw_im hJ (by decide)) iw_Eo84 rfl rfl rfl (Nat.le_of_ble_eq_true rfl) dX6_readsNode_28 ?_
    refine iv_if_ne (pc := 31) C 36 dX6_readsNode_31 (by decide) (fun h6 => ?_) (fun h6 => ?_)
    · replace h := iw_iff h6 h
      refine iv_aload_n (pc := 36) C 0 dX6_readsNode_36 rfl rfl ?_
      refine iv_aload_n (pc := 37) C 0 dX6_readsNode_37 rfl rfl ?_
      refine iv_getf (pc := 38) (T := TX6) (N := 16) (ci := 6) C 84 13 in_X6_readsNode_6 (iw_im hJ (by decide)) iw_Eo84 rfl (by decide) lk_X6_readsNode_171 rfl rfl dX6_readsNode_38 ?_
      obtain ⟨m7, em7, h⟩ := iw_be h
      refine iv_callV (pc := 41) (b := 84) (ci := 6) C [.int (m5 84 13)] (k_X6_laysNode l G hJ (m5 84 13) m5 em7) gX6_readsNode_X6_laysNode rfl qd_X6_laysNode ⟨rfl, rfl, Nat.le_of_ble_eq_true rfl, Nat.le_of_ble_eq_true rfl⟩ (iw_im hJ (by decide)) iw_Eo84 rfl rfl rfl (Nat.le_of_ble_eq_true rfl) dX6_readsNode_41 ?_
      refine iv_iconst (pc := 44) C (1 : Int32) dX6_readsNode_44 (by decide) ?_
      cases h
      exact iv_zret C hr hlk rfl rfl dX6_readsNode_45
    · replace h := iw_ift h6 h
      refine iv_iconst (pc := 34) C (0 : Int32) dX6_readsNode_34 (by decide) ?_
      cases h
      exact iv_zret C hr hlk rfl rfl dX6_readsNode_35
  · replace h := iw_ift h2 h
    refine iv_iconst (pc := 11) C (0 : Int32) dX6_readsNode_11 (by decide) ?_
    cases h
    exact iv_zret C hr hlk rfl rfl dX6_readsNode_12
theorem qd_X6_readsNode : yX6_readsNode.cls = RX6 ∧ yX6_readsNode.cls ≠ "java/lang/invoke/MethodHandle" ∧ yX6_readsNode.cls ≠ "java/lang/invoke/VarHandle" ∧ (parseMethodDescriptor yX6_readsNode.desc).map (fun d => d.parameters.length) = some 0 := by decide +kernel
def f_X6_readsLink (n : Nat) (σ : iw_M) : Option (Int32 × iw_M) :=
(iw_rd σ 85 (1 : Int32)).bind fun v1 =>
if v1 = (20 : Int32) then
(some ((0 : Int32), σ))
else
((iw_rd σ 85 (0 : Int32)).bind fun v3 =>
iw_b2 (f_X6_reads n (0 : Int32) (v3 - (1 : Int32)) σ) fun v4 m5 =>
if v4 = (0 : Int32) then
(some ((0 : Int32), m5))
else
(iw_let (m5 84 13) fun v7 =>
iw_b2 (f_X6_sign n (45 : Int32) m5) fun v8 m9 =>
if v8 = (0 : Int32) then
(some ((0 : Int32), m9))
else
((iw_rd m9 85 (0 : Int32)).bind fun v11 =>
iw_b2 (f_X6_finds n (0 : Int32) (v11 - (1 : Int32)) (0 : Int32) m9) fun v12 m13 =>
if v12 = (-1000 : Int32) then
(some ((0 : Int32), m13))
else
(if (m13 84 13) = v7 then
(some ((0 : Int32), m13))
else
((f_X6_linkOf n v7 (m13 84 13) m13).bind fun v16 =>
if v16 = (-1000 : Int32) then
(iw_let (m13 84 13) fun v18 =>
iw_let (iw_up m13 84 12 v12) fun m19 =>
iw_b2 (f_X6_sign n (58 : Int32) m19) fun v20 m21 =>
if v20 = (0 : Int32) then
(some ((0 : Int32), m21))
else
(iw_b2 (f_X6_reads n (1 : Int32) (20 : Int32) m21) fun v23 m24 =>
if v23 = (0 : Int32) then
(some ((0 : Int32), m24))
else
((f_X6_laysLink v7 v18 (m24 84 13) m24).bind fun m26 =>
some ((1 : Int32), m26))))
else
(some ((0 : Int32), m13)))))))
abbrev rm_X6_readsLink : Room := { frames := 3, cells := 0, slots := 0, locals := 71 }
theorem lk_X6_readsLink_7 : Cond.fieldLink RX6 7 RX6 (TX6 0).2.1 (TX6 0).2.2.1 ∈ wsX6_readsLink := by decide +kernel
theorem lk_X6_readsLink_171 : Cond.fieldLink RX6 171 RX6 (TX6 13).2.1 (TX6 13).2.2.1 ∈ wsX6_readsLink := by decide +kernel
theorem lk_X6_readsLink_165 : Cond.fieldLink RX6 165 RX6 (TX6 12).2.1 (TX6 12).2.2.1 ∈ wsX6_readsLink := by decide +kernel
theorem in_X6_readsLink_6 : ∀ w ∈ u_ws RX6 TX6 16, w ∈ wsX6_readsLink := by decide +kernel
set_option maxHeartbeats 4000000 in
set_option maxRecDepth 100000 in
theorem k_X6_readsLink (l : Launch) (G : iw_G) (hJ : iw_JM G) (n : Nat) (σ : iw_M) {r : Int32} {σ' : iw_M} (h : f_X6_readsLink n σ = some (r, σ')) : iw_Ct l yX6_readsLink wsX6_readsLink rm_X6_readsLink G ([.ref (G.2.1 84)] : List Value) σ (some (.int r)) σ' := by
  refine iv_start (nL := 4) (own := RX6) (ret := (some .boolean)) (cc := cX6_readsLink) (by decide +kernel) rfl rfl hJ.1 (Nat.le_of_ble_eq_true rfl) ?_
  intro p e s m below meth c0 C hr hlk
  refine iv_sub (lv' := [(0, .ref (G.2.1 84))]) [0] rfl ?_
  unfold f_X6_readsLink at h
  refine iv_aload_n (pc := 0) C 0 dX6_readsLink_0 rfl rfl ?_
  refine iv_getf (pc := 1) (T := TX6) (N := 16) (ci := 6) C 84 0 in_X6_readsLink_6 (iw_im hJ (by decide)) iw_Eo84 rfl (by decide) lk_X6_readsLink_7 rfl rfl dX6_readsLink_1 ?_
  refine iv_iconst (pc := 4) C (1 : Int32) dX6_readsLink_4 (by decide) ?_
  obtain ⟨v1, ev1, h⟩ := iw_be h
  refine iv_rd (pc := 5) C 85 (iw_lm hJ rfl (by decide)) ev1 dX6_readsLink_5 ?_
  refine iv_bipush (pc := 6) C (20 : Int32) dX6_readsLink_6 (by decide) ?_
  refine iv_icmp_eq (pc := 8) C 27 dX6_readsLink_8 (by decide) (fun h2 => ?_) (fun h2 => ?_)
  · replace h := iw_ift h2 h
    refine iv_iconst (pc := 27) C (0 : Int32) dX6_readsLink_27 (by decide) ?_
    cases h
    exact iv_zret C hr hlk rfl rfl dX6_readsLink_28
  · replace h := iw_iff h2 h
    refine iv_aload_n (pc := 11) C 0 dX6_readsLink_11 rfl rfl ?_
    refine iv_iconst (pc := 12) C (0 : Int32) dX6_readsLink_12 (by decide) ?_
    refine iv_aload_n (pc := 13) C 0 dX6_readsLink_13 rfl rfl ?_
    refine iv_getf (pc := 14) (T := TX6) (N := 16) (ci := 6) C 84 0 in_X6_readsLink_6 (iw_im hJ (by decide)) iw_Eo84 rfl (by decide) lk_X6_readsLink_7 rfl rfl dX6_readsLink_14 ?_
    refine iv_iconst (pc := 17) C (0 : Int32) dX6_readsLink_17 (by decide) ?_
    obtain ⟨v3, ev3, h⟩ := iw_be h
    refine iv_rd (pc := 18) C 85 (iw_lm hJ rfl (by decide)) ev3 dX6_readsLink_18 ?_
    refine iv_iconst (pc := 19) C (1 : Int32) dX6_readsLink_19 (by decide) ?_
    refine iv_isub (pc := 20) C dX6_readsLink_20 ?_
    obtain ⟨v4, m5, ev4, h⟩ := iw_b2e h
    refine iv_callV (pc := 21) (b := 84) (ci := 6) C [.int (0 : Int32), .int (v3 - (1 : Int32))] (k_X6_reads l G hJ n (0 : Int32) (v3 - (1 : Int32)) σ ev4) gX6_readsLink_X6_reads rfl qd_X6_reads ⟨rfl, rfl, Nat.le_of_ble_eq_true rfl, Nat.le_of_ble_eq_true rfl⟩ (iw_im hJ (by decide)) iw_Eo84 rfl rfl rfl (Nat.le_of_ble_eq_true rfl) dX6_readsLink_21 ?_
    refine iv_if_ne (pc := 24) C 29 dX6_readsLink_24 (by decide) (fun h6 => ?_) (fun h6 => ?_)
    · replace h := iw_iff h6 h
      refine iv_aload_n (pc := 29) C 0 dX6_readsLink_29 rfl rfl ?_
      refine iv_getf (pc := 30) (T := TX6) (N := 16) (ci := 6) C 84 13 in_X6_readsLink_6 (iw_im hJ (by decide)) iw_Eo84 rfl (by decide) lk_X6_readsLink_171 rfl rfl dX6_readsLink_30 ?_
      refine iv_topi (fun v7 ev7 => ?_)
      replace h := iw_lete ev7 h
      refine iv_istore_n (pc := 33) C [(1, .int v7), (0, .ref (G.2.1 84))] dX6_readsLink_33 rfl (by decide) rfl ?_
      refine iv_aload_n (pc := 34) C 1 dX6_readsLink_34 rfl rfl ?_
      refine iv_bipush (pc := 35) C (45 : Int32) dX6_readsLink_35 (by decide) ?_
      obtain ⟨v8, m9, ev8, h⟩ := iw_b2e h
      refine iv_callV (pc := 37) (b := 84) (ci := 6) C [.int (45 : Int32)] (k_X6_sign l G hJ n (45 : Int32) m5 ev8) gX6_readsLink_X6_sign rfl qd_X6_sign ⟨rfl, rfl, Nat.le_of_ble_eq_true rfl, Nat.le_of_ble_eq_true rfl⟩ (iw_im hJ (by decide)) iw_Eo84 rfl rfl rfl (Nat.le_of_ble_eq_true rfl) dX6_readsLink_37 ?_
      refine iv_if_ne (pc := 40) C 45 dX6_readsLink_40 (by decide) (fun h10 => ?_) (fun h10 => ?_)
      · replace h := iw_iff h10 h
        refine iv_aload_n (pc := 45) C 1 dX6_readsLink_45 rfl rfl ?_
        refine iv_iconst (pc := 46) C (0 : Int32) dX6_readsLink_46 (by decide) ?_
        refine iv_aload_n (pc := 47) C 1 dX6_readsLink_47 rfl rfl ?_
        refine iv_getf (pc := 48) (T := TX6) (N := 16) (ci := 6) C 84 0 in_X6_readsLink_6 (iw_im hJ (by decide)) iw_Eo84 rfl (by decide) lk_X6_readsLink_7 rfl rfl dX6_readsLink_48 ?_
        refine iv_iconst (pc := 51) C (0 : Int32) dX6_readsLink_51 (by decide) ?_
        obtain ⟨v11, ev11, h⟩ := iw_be h
        refine iv_rd (pc := 52) C 85 (iw_lm hJ rfl (by decide)) ev11 dX6_readsLink_52 ?_
        refine iv_iconst (pc := 53) C (1 : Int32) dX6_readsLink_53 (by decide) ?_
        refine iv_isub (pc := 54) C dX6_readsLink_54 ?_
        refine iv_iconst (pc := 55) C (0 : Int32) dX6_readsLink_55 (by decide) ?_
        obtain ⟨v12, m13, ev12, h⟩ := iw_b2e h
        refine iv_callV (pc := 56) (b := 84) (ci := 6) C [.int (0 : Int32), .int (v11 - (1 : Int32)), .int (0 : Int32)] (k_X6_finds l G hJ n (0 : Int32) (v11 - (1 : Int32)) (0 : Int32) m9 ev12) gX6_readsLink_X6_finds rfl qd_X6_finds ⟨rfl, rfl, Nat.le_of_ble_eq_true rfl, Nat.le_of_ble_eq_true rfl⟩ (iw_im hJ (by decide)) iw_Eo84 rfl rfl rfl (Nat.le_of_ble_eq_true rfl) dX6_readsLink_56 ?_
        refine iv_istore_n (pc := 59) C [(2, .int v12), (1, .int v7), (0, .ref (G.2.1 84))] dX6_readsLink_59 rfl (by decide) rfl ?_
        refine iv_iload_n (pc := 60) C 0 dX6_readsLink_60 rfl rfl ?_
        refine iv_sipush (pc := 61) C (-1000 : Int32) dX6_readsLink_61 (by decide) ?_
        refine iv_icmp_eq (pc := 64) C 90 dX6_readsLink_64 (by decide) (fun h14 => ?_) (fun h14 => ?_)
        · replace h := iw_ift h14 h
          refine iv_iconst (pc := 90) C (0 : Int32) dX6_readsLink_90 (by decide) ?_
          cases h
          exact iv_zret C hr hlk rfl rfl dX6_readsLink_91
        · replace h := iw_iff h14 h
          refine iv_aload_n (pc := 67) C 2 dX6_readsLink_67 rfl rfl ?_
          refine iv_getf (pc := 68) (T := TX6) (N := 16) (ci := 6) C 84 13 in_X6_readsLink_6 (iw_im hJ (by decide)) iw_Eo84 rfl (by decide) lk_X6_readsLink_171 rfl rfl dX6_readsLink_68 ?_
          refine iv_iload_n (pc := 71) C 1 dX6_readsLink_71 rfl rfl ?_
          refine iv_icmp_eq (pc := 72) C 90 dX6_readsLink_72 (by decide) (fun h15 => ?_) (fun h15 => ?_)
          · replace h := iw_ift h15 h
            refine iv_iconst (pc := 90) C (0 : Int32) dX6_readsLink_90 (by decide) ?_
            cases h
            exact iv_zret C hr hlk rfl rfl dX6_readsLink_91
          · replace h := iw_iff h15 h
            refine iv_aload_n (pc := 75) C 2 dX6_readsLink_75 rfl rfl ?_
            refine iv_iload_n (pc := 76) C 1 dX6_readsLink_76 rfl rfl ?_
            refine iv_aload_n (pc := 77) C 2 dX6_readsLink_77 rfl rfl ?_
            refine iv_getf (pc := 78) (T := TX6) (N := 16) (ci := 6) C 84 13 in_X6_readsLink_6 (iw_im hJ (by decide)) iw_Eo84 rfl (by decide) lk_X6_readsLink_171 rfl rfl dX6_readsLink_78 ?_
            obtain ⟨v16, ev16, h⟩ := iw_be h
            refine iv_callV (pc := 81) (b := 84) (ci := 6) C [.int v7, .int (m13 84 13)] (k_X6_linkOf l G hJ n v7 (m13 84 13) m13 ev16) gX6_readsLink_X6_linkOf rfl qd_X6_linkOf ⟨rfl, rfl, Nat.le_of_ble_eq_true rfl, Nat.le_of_ble_eq_true rfl⟩ (iw_im hJ (by decide)) iw_Eo84 rfl rfl rfl (Nat.le_of_ble_eq_true rfl) dX6_readsLink_81 ?_
            refine iv_sipush (pc := 84) C (-1000 : Int32) dX6_readsLink_84 (by decide) ?_
            refine iv_icmp_eq (pc := 87) C 92 dX6_readsLink_87 (by decide) (fun h17 => ?_) (fun h17 => ?_)
            · replace h := iw_ift h17 h
              refine iv_aload_n (pc := 92) C 2 dX6_readsLink_92 rfl rfl ?_
              refine iv_getf (pc := 93) (T := TX6) (N := 16) (ci := 6) C 84 13 in_X6_readsLink_6 (iw_im hJ (by decide)) iw_Eo84 rfl (by decide) lk_X6_readsLink_171 rfl rfl dX6_readsLink_93 ?_
              refine iv_topi (fun v18 ev18 => ?_)
              replace h := iw_lete ev18 h
              refine iv_istore_n (pc := 96) C [(3, .int v18), (2, .int v12), (1, .int v7), (0, .ref (G.2.1 84))] dX6_readsLink_96 rfl (by decide) rfl ?_
              refine iv_aload_n (pc := 97) C 3 dX6_readsLink_97 rfl rfl ?_
              refine iv_iload_n (pc := 98) C 1 dX6_readsLink_98 rfl rfl ?_
              refine iv_putf (pc := 99) (T := TX6) (N := 16) (ci := 6) C 84 12 (iw_up m13 84 12 v12) in_X6_readsLink_6 (iw_im hJ (by decide)) iw_Eo84 tyX6_ok nmX6 rfl (by decide) lk_X6_readsLink_165 rfl rfl (tyX6_ok 12 (by decide)) rfl rfl (Nat.le_of_ble_eq_true rfl) rfl (fun b hb => iw_up_ne hb) dX6_readsLink_99 ?_
              refine iv_topm (fun m19 em19 => ?_)
              replace h := iw_lete em19 h
              refine iv_aload_n (pc := 102) C 3 dX6_readsLink_102 rfl rfl ?_
              refine iv_bipush (pc := 103) C (58 : Int32) dX6_readsLink_103 (by decide) ?_
              obtain ⟨v20, m21, ev20, h⟩ := iw_b2e h
              refine iv_callV (pc := 105) (b := 84) (ci := 6) C [.int (58 : Int32)] (k_X6_sign l G hJ n (58 : Int32) m19 ev20) gX6_readsLink_X6_sign rfl qd_X6_sign ⟨rfl, rfl, Nat.le_of_ble_eq_true rfl, Nat.le_of_ble_eq_true rfl⟩ (iw_im hJ (by decide)) iw_Eo84 rfl rfl rfl (Nat.le_of_ble_eq_true rfl) dX6_readsLink_105 ?_
              refine iv_if_eq (pc := 108) C 121 dX6_readsLink_108 (by decide) (fun h22 => ?_) (fun h22 => ?_)
              · replace h := iw_ift h22 h
                refine iv_iconst (pc := 121) C (0 : Int32) dX6_readsLink_121 (by decide) ?_
                cases h
                exact iv_zret C hr hlk rfl rfl dX6_readsLink_122
              · replace h := iw_iff h22 h
                refine iv_aload_n (pc := 111) C 3 dX6_readsLink_111 rfl rfl ?_
                refine iv_iconst (pc := 112) C (1 : Int32) dX6_readsLink_112 (by decide) ?_
                refine iv_bipush (pc := 113) C (20 : Int32) dX6_readsLink_113 (by decide) ?_
                obtain ⟨v23, m24, ev23, h⟩ := iw_b2e h
                refine iv_callV (pc := 115) (b := 84) (ci := 6) C [.int (1 : Int32), .int (20 : Int32)] (k_X6_reads l G hJ n (1 : Int32) (20 : Int32) m21 ev23) gX6_readsLink_X6_reads rfl qd_X6_reads ⟨rfl, rfl, Nat.le_of_ble_eq_true rfl, Nat.le_of_ble_eq_true rfl⟩ (iw_im hJ (by decide)) iw_Eo84 rfl rfl rfl (Nat.le_of_ble_eq_true rfl) dX6_readsLink_115 ?_
                refine iv_if_ne (pc := 118) C 123 dX6_readsLink_118 (by decide) (fun h25 => ?_) (fun h25 => ?_)
                · replace h := iw_iff h25 h
                  refine iv_aload_n (pc := 123) C 3 dX6_readsLink_123 rfl rfl ?_
                  refine iv_iload_n (pc := 124) C 2 dX6_readsLink_124 rfl rfl ?_
                  refine iv_iload_n (pc := 125) C 0 dX6_readsLink_125 rfl rfl ?_
                  refine iv_aload_n (pc := 126) C 3 dX6_readsLink_126 rfl rfl ?_
                  refine iv_getf (pc := 127) (T := TX6) (N := 16) (ci := 6) C 84 13 in_X6_readsLink_6 (iw_im hJ (by decide)) iw_Eo84 rfl (by decide) lk_X6_readsLink_171 rfl rfl dX6_readsLink_127 ?_
                  obtain ⟨m26, em26, h⟩ := iw_be h
                  refine iv_callV (pc := 130) (b := 84) (ci := 6) C [.int v7, .int v18, .int (m24 84 13)] (k_X6_laysLink l G hJ v7 v18 (m24 84 13) m24 em26) gX6_readsLink_X6_laysLink rfl qd_X6_laysLink ⟨rfl, rfl, Nat.le_of_ble_eq_true rfl, Nat.le_of_ble_eq_true rfl⟩ (iw_im hJ (by decide)) iw_Eo84 rfl rfl rfl (Nat.le_of_ble_eq_true rfl) dX6_readsLink_130 ?_
                  refine iv_iconst (pc := 133) C (1 : Int32) dX6_readsLink_133 (by decide) ?_
                  cases h
                  exact iv_zret C hr hlk rfl rfl dX6_readsLink_134
                · replace h := iw_ift h25 h
                  refine iv_iconst (pc := 121) C (0 : Int32) dX6_readsLink_121 (by decide) ?_
                  cases h
                  exact iv_zret C hr hlk rfl rfl dX6_readsLink_122
            · replace h := iw_iff h17 h
              refine iv_iconst (pc := 90) C (0 : Int32) dX6_readsLink_90 (by decide) ?_
              cases h
              exact iv_zret C hr hlk rfl rfl dX6_readsLink_91
      · replace h := iw_ift h10 h
        refine iv_iconst (pc := 43) C (0 : Int32) dX6_readsLink_43 (by decide) ?_
        cases h
        exact iv_zret C hr hlk rfl rfl dX6_readsLink_44
    · replace h := iw_ift h6 h
      refine iv_iconst (pc := 27) C (0 : Int32) dX6_readsLink_27 (by decide) ?_
      cases h
      exact iv_zret C hr hlk rfl rfl dX6_readsLink_28
theorem qd_X6_readsLink : yX6_readsLink.cls = RX6 ∧ yX6_readsLink.cls ≠ "java/lang/invoke/MethodHandle" ∧ yX6_readsLink.cls ≠ "java/lang/invoke/VarHandle" ∧ (parseMethodDescriptor yX6_readsLink.desc).map (fun d => d.parameters.length) = some 0 := by decide +kernel
def f_X6_readsSensor_J140 (v21 : Int32) (m25 : iw_M) : Option (Int32 × iw_M) :=
if v21 = (-1000 : Int32) then
(some ((0 : Int32), m25))
else
(some ((1 : Int32), m25))
def f_X6_readsSensor_J119 (n : Nat) (v8 : Int32) (v15 : Int32) (v21 : Int32) (m22 : iw_M) (v23 : Int32) : Option (Int32 × iw_M) :=
iw_let (iw_up m22 84 12 v23) fun m24 =>
if v21 = (-1000 : Int32) then
(f_X6_readsSensor_J140 v21 m24)
else
((f_X6_laysSensor n v8 v15 (m24 84 13) m24).bind fun m28 =>
f_X6_readsSensor_J140 v21 m28)
def f_X6_readsSensor (n : Nat) (σ : iw_M) : Option (Int32 × iw_M) :=
(iw_rd σ 85 (2 : Int32)).bind fun v1 =>
if v1 = (6 : Int32) then
(some ((0 : Int32), σ))
else
(iw_let (iw_up σ 84 12 ((σ 84 12) + (1 : Int32))) fun m3 =>
(iw_rd m3 85 (0 : Int32)).bind fun v4 =>
iw_b2 (f_X6_reads n (0 : Int32) (v4 - (1 : Int32)) m3) fun v5 m6 =>
if v5 = (0 : Int32) then
(some ((0 : Int32), m6))
else
(iw_let (m6 84 13) fun v8 =>
iw_b2 (f_X6_sign n (44 : Int32) m6) fun v9 m10 =>
if v9 = (0 : Int32) then
(some ((0 : Int32), m10))
else
(iw_b2 (f_X6_reads n (0 : Int32) (7 : Int32) m10) fun v12 m13 =>
if v12 = (0 : Int32) then
(some ((0 : Int32), m13))
else
(iw_let (m13 84 13) fun v15 =>
iw_b2 (f_X6_sign n (61 : Int32) m13) fun v16 m17 =>
if v16 = (0 : Int32) then
(some ((0 : Int32), m17))
else
(iw_b2 (f_X6_sign n (45 : Int32) m17) fun v19 m20 =>
iw_b2 (f_X6_finds n (-100 : Int32) (100 : Int32) v19 m20) fun v21 m22 =>
if v21 = (-1000 : Int32) then
(f_X6_readsSensor_J119 n v8 v15 v21 m22 (m22 84 12))
else
(f_X6_readsSensor_J119 n v8 v15 v21 m22 v21))))))
abbrev rm_X6_readsSensor : Room := { frames := 3, cells := 0, slots := 0, locals := 71 }
theorem lk_X6_readsSensor_7 : Cond.fieldLink RX6 7 RX6 (TX6 0).2.1 (TX6 0).2.2.1 ∈ wsX6_readsSensor := by decide +kernel
theorem lk_X6_readsSensor_165 : Cond.fieldLink RX6 165 RX6 (TX6 12).2.1 (TX6 12).2.2.1 ∈ wsX6_readsSensor := by decide +kernel
theorem lk_X6_readsSensor_171 : Cond.fieldLink RX6 171 RX6 (TX6 13).2.1 (TX6 13).2.2.1 ∈ wsX6_readsSensor := by decide +kernel
theorem in_X6_readsSensor_6 : ∀ w ∈ u_ws RX6 TX6 16, w ∈ wsX6_readsSensor := by decide +kernel
set_option maxHeartbeats 4000000 in
set_option maxRecDepth 100000 in
theorem k_X6_readsSensor (l : Launch) (G : iw_G) (hJ : iw_JM G) (n : Nat) (σ : iw_M) {r : Int32} {σ' : iw_M} (h : f_X6_readsSensor n σ = some (r, σ')) : iw_Ct l yX6_readsSensor wsX6_readsSensor rm_X6_readsSensor G ([.ref (G.2.1 84)] : List Value) σ (some (.int r)) σ' := by
  refine iv_start (nL := 5) (own := RX6) (ret := (some .boolean)) (cc := cX6_readsSensor) (by decide +kernel) rfl rfl hJ.1 (Nat.le_of_ble_eq_true rfl) ?_
  intro p e s m below meth c0 C hr hlk
  refine iv_sub (lv' := [(0, .ref (G.2.1 84))]) [0] rfl ?_
  unfold f_X6_readsSensor at h
  refine iv_aload_n (pc := 0) C 0 dX6_readsSensor_0 rfl rfl ?_
  refine iv_getf (pc := 1) (T := TX6) (N := 16) (ci := 6) C 84 0 in_X6_readsSensor_6 (iw_im hJ (by decide)) iw_Eo84 rfl (by decide) lk_X6_readsSensor_7 rfl rfl dX6_readsSensor_1 ?_
  refine iv_iconst (pc := 4) C (2 : Int32) dX6_readsSensor_4 (by decide) ?_
  obtain ⟨v1, ev1, h⟩ := iw_be h
  refine iv_rd (pc := 5) C 85 (iw_lm hJ rfl (by decide)) ev1 dX6_readsSensor_5 ?_
  refine iv_bipush (pc := 6) C (6 : Int32) dX6_readsSensor_6 (by decide) ?_
  refine iv_icmp_ne (pc := 8) C 13 dX6_readsSensor_8 (by decide) (fun h2 => ?_) (fun h2 => ?_)
  · replace h := iw_iff h2 h
    refine iv_aload_n (pc := 13) C 0 dX6_readsSensor_13 rfl rfl ?_
    refine iv_dup (pc := 14) C rfl dX6_readsSensor_14 ?_
    refine iv_getf (pc := 15) (T := TX6) (N := 16) (ci := 6) C 84 12 in_X6_readsSensor_6 (iw_im hJ (by decide)) iw_Eo84 rfl (by decide) lk_X6_readsSensor_165 rfl rfl dX6_readsSensor_15 ?_
    refine iv_iconst (pc := 18) C (1 : Int32) dX6_readsSensor_18 (by decide) ?_
    refine iv_iadd (pc := 19) C dX6_readsSensor_19 ?_
    refine iv_putf (pc := 20) (T := TX6) (N := 16) (ci := 6) C 84 12 (iw_up σ 84 12 ((σ 84 12) + (1 : Int32))) in_X6_readsSensor_6 (iw_im hJ (by decide)) iw_Eo84 tyX6_ok nmX6 rfl (by decide) lk_X6_readsSensor_165 rfl rfl (tyX6_ok 12 (by decide)) rfl rfl (Nat.le_of_ble_eq_true rfl) rfl (fun b hb => iw_up_ne hb) dX6_readsSensor_20 ?_
    refine iv_topm (fun m3 em3 => ?_)
    replace h := iw_lete em3 h
    refine iv_aload_n (pc := 23) C 0 dX6_readsSensor_23 rfl rfl ?_
    refine iv_iconst (pc := 24) C (0 : Int32) dX6_readsSensor_24 (by decide) ?_
    refine iv_aload_n (pc := 25) C 0 dX6_readsSensor_25 rfl rfl ?_
    refine iv_getf (pc := 26) (T := TX6) (N := 16) (ci := 6) C 84 0 in_X6_readsSensor_6 (iw_im hJ (by decide)) iw_Eo84 rfl (by decide) lk_X6_readsSensor_7 rfl rfl dX6_readsSensor_26 ?_
    refine iv_iconst (pc := 29) C (0 : Int32) dX6_readsSensor_29 (by decide) ?_
    obtain ⟨v4, ev4, h⟩ := iw_be h
    refine iv_rd (pc := 30) C 85 (iw_lm hJ rfl (by decide)) ev4 dX6_readsSensor_30 ?_
    refine iv_iconst (pc := 31) C (1 : Int32) dX6_readsSensor_31 (by decide) ?_
    refine iv_isub (pc := 32) C dX6_readsSensor_32 ?_
    obtain ⟨v5, m6, ev5, h⟩ := iw_b2e h
    refine iv_callV (pc := 33) (b := 84) (ci := 6) C [.int (0 : Int32), .int (v4 - (1 : Int32))] (k_X6_reads l G hJ n (0 : Int32) (v4 - (1 : Int32)) m3 ev5) gX6_readsSensor_X6_reads rfl qd_X6_reads ⟨rfl, rfl, Nat.le_of_ble_eq_true rfl, Nat.le_of_ble_eq_true rfl⟩ (iw_im hJ (by decide)) iw_Eo84 rfl rfl rfl (Nat.le_of_ble_eq_true rfl) dX6_readsSensor_33 ?_
    refine iv_if_ne (pc := 36) C 41 dX6_readsSensor_36 (by decide) (fun h7 => ?_) (fun h7 => ?_)
    · replace h := iw_iff h7 h
      refine iv_aload_n (pc := 41) C 0 dX6_readsSensor_41 rfl rfl ?_
      refine iv_getf (pc := 42) (T := TX6) (N := 16) (ci := 6) C 84 13 in_X6_readsSensor_6 (iw_im hJ (by decide)) iw_Eo84 rfl (by decide) lk_X6_readsSensor_171 rfl rfl dX6_readsSensor_42 ?_
      refine iv_topi (fun v8 ev8 => ?_)
      replace h := iw_lete ev8 h
      refine iv_istore_n (pc := 45) C [(1, .int v8), (0, .ref (G.2.1 84))] dX6_readsSensor_45 rfl (by decide) rfl ?_
      refine iv_aload_n (pc := 46) C 1 dX6_readsSensor_46 rfl rfl ?_
      refine iv_bipush (pc := 47) C (44 : Int32) dX6_readsSensor_47 (by decide) ?_
      obtain ⟨v9, m10, ev9, h⟩ := iw_b2e h
      refine iv_callV (pc := 49) (b := 84) (ci := 6) C [.int (44 : Int32)] (k_X6_sign l G hJ n (44 : Int32) m6 ev9) gX6_readsSensor_X6_sign rfl qd_X6_sign ⟨rfl, rfl, Nat.le_of_ble_eq_true rfl, Nat.le_of_ble_eq_true rfl⟩ (iw_im hJ (by decide)) iw_Eo84 rfl rfl rfl (Nat.le_of_ble_eq_true rfl) dX6_readsSensor_49 ?_
      refine iv_if_eq (pc := 52) C 65 dX6_readsSensor_52 (by decide) (fun h11 => ?_) (fun h11 => ?_)
      · replace h := iw_ift h11 h
        refine iv_iconst (pc := 65) C (0 : Int32) dX6_readsSensor_65 (by decide) ?_
        cases h
        exact iv_zret C hr hlk rfl rfl dX6_readsSensor_66
      · replace h := iw_iff h11 h
        refine iv_aload_n (pc := 55) C 1 dX6_readsSensor_55 rfl rfl ?_
        refine iv_iconst (pc := 56) C (0 : Int32) dX6_readsSensor_56 (by decide) ?_
        refine iv_bipush (pc := 57) C (7 : Int32) dX6_readsSensor_57 (by decide) ?_
        obtain ⟨v12, m13, ev12, h⟩ := iw_b2e h
        refine iv_callV (pc := 59) (b := 84) (ci := 6) C [.int (0 : Int32), .int (7 : Int32)] (k_X6_reads l G hJ n (0 : Int32) (7 : Int32) m10 ev12) gX6_readsSensor_X6_reads rfl qd_X6_reads ⟨rfl, rfl, Nat.le_of_ble_eq_true rfl, Nat.le_of_ble_eq_true rfl⟩ (iw_im hJ (by decide)) iw_Eo84 rfl rfl rfl (Nat.le_of_ble_eq_true rfl) dX6_readsSensor_59 ?_
        refine iv_if_ne (pc := 62) C 67 dX6_readsSensor_62 (by decide) (fun h14 => ?_) (fun h14 => ?_)
        · replace h := iw_iff h14 h
          refine iv_aload_n (pc := 67) C 1 dX6_readsSensor_67 rfl rfl ?_
          refine iv_getf (pc := 68) (T := TX6) (N := 16) (ci := 6) C 84 13 in_X6_readsSensor_6 (iw_im hJ (by decide)) iw_Eo84 rfl (by decide) lk_X6_readsSensor_171 rfl rfl dX6_readsSensor_68 ?_
          refine iv_topi (fun v15 ev15 => ?_)
          replace h := iw_lete ev15 h
          refine iv_istore_n (pc := 71) C [(2, .int v15), (1, .int v8), (0, .ref (G.2.1 84))] dX6_readsSensor_71 rfl (by decide) rfl ?_
          refine iv_aload_n (pc := 72) C 2 dX6_readsSensor_72 rfl rfl ?_
          refine iv_bipush (pc := 73) C (61 : Int32) dX6_readsSensor_73 (by decide) ?_
          obtain ⟨v16, m17, ev16, h⟩ := iw_b2e h
          refine iv_callV (pc := 75) (b := 84) (ci := 6) C [.int (61 : Int32)] (k_X6_sign l G hJ n (61 : Int32) m13 ev16) gX6_readsSensor_X6_sign rfl qd_X6_sign ⟨rfl, rfl, Nat.le_of_ble_eq_true rfl, Nat.le_of_ble_eq_true rfl⟩ (iw_im hJ (by decide)) iw_Eo84 rfl rfl rfl (Nat.le_of_ble_eq_true rfl) dX6_readsSensor_75 ?_
          refine iv_if_ne (pc := 78) C 83 dX6_readsSensor_78 (by decide) (fun h18 => ?_) (fun h18 => ?_)
          · replace h := iw_iff h18 h
            refine iv_aload_n (pc := 83) C 2 dX6_readsSensor_83 rfl rfl ?_
            refine iv_bipush (pc := 84) C (45 : Int32) dX6_readsSensor_84 (by decide) ?_
            obtain ⟨v19, m20, ev19, h⟩ := iw_b2e h
            refine iv_callV (pc := 86) (b := 84) (ci := 6) C [.int (45 : Int32)] (k_X6_sign l G hJ n (45 : Int32) m17 ev19) gX6_readsSensor_X6_sign rfl qd_X6_sign ⟨rfl, rfl, Nat.le_of_ble_eq_true rfl, Nat.le_of_ble_eq_true rfl⟩ (iw_im hJ (by decide)) iw_Eo84 rfl rfl rfl (Nat.le_of_ble_eq_true rfl) dX6_readsSensor_86 ?_
            refine iv_istore_n (pc := 89) C [(3, .int v19), (2, .int v15), (1, .int v8), (0, .ref (G.2.1 84))] dX6_readsSensor_89 rfl (by decide) rfl ?_
            refine iv_aload_n (pc := 90) C 3 dX6_readsSensor_90 rfl rfl ?_
            refine iv_bipush (pc := 91) C (-100 : Int32) dX6_readsSensor_91 (by decide) ?_
            refine iv_bipush (pc := 93) C (100 : Int32) dX6_readsSensor_93 (by decide) ?_
            refine iv_iload_n (pc := 95) C 0 dX6_readsSensor_95 rfl rfl ?_
            obtain ⟨v21, m22, ev21, h⟩ := iw_b2e h
            refine iv_callV (pc := 96) (b := 84) (ci := 6) C [.int (-100 : Int32), .int (100 : Int32), .int v19] (k_X6_finds l G hJ n (-100 : Int32) (100 : Int32) v19 m20 ev21) gX6_readsSensor_X6_finds rfl qd_X6_finds ⟨rfl, rfl, Nat.le_of_ble_eq_true rfl, Nat.le_of_ble_eq_true rfl⟩ (iw_im hJ (by decide)) iw_Eo84 rfl rfl rfl (Nat.le_of_ble_eq_true rfl) dX6_readsSensor_96 ?_
            refine iv_istore (pc := 99) C [(4, .int v21), (3, .int v19), (2, .int v15), (1, .int v8), (0, .ref (G.2.1 84))] dX6_readsSensor_99 (by decide) rfl ?_
            refine iv_aload_n (pc := 101) C 4 dX6_readsSensor_101 rfl rfl ?_
            refine iv_iload (pc := 102) C 0 dX6_readsSensor_102 rfl ?_
            refine iv_sipush (pc := 104) C (-1000 : Int32) dX6_readsSensor_104 (by decide) ?_
            have vJ119 : ∀ (v23 : Int32), f_X6_readsSensor_J119 n v8 v15 v21 m22 v23 = some (r, σ') → iw_V p l e rm_X6_readsSensor s m ([.ref (G.2.1 84)] : List Value).toArray below meth c0 0 0 (MQ below (iw_Q (some (.int r)) G σ') ([.ref (G.2.1 84)] : List Value).toArray s 0 0 (iw_A G)) 5 G (iw_A G) m22 119 [(0, .ref (G.2.1 84)), (1, .int v8), (2, .int v15), (4, .int v21)] [.int v23, .ref (G.2.1 84)] := by
              intro v23 h
              unfold f_X6_readsSensor_J119 at h
              refine iv_putf (pc := 119) (T := TX6) (N := 16) (ci := 6) C 84 12 (iw_up m22 84 12 v23) in_X6_readsSensor_6 (iw_im hJ (by decide)) iw_Eo84 tyX6_ok nmX6 rfl (by decide) lk_X6_readsSensor_165 rfl rfl (tyX6_ok 12 (by decide)) rfl rfl (Nat.le_of_ble_eq_true rfl) rfl (fun b hb => iw_up_ne hb) dX6_readsSensor_119 ?_
              refine iv_topm (fun m24 em24 => ?_)
              replace h := iw_lete em24 h
              refine iv_iload (pc := 122) C 3 dX6_readsSensor_122 rfl ?_
              refine iv_sipush (pc := 124) C (-1000 : Int32) dX6_readsSensor_124 (by decide) ?_
              have vJ140 : ∀ (m25 : iw_M), f_X6_readsSensor_J140 v21 m25 = some (r, σ') → iw_V p l e rm_X6_readsSensor s m ([.ref (G.2.1 84)] : List Value).toArray below meth c0 0 0 (MQ below (iw_Q (some (.int r)) G σ') ([.ref (G.2.1 84)] : List Value).toArray s 0 0 (iw_A G)) 5 G (iw_A G) m25 140 [(4, .int v21)] [] := by
                intro m25 h
                unfold f_X6_readsSensor_J140 at h
                refine iv_iload (pc := 140) C 0 dX6_readsSensor_140 rfl ?_
                refine iv_sipush (pc := 142) C (-1000 : Int32) dX6_readsSensor_142 (by decide) ?_
                refine iv_icmp_eq (pc := 145) C 152 dX6_readsSensor_145 (by decide) (fun h26 => ?_) (fun h26 => ?_)
                · replace h := iw_ift h26 h
                  refine iv_iconst (pc := 152) C (0 : Int32) dX6_readsSensor_152 (by decide) ?_
                  cases h
                  exact iv_zret C hr hlk rfl rfl dX6_readsSensor_153
                · replace h := iw_iff h26 h
                  refine iv_iconst (pc := 148) C (1 : Int32) dX6_readsSensor_148 (by decide) ?_
                  refine iv_goto (pc := 149) C 153 dX6_readsSensor_149 (by decide) ?_
                  cases h
                  exact iv_zret C hr hlk rfl rfl dX6_readsSensor_153
              refine iv_icmp_eq (pc := 127) C 140 dX6_readsSensor_127 (by decide) (fun h27 => ?_) (fun h27 => ?_)
              · replace h := iw_ift h27 h
                exact iv_sub [3] rfl (vJ140 m24 h)
              · replace h := iw_iff h27 h
                refine iv_aload_n (pc := 130) C 0 dX6_readsSensor_130 rfl rfl ?_
                refine iv_iload_n (pc := 131) C 1 dX6_readsSensor_131 rfl rfl ?_
                refine iv_iload_n (pc := 132) C 2 dX6_readsSensor_132 rfl rfl ?_
                refine iv_aload_n (pc := 133) C 0 dX6_readsSensor_133 rfl rfl ?_
                refine iv_getf (pc := 134) (T := TX6) (N := 16) (ci := 6) C 84 13 in_X6_readsSensor_6 (iw_im hJ (by decide)) iw_Eo84 rfl (by decide) lk_X6_readsSensor_171 rfl rfl dX6_readsSensor_134 ?_
                obtain ⟨m28, em28, h⟩ := iw_be h
                refine iv_callV (pc := 137) (b := 84) (ci := 6) C [.int v8, .int v15, .int (m24 84 13)] (k_X6_laysSensor l G hJ n v8 v15 (m24 84 13) m24 em28) gX6_readsSensor_X6_laysSensor rfl qd_X6_laysSensor ⟨rfl, rfl, Nat.le_of_ble_eq_true rfl, Nat.le_of_ble_eq_true rfl⟩ (iw_im hJ (by decide)) iw_Eo84 rfl rfl rfl (Nat.le_of_ble_eq_true rfl) dX6_readsSensor_137 ?_
                exact iv_sub [3] rfl (vJ140 m28 h)
            refine iv_icmp_ne (pc := 107) C 117 dX6_readsSensor_107 (by decide) (fun h29 => ?_) (fun h29 => ?_)
            · replace h := iw_iff h29 h
              refine iv_iload (pc := 117) C 0 dX6_readsSensor_117 rfl ?_
              exact iv_sub [4, 3, 2, 0] rfl (vJ119 v21 h)
            · replace h := iw_ift h29 h
              refine iv_aload_n (pc := 110) C 4 dX6_readsSensor_110 rfl rfl ?_
              refine iv_getf (pc := 111) (T := TX6) (N := 16) (ci := 6) C 84 12 in_X6_readsSensor_6 (iw_im hJ (by decide)) iw_Eo84 rfl (by decide) lk_X6_readsSensor_165 rfl rfl dX6_readsSensor_111 ?_
              refine iv_goto (pc := 114) C 119 dX6_readsSensor_114 (by decide) ?_
              exact iv_sub [4, 3, 2, 0] rfl (vJ119 (m22 84 12) h)
          · replace h := iw_ift h18 h
            refine iv_iconst (pc := 81) C (0 : Int32) dX6_readsSensor_81 (by decide) ?_
            cases h
            exact iv_zret C hr hlk rfl rfl dX6_readsSensor_82
        · replace h := iw_ift h14 h
          refine iv_iconst (pc := 65) C (0 : Int32) dX6_readsSensor_65 (by decide) ?_
          cases h
          exact iv_zret C hr hlk rfl rfl dX6_readsSensor_66
    · replace h := iw_ift h7 h
      refine iv_iconst (pc := 39) C (0 : Int32) dX6_readsSensor_39 (by decide) ?_
      cases h
      exact iv_zret C hr hlk rfl rfl dX6_readsSensor_40
  · replace h := iw_ift h2 h
    refine iv_iconst (pc := 11) C (0 : Int32) dX6_readsSensor_11 (by decide) ?_
    cases h
    exact iv_zret C hr hlk rfl rfl dX6_readsSensor_12
theorem qd_X6_readsSensor : yX6_readsSensor.cls = RX6 ∧ yX6_readsSensor.cls ≠ "java/lang/invoke/MethodHandle" ∧ yX6_readsSensor.cls ≠ "java/lang/invoke/VarHandle" ∧ (parseMethodDescriptor yX6_readsSensor.desc).map (fun d => d.parameters.length) = some 0 := by decide +kernel
def f_X6_readsItem (n : Nat) (σ : iw_M) : Option (Int32 × iw_M) :=
iw_b2 (f_X6_here n σ) fun v1 m2 =>
iw_let (iw_up m2 84 14 ((m2 84 14) + (1 : Int32))) fun m3 =>
if v1 = (110 : Int32) then
(iw_b2 (f_X6_readsNode n m3) fun v10 m11 =>
some ((v10 &&& 1), m11))
else
(if v1 = (115 : Int32) then
(iw_b2 (f_X6_readsSensor n m3) fun v8 m9 =>
some ((v8 &&& 1), m9))
else
(iw_b2 (f_X6_readsLink n m3) fun v6 m7 =>
some ((v6 &&& 1), m7)))
abbrev rm_X6_readsItem : Room := { frames := 4, cells := 0, slots := 0, locals := 95 }
theorem lk_X6_readsItem_184 : Cond.fieldLink RX6 184 RX6 (TX6 14).2.1 (TX6 14).2.2.1 ∈ wsX6_readsItem := by decide +kernel
theorem in_X6_readsItem_6 : ∀ w ∈ u_ws RX6 TX6 16, w ∈ wsX6_readsItem := by decide +kernel
set_option maxHeartbeats 4000000 in
set_option maxRecDepth 100000 in
theorem k_X6_readsItem (l : Launch) (G : iw_G) (hJ : iw_JM G) (n : Nat) (σ : iw_M) {r : Int32} {σ' : iw_M} (h : f_X6_readsItem n σ = some (r, σ')) : iw_Ct l yX6_readsItem wsX6_readsItem rm_X6_readsItem G ([.ref (G.2.1 84)] : List Value) σ (some (.int r)) σ' := by
  refine iv_start (nL := 2) (own := RX6) (ret := (some .boolean)) (cc := cX6_readsItem) (by decide +kernel) rfl rfl hJ.1 (Nat.le_of_ble_eq_true rfl) ?_
  intro p e s m below meth c0 C hr hlk
  refine iv_sub (lv' := [(0, .ref (G.2.1 84))]) [0] rfl ?_
  unfold f_X6_readsItem at h
  refine iv_aload_n (pc := 0) C 0 dX6_readsItem_0 rfl rfl ?_
  obtain ⟨v1, m2, ev1, h⟩ := iw_b2e h
  refine iv_callV (pc := 1) (b := 84) (ci := 6) C [] (k_X6_here l G hJ n σ ev1) gX6_readsItem_X6_here rfl qd_X6_here ⟨rfl, rfl, Nat.le_of_ble_eq_true rfl, Nat.le_of_ble_eq_true rfl⟩ (iw_im hJ (by decide)) iw_Eo84 rfl rfl rfl (Nat.le_of_ble_eq_true rfl) dX6_readsItem_1 ?_
  refine iv_istore_n (pc := 4) C [(1, .int v1), (0, .ref (G.2.1 84))] dX6_readsItem_4 rfl (by decide) rfl ?_
  refine iv_aload_n (pc := 5) C 1 dX6_readsItem_5 rfl rfl ?_
  refine iv_dup (pc := 6) C rfl dX6_readsItem_6 ?_
  refine iv_getf (pc := 7) (T := TX6) (N := 16) (ci := 6) C 84 14 in_X6_readsItem_6 (iw_im hJ (by decide)) iw_Eo84 rfl (by decide) lk_X6_readsItem_184 rfl rfl dX6_readsItem_7 ?_
  refine iv_iconst (pc := 10) C (1 : Int32) dX6_readsItem_10 (by decide) ?_
  refine iv_iadd (pc := 11) C dX6_readsItem_11 ?_
  refine iv_putf (pc := 12) (T := TX6) (N := 16) (ci := 6) C 84 14 (iw_up m2 84 14 ((m2 84 14) + (1 : Int32))) in_X6_readsItem_6 (iw_im hJ (by decide)) iw_Eo84 tyX6_ok nmX6 rfl (by decide) lk_X6_readsItem_184 rfl rfl (tyX6_ok 14 (by decide)) rfl rfl (Nat.le_of_ble_eq_true rfl) rfl (fun b hb => iw_up_ne hb) dX6_readsItem_12 ?_
  refine iv_topm (fun m3 em3 => ?_)
  replace h := iw_lete em3 h
  refine iv_iload_n (pc := 15) C 0 dX6_readsItem_15 rfl rfl ?_
  refine iv_bipush (pc := 16) C (110 : Int32) dX6_readsItem_16 (by decide) ?_
  refine iv_icmp_ne (pc := 18) C 28 dX6_readsItem_18 (by decide) (fun h4 => ?_) (fun h4 => ?_)
  · replace h := iw_iff h4 h
    refine iv_iload_n (pc := 28) C 0 dX6_readsItem_28 rfl rfl ?_
    refine iv_bipush (pc := 29) C (115 : Int32) dX6_readsItem_29 (by decide) ?_
    refine iv_icmp_ne (pc := 31) C 41 dX6_readsItem_31 (by decide) (fun h5 => ?_) (fun h5 => ?_)
    · replace h := iw_iff h5 h
      refine iv_aload_n (pc := 41) C 1 dX6_readsItem_41 rfl rfl ?_
      obtain ⟨v6, m7, ev6, h⟩ := iw_b2e h
      refine iv_callV (pc := 42) (b := 84) (ci := 6) C [] (k_X6_readsLink l G hJ n m3 ev6) gX6_readsItem_X6_readsLink rfl qd_X6_readsLink ⟨rfl, rfl, Nat.le_of_ble_eq_true rfl, Nat.le_of_ble_eq_true rfl⟩ (iw_im hJ (by decide)) iw_Eo84 rfl rfl rfl (Nat.le_of_ble_eq_true rfl) dX6_readsItem_42 ?_
      cases h
      exact iv_zret C hr hlk rfl rfl dX6_readsItem_45
    · replace h := iw_ift h5 h
      refine iv_aload_n (pc := 34) C 1 dX6_readsItem_34 rfl rfl ?_
      obtain ⟨v8, m9, ev8, h⟩ := iw_b2e h
      refine iv_callV (pc := 35) (b := 84) (ci := 6) C [] (k_X6_readsSensor l G hJ n m3 ev8) gX6_readsItem_X6_readsSensor rfl qd_X6_readsSensor ⟨rfl, rfl, Nat.le_of_ble_eq_true rfl, Nat.le_of_ble_eq_true rfl⟩ (iw_im hJ (by decide)) iw_Eo84 rfl rfl rfl (Nat.le_of_ble_eq_true rfl) dX6_readsItem_35 ?_
      refine iv_goto (pc := 38) C 45 dX6_readsItem_38 (by decide) ?_
      cases h
      exact iv_zret C hr hlk rfl rfl dX6_readsItem_45
  · replace h := iw_ift h4 h
    refine iv_aload_n (pc := 21) C 1 dX6_readsItem_21 rfl rfl ?_
    obtain ⟨v10, m11, ev10, h⟩ := iw_b2e h
    refine iv_callV (pc := 22) (b := 84) (ci := 6) C [] (k_X6_readsNode l G hJ n m3 ev10) gX6_readsItem_X6_readsNode rfl qd_X6_readsNode ⟨rfl, rfl, Nat.le_of_ble_eq_true rfl, Nat.le_of_ble_eq_true rfl⟩ (iw_im hJ (by decide)) iw_Eo84 rfl rfl rfl (Nat.le_of_ble_eq_true rfl) dX6_readsItem_22 ?_
    refine iv_goto (pc := 25) C 45 dX6_readsItem_25 (by decide) ?_
    cases h
    exact iv_zret C hr hlk rfl rfl dX6_readsItem_45
theorem qd_X6_readsItem : yX6_readsItem.cls = RX6 ∧ yX6_readsItem.cls ≠ "java/lang/invoke/MethodHandle" ∧ yX6_readsItem.cls ≠ "java/lang/invoke/VarHandle" ∧ (parseMethodDescriptor yX6_readsItem.desc).map (fun d => d.parameters.length) = some 0 := by decide +kernel
def f_X6_readsText_X59_20 (v7 : Int32) (m8 : iw_M) : Option (Int32 × iw_M) :=
some ((v7 &&& 1), m8)
def f_X6_readsText_J50 (n : Nat) (r20 : Int32 → Int32 → iw_M → Option (Int32 × iw_M)) (v16 : Int32) (m17 : iw_M) : Option (Int32 × iw_M) :=
iw_b2 (f_X6_here n m17) fun v18 m19 =>
r20 v16 v18 m19
def f_X6_readsText_J49 (n : Nat) (r20 : Int32 → Int32 → iw_M → Option (Int32 × iw_M)) (m20 : iw_M) : Option (Int32 × iw_M) :=
f_X6_readsText_J50 n r20 (0 : Int32) m20
def f_X6_readsText_B20 (n : Nat) (k20 : Int32 → iw_M → Option (Int32 × iw_M)) (r20 : Int32 → Int32 → iw_M → Option (Int32 × iw_M)) (v9 : Int32) (v10 : Int32) (m11 : iw_M) : Option (Int32 × iw_M) :=
if v9 = (0 : Int32) then
(k20 v9 m11)
else
(if v10 = (-1 : Int32) then
(k20 v9 m11)
else
(iw_b2 (f_X6_sign n (59 : Int32) m11) fun v14 m15 =>
if v14 = (0 : Int32) then
(f_X6_readsText_J49 n r20 m15)
else
(iw_b2 (f_X6_readsItem n m15) fun v22 m23 =>
if v22 = (0 : Int32) then
(f_X6_readsText_J49 n r20 m23)
else
(f_X6_readsText_J50 n r20 (1 : Int32) m23))))
def f_X6_readsText_L20 (n : Nat) (k20 : Int32 → iw_M → Option (Int32 × iw_M)) (nn : Nat) : Int32 → Int32 → iw_M → Option (Int32 × iw_M) :=
iw_it (fun r20 => f_X6_readsText_B20 n k20 r20) (fun _ _ _ => none) nn
def f_X6_readsText (n : Nat) (σ : iw_M) : Option (Int32 × iw_M) :=
iw_let (iw_up σ 84 12 (0 : Int32)) fun m1 =>
iw_let (iw_up m1 84 14 (0 : Int32)) fun m2 =>
iw_b2 (f_X6_readsItem n m2) fun v3 m4 =>
iw_b2 (f_X6_here n m4) fun v5 m6 =>
f_X6_readsText_L20 n (f_X6_readsText_X59_20) n v3 v5 m6
abbrev rm_X6_readsText : Room := { frames := 5, cells := 0, slots := 0, locals := 116 }
theorem lk_X6_readsText_165 : Cond.fieldLink RX6 165 RX6 (TX6 12).2.1 (TX6 12).2.2.1 ∈ wsX6_readsText := by decide +kernel
theorem lk_X6_readsText_184 : Cond.fieldLink RX6 184 RX6 (TX6 14).2.1 (TX6 14).2.2.1 ∈ wsX6_readsText := by decide +kernel
theorem in_X6_readsText_6 : ∀ w ∈ u_ws RX6 TX6 16, w ∈ wsX6_readsText := by decide +kernel
set_option maxHeartbeats 4000000 in
set_option maxRecDepth 100000 in
theorem k_X6_readsText (l : Launch) (G : iw_G) (hJ : iw_JM G) (n : Nat) (σ : iw_M) {r : Int32} {σ' : iw_M} (h : f_X6_readsText n σ = some (r, σ')) : iw_Ct l yX6_readsText wsX6_readsText rm_X6_readsText G ([.ref (G.2.1 84)] : List Value) σ (some (.int r)) σ' := by
  refine iv_start (nL := 3) (own := RX6) (ret := (some .boolean)) (cc := cX6_readsText) (by decide +kernel) rfl rfl hJ.1 (Nat.le_of_ble_eq_true rfl) ?_
  intro p e s m below meth c0 C hr hlk
  refine iv_sub (lv' := [(0, .ref (G.2.1 84))]) [0] rfl ?_
  unfold f_X6_readsText at h
  refine iv_aload_n (pc := 0) C 0 dX6_readsText_0 rfl rfl ?_
  refine iv_iconst (pc := 1) C (0 : Int32) dX6_readsText_1 (by decide) ?_
  refine iv_putf (pc := 2) (T := TX6) (N := 16) (ci := 6) C 84 12 (iw_up σ 84 12 (0 : Int32)) in_X6_readsText_6 (iw_im hJ (by decide)) iw_Eo84 tyX6_ok nmX6 rfl (by decide) lk_X6_readsText_165 rfl rfl (tyX6_ok 12 (by decide)) rfl rfl (Nat.le_of_ble_eq_true rfl) rfl (fun b hb => iw_up_ne hb) dX6_readsText_2 ?_
  refine iv_topm (fun m1 em1 => ?_)
  replace h := iw_lete em1 h
  refine iv_aload_n (pc := 5) C 0 dX6_readsText_5 rfl rfl ?_
  refine iv_iconst (pc := 6) C (0 : Int32) dX6_readsText_6 (by decide) ?_
  refine iv_putf (pc := 7) (T := TX6) (N := 16) (ci := 6) C 84 14 (iw_up m1 84 14 (0 : Int32)) in_X6_readsText_6 (iw_im hJ (by decide)) iw_Eo84 tyX6_ok nmX6 rfl (by decide) lk_X6_readsText_184 rfl rfl (tyX6_ok 14 (by decide)) rfl rfl (Nat.le_of_ble_eq_true rfl) rfl (fun b hb => iw_up_ne hb) dX6_readsText_7 ?_
  refine iv_topm (fun m2 em2 => ?_)
  replace h := iw_lete em2 h
  refine iv_aload_n (pc := 10) C 0 dX6_readsText_10 rfl rfl ?_
  obtain ⟨v3, m4, ev3, h⟩ := iw_b2e h
  refine iv_callV (pc := 11) (b := 84) (ci := 6) C [] (k_X6_readsItem l G hJ n m2 ev3) gX6_readsText_X6_readsItem rfl qd_X6_readsItem ⟨rfl, rfl, Nat.le_of_ble_eq_true rfl, Nat.le_of_ble_eq_true rfl⟩ (iw_im hJ (by decide)) iw_Eo84 rfl rfl rfl (Nat.le_of_ble_eq_true rfl) dX6_readsText_11 ?_
  refine iv_istore_n (pc := 14) C [(1, .int v3), (0, .ref (G.2.1 84))] dX6_readsText_14 rfl (by decide) rfl ?_
  refine iv_aload_n (pc := 15) C 1 dX6_readsText_15 rfl rfl ?_
  obtain ⟨v5, m6, ev5, h⟩ := iw_b2e h
  refine iv_callV (pc := 16) (b := 84) (ci := 6) C [] (k_X6_here l G hJ n m4 ev5) gX6_readsText_X6_here rfl qd_X6_here ⟨rfl, rfl, Nat.le_of_ble_eq_true rfl, Nat.le_of_ble_eq_true rfl⟩ (iw_im hJ (by decide)) iw_Eo84 rfl rfl rfl (Nat.le_of_ble_eq_true rfl) dX6_readsText_16 ?_
  refine iv_istore_n (pc := 19) C [(2, .int v5), (1, .int v3), (0, .ref (G.2.1 84))] dX6_readsText_19 rfl (by decide) rfl ?_
  have vX20 : ∀ (v7 : Int32) (m8 : iw_M), f_X6_readsText_X59_20 v7 m8 = some (r, σ') → iw_V p l e rm_X6_readsText s m ([.ref (G.2.1 84)] : List Value).toArray below meth c0 0 0 (MQ below (iw_Q (some (.int r)) G σ') ([.ref (G.2.1 84)] : List Value).toArray s 0 0 (iw_A G)) 3 G (iw_A G) m8 59 [(1, .int v7)] [] := by
    intro v7 m8 h
    unfold f_X6_readsText_X59_20 at h
    refine iv_iload_n (pc := 59) C 0 dX6_readsText_59 rfl rfl ?_
    cases h
    exact iv_zret C hr hlk rfl rfl dX6_readsText_60
  have vB20 : ∀ (k20 : Int32 → iw_M → Option (Int32 × iw_M)) (r20 : Int32 → Int32 → iw_M → Option (Int32 × iw_M)), (∀ (v7 : Int32) (m8 : iw_M), k20 v7 m8 = some (r, σ') → iw_V p l e rm_X6_readsText s m ([.ref (G.2.1 84)] : List Value).toArray below meth c0 0 0 (MQ below (iw_Q (some (.int r)) G σ') ([.ref (G.2.1 84)] : List Value).toArray s 0 0 (iw_A G)) 3 G (iw_A G) m8 59 [(1, .int v7)] []) → (∀ (v9 : Int32) (v10 : Int32) (m11 : iw_M), r20 v9 v10 m11 = some (r, σ') → iw_V p l e rm_X6_readsText s m ([.ref (G.2.1 84)] : List Value).toArray below meth c0 0 0 (MQ below (iw_Q (some (.int r)) G σ') ([.ref (G.2.1 84)] : List Value).toArray s 0 0 (iw_A G)) 3 G (iw_A G) m11 20 [(0, .ref (G.2.1 84)), (1, .int v9), (2, .int v10)] []) → ∀ (v9 : Int32) (v10 : Int32) (m11 : iw_M), f_X6_readsText_B20 n k20 r20 v9 v10 m11 = some (r, σ') → iw_V p l e rm_X6_readsText s m ([.ref (G.2.1 84)] : List Value).toArray below meth c0 0 0 (MQ below (iw_Q (some (.int r)) G σ') ([.ref (G.2.1 84)] : List Value).toArray s 0 0 (iw_A G)) 3 G (iw_A G) m11 20 [(0, .ref (G.2.1 84)), (1, .int v9), (2, .int v10)] [] := by
    intro k20 r20 hk20 hr20 v9 v10 m11 h
    unfold f_X6_readsText_B20 at h
    refine iv_iload_n (pc := 20) C 1 dX6_readsText_20 rfl rfl ?_
    refine iv_if_eq (pc := 21) C 59 dX6_readsText_21 (by decide) (fun h12 => ?_) (fun h12 => ?_)
    · replace h := iw_ift h12 h
      exact iv_sub [1] rfl (hk20 v9 m11 h)
    · replace h := iw_iff h12 h
      refine iv_iload_n (pc := 24) C 2 dX6_readsText_24 rfl rfl ?_
      refine iv_iconst (pc := 25) C (-1 : Int32) dX6_readsText_25 (by decide) ?_
      refine iv_icmp_eq (pc := 26) C 59 dX6_readsText_26 (by decide) (fun h13 => ?_) (fun h13 => ?_)
      · replace h := iw_ift h13 h
        exact iv_sub [1] rfl (hk20 v9 m11 h)
      · replace h := iw_iff h13 h
        refine iv_aload_n (pc := 29) C 0 dX6_readsText_29 rfl rfl ?_
        refine iv_bipush (pc := 30) C (59 : Int32) dX6_readsText_30 (by decide) ?_
        obtain ⟨v14, m15, ev14, h⟩ := iw_b2e h
        refine iv_callV (pc := 32) (b := 84) (ci := 6) C [.int (59 : Int32)] (k_X6_sign l G hJ n (59 : Int32) m11 ev14) gX6_readsText_X6_sign rfl qd_X6_sign ⟨rfl, rfl, Nat.le_of_ble_eq_true rfl, Nat.le_of_ble_eq_true rfl⟩ (iw_im hJ (by decide)) iw_Eo84 rfl rfl rfl (Nat.le_of_ble_eq_true rfl) dX6_readsText_32 ?_
        have vJ50 : ∀ (v16 : Int32) (m17 : iw_M), f_X6_readsText_J50 n r20 v16 m17 = some (r, σ') → iw_V p l e rm_X6_readsText s m ([.ref (G.2.1 84)] : List Value).toArray below meth c0 0 0 (MQ below (iw_Q (some (.int r)) G σ') ([.ref (G.2.1 84)] : List Value).toArray s 0 0 (iw_A G)) 3 G (iw_A G) m17 50 [(0, .ref (G.2.1 84))] [.int v16] := by
          intro v16 m17 h
          unfold f_X6_readsText_J50 at h
          refine iv_istore_n (pc := 50) C [(1, .int v16), (0, .ref (G.2.1 84))] dX6_readsText_50 rfl (by decide) rfl ?_
          refine iv_aload_n (pc := 51) C 1 dX6_readsText_51 rfl rfl ?_
          obtain ⟨v18, m19, ev18, h⟩ := iw_b2e h
          refine iv_callV (pc := 52) (b := 84) (ci := 6) C [] (k_X6_here l G hJ n m17 ev18) gX6_readsText_X6_here rfl qd_X6_here ⟨rfl, rfl, Nat.le_of_ble_eq_true rfl, Nat.le_of_ble_eq_true rfl⟩ (iw_im hJ (by decide)) iw_Eo84 rfl rfl rfl (Nat.le_of_ble_eq_true rfl) dX6_readsText_52 ?_
          refine iv_istore_n (pc := 55) C [(2, .int v18), (1, .int v16), (0, .ref (G.2.1 84))] dX6_readsText_55 rfl (by decide) rfl ?_
          refine iv_goto (pc := 56) C 20 dX6_readsText_56 (by decide) ?_
          exact iv_sub [2, 1, 0] rfl (hr20 v16 v18 m19 h)
        have vJ49 : ∀ (m20 : iw_M), f_X6_readsText_J49 n r20 m20 = some (r, σ') → iw_V p l e rm_X6_readsText s m ([.ref (G.2.1 84)] : List Value).toArray below meth c0 0 0 (MQ below (iw_Q (some (.int r)) G σ') ([.ref (G.2.1 84)] : List Value).toArray s 0 0 (iw_A G)) 3 G (iw_A G) m20 49 [(0, .ref (G.2.1 84))] [] := by
          intro m20 h
          unfold f_X6_readsText_J49 at h
          refine iv_iconst (pc := 49) C (0 : Int32) dX6_readsText_49 (by decide) ?_
          exact iv_sub [0] rfl (vJ50 (0 : Int32) m20 h)
        refine iv_if_eq (pc := 35) C 49 dX6_readsText_35 (by decide) (fun h21 => ?_) (fun h21 => ?_)
        · replace h := iw_ift h21 h
          exact iv_sub [0] rfl (vJ49 m15 h)
        · replace h := iw_iff h21 h
          refine iv_aload_n (pc := 38) C 0 dX6_readsText_38 rfl rfl ?_
          obtain ⟨v22, m23, ev22, h⟩ := iw_b2e h
          refine iv_callV (pc := 39) (b := 84) (ci := 6) C [] (k_X6_readsItem l G hJ n m15 ev22) gX6_readsText_X6_readsItem rfl qd_X6_readsItem ⟨rfl, rfl, Nat.le_of_ble_eq_true rfl, Nat.le_of_ble_eq_true rfl⟩ (iw_im hJ (by decide)) iw_Eo84 rfl rfl rfl (Nat.le_of_ble_eq_true rfl) dX6_readsText_39 ?_
          refine iv_if_eq (pc := 42) C 49 dX6_readsText_42 (by decide) (fun h24 => ?_) (fun h24 => ?_)
          · replace h := iw_ift h24 h
            exact iv_sub [0] rfl (vJ49 m23 h)
          · replace h := iw_iff h24 h
            refine iv_iconst (pc := 45) C (1 : Int32) dX6_readsText_45 (by decide) ?_
            refine iv_goto (pc := 46) C 50 dX6_readsText_46 (by decide) ?_
            exact iv_sub [0] rfl (vJ50 (1 : Int32) m23 h)
  have vL20 : ∀ (nn : Nat) (v9 : Int32) (v10 : Int32) (m11 : iw_M), f_X6_readsText_L20 n (f_X6_readsText_X59_20) nn v9 v10 m11 = some (r, σ') → iw_V p l e rm_X6_readsText s m ([.ref (G.2.1 84)] : List Value).toArray below meth c0 0 0 (MQ below (iw_Q (some (.int r)) G σ') ([.ref (G.2.1 84)] : List Value).toArray s 0 0 (iw_A G)) 3 G (iw_A G) m11 20 [(0, .ref (G.2.1 84)), (1, .int v9), (2, .int v10)] [] := by
    intro nn
    induction nn with
    | zero => intro v9 v10 m11 h; exact absurd h (fun q => by cases q)
    | succ nn ih => intro v9 v10 m11 h; exact vB20 (f_X6_readsText_X59_20) (f_X6_readsText_L20 n (f_X6_readsText_X59_20) nn) vX20 ih v9 v10 m11 h
  exact iv_sub [2, 1, 0] rfl (vL20 n v3 v5 m6 h)
theorem qd_X6_readsText : yX6_readsText.cls = RX6 ∧ yX6_readsText.cls ≠ "java/lang/invoke/MethodHandle" ∧ yX6_readsText.cls ≠ "java/lang/invoke/VarHandle" ∧ (parseMethodDescriptor yX6_readsText.desc).map (fun d => d.parameters.length) = some 0 := by decide +kernel
def f_X6_textFault (n : Nat) (σ : iw_M) : Option (Int32 × iw_M) :=
(f_X6_copies n (0 : Int32) (6 : Int32) σ).bind fun m1 =>
iw_b2 (f_X6_readsText n m1) fun v2 m3 =>
(f_X6_copies n (6 : Int32) (0 : Int32) m3).bind fun m4 =>
if v2 = (0 : Int32) then
(some ((m4 84 12), m4))
else
(some ((-1000 : Int32), m4))
abbrev rm_X6_textFault : Room := { frames := 6, cells := 0, slots := 0, locals := 138 }
theorem lk_X6_textFault_165 : Cond.fieldLink RX6 165 RX6 (TX6 12).2.1 (TX6 12).2.2.1 ∈ wsX6_textFault := by decide +kernel
theorem in_X6_textFault_6 : ∀ w ∈ u_ws RX6 TX6 16, w ∈ wsX6_textFault := by decide +kernel
set_option maxHeartbeats 4000000 in
set_option maxRecDepth 100000 in
theorem k_X6_textFault (l : Launch) (G : iw_G) (hJ : iw_JM G) (n : Nat) (σ : iw_M) {r : Int32} {σ' : iw_M} (h : f_X6_textFault n σ = some (r, σ')) : iw_Ct l yX6_textFault wsX6_textFault rm_X6_textFault G ([.ref (G.2.1 84)] : List Value) σ (some (.int r)) σ' := by
  refine iv_start (nL := 2) (own := RX6) (ret := (some .int)) (cc := cX6_textFault) (by decide +kernel) rfl rfl hJ.1 (Nat.le_of_ble_eq_true rfl) ?_
  intro p e s m below meth c0 C hr hlk
  refine iv_sub (lv' := [(0, .ref (G.2.1 84))]) [0] rfl ?_
  unfold f_X6_textFault at h
  refine iv_aload_n (pc := 0) C 0 dX6_textFault_0 rfl rfl ?_
  refine iv_iconst (pc := 1) C (0 : Int32) dX6_textFault_1 (by decide) ?_
  refine iv_bipush (pc := 2) C (6 : Int32) dX6_textFault_2 (by decide) ?_
  obtain ⟨m1, em1, h⟩ := iw_be h
  refine iv_callV (pc := 4) (b := 84) (ci := 6) C [.int (0 : Int32), .int (6 : Int32)] (k_X6_copies l G hJ n (0 : Int32) (6 : Int32) σ em1) gX6_textFault_X6_copies rfl qd_X6_copies ⟨rfl, rfl, Nat.le_of_ble_eq_true rfl, Nat.le_of_ble_eq_true rfl⟩ (iw_im hJ (by decide)) iw_Eo84 rfl rfl rfl (Nat.le_of_ble_eq_true rfl) dX6_textFault_4 ?_
  refine iv_aload_n (pc := 7) C 0 dX6_textFault_7 rfl rfl ?_
  obtain ⟨v2, m3, ev2, h⟩ := iw_b2e h
  refine iv_callV (pc := 8) (b := 84) (ci := 6) C [] (k_X6_readsText l G hJ n m1 ev2) gX6_textFault_X6_readsText rfl qd_X6_readsText ⟨rfl, rfl, Nat.le_of_ble_eq_true rfl, Nat.le_of_ble_eq_true rfl⟩ (iw_im hJ (by decide)) iw_Eo84 rfl rfl rfl (Nat.le_of_ble_eq_true rfl) dX6_textFault_8 ?_
  refine iv_istore_n (pc := 11) C [(1, .int v2), (0, .ref (G.2.1 84))] dX6_textFault_11 rfl (by decide) rfl ?_
  refine iv_aload_n (pc := 12) C 1 dX6_textFault_12 rfl rfl ?_
  refine iv_bipush (pc := 13) C (6 : Int32) dX6_textFault_13 (by decide) ?_
  refine iv_iconst (pc := 15) C (0 : Int32) dX6_textFault_15 (by decide) ?_
  obtain ⟨m4, em4, h⟩ := iw_be h
  refine iv_callV (pc := 16) (b := 84) (ci := 6) C [.int (6 : Int32), .int (0 : Int32)] (k_X6_copies l G hJ n (6 : Int32) (0 : Int32) m3 em4) gX6_textFault_X6_copies rfl qd_X6_copies ⟨rfl, rfl, Nat.le_of_ble_eq_true rfl, Nat.le_of_ble_eq_true rfl⟩ (iw_im hJ (by decide)) iw_Eo84 rfl rfl rfl (Nat.le_of_ble_eq_true rfl) dX6_textFault_16 ?_
  refine iv_iload_n (pc := 19) C 0 dX6_textFault_19 rfl rfl ?_
  refine iv_if_eq (pc := 20) C 29 dX6_textFault_20 (by decide) (fun h5 => ?_) (fun h5 => ?_)
  · replace h := iw_ift h5 h
    refine iv_aload_n (pc := 29) C 1 dX6_textFault_29 rfl rfl ?_
    refine iv_getf (pc := 30) (T := TX6) (N := 16) (ci := 6) C 84 12 in_X6_textFault_6 (iw_im hJ (by decide)) iw_Eo84 rfl (by decide) lk_X6_textFault_165 rfl rfl dX6_textFault_30 ?_
    cases h
    exact iv_iret C hr hlk rfl rfl dX6_textFault_33
  · replace h := iw_iff h5 h
    refine iv_sipush (pc := 23) C (-1000 : Int32) dX6_textFault_23 (by decide) ?_
    refine iv_goto (pc := 26) C 33 dX6_textFault_26 (by decide) ?_
    cases h
    exact iv_iret C hr hlk rfl rfl dX6_textFault_33
theorem qd_X6_textFault : yX6_textFault.cls = RX6 ∧ yX6_textFault.cls ≠ "java/lang/invoke/MethodHandle" ∧ yX6_textFault.cls ≠ "java/lang/invoke/VarHandle" ∧ (parseMethodDescriptor yX6_textFault.desc).map (fun d => d.parameters.length) = some 0 := by decide +kernel
def f_X6_build (n : Nat) (σ : iw_M) : Option (Int32 × iw_M) :=
iw_b2 (f_X6_textFault n σ) fun v1 m2 =>
if v1 = (-1000 : Int32) then
((f_X6_saves n m2).bind fun m4 =>
iw_b2 (f_X6_readsText n m4) fun v5 m6 =>
some ((m6 84 14), m6))
else
(some ((-1003 : Int32), m2))
abbrev rm_X6_build : Room := { frames := 7, cells := 0, slots := 0, locals := 159 }
theorem lk_X6_build_184 : Cond.fieldLink RX6 184 RX6 (TX6 14).2.1 (TX6 14).2.2.1 ∈ wsX6_build := by decide +kernel
theorem in_X6_build_6 : ∀ w ∈ u_ws RX6 TX6 16, w ∈ wsX6_build := by decide +kernel
set_option maxHeartbeats 4000000 in
set_option maxRecDepth 100000 in
theorem k_X6_build (l : Launch) (G : iw_G) (hJ : iw_JM G) (n : Nat) (σ : iw_M) {r : Int32} {σ' : iw_M} (h : f_X6_build n σ = some (r, σ')) : iw_Ct l yX6_build wsX6_build rm_X6_build G ([.ref (G.2.1 84)] : List Value) σ (some (.int r)) σ' := by
  refine iv_start (nL := 2) (own := RX6) (ret := (some .int)) (cc := cX6_build) (by decide +kernel) rfl rfl hJ.1 (Nat.le_of_ble_eq_true rfl) ?_
  intro p e s m below meth c0 C hr hlk
  refine iv_sub (lv' := [(0, .ref (G.2.1 84))]) [0] rfl ?_
  unfold f_X6_build at h
  refine iv_aload_n (pc := 0) C 0 dX6_build_0 rfl rfl ?_
  obtain ⟨v1, m2, ev1, h⟩ := iw_b2e h
  refine iv_callV (pc := 1) (b := 84) (ci := 6) C [] (k_X6_textFault l G hJ n σ ev1) gX6_build_X6_textFault rfl qd_X6_textFault ⟨rfl, rfl, Nat.le_of_ble_eq_true rfl, Nat.le_of_ble_eq_true rfl⟩ (iw_im hJ (by decide)) iw_Eo84 rfl rfl rfl (Nat.le_of_ble_eq_true rfl) dX6_build_1 ?_
  refine iv_sipush (pc := 4) C (-1000 : Int32) dX6_build_4 (by decide) ?_
  refine iv_icmp_eq (pc := 7) C 14 dX6_build_7 (by decide) (fun h3 => ?_) (fun h3 => ?_)
  · replace h := iw_ift h3 h
    refine iv_aload_n (pc := 14) C 0 dX6_build_14 rfl rfl ?_
    obtain ⟨m4, em4, h⟩ := iw_be h
    refine iv_callV (pc := 15) (b := 84) (ci := 6) C [] (k_X6_saves l G hJ n m2 em4) gX6_build_X6_saves rfl qd_X6_saves ⟨rfl, rfl, Nat.le_of_ble_eq_true rfl, Nat.le_of_ble_eq_true rfl⟩ (iw_im hJ (by decide)) iw_Eo84 rfl rfl rfl (Nat.le_of_ble_eq_true rfl) dX6_build_15 ?_
    refine iv_aload_n (pc := 18) C 0 dX6_build_18 rfl rfl ?_
    obtain ⟨v5, m6, ev5, h⟩ := iw_b2e h
    refine iv_callV (pc := 19) (b := 84) (ci := 6) C [] (k_X6_readsText l G hJ n m4 ev5) gX6_build_X6_readsText rfl qd_X6_readsText ⟨rfl, rfl, Nat.le_of_ble_eq_true rfl, Nat.le_of_ble_eq_true rfl⟩ (iw_im hJ (by decide)) iw_Eo84 rfl rfl rfl (Nat.le_of_ble_eq_true rfl) dX6_build_19 ?_
    refine iv_istore_n (pc := 22) C [(1, .int v5), (0, .ref (G.2.1 84))] dX6_build_22 rfl (by decide) rfl ?_
    refine iv_aload_n (pc := 23) C 1 dX6_build_23 rfl rfl ?_
    refine iv_getf (pc := 24) (T := TX6) (N := 16) (ci := 6) C 84 14 in_X6_build_6 (iw_im hJ (by decide)) iw_Eo84 rfl (by decide) lk_X6_build_184 rfl rfl dX6_build_24 ?_
    cases h
    exact iv_iret C hr hlk rfl rfl dX6_build_27
  · replace h := iw_iff h3 h
    refine iv_sipush (pc := 10) C (-1003 : Int32) dX6_build_10 (by decide) ?_
    cases h
    exact iv_iret C hr hlk rfl rfl dX6_build_13
theorem qd_X6_build : yX6_build.cls = RX6 ∧ yX6_build.cls ≠ "java/lang/invoke/MethodHandle" ∧ yX6_build.cls ≠ "java/lang/invoke/VarHandle" ∧ (parseMethodDescriptor yX6_build.desc).map (fun d => d.parameters.length) = some 0 := by decide +kernel
def f_X6_note (p1 : Int32) (σ : iw_M) : iw_M :=
iw_let (iw_puth σ (((31 : Int64) * (iw_geth σ)) + (Int32.toInt64 p1))) fun m1 =>
m1
abbrev rm_X6_note : Room := { frames := 0, cells := 0, slots := 0, locals := 0 }
theorem lk_X6_note_208 : Cond.fieldLink RX6 208 RX6 (TX6 15).2.1 (TX6 15).2.2.1 ∈ wsX6_note := by decide +kernel
theorem in_X6_note_6 : ∀ w ∈ u_ws RX6 TX6 16, w ∈ wsX6_note := by decide +kernel
set_option maxHeartbeats 4000000 in
set_option maxRecDepth 100000 in
theorem k_X6_note (l : Launch) (G : iw_G) (hJ : iw_JM G) (p1 : Int32) (σ : iw_M) {σ' : iw_M} (h : f_X6_note p1 σ = σ') : iw_Ct l yX6_note wsX6_note rm_X6_note G ([.ref (G.2.1 84), .int p1] : List Value) σ none σ' := by
  refine iv_start (nL := 2) (own := RX6) (ret := none) (cc := cX6_note) (by decide +kernel) rfl rfl hJ.1 (Nat.le_of_ble_eq_true rfl) ?_
  intro p e s m below meth c0 C hr hlk
  refine iv_sub (lv' := [(0, .ref (G.2.1 84)), (1, .int p1)]) [0, 1] rfl ?_
  unfold f_X6_note at h
  refine iv_aload_n (pc := 0) C 0 dX6_note_0 rfl rfl ?_
  refine iv_ldc2_w (pc := 1) C (31 : Int64) (by decide +kernel) dX6_note_1 ?_
  refine iv_aload_n (pc := 4) C 0 dX6_note_4 rfl rfl ?_
  refine iv_getf (pc := 5) (T := TX6) (N := 16) (ci := 6) C 84 15 in_X6_note_6 (iw_im hJ (by decide)) iw_Eo84 rfl (by decide) lk_X6_note_208 rfl rfl dX6_note_5 ?_
  refine iv_lmul (pc := 8) C dX6_note_8 ?_
  refine iv_iload_n (pc := 9) C 1 dX6_note_9 rfl rfl ?_
  refine iv_i2l (pc := 10) C dX6_note_10 ?_
  refine iv_ladd (pc := 11) C dX6_note_11 ?_
  refine iv_putf (pc := 12) (T := TX6) (N := 16) (ci := 6) C 84 15 (iw_puth σ (((31 : Int64) * (iw_geth σ)) + (Int32.toInt64 p1))) in_X6_note_6 (iw_im hJ (by decide)) iw_Eo84 tyX6_ok nmX6 rfl (by decide) lk_X6_note_208 rfl rfl (tyX6_ok 15 (by decide)) rfl rfl (Nat.le_of_ble_eq_true rfl) (iw_Eh _ _) (fun b hb => iw_puth_ne hb) dX6_note_12 ?_
  refine iv_topm (fun m1 em1 => ?_)
  replace h := iw_lete em1 h
  cases h
  exact iv_vret C hr hlk rfl rfl dX6_note_15
theorem qd_X6_note : yX6_note.cls = RX6 ∧ yX6_note.cls ≠ "java/lang/invoke/MethodHandle" ∧ yX6_note.cls ≠ "java/lang/invoke/VarHandle" ∧ (parseMethodDescriptor yX6_note.desc).map (fun d => d.parameters.length) = some 1 := by decide +kernel
def f_X6_digest_X240_143 (m6 : iw_M) : Option (Int64 × iw_M) :=
some ((iw_geth m6), m6)
def f_X6_digest_X234_179 (r143 : Int32 → iw_M → Option (Int64 × iw_M)) (v7 : Int32) (m12 : iw_M) : Option (Int64 × iw_M) :=
iw_let (v7 + (1 : Int32)) fun v13 =>
r143 v13 m12
def f_X6_digest_X228_201 (r179 : Int32 → iw_M → Option (Int64 × iw_M)) (v14 : Int32) (m20 : iw_M) : Option (Int64 × iw_M) :=
iw_let (v14 + (1 : Int32)) fun v21 =>
r179 v21 m20
def f_X6_digest_B201 (v7 : Int32) (v14 : Int32) (k201 : iw_M → Option (Int64 × iw_M)) (r201 : Int32 → iw_M → Option (Int64 × iw_M)) (v22 : Int32) (m23 : iw_M) : Option (Int64 × iw_M) :=
(f_X6_lengthOf v7 v14 m23).bind fun v24 =>
if v24 ≤ v22 then
(k201 m23)
else
((f_X6_nodeOf v7 v14 v22 m23).bind fun v26 =>
iw_let (f_X6_note v26 m23) fun m27 =>
iw_let (v22 + (1 : Int32)) fun v28 =>
r201 v28 m27)
def f_X6_digest_L201 (v7 : Int32) (v14 : Int32) (k201 : iw_M → Option (Int64 × iw_M)) (nn : Nat) : Int32 → iw_M → Option (Int64 × iw_M) :=
iw_it (fun r201 => f_X6_digest_B201 v7 v14 k201 r201) (fun _ _ => none) nn
def f_X6_digest_B179 (n : Nat) (v7 : Int32) (k179 : iw_M → Option (Int64 × iw_M)) (r179 : Int32 → iw_M → Option (Int64 × iw_M)) (v14 : Int32) (m15 : iw_M) : Option (Int64 × iw_M) :=
(iw_rd m15 85 (2 : Int32)).bind fun v16 =>
if v16 ≤ v14 then
(k179 m15)
else
((f_X6_lengthOf v7 v14 m15).bind fun v18 =>
iw_let (f_X6_note v18 m15) fun m19 =>
f_X6_digest_L201 v7 v14 (f_X6_digest_X228_201 r179 v14) n (0 : Int32) m19)
def f_X6_digest_L179 (n : Nat) (v7 : Int32) (k179 : iw_M → Option (Int64 × iw_M)) (nn : Nat) : Int32 → iw_M → Option (Int64 × iw_M) :=
iw_it (fun r179 => f_X6_digest_B179 n v7 k179 r179) (fun _ _ => none) nn
def f_X6_digest_X177_155 (n : Nat) (r143 : Int32 → iw_M → Option (Int64 × iw_M)) (v7 : Int32) (m11 : iw_M) : Option (Int64 × iw_M) :=
f_X6_digest_L179 n v7 (f_X6_digest_X234_179 r143 v7) n (0 : Int32) m11
def f_X6_digest_B155 (n : Nat) (v7 : Int32) (k155 : iw_M → Option (Int64 × iw_M)) (r155 : Int32 → iw_M → Option (Int64 × iw_M)) (v29 : Int32) (m30 : iw_M) : Option (Int64 × iw_M) :=
if (8 : Int32) ≤ v29 then
(k155 m30)
else
((f_X6_part n v7 v29 m30).bind fun v32 =>
iw_let (f_X6_note v32 m30) fun m33 =>
iw_let (v29 + (1 : Int32)) fun v34 =>
r155 v34 m33)
def f_X6_digest_L155 (n : Nat) (v7 : Int32) (k155 : iw_M → Option (Int64 × iw_M)) (nn : Nat) : Int32 → iw_M → Option (Int64 × iw_M) :=
iw_it (fun r155 => f_X6_digest_B155 n v7 k155 r155) (fun _ _ => none) nn
def f_X6_digest_B143 (n : Nat) (k143 : iw_M → Option (Int64 × iw_M)) (r143 : Int32 → iw_M → Option (Int64 × iw_M)) (v7 : Int32) (m8 : iw_M) : Option (Int64 × iw_M) :=
(iw_rd m8 85 (3 : Int32)).bind fun v9 =>
if v9 ≤ v7 then
(k143 m8)
else
(f_X6_digest_L155 n v7 (f_X6_digest_X177_155 n r143 v7) n (0 : Int32) m8)
def f_X6_digest_L143 (n : Nat) (k143 : iw_M → Option (Int64 × iw_M)) (nn : Nat) : Int32 → iw_M → Option (Int64 × iw_M) :=
iw_it (fun r143 => f_X6_digest_B143 n k143 r143) (fun _ _ => none) nn
def f_X6_digest_X141_110 (n : Nat) (m5 : iw_M) : Option (Int64 × iw_M) :=
f_X6_digest_L143 n (f_X6_digest_X240_143) n (0 : Int32) m5
def f_X6_digest_B110 (k110 : iw_M → Option (Int64 × iw_M)) (r110 : Int32 → iw_M → Option (Int64 × iw_M)) (v35 : Int32) (m36 : iw_M) : Option (Int64 × iw_M) :=
(iw_rd m36 85 (2 : Int32)).bind fun v37 =>
if ((3 : Int32) * v37) ≤ v35 then
(k110 m36)
else
((iw_rd m36 85 ((82 : Int32) + v35)).bind fun v39 =>
iw_let (f_X6_note v39 m36) fun m40 =>
iw_let (v35 + (1 : Int32)) fun v41 =>
r110 v41 m40)
def f_X6_digest_L110 (k110 : iw_M → Option (Int64 × iw_M)) (nn : Nat) : Int32 → iw_M → Option (Int64 × iw_M) :=
iw_it (fun r110 => f_X6_digest_B110 k110 r110) (fun _ _ => none) nn
def f_X6_digest_X108_77 (n : Nat) (m4 : iw_M) : Option (Int64 × iw_M) :=
f_X6_digest_L110 (f_X6_digest_X141_110 n) n (0 : Int32) m4
def f_X6_digest_B77 (k77 : iw_M → Option (Int64 × iw_M)) (r77 : Int32 → iw_M → Option (Int64 × iw_M)) (v42 : Int32) (m43 : iw_M) : Option (Int64 × iw_M) :=
(iw_rd m43 85 (1 : Int32)).bind fun v44 =>
if ((3 : Int32) * v44) ≤ v42 then
(k77 m43)
else
((iw_rd m43 85 ((22 : Int32) + v42)).bind fun v46 =>
iw_let (f_X6_note v46 m43) fun m47 =>
iw_let (v42 + (1 : Int32)) fun v48 =>
r77 v48 m47)
def f_X6_digest_L77 (k77 : iw_M → Option (Int64 × iw_M)) (nn : Nat) : Int32 → iw_M → Option (Int64 × iw_M) :=
iw_it (fun r77 => f_X6_digest_B77 k77 r77) (fun _ _ => none) nn
def f_X6_digest_X75_46 (n : Nat) (m3 : iw_M) : Option (Int64 × iw_M) :=
f_X6_digest_L77 (f_X6_digest_X108_77 n) n (0 : Int32) m3
def f_X6_digest_B46 (k46 : iw_M → Option (Int64 × iw_M)) (r46 : Int32 → iw_M → Option (Int64 × iw_M)) (v49 : Int32) (m50 : iw_M) : Option (Int64 × iw_M) :=
(iw_rd m50 85 (0 : Int32)).bind fun v51 =>
if v51 ≤ v49 then
(k46 m50)
else
((iw_rd m50 85 ((12 : Int32) + v49)).bind fun v53 =>
iw_let (f_X6_note v53 m50) fun m54 =>
iw_let (v49 + (1 : Int32)) fun v55 =>
r46 v55 m54)
def f_X6_digest_L46 (k46 : iw_M → Option (Int64 × iw_M)) (nn : Nat) : Int32 → iw_M → Option (Int64 × iw_M) :=
iw_it (fun r46 => f_X6_digest_B46 k46 r46) (fun _ _ => none) nn
def f_X6_digest_X44_9 (n : Nat) (m2 : iw_M) : Option (Int64 × iw_M) :=
f_X6_digest_L46 (f_X6_digest_X75_46 n) n (0 : Int32) m2
def f_X6_digest_J35 (r9 : Int32 → iw_M → Option (Int64 × iw_M)) (v56 : Int32) (m57 : iw_M) (v59 : Int32) : Option (Int64 × iw_M) :=
iw_let (f_X6_note v59 m57) fun m60 =>
iw_let (v56 + (1 : Int32)) fun v61 =>
r9 v61 m60
def f_X6_digest_B9 (n : Nat) (k9 : iw_M → Option (Int64 × iw_M)) (r9 : Int32 → iw_M → Option (Int64 × iw_M)) (v56 : Int32) (m57 : iw_M) : Option (Int64 × iw_M) :=
if (12 : Int32) ≤ v56 then
(k9 m57)
else
(if v56 = (6 : Int32) then
((f_X6_living n m57).bind fun v64 =>
f_X6_digest_J35 r9 v56 m57 v64)
else
((iw_rd m57 85 v56).bind fun v63 =>
f_X6_digest_J35 r9 v56 m57 v63))
def f_X6_digest_L9 (n : Nat) (k9 : iw_M → Option (Int64 × iw_M)) (nn : Nat) : Int32 → iw_M → Option (Int64 × iw_M) :=
iw_it (fun r9 => f_X6_digest_B9 n k9 r9) (fun _ _ => none) nn
def f_X6_digest (n : Nat) (σ : iw_M) : Option (Int64 × iw_M) :=
iw_let (iw_puth σ (17 : Int64)) fun m1 =>
f_X6_digest_L9 n (f_X6_digest_X44_9 n) n (0 : Int32) m1
abbrev rm_X6_digest : Room := { frames := 3, cells := 0, slots := 0, locals := 68 }
theorem lk_X6_digest_208 : Cond.fieldLink RX6 208 RX6 (TX6 15).2.1 (TX6 15).2.2.1 ∈ wsX6_digest := by decide +kernel
theorem lk_X6_digest_7 : Cond.fieldLink RX6 7 RX6 (TX6 0).2.1 (TX6 0).2.2.1 ∈ wsX6_digest := by decide +kernel
theorem in_X6_digest_6 : ∀ w ∈ u_ws RX6 TX6 16, w ∈ wsX6_digest := by decide +kernel
set_option maxHeartbeats 4000000 in
set_option maxRecDepth 100000 in
theorem k_X6_digest (l : Launch) (G : iw_G) (hJ : iw_JM G) (n : Nat) (σ : iw_M) {r : Int64} {σ' : iw_M} (h : f_X6_digest n σ = some (r, σ')) : iw_Ct l yX6_digest wsX6_digest rm_X6_digest G ([.ref (G.2.1 84)] : List Value) σ (some (.long r)) σ' := by
  refine iv_start (nL := 4) (own := RX6) (ret := (some .long)) (cc := cX6_digest) (by decide +kernel) rfl rfl hJ.1 (Nat.le_of_ble_eq_true rfl) ?_
  intro p e s m below meth c0 C hr hlk
  refine iv_sub (lv' := [(0, .ref (G.2.1 84))]) [0] rfl ?_
  unfold f_X6_digest at h
  refine iv_aload_n (pc := 0) C 0 dX6_digest_0 rfl rfl ?_
  refine iv_ldc2_w (pc := 1) C (17 : Int64) (by decide +kernel) dX6_digest_1 ?_
  refine iv_putf (pc := 4) (T := TX6) (N := 16) (ci := 6) C 84 15 (iw_puth σ (17 : Int64)) in_X6_digest_6 (iw_im hJ (by decide)) iw_Eo84 tyX6_ok nmX6 rfl (by decide) lk_X6_digest_208 rfl rfl (tyX6_ok 15 (by decide)) rfl rfl (Nat.le_of_ble_eq_true rfl) (iw_Eh _ _) (fun b hb => iw_puth_ne hb) dX6_digest_4 ?_
  refine iv_topm (fun m1 em1 => ?_)
  replace h := iw_lete em1 h
  refine iv_iconst (pc := 7) C (0 : Int32) dX6_digest_7 (by decide) ?_
  refine iv_istore_n (pc := 8) C [(1, .int (0 : Int32)), (0, .ref (G.2.1 84))] dX6_digest_8 rfl (by decide) rfl ?_
  have vX9 : ∀ (m2 : iw_M), f_X6_digest_X44_9 n m2 = some (r, σ') → iw_V p l e rm_X6_digest s m ([.ref (G.2.1 84)] : List Value).toArray below meth c0 0 0 (MQ below (iw_Q (some (.long r)) G σ') ([.ref (G.2.1 84)] : List Value).toArray s 0 0 (iw_A G)) 4 G (iw_A G) m2 44 [(0, .ref (G.2.1 84))] [] := by
    intro m2 h
    unfold f_X6_digest_X44_9 at h
    refine iv_iconst (pc := 44) C (0 : Int32) dX6_digest_44 (by decide) ?_
    refine iv_istore_n (pc := 45) C [(1, .int (0 : Int32)), (0, .ref (G.2.1 84))] dX6_digest_45 rfl (by decide) rfl ?_
    have vX46 : ∀ (m3 : iw_M), f_X6_digest_X75_46 n m3 = some (r, σ') → iw_V p l e rm_X6_digest s m ([.ref (G.2.1 84)] : List Value).toArray below meth c0 0 0 (MQ below (iw_Q (some (.long r)) G σ') ([.ref (G.2.1 84)] : List Value).toArray s 0 0 (iw_A G)) 4 G (iw_A G) m3 75 [(0, .ref (G.2.1 84))] [] := by
      intro m3 h
      unfold f_X6_digest_X75_46 at h
      refine iv_iconst (pc := 75) C (0 : Int32) dX6_digest_75 (by decide) ?_
      refine iv_istore_n (pc := 76) C [(1, .int (0 : Int32)), (0, .ref (G.2.1 84))] dX6_digest_76 rfl (by decide) rfl ?_
      have vX77 : ∀ (m4 : iw_M), f_X6_digest_X108_77 n m4 = some (r, σ') → iw_V p l e rm_X6_digest s m ([.ref (G.2.1 84)] : List Value).toArray below meth c0 0 0 (MQ below (iw_Q (some (.long r)) G σ') ([.ref (G.2.1 84)] : List Value).toArray s 0 0 (iw_A G)) 4 G (iw_A G) m4 108 [(0, .ref (G.2.1 84))] [] := by
        intro m4 h
        unfold f_X6_digest_X108_77 at h
        refine iv_iconst (pc := 108) C (0 : Int32) dX6_digest_108 (by decide) ?_
        refine iv_istore_n (pc := 109) C [(1, .int (0 : Int32)), (0, .ref (G.2.1 84))] dX6_digest_109 rfl (by decide) rfl ?_
        have vX110 : ∀ (m5 : iw_M), f_X6_digest_X141_110 n m5 = some (r, σ') → iw_V p l e rm_X6_digest s m ([.ref (G.2.1 84)] : List Value).toArray below meth c0 0 0 (MQ below (iw_Q (some (.long r)) G σ') ([.ref (G.2.1 84)] : List Value).toArray s 0 0 (iw_A G)) 4 G (iw_A G) m5 141 [(0, .ref (G.2.1 84))] [] := by
          intro m5 h
          unfold f_X6_digest_X141_110 at h
          refine iv_iconst (pc := 141) C (0 : Int32) dX6_digest_141 (by decide) ?_
          refine iv_istore_n (pc := 142) C [(1, .int (0 : Int32)), (0, .ref (G.2.1 84))] dX6_digest_142 rfl (by decide) rfl ?_
          have vX143 : ∀ (m6 : iw_M), f_X6_digest_X240_143 m6 = some (r, σ') → iw_V p l e rm_X6_digest s m ([.ref (G.2.1 84)] : List Value).toArray below meth c0 0 0 (MQ below (iw_Q (some (.long r)) G σ') ([.ref (G.2.1 84)] : List Value).toArray s 0 0 (iw_A G)) 4 G (iw_A G) m6 240 [(0, .ref (G.2.1 84))] [] := by
            intro m6 h
            unfold f_X6_digest_X240_143 at h
            refine iv_aload_n (pc := 240) C 0 dX6_digest_240 rfl rfl ?_
            refine iv_getf (pc := 241) (T := TX6) (N := 16) (ci := 6) C 84 15 in_X6_digest_6 (iw_im hJ (by decide)) iw_Eo84 rfl (by decide) lk_X6_digest_208 rfl rfl dX6_digest_241 ?_
            cases h
            exact iv_lret C hr hlk rfl rfl dX6_digest_244
          have vB143 : ∀ (k143 : iw_M → Option (Int64 × iw_M)) (r143 : Int32 → iw_M → Option (Int64 × iw_M)), (∀ (m6 : iw_M), k143 m6 = some (r, σ') → iw_V p l e rm_X6_digest s m ([.ref (G.2.1 84)] : List Value).toArray below meth c0 0 0 (MQ below (iw_Q (some (.long r)) G σ') ([.ref (G.2.1 84)] : List Value).toArray s 0 0 (iw_A G)) 4 G (iw_A G) m6 240 [(0, .ref (G.2.1 84))] []) → (∀ (v7 : Int32) (m8 : iw_M), r143 v7 m8 = some (r, σ') → iw_V p l e rm_X6_digest s m ([.ref (G.2.1 84)] : List Value).toArray below meth c0 0 0 (MQ below (iw_Q (some (.long r)) G σ') ([.ref (G.2.1 84)] : List Value).toArray s 0 0 (iw_A G)) 4 G (iw_A G) m8 143 [(0, .ref (G.2.1 84)), (1, .int v7)] []) → ∀ (v7 : Int32) (m8 : iw_M), f_X6_digest_B143 n k143 r143 v7 m8 = some (r, σ') → iw_V p l e rm_X6_digest s m ([.ref (G.2.1 84)] : List Value).toArray below meth c0 0 0 (MQ below (iw_Q (some (.long r)) G σ') ([.ref (G.2.1 84)] : List Value).toArray s 0 0 (iw_A G)) 4 G (iw_A G) m8 143 [(0, .ref (G.2.1 84)), (1, .int v7)] [] := by
            intro k143 r143 hk143 hr143 v7 m8 h
            unfold f_X6_digest_B143 at h
            refine iv_iload_n (pc := 143) C 1 dX6_digest_143 rfl rfl ?_
            refine iv_aload_n (pc := 144) C 0 dX6_digest_144 rfl rfl ?_
            refine iv_getf (pc := 145) (T := TX6) (N := 16) (ci := 6) C 84 0 in_X6_digest_6 (iw_im hJ (by decide)) iw_Eo84 rfl (by decide) lk_X6_digest_7 rfl rfl dX6_digest_145 ?_
            refine iv_iconst (pc := 148) C (3 : Int32) dX6_digest_148 (by decide) ?_
            obtain ⟨v9, ev9, h⟩ := iw_be h
            refine iv_rd (pc := 149) C 85 (iw_lm hJ rfl (by decide)) ev9 dX6_digest_149 ?_
            refine iv_icmp_ge (pc := 150) C 240 dX6_digest_150 (by decide) (fun h10 => ?_) (fun h10 => ?_)
            · replace h := iw_ift h10 h
              exact iv_sub [0] rfl (hk143 m8 h)
            · replace h := iw_iff h10 h
              refine iv_iconst (pc := 153) C (0 : Int32) dX6_digest_153 (by decide) ?_
              refine iv_istore_n (pc := 154) C [(2, .int (0 : Int32)), (0, .ref (G.2.1 84)), (1, .int v7)] dX6_digest_154 rfl (by decide) rfl ?_
              have vX155 : ∀ (m11 : iw_M), f_X6_digest_X177_155 n r143 v7 m11 = some (r, σ') → iw_V p l e rm_X6_digest s m ([.ref (G.2.1 84)] : List Value).toArray below meth c0 0 0 (MQ below (iw_Q (some (.long r)) G σ') ([.ref (G.2.1 84)] : List Value).toArray s 0 0 (iw_A G)) 4 G (iw_A G) m11 177 [(0, .ref (G.2.1 84)), (1, .int v7)] [] := by
                intro m11 h
                unfold f_X6_digest_X177_155 at h
                refine iv_iconst (pc := 177) C (0 : Int32) dX6_digest_177 (by decide) ?_
                refine iv_istore_n (pc := 178) C [(2, .int (0 : Int32)), (0, .ref (G.2.1 84)), (1, .int v7)] dX6_digest_178 rfl (by decide) rfl ?_
                have vX179 : ∀ (m12 : iw_M), f_X6_digest_X234_179 r143 v7 m12 = some (r, σ') → iw_V p l e rm_X6_digest s m ([.ref (G.2.1 84)] : List Value).toArray below meth c0 0 0 (MQ below (iw_Q (some (.long r)) G σ') ([.ref (G.2.1 84)] : List Value).toArray s 0 0 (iw_A G)) 4 G (iw_A G) m12 234 [(0, .ref (G.2.1 84)), (1, .int v7)] [] := by
                  intro m12 h
                  unfold f_X6_digest_X234_179 at h
                  obtain ⟨v13, ev13⟩ : ∃ y : Int32, y = v7 + (1 : Int32) := ⟨_, rfl⟩
                  replace h := iw_lete ev13 h
                  refine iv_iinc (pc := 234) C 1 v13 [(1, .int v13), (0, .ref (G.2.1 84))] dX6_digest_234 rfl (by rw [ev13]; rfl) (by decide) rfl ?_
                  refine iv_goto (pc := 237) C 143 dX6_digest_237 (by decide) ?_
                  exact iv_sub [1, 0] rfl (hr143 v13 m12 h)
                have vB179 : ∀ (k179 : iw_M → Option (Int64 × iw_M)) (r179 : Int32 → iw_M → Option (Int64 × iw_M)), (∀ (m12 : iw_M), k179 m12 = some (r, σ') → iw_V p l e rm_X6_digest s m ([.ref (G.2.1 84)] : List Value).toArray below meth c0 0 0 (MQ below (iw_Q (some (.long r)) G σ') ([.ref (G.2.1 84)] : List Value).toArray s 0 0 (iw_A G)) 4 G (iw_A G) m12 234 [(0, .ref (G.2.1 84)), (1, .int v7)] []) → (∀ (v14 : Int32) (m15 : iw_M), r179 v14 m15 = some (r, σ') → iw_V p l e rm_X6_digest s m ([.ref (G.2.1 84)] : List Value).toArray below meth c0 0 0 (MQ below (iw_Q (some (.long r)) G σ') ([.ref (G.2.1 84)] : List Value).toArray s 0 0 (iw_A G)) 4 G (iw_A G) m15 179 [(0, .ref (G.2.1 84)), (1, .int v7), (2, .int v14)] []) → ∀ (v14 : Int32) (m15 : iw_M), f_X6_digest_B179 n v7 k179 r179 v14 m15 = some (r, σ') → iw_V p l e rm_X6_digest s m ([.ref (G.2.1 84)] : List Value).toArray below meth c0 0 0 (MQ below (iw_Q (some (.long r)) G σ') ([.ref (G.2.1 84)] : List Value).toArray s 0 0 (iw_A G)) 4 G (iw_A G) m15 179 [(0, .ref (G.2.1 84)), (1, .int v7), (2, .int v14)] [] := by
                  intro k179 r179 hk179 hr179 v14 m15 h
                  unfold f_X6_digest_B179 at h
                  refine iv_iload_n (pc := 179) C 2 dX6_digest_179 rfl rfl ?_
                  refine iv_aload_n (pc := 180) C 0 dX6_digest_180 rfl rfl ?_
                  refine iv_getf (pc := 181) (T := TX6) (N := 16) (ci := 6) C 84 0 in_X6_digest_6 (iw_im hJ (by decide)) iw_Eo84 rfl (by decide) lk_X6_digest_7 rfl rfl dX6_digest_181 ?_
                  refine iv_iconst (pc := 184) C (2 : Int32) dX6_digest_184 (by decide) ?_
                  obtain ⟨v16, ev16, h⟩ := iw_be h
                  refine iv_rd (pc := 185) C 85 (iw_lm hJ rfl (by decide)) ev16 dX6_digest_185 ?_
                  refine iv_icmp_ge (pc := 186) C 234 dX6_digest_186 (by decide) (fun h17 => ?_) (fun h17 => ?_)
                  · replace h := iw_ift h17 h
                    exact iv_sub [0, 1] rfl (hk179 m15 h)
                  · replace h := iw_iff h17 h
                    refine iv_aload_n (pc := 189) C 0 dX6_digest_189 rfl rfl ?_
                    refine iv_aload_n (pc := 190) C 0 dX6_digest_190 rfl rfl ?_
                    refine iv_iload_n (pc := 191) C 1 dX6_digest_191 rfl rfl ?_
                    refine iv_iload_n (pc := 192) C 2 dX6_digest_192 rfl rfl ?_
                    obtain ⟨v18, ev18, h⟩ := iw_be h
                    refine iv_callV (pc := 193) (b := 84) (ci := 6) C [.int v7, .int v14] (k_X6_lengthOf l G hJ v7 v14 m15 ev18) gX6_digest_X6_lengthOf rfl qd_X6_lengthOf ⟨rfl, rfl, Nat.le_of_ble_eq_true rfl, Nat.le_of_ble_eq_true rfl⟩ (iw_im hJ (by decide)) iw_Eo84 rfl rfl rfl (Nat.le_of_ble_eq_true rfl) dX6_digest_193 ?_
                    refine iv_callV (pc := 196) (b := 84) (ci := 6) C [.int v18] (k_X6_note l G hJ v18 m15 rfl) gX6_digest_X6_note rfl qd_X6_note ⟨rfl, rfl, Nat.le_of_ble_eq_true rfl, Nat.le_of_ble_eq_true rfl⟩ (iw_im hJ (by decide)) iw_Eo84 rfl rfl rfl (Nat.le_of_ble_eq_true rfl) dX6_digest_196 ?_
                    refine iv_topm (fun m19 em19 => ?_)
                    replace h := iw_lete em19 h
                    refine iv_iconst (pc := 199) C (0 : Int32) dX6_digest_199 (by decide) ?_
                    refine iv_istore_n (pc := 200) C [(3, .int (0 : Int32)), (0, .ref (G.2.1 84)), (1, .int v7), (2, .int v14)] dX6_digest_200 rfl (by decide) rfl ?_
                    have vX201 : ∀ (m20 : iw_M), f_X6_digest_X228_201 r179 v14 m20 = some (r, σ') → iw_V p l e rm_X6_digest s m ([.ref (G.2.1 84)] : List Value).toArray below meth c0 0 0 (MQ below (iw_Q (some (.long r)) G σ') ([.ref (G.2.1 84)] : List Value).toArray s 0 0 (iw_A G)) 4 G (iw_A G) m20 228 [(0, .ref (G.2.1 84)), (1, .int v7), (2, .int v14)] [] := by
                      intro m20 h
                      unfold f_X6_digest_X228_201 at h
                      obtain ⟨v21, ev21⟩ : ∃ y : Int32, y = v14 + (1 : Int32) := ⟨_, rfl⟩
                      replace h := iw_lete ev21 h
                      refine iv_iinc (pc := 228) C 2 v21 [(2, .int v21), (0, .ref (G.2.1 84)), (1, .int v7)] dX6_digest_228 rfl (by rw [ev21]; rfl) (by decide) rfl ?_
                      refine iv_goto (pc := 231) C 179 dX6_digest_231 (by decide) ?_
                      exact iv_sub [1, 2, 0] rfl (hr179 v21 m20 h)
                    have vB201 : ∀ (k201 : iw_M → Option (Int64 × iw_M)) (r201 : Int32 → iw_M → Option (Int64 × iw_M)), (∀ (m20 : iw_M), k201 m20 = some (r, σ') → iw_V p l e rm_X6_digest s m ([.ref (G.2.1 84)] : List Value).toArray below meth c0 0 0 (MQ below (iw_Q (some (.long r)) G σ') ([.ref (G.2.1 84)] : List Value).toArray s 0 0 (iw_A G)) 4 G (iw_A G) m20 228 [(0, .ref (G.2.1 84)), (1, .int v7), (2, .int v14)] []) → (∀ (v22 : Int32) (m23 : iw_M), r201 v22 m23 = some (r, σ') → iw_V p l e rm_X6_digest s m ([.ref (G.2.1 84)] : List Value).toArray below meth c0 0 0 (MQ below (iw_Q (some (.long r)) G σ') ([.ref (G.2.1 84)] : List Value).toArray s 0 0 (iw_A G)) 4 G (iw_A G) m23 201 [(0, .ref (G.2.1 84)), (1, .int v7), (2, .int v14), (3, .int v22)] []) → ∀ (v22 : Int32) (m23 : iw_M), f_X6_digest_B201 v7 v14 k201 r201 v22 m23 = some (r, σ') → iw_V p l e rm_X6_digest s m ([.ref (G.2.1 84)] : List Value).toArray below meth c0 0 0 (MQ below (iw_Q (some (.long r)) G σ') ([.ref (G.2.1 84)] : List Value).toArray s 0 0 (iw_A G)) 4 G (iw_A G) m23 201 [(0, .ref (G.2.1 84)), (1, .int v7), (2, .int v14), (3, .int v22)] [] := by
                      intro k201 r201 hk201 hr201 v22 m23 h
                      unfold f_X6_digest_B201 at h
                      refine iv_iload_n (pc := 201) C 3 dX6_digest_201 rfl rfl ?_
                      refine iv_aload_n (pc := 202) C 0 dX6_digest_202 rfl rfl ?_
                      refine iv_iload_n (pc := 203) C 1 dX6_digest_203 rfl rfl ?_
                      refine iv_iload_n (pc := 204) C 2 dX6_digest_204 rfl rfl ?_
                      obtain ⟨v24, ev24, h⟩ := iw_be h
                      refine iv_callV (pc := 205) (b := 84) (ci := 6) C [.int v7, .int v14] (k_X6_lengthOf l G hJ v7 v14 m23 ev24) gX6_digest_X6_lengthOf rfl qd_X6_lengthOf ⟨rfl, rfl, Nat.le_of_ble_eq_true rfl, Nat.le_of_ble_eq_true rfl⟩ (iw_im hJ (by decide)) iw_Eo84 rfl rfl rfl (Nat.le_of_ble_eq_true rfl) dX6_digest_205 ?_
                      refine iv_icmp_ge (pc := 208) C 228 dX6_digest_208 (by decide) (fun h25 => ?_) (fun h25 => ?_)
                      · replace h := iw_ift h25 h
                        exact iv_sub [0, 1, 2] rfl (hk201 m23 h)
                      · replace h := iw_iff h25 h
                        refine iv_aload_n (pc := 211) C 0 dX6_digest_211 rfl rfl ?_
                        refine iv_aload_n (pc := 212) C 0 dX6_digest_212 rfl rfl ?_
                        refine iv_iload_n (pc := 213) C 1 dX6_digest_213 rfl rfl ?_
                        refine iv_iload_n (pc := 214) C 2 dX6_digest_214 rfl rfl ?_
                        refine iv_iload_n (pc := 215) C 3 dX6_digest_215 rfl rfl ?_
                        obtain ⟨v26, ev26, h⟩ := iw_be h
                        refine iv_callV (pc := 216) (b := 84) (ci := 6) C [.int v7, .int v14, .int v22] (k_X6_nodeOf l G hJ v7 v14 v22 m23 ev26) gX6_digest_X6_nodeOf rfl qd_X6_nodeOf ⟨rfl, rfl, Nat.le_of_ble_eq_true rfl, Nat.le_of_ble_eq_true rfl⟩ (iw_im hJ (by decide)) iw_Eo84 rfl rfl rfl (Nat.le_of_ble_eq_true rfl) dX6_digest_216 ?_
                        refine iv_callV (pc := 219) (b := 84) (ci := 6) C [.int v26] (k_X6_note l G hJ v26 m23 rfl) gX6_digest_X6_note rfl qd_X6_note ⟨rfl, rfl, Nat.le_of_ble_eq_true rfl, Nat.le_of_ble_eq_true rfl⟩ (iw_im hJ (by decide)) iw_Eo84 rfl rfl rfl (Nat.le_of_ble_eq_true rfl) dX6_digest_219 ?_
                        refine iv_topm (fun m27 em27 => ?_)
                        replace h := iw_lete em27 h
                        obtain ⟨v28, ev28⟩ : ∃ y : Int32, y = v22 + (1 : Int32) := ⟨_, rfl⟩
                        replace h := iw_lete ev28 h
                        refine iv_iinc (pc := 222) C 3 v28 [(3, .int v28), (0, .ref (G.2.1 84)), (1, .int v7), (2, .int v14)] dX6_digest_222 rfl (by rw [ev28]; rfl) (by decide) rfl ?_
                        refine iv_goto (pc := 225) C 201 dX6_digest_225 (by decide) ?_
                        exact iv_sub [1, 2, 3, 0] rfl (hr201 v28 m27 h)
                    have vL201 : ∀ (nn : Nat) (v22 : Int32) (m23 : iw_M), f_X6_digest_L201 v7 v14 (f_X6_digest_X228_201 r179 v14) nn v22 m23 = some (r, σ') → iw_V p l e rm_X6_digest s m ([.ref (G.2.1 84)] : List Value).toArray below meth c0 0 0 (MQ below (iw_Q (some (.long r)) G σ') ([.ref (G.2.1 84)] : List Value).toArray s 0 0 (iw_A G)) 4 G (iw_A G) m23 201 [(0, .ref (G.2.1 84)), (1, .int v7), (2, .int v14), (3, .int v22)] [] := by
                      intro nn
                      induction nn with
                      | zero => intro v22 m23 h; exact absurd h (fun q => by cases q)
                      | succ nn ih => intro v22 m23 h; exact vB201 (f_X6_digest_X228_201 r179 v14) (f_X6_digest_L201 v7 v14 (f_X6_digest_X228_201 r179 v14) nn) vX201 ih v22 m23 h
                    exact iv_sub [1, 2, 3, 0] rfl (vL201 n (0 : Int32) m19 h)
                have vL179 : ∀ (nn : Nat) (v14 : Int32) (m15 : iw_M), f_X6_digest_L179 n v7 (f_X6_digest_X234_179 r143 v7) nn v14 m15 = some (r, σ') → iw_V p l e rm_X6_digest s m ([.ref (G.2.1 84)] : List Value).toArray below meth c0 0 0 (MQ below (iw_Q (some (.long r)) G σ') ([.ref (G.2.1 84)] : List Value).toArray s 0 0 (iw_A G)) 4 G (iw_A G) m15 179 [(0, .ref (G.2.1 84)), (1, .int v7), (2, .int v14)] [] := by
                  intro nn
                  induction nn with
                  | zero => intro v14 m15 h; exact absurd h (fun q => by cases q)
                  | succ nn ih => intro v14 m15 h; exact vB179 (f_X6_digest_X234_179 r143 v7) (f_X6_digest_L179 n v7 (f_X6_digest_X234_179 r143 v7) nn) vX179 ih v14 m15 h
                exact iv_sub [1, 2, 0] rfl (vL179 n (0 : Int32) m11 h)
              have vB155 : ∀ (k155 : iw_M → Option (Int64 × iw_M)) (r155 : Int32 → iw_M → Option (Int64 × iw_M)), (∀ (m11 : iw_M), k155 m11 = some (r, σ') → iw_V p l e rm_X6_digest s m ([.ref (G.2.1 84)] : List Value).toArray below meth c0 0 0 (MQ below (iw_Q (some (.long r)) G σ') ([.ref (G.2.1 84)] : List Value).toArray s 0 0 (iw_A G)) 4 G (iw_A G) m11 177 [(0, .ref (G.2.1 84)), (1, .int v7)] []) → (∀ (v29 : Int32) (m30 : iw_M), r155 v29 m30 = some (r, σ') → iw_V p l e rm_X6_digest s m ([.ref (G.2.1 84)] : List Value).toArray below meth c0 0 0 (MQ below (iw_Q (some (.long r)) G σ') ([.ref (G.2.1 84)] : List Value).toArray s 0 0 (iw_A G)) 4 G (iw_A G) m30 155 [(0, .ref (G.2.1 84)), (1, .int v7), (2, .int v29)] []) → ∀ (v29 : Int32) (m30 : iw_M), f_X6_digest_B155 n v7 k155 r155 v29 m30 = some (r, σ') → iw_V p l e rm_X6_digest s m ([.ref (G.2.1 84)] : List Value).toArray below meth c0 0 0 (MQ below (iw_Q (some (.long r)) G σ') ([.ref (G.2.1 84)] : List Value).toArray s 0 0 (iw_A G)) 4 G (iw_A G) m30 155 [(0, .ref (G.2.1 84)), (1, .int v7), (2, .int v29)] [] := by
                intro k155 r155 hk155 hr155 v29 m30 h
                unfold f_X6_digest_B155 at h
                refine iv_iload_n (pc := 155) C 2 dX6_digest_155 rfl rfl ?_
                refine iv_bipush (pc := 156) C (8 : Int32) dX6_digest_156 (by decide) ?_
                refine iv_icmp_ge (pc := 158) C 177 dX6_digest_158 (by decide) (fun h31 => ?_) (fun h31 => ?_)
                · replace h := iw_ift h31 h
                  exact iv_sub [0, 1] rfl (hk155 m30 h)
                · replace h := iw_iff h31 h
                  refine iv_aload_n (pc := 161) C 0 dX6_digest_161 rfl rfl ?_
                  refine iv_aload_n (pc := 162) C 0 dX6_digest_162 rfl rfl ?_
                  refine iv_iload_n (pc := 163) C 1 dX6_digest_163 rfl rfl ?_
                  refine iv_iload_n (pc := 164) C 2 dX6_digest_164 rfl rfl ?_
                  obtain ⟨v32, ev32, h⟩ := iw_be h
                  refine iv_callV (pc := 165) (b := 84) (ci := 6) C [.int v7, .int v29] (k_X6_part l G hJ n v7 v29 m30 ev32) gX6_digest_X6_part rfl qd_X6_part ⟨rfl, rfl, Nat.le_of_ble_eq_true rfl, Nat.le_of_ble_eq_true rfl⟩ (iw_im hJ (by decide)) iw_Eo84 rfl rfl rfl (Nat.le_of_ble_eq_true rfl) dX6_digest_165 ?_
                  refine iv_callV (pc := 168) (b := 84) (ci := 6) C [.int v32] (k_X6_note l G hJ v32 m30 rfl) gX6_digest_X6_note rfl qd_X6_note ⟨rfl, rfl, Nat.le_of_ble_eq_true rfl, Nat.le_of_ble_eq_true rfl⟩ (iw_im hJ (by decide)) iw_Eo84 rfl rfl rfl (Nat.le_of_ble_eq_true rfl) dX6_digest_168 ?_
                  refine iv_topm (fun m33 em33 => ?_)
                  replace h := iw_lete em33 h
                  obtain ⟨v34, ev34⟩ : ∃ y : Int32, y = v29 + (1 : Int32) := ⟨_, rfl⟩
                  replace h := iw_lete ev34 h
                  refine iv_iinc (pc := 171) C 2 v34 [(2, .int v34), (0, .ref (G.2.1 84)), (1, .int v7)] dX6_digest_171 rfl (by rw [ev34]; rfl) (by decide) rfl ?_
                  refine iv_goto (pc := 174) C 155 dX6_digest_174 (by decide) ?_
                  exact iv_sub [1, 2, 0] rfl (hr155 v34 m33 h)
              have vL155 : ∀ (nn : Nat) (v29 : Int32) (m30 : iw_M), f_X6_digest_L155 n v7 (f_X6_digest_X177_155 n r143 v7) nn v29 m30 = some (r, σ') → iw_V p l e rm_X6_digest s m ([.ref (G.2.1 84)] : List Value).toArray below meth c0 0 0 (MQ below (iw_Q (some (.long r)) G σ') ([.ref (G.2.1 84)] : List Value).toArray s 0 0 (iw_A G)) 4 G (iw_A G) m30 155 [(0, .ref (G.2.1 84)), (1, .int v7), (2, .int v29)] [] := by
                intro nn
                induction nn with
                | zero => intro v29 m30 h; exact absurd h (fun q => by cases q)
                | succ nn ih => intro v29 m30 h; exact vB155 (f_X6_digest_X177_155 n r143 v7) (f_X6_digest_L155 n v7 (f_X6_digest_X177_155 n r143 v7) nn) vX155 ih v29 m30 h
              exact iv_sub [1, 2, 0] rfl (vL155 n (0 : Int32) m8 h)
          have vL143 : ∀ (nn : Nat) (v7 : Int32) (m8 : iw_M), f_X6_digest_L143 n (f_X6_digest_X240_143) nn v7 m8 = some (r, σ') → iw_V p l e rm_X6_digest s m ([.ref (G.2.1 84)] : List Value).toArray below meth c0 0 0 (MQ below (iw_Q (some (.long r)) G σ') ([.ref (G.2.1 84)] : List Value).toArray s 0 0 (iw_A G)) 4 G (iw_A G) m8 143 [(0, .ref (G.2.1 84)), (1, .int v7)] [] := by
            intro nn
            induction nn with
            | zero => intro v7 m8 h; exact absurd h (fun q => by cases q)
            | succ nn ih => intro v7 m8 h; exact vB143 (f_X6_digest_X240_143) (f_X6_digest_L143 n (f_X6_digest_X240_143) nn) vX143 ih v7 m8 h
          exact iv_sub [1, 0] rfl (vL143 n (0 : Int32) m5 h)
        have vB110 : ∀ (k110 : iw_M → Option (Int64 × iw_M)) (r110 : Int32 → iw_M → Option (Int64 × iw_M)), (∀ (m5 : iw_M), k110 m5 = some (r, σ') → iw_V p l e rm_X6_digest s m ([.ref (G.2.1 84)] : List Value).toArray below meth c0 0 0 (MQ below (iw_Q (some (.long r)) G σ') ([.ref (G.2.1 84)] : List Value).toArray s 0 0 (iw_A G)) 4 G (iw_A G) m5 141 [(0, .ref (G.2.1 84))] []) → (∀ (v35 : Int32) (m36 : iw_M), r110 v35 m36 = some (r, σ') → iw_V p l e rm_X6_digest s m ([.ref (G.2.1 84)] : List Value).toArray below meth c0 0 0 (MQ below (iw_Q (some (.long r)) G σ') ([.ref (G.2.1 84)] : List Value).toArray s 0 0 (iw_A G)) 4 G (iw_A G) m36 110 [(0, .ref (G.2.1 84)), (1, .int v35)] []) → ∀ (v35 : Int32) (m36 : iw_M), f_X6_digest_B110  k110 r110 v35 m36 = some (r, σ') → iw_V p l e rm_X6_digest s m ([.ref (G.2.1 84)] : List Value).toArray below meth c0 0 0 (MQ below (iw_Q (some (.long r)) G σ') ([.ref (G.2.1 84)] : List Value).toArray s 0 0 (iw_A G)) 4 G (iw_A G) m36 110 [(0, .ref (G.2.1 84)), (1, .int v35)] [] := by
          intro k110 r110 hk110 hr110 v35 m36 h
          unfold f_X6_digest_B110 at h
          refine iv_iload_n (pc := 110) C 1 dX6_digest_110 rfl rfl ?_
          refine iv_iconst (pc := 111) C (3 : Int32) dX6_digest_111 (by decide) ?_
          refine iv_aload_n (pc := 112) C 0 dX6_digest_112 rfl rfl ?_
          refine iv_getf (pc := 113) (T := TX6) (N := 16) (ci := 6) C 84 0 in_X6_digest_6 (iw_im hJ (by decide)) iw_Eo84 rfl (by decide) lk_X6_digest_7 rfl rfl dX6_digest_113 ?_
          refine iv_iconst (pc := 116) C (2 : Int32) dX6_digest_116 (by decide) ?_
          obtain ⟨v37, ev37, h⟩ := iw_be h
          refine iv_rd (pc := 117) C 85 (iw_lm hJ rfl (by decide)) ev37 dX6_digest_117 ?_
          refine iv_imul (pc := 118) C dX6_digest_118 ?_
          refine iv_icmp_ge (pc := 119) C 141 dX6_digest_119 (by decide) (fun h38 => ?_) (fun h38 => ?_)
          · replace h := iw_ift h38 h
            exact iv_sub [0] rfl (hk110 m36 h)
          · replace h := iw_iff h38 h
            refine iv_aload_n (pc := 122) C 0 dX6_digest_122 rfl rfl ?_
            refine iv_aload_n (pc := 123) C 0 dX6_digest_123 rfl rfl ?_
            refine iv_getf (pc := 124) (T := TX6) (N := 16) (ci := 6) C 84 0 in_X6_digest_6 (iw_im hJ (by decide)) iw_Eo84 rfl (by decide) lk_X6_digest_7 rfl rfl dX6_digest_124 ?_
            refine iv_bipush (pc := 127) C (82 : Int32) dX6_digest_127 (by decide) ?_
            refine iv_iload_n (pc := 129) C 1 dX6_digest_129 rfl rfl ?_
            refine iv_iadd (pc := 130) C dX6_digest_130 ?_
            obtain ⟨v39, ev39, h⟩ := iw_be h
            refine iv_rd (pc := 131) C 85 (iw_lm hJ rfl (by decide)) ev39 dX6_digest_131 ?_
            refine iv_callV (pc := 132) (b := 84) (ci := 6) C [.int v39] (k_X6_note l G hJ v39 m36 rfl) gX6_digest_X6_note rfl qd_X6_note ⟨rfl, rfl, Nat.le_of_ble_eq_true rfl, Nat.le_of_ble_eq_true rfl⟩ (iw_im hJ (by decide)) iw_Eo84 rfl rfl rfl (Nat.le_of_ble_eq_true rfl) dX6_digest_132 ?_
            refine iv_topm (fun m40 em40 => ?_)
            replace h := iw_lete em40 h
            obtain ⟨v41, ev41⟩ : ∃ y : Int32, y = v35 + (1 : Int32) := ⟨_, rfl⟩
            replace h := iw_lete ev41 h
            refine iv_iinc (pc := 135) C 1 v41 [(1, .int v41), (0, .ref (G.2.1 84))] dX6_digest_135 rfl (by rw [ev41]; rfl) (by decide) rfl ?_
            refine iv_goto (pc := 138) C 110 dX6_digest_138 (by decide) ?_
            exact iv_sub [1, 0] rfl (hr110 v41 m40 h)
        have vL110 : ∀ (nn : Nat) (v35 : Int32) (m36 : iw_M), f_X6_digest_L110  (f_X6_digest_X141_110 n) nn v35 m36 = some (r, σ') → iw_V p l e rm_X6_digest s m ([.ref (G.2.1 84)] : List Value).toArray below meth c0 0 0 (MQ below (iw_Q (some (.long r)) G σ') ([.ref (G.2.1 84)] : List Value).toArray s 0 0 (iw_A G)) 4 G (iw_A G) m36 110 [(0, .ref (G.2.1 84)), (1, .int v35)] [] := by
          intro nn
          induction nn with
          | zero => intro v35 m36 h; exact absurd h (fun q => by cases q)
          | succ nn ih => intro v35 m36 h; exact vB110 (f_X6_digest_X141_110 n) (f_X6_digest_L110  (f_X6_digest_X141_110 n) nn) vX110 ih v35 m36 h
        exact iv_sub [1, 0] rfl (vL110 n (0 : Int32) m4 h)
      have vB77 : ∀ (k77 : iw_M → Option (Int64 × iw_M)) (r77 : Int32 → iw_M → Option (Int64 × iw_M)), (∀ (m4 : iw_M), k77 m4 = some (r, σ') → iw_V p l e rm_X6_digest s m ([.ref (G.2.1 84)] : List Value).toArray below meth c0 0 0 (MQ below (iw_Q (some (.long r)) G σ') ([.ref (G.2.1 84)] : List Value).toArray s 0 0 (iw_A G)) 4 G (iw_A G) m4 108 [(0, .ref (G.2.1 84))] []) → (∀ (v42 : Int32) (m43 : iw_M), r77 v42 m43 = some (r, σ') → iw_V p l e rm_X6_digest s m ([.ref (G.2.1 84)] : List Value).toArray below meth c0 0 0 (MQ below (iw_Q (some (.long r)) G σ') ([.ref (G.2.1 84)] : List Value).toArray s 0 0 (iw_A G)) 4 G (iw_A G) m43 77 [(0, .ref (G.2.1 84)), (1, .int v42)] []) → ∀ (v42 : Int32) (m43 : iw_M), f_X6_digest_B77  k77 r77 v42 m43 = some (r, σ') → iw_V p l e rm_X6_digest s m ([.ref (G.2.1 84)] : List Value).toArray below meth c0 0 0 (MQ below (iw_Q (some (.long r)) G σ') ([.ref (G.2.1 84)] : List Value).toArray s 0 0 (iw_A G)) 4 G (iw_A G) m43 77 [(0, .ref (G.2.1 84)), (1, .int v42)] [] := by
        intro k77 r77 hk77 hr77 v42 m43 h
        unfold f_X6_digest_B77 at h
        refine iv_iload_n (pc := 77) C 1 dX6_digest_77 rfl rfl ?_
        refine iv_iconst (pc := 78) C (3 : Int32) dX6_digest_78 (by decide) ?_
        refine iv_aload_n (pc := 79) C 0 dX6_digest_79 rfl rfl ?_
        refine iv_getf (pc := 80) (T := TX6) (N := 16) (ci := 6) C 84 0 in_X6_digest_6 (iw_im hJ (by decide)) iw_Eo84 rfl (by decide) lk_X6_digest_7 rfl rfl dX6_digest_80 ?_
        refine iv_iconst (pc := 83) C (1 : Int32) dX6_digest_83 (by decide) ?_
        obtain ⟨v44, ev44, h⟩ := iw_be h
        refine iv_rd (pc := 84) C 85 (iw_lm hJ rfl (by decide)) ev44 dX6_digest_84 ?_
        refine iv_imul (pc := 85) C dX6_digest_85 ?_
        refine iv_icmp_ge (pc := 86) C 108 dX6_digest_86 (by decide) (fun h45 => ?_) (fun h45 => ?_)
        · replace h := iw_ift h45 h
          exact iv_sub [0] rfl (hk77 m43 h)
        · replace h := iw_iff h45 h
          refine iv_aload_n (pc := 89) C 0 dX6_digest_89 rfl rfl ?_
          refine iv_aload_n (pc := 90) C 0 dX6_digest_90 rfl rfl ?_
          refine iv_getf (pc := 91) (T := TX6) (N := 16) (ci := 6) C 84 0 in_X6_digest_6 (iw_im hJ (by decide)) iw_Eo84 rfl (by decide) lk_X6_digest_7 rfl rfl dX6_digest_91 ?_
          refine iv_bipush (pc := 94) C (22 : Int32) dX6_digest_94 (by decide) ?_
          refine iv_iload_n (pc := 96) C 1 dX6_digest_96 rfl rfl ?_
          refine iv_iadd (pc := 97) C dX6_digest_97 ?_
          obtain ⟨v46, ev46, h⟩ := iw_be h
          refine iv_rd (pc := 98) C 85 (iw_lm hJ rfl (by decide)) ev46 dX6_digest_98 ?_
          refine iv_callV (pc := 99) (b := 84) (ci := 6) C [.int v46] (k_X6_note l G hJ v46 m43 rfl) gX6_digest_X6_note rfl qd_X6_note ⟨rfl, rfl, Nat.le_of_ble_eq_true rfl, Nat.le_of_ble_eq_true rfl⟩ (iw_im hJ (by decide)) iw_Eo84 rfl rfl rfl (Nat.le_of_ble_eq_true rfl) dX6_digest_99 ?_
          refine iv_topm (fun m47 em47 => ?_)
          replace h := iw_lete em47 h
          obtain ⟨v48, ev48⟩ : ∃ y : Int32, y = v42 + (1 : Int32) := ⟨_, rfl⟩
          replace h := iw_lete ev48 h
          refine iv_iinc (pc := 102) C 1 v48 [(1, .int v48), (0, .ref (G.2.1 84))] dX6_digest_102 rfl (by rw [ev48]; rfl) (by decide) rfl ?_
          refine iv_goto (pc := 105) C 77 dX6_digest_105 (by decide) ?_
          exact iv_sub [1, 0] rfl (hr77 v48 m47 h)
      have vL77 : ∀ (nn : Nat) (v42 : Int32) (m43 : iw_M), f_X6_digest_L77  (f_X6_digest_X108_77 n) nn v42 m43 = some (r, σ') → iw_V p l e rm_X6_digest s m ([.ref (G.2.1 84)] : List Value).toArray below meth c0 0 0 (MQ below (iw_Q (some (.long r)) G σ') ([.ref (G.2.1 84)] : List Value).toArray s 0 0 (iw_A G)) 4 G (iw_A G) m43 77 [(0, .ref (G.2.1 84)), (1, .int v42)] [] := by
        intro nn
        induction nn with
        | zero => intro v42 m43 h; exact absurd h (fun q => by cases q)
        | succ nn ih => intro v42 m43 h; exact vB77 (f_X6_digest_X108_77 n) (f_X6_digest_L77  (f_X6_digest_X108_77 n) nn) vX77 ih v42 m43 h
      exact iv_sub [1, 0] rfl (vL77 n (0 : Int32) m3 h)
    have vB46 : ∀ (k46 : iw_M → Option (Int64 × iw_M)) (r46 : Int32 → iw_M → Option (Int64 × iw_M)), (∀ (m3 : iw_M), k46 m3 = some (r, σ') → iw_V p l e rm_X6_digest s m ([.ref (G.2.1 84)] : List Value).toArray below meth c0 0 0 (MQ below (iw_Q (some (.long r)) G σ') ([.ref (G.2.1 84)] : List Value).toArray s 0 0 (iw_A G)) 4 G (iw_A G) m3 75 [(0, .ref (G.2.1 84))] []) → (∀ (v49 : Int32) (m50 : iw_M), r46 v49 m50 = some (r, σ') → iw_V p l e rm_X6_digest s m ([.ref (G.2.1 84)] : List Value).toArray below meth c0 0 0 (MQ below (iw_Q (some (.long r)) G σ') ([.ref (G.2.1 84)] : List Value).toArray s 0 0 (iw_A G)) 4 G (iw_A G) m50 46 [(0, .ref (G.2.1 84)), (1, .int v49)] []) → ∀ (v49 : Int32) (m50 : iw_M), f_X6_digest_B46  k46 r46 v49 m50 = some (r, σ') → iw_V p l e rm_X6_digest s m ([.ref (G.2.1 84)] : List Value).toArray below meth c0 0 0 (MQ below (iw_Q (some (.long r)) G σ') ([.ref (G.2.1 84)] : List Value).toArray s 0 0 (iw_A G)) 4 G (iw_A G) m50 46 [(0, .ref (G.2.1 84)), (1, .int v49)] [] := by
      intro k46 r46 hk46 hr46 v49 m50 h
      unfold f_X6_digest_B46 at h
      refine iv_iload_n (pc := 46) C 1 dX6_digest_46 rfl rfl ?_
      refine iv_aload_n (pc := 47) C 0 dX6_digest_47 rfl rfl ?_
      refine iv_getf (pc := 48) (T := TX6) (N := 16) (ci := 6) C 84 0 in_X6_digest_6 (iw_im hJ (by decide)) iw_Eo84 rfl (by decide) lk_X6_digest_7 rfl rfl dX6_digest_48 ?_
      refine iv_iconst (pc := 51) C (0 : Int32) dX6_digest_51 (by decide) ?_
      obtain ⟨v51, ev51, h⟩ := iw_be h
      refine iv_rd (pc := 52) C 85 (iw_lm hJ rfl (by decide)) ev51 dX6_digest_52 ?_
      refine iv_icmp_ge (pc := 53) C 75 dX6_digest_53 (by decide) (fun h52 => ?_) (fun h52 => ?_)
      · replace h := iw_ift h52 h
        exact iv_sub [0] rfl (hk46 m50 h)
      · replace h := iw_iff h52 h
        refine iv_aload_n (pc := 56) C 0 dX6_digest_56 rfl rfl ?_
        refine iv_aload_n (pc := 57) C 0 dX6_digest_57 rfl rfl ?_
        refine iv_getf (pc := 58) (T := TX6) (N := 16) (ci := 6) C 84 0 in_X6_digest_6 (iw_im hJ (by decide)) iw_Eo84 rfl (by decide) lk_X6_digest_7 rfl rfl dX6_digest_58 ?_
        refine iv_bipush (pc := 61) C (12 : Int32) dX6_digest_61 (by decide) ?_
        refine iv_iload_n (pc := 63) C 1 dX6_digest_63 rfl rfl ?_
        refine iv_iadd (pc := 64) C dX6_digest_64 ?_
        obtain ⟨v53, ev53, h⟩ := iw_be h
        refine iv_rd (pc := 65) C 85 (iw_lm hJ rfl (by decide)) ev53 dX6_digest_65 ?_
        refine iv_callV (pc := 66) (b := 84) (ci := 6) C [.int v53] (k_X6_note l G hJ v53 m50 rfl) gX6_digest_X6_note rfl qd_X6_note ⟨rfl, rfl, Nat.le_of_ble_eq_true rfl, Nat.le_of_ble_eq_true rfl⟩ (iw_im hJ (by decide)) iw_Eo84 rfl rfl rfl (Nat.le_of_ble_eq_true rfl) dX6_digest_66 ?_
        refine iv_topm (fun m54 em54 => ?_)
        replace h := iw_lete em54 h
        obtain ⟨v55, ev55⟩ : ∃ y : Int32, y = v49 + (1 : Int32) := ⟨_, rfl⟩
        replace h := iw_lete ev55 h
        refine iv_iinc (pc := 69) C 1 v55 [(1, .int v55), (0, .ref (G.2.1 84))] dX6_digest_69 rfl (by rw [ev55]; rfl) (by decide) rfl ?_
        refine iv_goto (pc := 72) C 46 dX6_digest_72 (by decide) ?_
        exact iv_sub [1, 0] rfl (hr46 v55 m54 h)
    have vL46 : ∀ (nn : Nat) (v49 : Int32) (m50 : iw_M), f_X6_digest_L46  (f_X6_digest_X75_46 n) nn v49 m50 = some (r, σ') → iw_V p l e rm_X6_digest s m ([.ref (G.2.1 84)] : List Value).toArray below meth c0 0 0 (MQ below (iw_Q (some (.long r)) G σ') ([.ref (G.2.1 84)] : List Value).toArray s 0 0 (iw_A G)) 4 G (iw_A G) m50 46 [(0, .ref (G.2.1 84)), (1, .int v49)] [] := by
      intro nn
      induction nn with
      | zero => intro v49 m50 h; exact absurd h (fun q => by cases q)
      | succ nn ih => intro v49 m50 h; exact vB46 (f_X6_digest_X75_46 n) (f_X6_digest_L46  (f_X6_digest_X75_46 n) nn) vX46 ih v49 m50 h
    exact iv_sub [1, 0] rfl (vL46 n (0 : Int32) m2 h)
  have vB9 : ∀ (k9 : iw_M → Option (Int64 × iw_M)) (r9 : Int32 → iw_M → Option (Int64 × iw_M)), (∀ (m2 : iw_M), k9 m2 = some (r, σ') → iw_V p l e rm_X6_digest s m ([.ref (G.2.1 84)] : List Value).toArray below meth c0 0 0 (MQ below (iw_Q (some (.long r)) G σ') ([.ref (G.2.1 84)] : List Value).toArray s 0 0 (iw_A G)) 4 G (iw_A G) m2 44 [(0, .ref (G.2.1 84))] []) → (∀ (v56 : Int32) (m57 : iw_M), r9 v56 m57 = some (r, σ') → iw_V p l e rm_X6_digest s m ([.ref (G.2.1 84)] : List Value).toArray below meth c0 0 0 (MQ below (iw_Q (some (.long r)) G σ') ([.ref (G.2.1 84)] : List Value).toArray s 0 0 (iw_A G)) 4 G (iw_A G) m57 9 [(0, .ref (G.2.1 84)), (1, .int v56)] []) → ∀ (v56 : Int32) (m57 : iw_M), f_X6_digest_B9 n k9 r9 v56 m57 = some (r, σ') → iw_V p l e rm_X6_digest s m ([.ref (G.2.1 84)] : List Value).toArray below meth c0 0 0 (MQ below (iw_Q (some (.long r)) G σ') ([.ref (G.2.1 84)] : List Value).toArray s 0 0 (iw_A G)) 4 G (iw_A G) m57 9 [(0, .ref (G.2.1 84)), (1, .int v56)] [] := by
    intro k9 r9 hk9 hr9 v56 m57 h
    unfold f_X6_digest_B9 at h
    refine iv_iload_n (pc := 9) C 1 dX6_digest_9 rfl rfl ?_
    refine iv_bipush (pc := 10) C (12 : Int32) dX6_digest_10 (by decide) ?_
    refine iv_icmp_ge (pc := 12) C 44 dX6_digest_12 (by decide) (fun h58 => ?_) (fun h58 => ?_)
    · replace h := iw_ift h58 h
      exact iv_sub [0] rfl (hk9 m57 h)
    · replace h := iw_iff h58 h
      refine iv_aload_n (pc := 15) C 0 dX6_digest_15 rfl rfl ?_
      refine iv_iload_n (pc := 16) C 1 dX6_digest_16 rfl rfl ?_
      refine iv_bipush (pc := 17) C (6 : Int32) dX6_digest_17 (by decide) ?_
      have vJ35 : ∀ (v59 : Int32), f_X6_digest_J35 r9 v56 m57 v59 = some (r, σ') → iw_V p l e rm_X6_digest s m ([.ref (G.2.1 84)] : List Value).toArray below meth c0 0 0 (MQ below (iw_Q (some (.long r)) G σ') ([.ref (G.2.1 84)] : List Value).toArray s 0 0 (iw_A G)) 4 G (iw_A G) m57 35 [(0, .ref (G.2.1 84)), (1, .int v56)] [.int v59, .ref (G.2.1 84)] := by
        intro v59 h
        unfold f_X6_digest_J35 at h
        refine iv_callV (pc := 35) (b := 84) (ci := 6) C [.int v59] (k_X6_note l G hJ v59 m57 rfl) gX6_digest_X6_note rfl qd_X6_note ⟨rfl, rfl, Nat.le_of_ble_eq_true rfl, Nat.le_of_ble_eq_true rfl⟩ (iw_im hJ (by decide)) iw_Eo84 rfl rfl rfl (Nat.le_of_ble_eq_true rfl) dX6_digest_35 ?_
        refine iv_topm (fun m60 em60 => ?_)
        replace h := iw_lete em60 h
        obtain ⟨v61, ev61⟩ : ∃ y : Int32, y = v56 + (1 : Int32) := ⟨_, rfl⟩
        replace h := iw_lete ev61 h
        refine iv_iinc (pc := 38) C 1 v61 [(1, .int v61), (0, .ref (G.2.1 84))] dX6_digest_38 rfl (by rw [ev61]; rfl) (by decide) rfl ?_
        refine iv_goto (pc := 41) C 9 dX6_digest_41 (by decide) ?_
        exact iv_sub [1, 0] rfl (hr9 v61 m60 h)
      refine iv_icmp_ne (pc := 19) C 29 dX6_digest_19 (by decide) (fun h62 => ?_) (fun h62 => ?_)
      · replace h := iw_iff h62 h
        refine iv_aload_n (pc := 29) C 0 dX6_digest_29 rfl rfl ?_
        refine iv_getf (pc := 30) (T := TX6) (N := 16) (ci := 6) C 84 0 in_X6_digest_6 (iw_im hJ (by decide)) iw_Eo84 rfl (by decide) lk_X6_digest_7 rfl rfl dX6_digest_30 ?_
        refine iv_iload_n (pc := 33) C 1 dX6_digest_33 rfl rfl ?_
        obtain ⟨v63, ev63, h⟩ := iw_be h
        refine iv_rd (pc := 34) C 85 (iw_lm hJ rfl (by decide)) ev63 dX6_digest_34 ?_
        exact iv_sub [0, 1] rfl (vJ35 v63 h)
      · replace h := iw_ift h62 h
        refine iv_aload_n (pc := 22) C 0 dX6_digest_22 rfl rfl ?_
        obtain ⟨v64, ev64, h⟩ := iw_be h
        refine iv_callV (pc := 23) (b := 84) (ci := 6) C [] (k_X6_living l G hJ n m57 ev64) gX6_digest_X6_living rfl qd_X6_living ⟨rfl, rfl, Nat.le_of_ble_eq_true rfl, Nat.le_of_ble_eq_true rfl⟩ (iw_im hJ (by decide)) iw_Eo84 rfl rfl rfl (Nat.le_of_ble_eq_true rfl) dX6_digest_23 ?_
        refine iv_goto (pc := 26) C 35 dX6_digest_26 (by decide) ?_
        exact iv_sub [0, 1] rfl (vJ35 v64 h)
  have vL9 : ∀ (nn : Nat) (v56 : Int32) (m57 : iw_M), f_X6_digest_L9 n (f_X6_digest_X44_9 n) nn v56 m57 = some (r, σ') → iw_V p l e rm_X6_digest s m ([.ref (G.2.1 84)] : List Value).toArray below meth c0 0 0 (MQ below (iw_Q (some (.long r)) G σ') ([.ref (G.2.1 84)] : List Value).toArray s 0 0 (iw_A G)) 4 G (iw_A G) m57 9 [(0, .ref (G.2.1 84)), (1, .int v56)] [] := by
    intro nn
    induction nn with
    | zero => intro v56 m57 h; exact absurd h (fun q => by cases q)
    | succ nn ih => intro v56 m57 h; exact vB9 (f_X6_digest_X44_9 n) (f_X6_digest_L9 n (f_X6_digest_X44_9 n) nn) vX9 ih v56 m57 h
  exact iv_sub [1, 0] rfl (vL9 n (0 : Int32) m1 h)
theorem qd_X6_digest : yX6_digest.cls = RX6 ∧ yX6_digest.cls ≠ "java/lang/invoke/MethodHandle" ∧ yX6_digest.cls ≠ "java/lang/invoke/VarHandle" ∧ (parseMethodDescriptor yX6_digest.desc).map (fun d => d.parameters.length) = some 0 := by decide +kernel
