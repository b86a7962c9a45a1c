def f_L_law_J746 (n : Nat) (v68 : Int32) (m81 : iw_M) : Option Int32 :=
iw_b2 (f_X5_setPeriod n v68 m81) fun v82 m83 =>
if (1 : Int32) ≤ v82 then
((f_X5_digest n m83).bind fun v85 =>
iw_b2 (f_X5_addNode n (0 : Int32) m83) fun v86 m87 =>
if v86 = (-1002 : Int32) then
(iw_let2 (f_X5_charge (10 : Int32) (0 : Int32) m87) fun v89 m90 =>
if v89 = (-1001 : Int32) then
(iw_b2 (f_X5_link n (0 : Int32) (0 : Int32) (1 : Int32) m90) fun v92 m93 =>
if v92 = (-1003 : Int32) then
(iw_b2 (f_X5_link n (0 : Int32) (1 : Int32) (21 : Int32) m93) fun v95 m96 =>
if v95 = (-1002 : Int32) then
(iw_b2 (f_X5_cut n (20 : Int32) m96) fun v98 m99 =>
if v98 = (-1001 : Int32) then
(iw_b2 (f_X5_addSensor n (0 : Int32) (8 : Int32) (0 : Int32) m99) fun v101 m102 =>
if v101 = (-1002 : Int32) then
(iw_let2 (f_X5_measure (6 : Int32) (0 : Int32) m102) fun v104 m105 =>
if v104 = (-1001 : Int32) then
(iw_b2 (f_X5_ask n (0 : Int32) (0 : Int32) (5 : Int32) (4 : Int32) (100000 : Int32) m105) fun v107 m108 =>
if v107 = (-1002 : Int32) then
(iw_b2 (f_X5_withdraw n (5 : Int32) m108) fun v110 m111 =>
if v110 = (-1001 : Int32) then
(iw_b2 (f_X5_rounds n (101 : Int32) m111) fun v113 m114 =>
if v113 = (-1002 : Int32) then
((f_X5_count n (12 : Int32) m114).bind fun v116 =>
if v116 = (-1002 : Int32) then
((f_X5_load n (20 : Int32) m114).bind fun v118 =>
if v118 = (-1001 : Int32) then
(iw_b2 (f_X5_bestPeriod n (201 : Int32) m114) fun v120 m121 =>
if v120 = (-1002 : Int32) then
((f_X5_digest n m121).bind fun v123 =>
if v123 = v85 then
(some 1)
else
(some 0))
else
(some 0))
else
(some 0))
else
(some 0))
else
(some 0))
else
(some 0))
else
(some 0))
else
(some 0))
else
(some 0))
else
(some 0))
else
(some 0))
else
(some 0))
else
(some 0))
else
(some 0))
else
(some 0)
def f_L_law_X627_589 (n : Nat) (v1 : Int32) (m56 : iw_M) (v57 : Int32) (v58 : Int32) (v59 : Int32) : Option Int32 :=
iw_b2 (f_X5_rounds n (1 : Int32) m56) fun v60 m61 =>
(f_X5_count n (11 : Int32) m61).bind fun v62 =>
if v62 = (v58 + v59) then
((f_X5_count n (5 : Int32) m61).bind fun v64 =>
if v64 = (v57 + (1 : Int32)) then
(iw_b2 (f_X5_bestPeriod n (6 : Int32) m61) fun v66 m67 =>
iw_b2 (f_X5_setPeriod n v66 m67) fun v68 m69 =>
iw_b2 (f_X5_willDeliver n (6 : Int32) m69) fun v70 m71 =>
(f_L_low (v1 >>> ((12 : Int32) &&& 31)) (50 : Int32)).bind fun v72 =>
iw_b2 (f_X5_setPeriod n ((1 : Int32) + v72) m71) fun v73 m74 =>
if v66 < (1 : Int32) then
(some 0)
else
(if (50 : Int32) < v66 then
(some 0)
else
(iw_b2 (f_X5_willDeliver n (6 : Int32) m74) fun v77 m78 =>
if v70 < v77 then
(some 0)
else
(iw_b2 (f_X5_willDeliver n (6 : Int32) m78) fun v80 m81 =>
if v80 = v70 then
((f_X5_count n (4 : Int32) m81).bind fun v126 =>
if v126 < v66 then
(some 0)
else
(f_L_law_J746 n v68 m81))
else
(f_L_law_J746 n v68 m81)))))
else
(some 0))
else
(some 0)
def f_L_law_J618 (r589 : Int32 → Int32 → Option Int32) (v128 : Int32) (v129 : Int32) (v133 : Int32) : Option Int32 :=
iw_let (v128 + v133) fun v134 =>
iw_let (v129 + (1 : Int32)) fun v135 =>
r589 v134 v135
def f_L_law_B589 (n : Nat) (m56 : iw_M) (v57 : Int32) (k589 : Int32 → Option Int32) (r589 : Int32 → Int32 → Option Int32) (v128 : Int32) (v129 : Int32) : Option Int32 :=
(f_X5_count n (3 : Int32) m56).bind fun v130 =>
if v130 ≤ v129 then
(k589 v128)
else
((f_X5_interest n v129 (4 : Int32) m56).bind fun v132 =>
if v57 ≤ v132 then
(f_L_law_J618 r589 v128 v129 (0 : Int32))
else
(f_L_law_J618 r589 v128 v129 (1 : Int32)))
def f_L_law_L589 (n : Nat) (m56 : iw_M) (v57 : Int32) (k589 : Int32 → Option Int32) (nn : Nat) : Int32 → Int32 → Option Int32 :=
iw_it (fun r589 => f_L_law_B589 n m56 v57 k589 r589) (fun _ _ => none) nn
def f_L_law_X568_406 (n : Nat) (v1 : Int32) (m56 : iw_M) : Option Int32 :=
(f_X5_count n (5 : Int32) m56).bind fun v57 =>
(f_X5_count n (11 : Int32) m56).bind fun v58 =>
f_L_law_L589 n m56 v57 (f_L_law_X627_589 n v1 m56 v57 v58) n (0 : Int32) (0 : Int32)
def f_L_law_J562 (r406 : Int32 → iw_M → Option Int32) (v137 : Int32) (m149 : iw_M) : Option Int32 :=
iw_let (v137 + (1 : Int32)) fun v150 =>
r406 v150 m149
def f_L_law_J506 (n : Nat) (r406 : Int32 → iw_M → Option Int32) (v137 : Int32) (v140 : Int32) (m145 : iw_M) : Option Int32 :=
iw_b2 (f_L_isSound n m145) fun v146 m147 =>
if v146 = (0 : Int32) then
(some 0)
else
(if (v137 - v137 / (4 : Int32) * (4 : Int32)) = (3 : Int32) then
((f_X5_count n (0 : Int32) m147).bind fun v152 =>
(f_L_low (v140 >>> ((5 : Int32) &&& 31)) v152).bind fun v153 =>
iw_b2 (f_L_areTimesSound n v153 m147) fun v154 m155 =>
if v154 = (0 : Int32) then
(some 0)
else
((f_L_low (v140 >>> ((9 : Int32) &&& 31)) (30 : Int32)).bind fun v157 =>
iw_b2 (f_L_isForetold n ((1 : Int32) + v157) m155) fun v158 m159 =>
if v158 = (0 : Int32) then
(some 0)
else
(f_L_law_J562 r406 v137 m159)))
else
(f_L_law_J562 r406 v137 m147))
def f_L_law_J464 (n : Nat) (r406 : Int32 → iw_M → Option Int32) (v137 : Int32) (v140 : Int32) (v141 : Int64) (v142 : Int32) (v143 : Int32) (m144 : iw_M) : Option Int32 :=
if v143 < (-1000 : Int32) then
(f_L_law_J506 n r406 v137 v140 m144)
else
(if ((v140 >>> ((27 : Int32) &&& 31)) &&& (3 : Int32)) = (0 : Int32) then
(iw_let2 (f_X5_undo m144) fun v163 m164 =>
if v163 < (0 : Int32) then
(some 0)
else
((f_X5_digest n m164).bind fun v166 =>
if v166 = v141 then
((iw_wr m164 84 (0 : Int32) v142).bind fun m168 =>
f_L_law_J506 n r406 v137 v140 m168)
else
(some 0)))
else
(f_L_law_J506 n r406 v137 v140 m144))
def f_L_law_B406 (n : Nat) (xs : Nat → Int32) (sL : Nat) (k406 : iw_M → Option Int32) (r406 : Int32 → iw_M → Option Int32) (v137 : Int32) (m138 : iw_M) : Option Int32 :=
if (20 : Int32) ≤ v137 then
(k406 m138)
else
((f_L_cell xs sL ((9 : Int32) + v137)).bind fun v140 =>
(f_X5_digest n m138).bind fun v141 =>
(iw_rd m138 84 (0 : Int32)).bind fun v142 =>
iw_b2 (f_L_changes n v140 m138) fun v143 m144 =>
if (-1000 : Int32) ≤ v143 then
(f_L_law_J464 n r406 v137 v140 v141 v142 v143 m144)
else
((f_X5_digest n m144).bind fun v170 =>
if v170 = v141 then
(f_L_law_J464 n r406 v137 v140 v141 v142 v143 m144)
else
(some 0)))
def f_L_law_L406 (n : Nat) (xs : Nat → Int32) (sL : Nat) (k406 : iw_M → Option Int32) (nn : Nat) : Int32 → iw_M → Option Int32 :=
iw_it (fun r406 => f_L_law_B406 n xs sL k406 r406) (fun _ _ => none) nn
def f_L_law_J389 (n : Nat) (xs : Nat → Int32) (sL : Nat) (v1 : Int32) (m39 : iw_M) (v51 : Int32) (v52 : Int32) : Option Int32 :=
if v51 = v52 then
((f_X5_count n (9 : Int32) m39).bind fun v54 =>
if v54 = (0 : Int32) then
(f_L_law_L406 n xs sL (f_L_law_X568_406 n v1) n (0 : Int32) m39)
else
(some 0))
else
(some 0)
def f_L_law_J357 (n : Nat) (xs : Nat → Int32) (sL : Nat) (v1 : Int32) (m39 : iw_M) (v40 : Int32) (v46 : Int32) (v47 : Int32) : Option Int32 :=
if v46 = v47 then
((f_X5_count n (7 : Int32) m39).bind fun v49 =>
if v49 = (1 : Int32) then
((f_X5_count n (8 : Int32) m39).bind fun v51 =>
if v40 ≤ (0 : Int32) then
(f_L_law_J389 n xs sL v1 m39 v51 (0 : Int32))
else
(f_L_law_J389 n xs sL v1 m39 v51 (v40 - (1 : Int32))))
else
(some 0))
else
(some 0)
def f_L_law_J345 (n : Nat) (xs : Nat → Int32) (sL : Nat) (v1 : Int32) (v32 : Int32) (v33 : Int32) (m39 : iw_M) (v40 : Int32) (v46 : Int32) : Option Int32 :=
if v32 = v33 then
(f_L_law_J357 n xs sL v1 m39 v40 v46 (1 : Int32))
else
(f_L_law_J357 n xs sL v1 m39 v40 v46 (0 : Int32))
def f_L_law_J335 (n : Nat) (xs : Nat → Int32) (sL : Nat) (v1 : Int32) (v32 : Int32) (v33 : Int32) (v34 : Int32) (m39 : iw_M) (v40 : Int32) : Option Int32 :=
if v34 = (0 : Int32) then
(f_L_law_J345 n xs sL v1 v32 v33 m39 v40 (1 : Int32))
else
(f_L_law_J345 n xs sL v1 v32 v33 m39 v40 (0 : Int32))
def f_L_law_J319 (n : Nat) (xs : Nat → Int32) (sL : Nat) (v1 : Int32) (v32 : Int32) (v33 : Int32) (v34 : Int32) (m39 : iw_M) (v40 : Int32) (v43 : Int32) (v44 : Int32) : Option Int32 :=
if v43 = v44 then
(if v34 = (-1000 : Int32) then
(if v40 = (0 : Int32) then
(f_L_law_J335 n xs sL v1 v32 v33 v34 m39 v40)
else
(some 0))
else
(f_L_law_J335 n xs sL v1 v32 v33 v34 m39 v40))
else
(some 0)
def f_L_law_J295 (n : Nat) (xs : Nat → Int32) (sL : Nat) (v1 : Int32) (v32 : Int32) (v33 : Int32) (v34 : Int32) (v38 : Int32) (m39 : iw_M) (v40 : Int32) (v41 : Int32) : Option Int32 :=
if v38 = v41 then
((f_X5_interest n (0 : Int32) (6 : Int32) m39).bind fun v43 =>
if v34 = (-1000 : Int32) then
(f_L_law_J319 n xs sL v1 v32 v33 v34 m39 v40 v43 (0 : Int32))
else
(f_L_law_J319 n xs sL v1 v32 v33 v34 m39 v40 v43 v34))
else
(some 0)
def f_L_law_X195_99 (n : Nat) (xs : Nat → Int32) (sL : Nat) (v1 : Int32) (v24 : Int32) (m25 : iw_M) : Option Int32 :=
(f_L_low (v1 >>> ((4 : Int32) &&& 31)) v24).bind fun v26 =>
iw_b2 (f_X5_addSensor n v26 (0 : Int32) (7 : Int32) m25) fun v27 m28 =>
(f_L_low (v1 >>> ((8 : Int32) &&& 31)) v24).bind fun v29 =>
iw_b2 (f_X5_ask n v29 (0 : Int32) (-100 : Int32) (100 : Int32) (1000 : Int32) m28) fun v30 m31 =>
iw_let (f_X5_sensor (0 : Int32) (0 : Int32) m31) fun v32 =>
(f_X5_interest n (0 : Int32) (0 : Int32) m31).bind fun v33 =>
iw_b2 (f_X5_quickest n v32 v33 m31) fun v34 m35 =>
iw_b2 (f_X5_setPeriod n (1 : Int32) m35) fun v36 m37 =>
iw_b2 (f_X5_rounds n (1 : Int32) m37) fun v38 m39 =>
iw_let (f_X5_wayLength (0 : Int32) (0 : Int32) m39) fun v40 =>
if v34 = (-1000 : Int32) then
(f_L_law_J295 n xs sL v1 v32 v33 v34 v38 m39 v40 (0 : Int32))
else
(f_L_law_J295 n xs sL v1 v32 v33 v34 v38 m39 v40 (1 : Int32))
def f_L_law_J189 (r99 : Int32 → iw_M → Option Int32) (v179 : Int32) (m190 : iw_M) : Option Int32 :=
iw_let (v179 + (1 : Int32)) fun v191 =>
r99 v191 m190
def f_L_law_B99 (n : Nat) (xs : Nat → Int32) (sL : Nat) (v24 : Int32) (k99 : iw_M → Option Int32) (r99 : Int32 → iw_M → Option Int32) (v179 : Int32) (m180 : iw_M) : Option Int32 :=
if v24 ≤ v179 then
(k99 m180)
else
((f_L_cell xs sL ((1 : Int32) + v179)).bind fun v182 =>
(f_L_low v182 (60 : Int32)).bind fun v183 =>
iw_let ((5 : Int32) + v183) fun v184 =>
iw_b2 (f_X5_addNode n v184 m180) fun v185 m186 =>
if v185 = v179 then
((iw_rd m186 84 (0 : Int32)).bind fun v188 =>
(iw_wr m186 84 (0 : Int32) (v188 + v184)).bind fun m189 =>
if v179 ≤ (0 : Int32) then
(f_L_law_J189 r99 v179 m189)
else
((f_L_cell xs sL ((1 : Int32) + v179)).bind fun v193 =>
(f_L_low (v193 >>> ((6 : Int32) &&& 31)) v179).bind fun v194 =>
(f_L_cell xs sL ((1 : Int32) + v179)).bind fun v195 =>
(f_L_low (v195 >>> ((10 : Int32) &&& 31)) (5 : Int32)).bind fun v196 =>
iw_b2 (f_X5_link n v179 v194 ((1 : Int32) + v196) m189) fun v197 m198 =>
f_L_law_J189 r99 v179 m198))
else
(some 0))
def f_L_law_L99 (n : Nat) (xs : Nat → Int32) (sL : Nat) (v24 : Int32) (k99 : iw_M → Option Int32) (nn : Nat) : Int32 → iw_M → Option Int32 :=
iw_it (fun r99 => f_L_law_B99 n xs sL v24 k99 r99) (fun _ _ => none) nn
def f_L_law (n : Nat) (xs : Nat → Int32) (sL : Nat) (σ : iw_M) : Option Int32 :=
(f_L_cell xs sL (0 : Int32)).bind fun v1 =>
iw_let2 (f_X5_undo  σ) fun v2 m3 =>
if v2 = (-1003 : Int32) then
(iw_b2 (f_X5_build n  m3) fun v5 m6 =>
if v5 = (-1003 : Int32) then
(iw_b2 (f_X5_rounds n (1 : Int32) m6) fun v8 m9 =>
if v8 = (0 : Int32) then
(iw_b2 (f_X5_firstDeath n  m9) fun v11 m12 =>
if v11 = (-1000 : Int32) then
(iw_b2 (f_X5_willDeliver n (3 : Int32) m12) fun v14 m15 =>
if v14 = (0 : Int32) then
(iw_b2 (f_X5_bestPeriod n (2 : Int32) m15) fun v17 m18 =>
if v17 = (1 : Int32) then
(iw_b2 (f_X5_quickest n (0 : Int32) (0 : Int32) m18) fun v20 m21 =>
if v20 = (-1001 : Int32) then
((f_L_low v1 (5 : Int32)).bind fun v23 =>
iw_let ((3 : Int32) + v23) fun v24 =>
f_L_law_L99 n xs sL v24 (f_L_law_X195_99 n xs sL v1 v24) n (0 : Int32) m21)
else
(some 0))
else
(some 0))
else
(some 0))
else
(some 0))
else
(some 0))
else
(some 0))
else
(some 0)
set_option maxHeartbeats 8000000 in
set_option maxRecDepth 100000 in
theorem k_L_law {p : Program} {e : Env} {s : State} {m : MethodId} {below : List Frame} {meth : Method} {c0 : Code} (l : Launch) {b sL cells slots : Nat} {xs : Nat → Int32} {G : iw_G} (hJ : iw_JX G) (C : iw_C p room_1 s m #[Value.ref b] c0 cL_law 18 wsL_law RL G (il_A s) cells slots) (hX : va_X b sL xs s s.heap ∧ b < s.heap.size ∧ sL ≤ 260) (hc : cells ≤ 600000 ∧ slots ≤ 7302250) (hr : meth.sig.returnType = ret) (hlk : meth.locks = false) (n : Nat) (σ : iw_M) (h : f_L_law n xs sL σ = some 1) : iw_V p l e room_1 s m #[Value.ref b] below meth c0 cells slots (lw_Z below #[Value.ref b] s) 18 G (il_A s) σ 12 [(0, .ref b), (1, .ref (G.2.1 0)), (2, .ref (G.2.1 84))] [] := by
  unfold f_L_law at h
  refine iv_aload_n (pc := 12) C 0 dL_law_12 rfl rfl ?_
  refine iv_iconst (pc := 13) C (0 : Int32) dL_law_13 (by decide) ?_
  obtain ⟨v1, ev1, h⟩ := iw_be h
  refine iv_cell (pc := 14) C hX ev1 gL_law_L_cell (Nat.le_of_ble_eq_true rfl) dL_law_14 ?_
  refine iv_istore_n (pc := 17) C [(3, .int v1), (0, .ref b), (1, .ref (G.2.1 0)), (2, .ref (G.2.1 84))] dL_law_17 rfl (by decide) rfl ?_
  refine iv_aload_n (pc := 18) C 2 dL_law_18 rfl rfl ?_
  obtain ⟨v2, m3, ev2, h⟩ := iw_let2e h
  refine iv_callV (pc := 19) (b := 0) (ci := 5) C [] (k_X5_undo l G hJ σ ev2) gL_law_X5_undo rfl qd_X5_undo ⟨rfl, rfl, Nat.le_of_ble_eq_true rfl, Nat.le_of_ble_eq_true rfl⟩ (iw_ix hJ (by decide)) iw_Eo0 rfl rfl rfl (Nat.le_of_ble_eq_true rfl) dL_law_19 ?_
  refine iv_sipush (pc := 22) C (-1003 : Int32) dL_law_22 (by decide) ?_
  refine iv_icmp_ne (pc := 25) C 85 dL_law_25 (by decide) (fun h4 => ?_) (fun h4 => ?_)
  · replace h := iw_iff h4 h
    refine iv_iconst (pc := 85) C (0 : Int32) dL_law_85 (by decide) ?_
    exact absurd (Option.some.inj h) (by decide)
  · replace h := iw_ift h4 h
    refine iv_aload_n (pc := 28) C 2 dL_law_28 rfl rfl ?_
    obtain ⟨v5, m6, ev5, h⟩ := iw_b2e h
    refine iv_callV (pc := 29) (b := 0) (ci := 5) C [] (k_X5_build l G hJ n m3 ev5) gL_law_X5_build rfl qd_X5_build ⟨rfl, rfl, Nat.le_of_ble_eq_true rfl, Nat.le_of_ble_eq_true rfl⟩ (iw_ix hJ (by decide)) iw_Eo0 rfl rfl rfl (Nat.le_of_ble_eq_true rfl) dL_law_29 ?_
    refine iv_sipush (pc := 32) C (-1003 : Int32) dL_law_32 (by decide) ?_
    refine iv_icmp_ne (pc := 35) C 85 dL_law_35 (by decide) (fun h7 => ?_) (fun h7 => ?_)
    · replace h := iw_iff h7 h
      refine iv_iconst (pc := 85) C (0 : Int32) dL_law_85 (by decide) ?_
      exact absurd (Option.some.inj h) (by decide)
    · replace h := iw_ift h7 h
      refine iv_aload_n (pc := 38) C 2 dL_law_38 rfl rfl ?_
      refine iv_iconst (pc := 39) C (1 : Int32) dL_law_39 (by decide) ?_
      obtain ⟨v8, m9, ev8, h⟩ := iw_b2e h
      refine iv_callV (pc := 40) (b := 0) (ci := 5) C [.int (1 : Int32)] (k_X5_rounds l G hJ n (1 : Int32) m6 ev8) gL_law_X5_rounds rfl qd_X5_rounds ⟨rfl, rfl, Nat.le_of_ble_eq_true rfl, Nat.le_of_ble_eq_true rfl⟩ (iw_ix hJ (by decide)) iw_Eo0 rfl rfl rfl (Nat.le_of_ble_eq_true rfl) dL_law_40 ?_
      refine iv_if_ne (pc := 43) C 85 dL_law_43 (by decide) (fun h10 => ?_) (fun h10 => ?_)
      · replace h := iw_iff h10 h
        refine iv_iconst (pc := 85) C (0 : Int32) dL_law_85 (by decide) ?_
        exact absurd (Option.some.inj h) (by decide)
      · replace h := iw_ift h10 h
        refine iv_aload_n (pc := 46) C 2 dL_law_46 rfl rfl ?_
        obtain ⟨v11, m12, ev11, h⟩ := iw_b2e h
        refine iv_callV (pc := 47) (b := 0) (ci := 5) C [] (k_X5_firstDeath l G hJ n m9 ev11) gL_law_X5_firstDeath rfl qd_X5_firstDeath ⟨rfl, rfl, Nat.le_of_ble_eq_true rfl, Nat.le_of_ble_eq_true rfl⟩ (iw_ix hJ (by decide)) iw_Eo0 rfl rfl rfl (Nat.le_of_ble_eq_true rfl) dL_law_47 ?_
        refine iv_sipush (pc := 50) C (-1000 : Int32) dL_law_50 (by decide) ?_
        refine iv_icmp_ne (pc := 53) C 85 dL_law_53 (by decide) (fun h13 => ?_) (fun h13 => ?_)
        · replace h := iw_iff h13 h
          refine iv_iconst (pc := 85) C (0 : Int32) dL_law_85 (by decide) ?_
          exact absurd (Option.some.inj h) (by decide)
        · replace h := iw_ift h13 h
          refine iv_aload_n (pc := 56) C 2 dL_law_56 rfl rfl ?_
          refine iv_iconst (pc := 57) C (3 : Int32) dL_law_57 (by decide) ?_
          obtain ⟨v14, m15, ev14, h⟩ := iw_b2e h
          refine iv_callV (pc := 58) (b := 0) (ci := 5) C [.int (3 : Int32)] (k_X5_willDeliver l G hJ n (3 : Int32) m12 ev14) gL_law_X5_willDeliver rfl qd_X5_willDeliver ⟨rfl, rfl, Nat.le_of_ble_eq_true rfl, Nat.le_of_ble_eq_true rfl⟩ (iw_ix hJ (by decide)) iw_Eo0 rfl rfl rfl (Nat.le_of_ble_eq_true rfl) dL_law_58 ?_
          refine iv_if_ne (pc := 61) C 85 dL_law_61 (by decide) (fun h16 => ?_) (fun h16 => ?_)
          · replace h := iw_iff h16 h
            refine iv_iconst (pc := 85) C (0 : Int32) dL_law_85 (by decide) ?_
            exact absurd (Option.some.inj h) (by decide)
          · replace h := iw_ift h16 h
            refine iv_aload_n (pc := 64) C 2 dL_law_64 rfl rfl ?_
            refine iv_iconst (pc := 65) C (2 : Int32) dL_law_65 (by decide) ?_
            obtain ⟨v17, m18, ev17, h⟩ := iw_b2e h
            refine iv_callV (pc := 66) (b := 0) (ci := 5) C [.int (2 : Int32)] (k_X5_bestPeriod l G hJ n (2 : Int32) m15 ev17) gL_law_X5_bestPeriod rfl qd_X5_bestPeriod ⟨rfl, rfl, Nat.le_of_ble_eq_true rfl, Nat.le_of_ble_eq_true rfl⟩ (iw_ix hJ (by decide)) iw_Eo0 rfl rfl rfl (Nat.le_of_ble_eq_true rfl) dL_law_66 ?_
            refine iv_iconst (pc := 69) C (1 : Int32) dL_law_69 (by decide) ?_
            refine iv_icmp_ne (pc := 70) C 85 dL_law_70 (by decide) (fun h19 => ?_) (fun h19 => ?_)
            · replace h := iw_iff h19 h
              refine iv_iconst (pc := 85) C (0 : Int32) dL_law_85 (by decide) ?_
              exact absurd (Option.some.inj h) (by decide)
            · replace h := iw_ift h19 h
              refine iv_aload_n (pc := 73) C 2 dL_law_73 rfl rfl ?_
              refine iv_iconst (pc := 74) C (0 : Int32) dL_law_74 (by decide) ?_
              refine iv_iconst (pc := 75) C (0 : Int32) dL_law_75 (by decide) ?_
              obtain ⟨v20, m21, ev20, h⟩ := iw_b2e h
              refine iv_callV (pc := 76) (b := 0) (ci := 5) C [.int (0 : Int32), .int (0 : Int32)] (k_X5_quickest l G hJ n (0 : Int32) (0 : Int32) m18 ev20) gL_law_X5_quickest rfl qd_X5_quickest ⟨rfl, rfl, Nat.le_of_ble_eq_true rfl, Nat.le_of_ble_eq_true rfl⟩ (iw_ix hJ (by decide)) iw_Eo0 rfl rfl rfl (Nat.le_of_ble_eq_true rfl) dL_law_76 ?_
              refine iv_sipush (pc := 79) C (-1001 : Int32) dL_law_79 (by decide) ?_
              refine iv_icmp_eq (pc := 82) C 87 dL_law_82 (by decide) (fun h22 => ?_) (fun h22 => ?_)
              · replace h := iw_ift h22 h
                refine iv_iconst (pc := 87) C (3 : Int32) dL_law_87 (by decide) ?_
                refine iv_iload_n (pc := 88) C 0 dL_law_88 rfl rfl ?_
                refine iv_iconst (pc := 89) C (5 : Int32) dL_law_89 (by decide) ?_
                obtain ⟨v23, ev23, h⟩ := iw_be h
                refine iv_callS (pc := 90) C [.int v1, .int (5 : Int32)] (k_L_low l G hJ v1 (5 : Int32) m21 ev23) gL_law_L_low rfl qd_L_low ⟨rfl, rfl, Nat.le_of_ble_eq_true rfl, Nat.le_of_ble_eq_true rfl⟩ rfl rfl (Nat.le_of_ble_eq_true rfl) dL_law_90 ?_
                refine iv_iadd (pc := 93) C dL_law_93 ?_
                refine iv_topi (fun v24 ev24 => ?_)
                replace h := iw_lete ev24 h
                refine iv_istore (pc := 94) C [(4, .int v24), (3, .int v1), (0, .ref b), (1, .ref (G.2.1 0)), (2, .ref (G.2.1 84))] dL_law_94 (by decide) rfl ?_
                refine iv_iconst (pc := 96) C (0 : Int32) dL_law_96 (by decide) ?_
                refine iv_istore (pc := 97) C [(5, .int (0 : Int32)), (4, .int v24), (3, .int v1), (0, .ref b), (1, .ref (G.2.1 0)), (2, .ref (G.2.1 84))] dL_law_97 (by decide) rfl ?_
                have vX99 : ∀ (m25 : iw_M), f_L_law_X195_99 n xs sL v1 v24 m25 = some 1 → iw_V p l e room_1 s m #[Value.ref b] below meth c0 cells slots (lw_Z below #[Value.ref b] s) 18 G (il_A s) m25 195 [(0, .ref b), (1, .ref (G.2.1 0)), (2, .ref (G.2.1 84)), (3, .int v1), (4, .int v24)] [] := by
                  intro m25 h
                  unfold f_L_law_X195_99 at h
                  refine iv_aload_n (pc := 195) C 1 dL_law_195 rfl rfl ?_
                  refine iv_iload_n (pc := 196) C 3 dL_law_196 rfl rfl ?_
                  refine iv_iconst (pc := 197) C (4 : Int32) dL_law_197 (by decide) ?_
                  refine iv_ishr (pc := 198) C dL_law_198 ?_
                  refine iv_iload (pc := 199) C 4 dL_law_199 rfl ?_
                  obtain ⟨v26, ev26, h⟩ := iw_be h
                  refine iv_callS (pc := 201) C [.int (v1 >>> ((4 : Int32) &&& 31)), .int v24] (k_L_low l G hJ (v1 >>> ((4 : Int32) &&& 31)) v24 m25 ev26) gL_law_L_low rfl qd_L_low ⟨rfl, rfl, Nat.le_of_ble_eq_true rfl, Nat.le_of_ble_eq_true rfl⟩ rfl rfl (Nat.le_of_ble_eq_true rfl) dL_law_201 ?_
                  refine iv_iconst (pc := 204) C (0 : Int32) dL_law_204 (by decide) ?_
                  refine iv_bipush (pc := 205) C (7 : Int32) dL_law_205 (by decide) ?_
                  obtain ⟨v27, m28, ev27, h⟩ := iw_b2e h
                  refine iv_callV (pc := 207) (b := 0) (ci := 5) C [.int v26, .int (0 : Int32), .int (7 : Int32)] (k_X5_addSensor l G hJ n v26 (0 : Int32) (7 : Int32) m25 ev27) gL_law_X5_addSensor rfl qd_X5_addSensor ⟨rfl, rfl, Nat.le_of_ble_eq_true rfl, Nat.le_of_ble_eq_true rfl⟩ (iw_ix hJ (by decide)) iw_Eo0 rfl rfl rfl (Nat.le_of_ble_eq_true rfl) dL_law_207 ?_
                  refine iv_pop (pc := 210) C rfl dL_law_210 ?_
                  refine iv_aload_n (pc := 211) C 1 dL_law_211 rfl rfl ?_
                  refine iv_iload_n (pc := 212) C 3 dL_law_212 rfl rfl ?_
                  refine iv_bipush (pc := 213) C (8 : Int32) dL_law_213 (by decide) ?_
                  refine iv_ishr (pc := 215) C dL_law_215 ?_
                  refine iv_iload (pc := 216) C 4 dL_law_216 rfl ?_
                  obtain ⟨v29, ev29, h⟩ := iw_be h
                  refine iv_callS (pc := 218) C [.int (v1 >>> ((8 : Int32) &&& 31)), .int v24] (k_L_low l G hJ (v1 >>> ((8 : Int32) &&& 31)) v24 m28 ev29) gL_law_L_low rfl qd_L_low ⟨rfl, rfl, Nat.le_of_ble_eq_true rfl, Nat.le_of_ble_eq_true rfl⟩ rfl rfl (Nat.le_of_ble_eq_true rfl) dL_law_218 ?_
                  refine iv_iconst (pc := 221) C (0 : Int32) dL_law_221 (by decide) ?_
                  refine iv_bipush (pc := 222) C (-100 : Int32) dL_law_222 (by decide) ?_
                  refine iv_bipush (pc := 224) C (100 : Int32) dL_law_224 (by decide) ?_
                  refine iv_sipush (pc := 226) C (1000 : Int32) dL_law_226 (by decide) ?_
                  obtain ⟨v30, m31, ev30, h⟩ := iw_b2e h
                  refine iv_callV (pc := 229) (b := 0) (ci := 5) C [.int v29, .int (0 : Int32), .int (-100 : Int32), .int (100 : Int32), .int (1000 : Int32)] (k_X5_ask l G hJ n v29 (0 : Int32) (-100 : Int32) (100 : Int32) (1000 : Int32) m28 ev30) gL_law_X5_ask rfl qd_X5_ask ⟨rfl, rfl, Nat.le_of_ble_eq_true rfl, Nat.le_of_ble_eq_true rfl⟩ (iw_ix hJ (by decide)) iw_Eo0 rfl rfl rfl (Nat.le_of_ble_eq_true rfl) dL_law_229 ?_
                  refine iv_pop (pc := 232) C rfl dL_law_232 ?_
                  refine iv_aload_n (pc := 233) C 1 dL_law_233 rfl rfl ?_
                  refine iv_iconst (pc := 234) C (0 : Int32) dL_law_234 (by decide) ?_
                  refine iv_iconst (pc := 235) C (0 : Int32) dL_law_235 (by decide) ?_
                  refine iv_callV (pc := 236) (b := 0) (ci := 5) C [.int (0 : Int32), .int (0 : Int32)] (k_X5_sensor l G hJ (0 : Int32) (0 : Int32) m31 rfl) gL_law_X5_sensor rfl qd_X5_sensor ⟨rfl, rfl, Nat.le_of_ble_eq_true rfl, Nat.le_of_ble_eq_true rfl⟩ (iw_ix hJ (by decide)) iw_Eo0 rfl rfl rfl (Nat.le_of_ble_eq_true rfl) dL_law_236 ?_
                  refine iv_topi (fun v32 ev32 => ?_)
                  replace h := iw_lete ev32 h
                  refine iv_istore (pc := 239) C [(5, .int v32), (0, .ref b), (1, .ref (G.2.1 0)), (2, .ref (G.2.1 84)), (3, .int v1), (4, .int v24)] dL_law_239 (by decide) rfl ?_
                  refine iv_aload_n (pc := 241) C 2 dL_law_241 rfl rfl ?_
                  refine iv_iconst (pc := 242) C (0 : Int32) dL_law_242 (by decide) ?_
                  refine iv_iconst (pc := 243) C (0 : Int32) dL_law_243 (by decide) ?_
                  obtain ⟨v33, ev33, h⟩ := iw_be h
                  refine iv_callV (pc := 244) (b := 0) (ci := 5) C [.int (0 : Int32), .int (0 : Int32)] (k_X5_interest l G hJ n (0 : Int32) (0 : Int32) m31 ev33) gL_law_X5_interest rfl qd_X5_interest ⟨rfl, rfl, Nat.le_of_ble_eq_true rfl, Nat.le_of_ble_eq_true rfl⟩ (iw_ix hJ (by decide)) iw_Eo0 rfl rfl rfl (Nat.le_of_ble_eq_true rfl) dL_law_244 ?_
                  refine iv_istore (pc := 247) C [(6, .int v33), (5, .int v32), (0, .ref b), (1, .ref (G.2.1 0)), (2, .ref (G.2.1 84)), (3, .int v1), (4, .int v24)] dL_law_247 (by decide) rfl ?_
                  refine iv_aload_n (pc := 249) C 3 dL_law_249 rfl rfl ?_
                  refine iv_iload (pc := 250) C 1 dL_law_250 rfl ?_
                  refine iv_iload (pc := 252) C 0 dL_law_252 rfl ?_
                  obtain ⟨v34, m35, ev34, h⟩ := iw_b2e h
                  refine iv_callV (pc := 254) (b := 0) (ci := 5) C [.int v32, .int v33] (k_X5_quickest l G hJ n v32 v33 m31 ev34) gL_law_X5_quickest rfl qd_X5_quickest ⟨rfl, rfl, Nat.le_of_ble_eq_true rfl, Nat.le_of_ble_eq_true rfl⟩ (iw_ix hJ (by decide)) iw_Eo0 rfl rfl rfl (Nat.le_of_ble_eq_true rfl) dL_law_254 ?_
                  refine iv_istore (pc := 257) C [(7, .int v34), (6, .int v33), (5, .int v32), (0, .ref b), (1, .ref (G.2.1 0)), (2, .ref (G.2.1 84)), (3, .int v1), (4, .int v24)] dL_law_257 (by decide) rfl ?_
                  refine iv_aload_n (pc := 259) C 4 dL_law_259 rfl rfl ?_
                  refine iv_iconst (pc := 260) C (1 : Int32) dL_law_260 (by decide) ?_
                  obtain ⟨v36, m37, ev36, h⟩ := iw_b2e h
                  refine iv_callV (pc := 261) (b := 0) (ci := 5) C [.int (1 : Int32)] (k_X5_setPeriod l G hJ n (1 : Int32) m35 ev36) gL_law_X5_setPeriod rfl qd_X5_setPeriod ⟨rfl, rfl, Nat.le_of_ble_eq_true rfl, Nat.le_of_ble_eq_true rfl⟩ (iw_ix hJ (by decide)) iw_Eo0 rfl rfl rfl (Nat.le_of_ble_eq_true rfl) dL_law_261 ?_
                  refine iv_pop (pc := 264) C rfl dL_law_264 ?_
                  refine iv_aload_n (pc := 265) C 4 dL_law_265 rfl rfl ?_
                  refine iv_iconst (pc := 266) C (1 : Int32) dL_law_266 (by decide) ?_
                  obtain ⟨v38, m39, ev38, h⟩ := iw_b2e h
                  refine iv_callV (pc := 267) (b := 0) (ci := 5) C [.int (1 : Int32)] (k_X5_rounds l G hJ n (1 : Int32) m37 ev38) gL_law_X5_rounds rfl qd_X5_rounds ⟨rfl, rfl, Nat.le_of_ble_eq_true rfl, Nat.le_of_ble_eq_true rfl⟩ (iw_ix hJ (by decide)) iw_Eo0 rfl rfl rfl (Nat.le_of_ble_eq_true rfl) dL_law_267 ?_
                  refine iv_istore (pc := 270) C [(8, .int v38), (7, .int v34), (6, .int v33), (5, .int v32), (0, .ref b), (1, .ref (G.2.1 0)), (2, .ref (G.2.1 84)), (3, .int v1), (4, .int v24)] dL_law_270 (by decide) rfl ?_
                  refine iv_aload_n (pc := 272) C 5 dL_law_272 rfl rfl ?_
                  refine iv_iconst (pc := 273) C (0 : Int32) dL_law_273 (by decide) ?_
                  refine iv_iconst (pc := 274) C (0 : Int32) dL_law_274 (by decide) ?_
                  refine iv_callV (pc := 275) (b := 0) (ci := 5) C [.int (0 : Int32), .int (0 : Int32)] (k_X5_wayLength l G hJ (0 : Int32) (0 : Int32) m39 rfl) gL_law_X5_wayLength rfl qd_X5_wayLength ⟨rfl, rfl, Nat.le_of_ble_eq_true rfl, Nat.le_of_ble_eq_true rfl⟩ (iw_ix hJ (by decide)) iw_Eo0 rfl rfl rfl (Nat.le_of_ble_eq_true rfl) dL_law_275 ?_
                  refine iv_topi (fun v40 ev40 => ?_)
                  replace h := iw_lete ev40 h
                  refine iv_istore (pc := 278) C [(9, .int v40), (8, .int v38), (7, .int v34), (6, .int v33), (5, .int v32), (0, .ref b), (1, .ref (G.2.1 0)), (2, .ref (G.2.1 84)), (3, .int v1), (4, .int v24)] dL_law_278 (by decide) rfl ?_
                  refine iv_iload (pc := 280) C 1 dL_law_280 rfl ?_
                  refine iv_iload (pc := 282) C 2 dL_law_282 rfl ?_
                  refine iv_sipush (pc := 284) C (-1000 : Int32) dL_law_284 (by decide) ?_
                  have vJ295 : ∀ (v41 : Int32), f_L_law_J295 n xs sL v1 v32 v33 v34 v38 m39 v40 v41 = some 1 → iw_V p l e room_1 s m #[Value.ref b] below meth c0 cells slots (lw_Z below #[Value.ref b] s) 18 G (il_A s) m39 295 [(0, .ref b), (1, .ref (G.2.1 0)), (2, .ref (G.2.1 84)), (3, .int v1), (5, .int v32), (6, .int v33), (7, .int v34), (9, .int v40)] [.int v41, .int v38] := by
                    intro v41 h
                    unfold f_L_law_J295 at h
                    refine iv_icmp_ne (pc := 295) C 401 dL_law_295 (by decide) (fun h42 => ?_) (fun h42 => ?_)
                    · replace h := iw_iff h42 h
                      refine iv_iconst (pc := 401) C (0 : Int32) dL_law_401 (by decide) ?_
                      exact absurd (Option.some.inj h) (by decide)
                    · replace h := iw_ift h42 h
                      refine iv_aload_n (pc := 298) C 1 dL_law_298 rfl rfl ?_
                      refine iv_iconst (pc := 299) C (0 : Int32) dL_law_299 (by decide) ?_
                      refine iv_bipush (pc := 300) C (6 : Int32) dL_law_300 (by decide) ?_
                      obtain ⟨v43, ev43, h⟩ := iw_be h
                      refine iv_callV (pc := 302) (b := 0) (ci := 5) C [.int (0 : Int32), .int (6 : Int32)] (k_X5_interest l G hJ n (0 : Int32) (6 : Int32) m39 ev43) gL_law_X5_interest rfl qd_X5_interest ⟨rfl, rfl, Nat.le_of_ble_eq_true rfl, Nat.le_of_ble_eq_true rfl⟩ (iw_ix hJ (by decide)) iw_Eo0 rfl rfl rfl (Nat.le_of_ble_eq_true rfl) dL_law_302 ?_
                      refine iv_iload (pc := 305) C 6 dL_law_305 rfl ?_
                      refine iv_sipush (pc := 307) C (-1000 : Int32) dL_law_307 (by decide) ?_
                      have vJ319 : ∀ (v44 : Int32), f_L_law_J319 n xs sL v1 v32 v33 v34 m39 v40 v43 v44 = some 1 → iw_V p l e room_1 s m #[Value.ref b] below meth c0 cells slots (lw_Z below #[Value.ref b] s) 18 G (il_A s) m39 319 [(0, .ref b), (1, .ref (G.2.1 0)), (2, .ref (G.2.1 84)), (3, .int v1), (5, .int v32), (6, .int v33), (7, .int v34), (9, .int v40)] [.int v44, .int v43] := by
                        intro v44 h
                        unfold f_L_law_J319 at h
                        refine iv_icmp_ne (pc := 319) C 401 dL_law_319 (by decide) (fun h45 => ?_) (fun h45 => ?_)
                        · replace h := iw_iff h45 h
                          refine iv_iconst (pc := 401) C (0 : Int32) dL_law_401 (by decide) ?_
                          exact absurd (Option.some.inj h) (by decide)
                        · replace h := iw_ift h45 h
                          refine iv_iload (pc := 322) C 6 dL_law_322 rfl ?_
                          refine iv_sipush (pc := 324) C (-1000 : Int32) dL_law_324 (by decide) ?_
                          have vJ335 : f_L_law_J335 n xs sL v1 v32 v33 v34 m39 v40  = some 1 → iw_V p l e room_1 s m #[Value.ref b] below meth c0 cells slots (lw_Z below #[Value.ref b] s) 18 G (il_A s) m39 335 [(0, .ref b), (1, .ref (G.2.1 0)), (2, .ref (G.2.1 84)), (3, .int v1), (5, .int v32), (6, .int v33), (7, .int v34), (9, .int v40)] [] := by
                            intro h
                            unfold f_L_law_J335 at h
                            refine iv_iload (pc := 335) C 6 dL_law_335 rfl ?_
                            have vJ345 : ∀ (v46 : Int32), f_L_law_J345 n xs sL v1 v32 v33 m39 v40 v46 = some 1 → iw_V p l e room_1 s m #[Value.ref b] below meth c0 cells slots (lw_Z below #[Value.ref b] s) 18 G (il_A s) m39 345 [(0, .ref b), (1, .ref (G.2.1 0)), (2, .ref (G.2.1 84)), (3, .int v1), (5, .int v32), (6, .int v33), (9, .int v40)] [.int v46] := by
                              intro v46 h
                              unfold f_L_law_J345 at h
                              refine iv_iload (pc := 345) C 4 dL_law_345 rfl ?_
                              refine iv_iload (pc := 347) C 5 dL_law_347 rfl ?_
                              have vJ357 : ∀ (v47 : Int32), f_L_law_J357 n xs sL v1 m39 v40 v46 v47 = some 1 → iw_V p l e room_1 s m #[Value.ref b] below meth c0 cells slots (lw_Z below #[Value.ref b] s) 18 G (il_A s) m39 357 [(0, .ref b), (1, .ref (G.2.1 0)), (2, .ref (G.2.1 84)), (3, .int v1), (9, .int v40)] [.int v47, .int v46] := by
                                intro v47 h
                                unfold f_L_law_J357 at h
                                refine iv_icmp_ne (pc := 357) C 401 dL_law_357 (by decide) (fun h48 => ?_) (fun h48 => ?_)
                                · replace h := iw_iff h48 h
                                  refine iv_iconst (pc := 401) C (0 : Int32) dL_law_401 (by decide) ?_
                                  exact absurd (Option.some.inj h) (by decide)
                                · replace h := iw_ift h48 h
                                  refine iv_aload_n (pc := 360) C 1 dL_law_360 rfl rfl ?_
                                  refine iv_bipush (pc := 361) C (7 : Int32) dL_law_361 (by decide) ?_
                                  obtain ⟨v49, ev49, h⟩ := iw_be h
                                  refine iv_callV (pc := 363) (b := 0) (ci := 5) C [.int (7 : Int32)] (k_X5_count l G hJ n (7 : Int32) m39 ev49) gL_law_X5_count rfl qd_X5_count ⟨rfl, rfl, Nat.le_of_ble_eq_true rfl, Nat.le_of_ble_eq_true rfl⟩ (iw_ix hJ (by decide)) iw_Eo0 rfl rfl rfl (Nat.le_of_ble_eq_true rfl) dL_law_363 ?_
                                  refine iv_iconst (pc := 366) C (1 : Int32) dL_law_366 (by decide) ?_
                                  refine iv_icmp_ne (pc := 367) C 401 dL_law_367 (by decide) (fun h50 => ?_) (fun h50 => ?_)
                                  · replace h := iw_iff h50 h
                                    refine iv_iconst (pc := 401) C (0 : Int32) dL_law_401 (by decide) ?_
                                    exact absurd (Option.some.inj h) (by decide)
                                  · replace h := iw_ift h50 h
                                    refine iv_aload_n (pc := 370) C 1 dL_law_370 rfl rfl ?_
                                    refine iv_bipush (pc := 371) C (8 : Int32) dL_law_371 (by decide) ?_
                                    obtain ⟨v51, ev51, h⟩ := iw_be h
                                    refine iv_callV (pc := 373) (b := 0) (ci := 5) C [.int (8 : Int32)] (k_X5_count l G hJ n (8 : Int32) m39 ev51) gL_law_X5_count rfl qd_X5_count ⟨rfl, rfl, Nat.le_of_ble_eq_true rfl, Nat.le_of_ble_eq_true rfl⟩ (iw_ix hJ (by decide)) iw_Eo0 rfl rfl rfl (Nat.le_of_ble_eq_true rfl) dL_law_373 ?_
                                    refine iv_iload (pc := 376) C 4 dL_law_376 rfl ?_
                                    have vJ389 : ∀ (v52 : Int32), f_L_law_J389 n xs sL v1 m39 v51 v52 = some 1 → iw_V p l e room_1 s m #[Value.ref b] below meth c0 cells slots (lw_Z below #[Value.ref b] s) 18 G (il_A s) m39 389 [(0, .ref b), (1, .ref (G.2.1 0)), (2, .ref (G.2.1 84)), (3, .int v1)] [.int v52, .int v51] := by
                                      intro v52 h
                                      unfold f_L_law_J389 at h
                                      refine iv_icmp_ne (pc := 389) C 401 dL_law_389 (by decide) (fun h53 => ?_) (fun h53 => ?_)
                                      · replace h := iw_iff h53 h
                                        refine iv_iconst (pc := 401) C (0 : Int32) dL_law_401 (by decide) ?_
                                        exact absurd (Option.some.inj h) (by decide)
                                      · replace h := iw_ift h53 h
                                        refine iv_aload_n (pc := 392) C 1 dL_law_392 rfl rfl ?_
                                        refine iv_bipush (pc := 393) C (9 : Int32) dL_law_393 (by decide) ?_
                                        obtain ⟨v54, ev54, h⟩ := iw_be h
                                        refine iv_callV (pc := 395) (b := 0) (ci := 5) C [.int (9 : Int32)] (k_X5_count l G hJ n (9 : Int32) m39 ev54) gL_law_X5_count rfl qd_X5_count ⟨rfl, rfl, Nat.le_of_ble_eq_true rfl, Nat.le_of_ble_eq_true rfl⟩ (iw_ix hJ (by decide)) iw_Eo0 rfl rfl rfl (Nat.le_of_ble_eq_true rfl) dL_law_395 ?_
                                        refine iv_if_eq (pc := 398) C 403 dL_law_398 (by decide) (fun h55 => ?_) (fun h55 => ?_)
                                        · replace h := iw_ift h55 h
                                          refine iv_iconst (pc := 403) C (0 : Int32) dL_law_403 (by decide) ?_
                                          refine iv_istore (pc := 404) C [(10, .int (0 : Int32)), (0, .ref b), (1, .ref (G.2.1 0)), (2, .ref (G.2.1 84)), (3, .int v1)] dL_law_404 (by decide) rfl ?_
                                          have vX406 : ∀ (m56 : iw_M), f_L_law_X568_406 n v1 m56 = some 1 → iw_V p l e room_1 s m #[Value.ref b] below meth c0 cells slots (lw_Z below #[Value.ref b] s) 18 G (il_A s) m56 568 [(1, .ref (G.2.1 0)), (3, .int v1)] [] := by
                                            intro m56 h
                                            unfold f_L_law_X568_406 at h
                                            refine iv_aload_n (pc := 568) C 0 dL_law_568 rfl rfl ?_
                                            refine iv_iconst (pc := 569) C (5 : Int32) dL_law_569 (by decide) ?_
                                            obtain ⟨v57, ev57, h⟩ := iw_be h
                                            refine iv_callV (pc := 570) (b := 0) (ci := 5) C [.int (5 : Int32)] (k_X5_count l G hJ n (5 : Int32) m56 ev57) gL_law_X5_count rfl qd_X5_count ⟨rfl, rfl, Nat.le_of_ble_eq_true rfl, Nat.le_of_ble_eq_true rfl⟩ (iw_ix hJ (by decide)) iw_Eo0 rfl rfl rfl (Nat.le_of_ble_eq_true rfl) dL_law_570 ?_
                                            refine iv_istore (pc := 573) C [(10, .int v57), (1, .ref (G.2.1 0)), (3, .int v1)] dL_law_573 (by decide) rfl ?_
                                            refine iv_aload_n (pc := 575) C 1 dL_law_575 rfl rfl ?_
                                            refine iv_bipush (pc := 576) C (11 : Int32) dL_law_576 (by decide) ?_
                                            obtain ⟨v58, ev58, h⟩ := iw_be h
                                            refine iv_callV (pc := 578) (b := 0) (ci := 5) C [.int (11 : Int32)] (k_X5_count l G hJ n (11 : Int32) m56 ev58) gL_law_X5_count rfl qd_X5_count ⟨rfl, rfl, Nat.le_of_ble_eq_true rfl, Nat.le_of_ble_eq_true rfl⟩ (iw_ix hJ (by decide)) iw_Eo0 rfl rfl rfl (Nat.le_of_ble_eq_true rfl) dL_law_578 ?_
                                            refine iv_istore (pc := 581) C [(11, .int v58), (10, .int v57), (1, .ref (G.2.1 0)), (3, .int v1)] dL_law_581 (by decide) rfl ?_
                                            refine iv_iconst (pc := 583) C (0 : Int32) dL_law_583 (by decide) ?_
                                            refine iv_istore (pc := 584) C [(12, .int (0 : Int32)), (11, .int v58), (10, .int v57), (1, .ref (G.2.1 0)), (3, .int v1)] dL_law_584 (by decide) rfl ?_
                                            refine iv_iconst (pc := 586) C (0 : Int32) dL_law_586 (by decide) ?_
                                            refine iv_istore (pc := 587) C [(13, .int (0 : Int32)), (12, .int (0 : Int32)), (11, .int v58), (10, .int v57), (1, .ref (G.2.1 0)), (3, .int v1)] dL_law_587 (by decide) rfl ?_
                                            have vX589 : ∀ (v59 : Int32), f_L_law_X627_589 n v1 m56 v57 v58 v59 = some 1 → iw_V p l e room_1 s m #[Value.ref b] below meth c0 cells slots (lw_Z below #[Value.ref b] s) 18 G (il_A s) m56 627 [(1, .ref (G.2.1 0)), (3, .int v1), (10, .int v57), (11, .int v58), (12, .int v59)] [] := by
                                              intro v59 h
                                              unfold f_L_law_X627_589 at h
                                              refine iv_aload_n (pc := 627) C 0 dL_law_627 rfl rfl ?_
                                              refine iv_iconst (pc := 628) C (1 : Int32) dL_law_628 (by decide) ?_
                                              obtain ⟨v60, m61, ev60, h⟩ := iw_b2e h
                                              refine iv_callV (pc := 629) (b := 0) (ci := 5) C [.int (1 : Int32)] (k_X5_rounds l G hJ n (1 : Int32) m56 ev60) gL_law_X5_rounds rfl qd_X5_rounds ⟨rfl, rfl, Nat.le_of_ble_eq_true rfl, Nat.le_of_ble_eq_true rfl⟩ (iw_ix hJ (by decide)) iw_Eo0 rfl rfl rfl (Nat.le_of_ble_eq_true rfl) dL_law_629 ?_
                                              refine iv_pop (pc := 632) C rfl dL_law_632 ?_
                                              refine iv_aload_n (pc := 633) C 0 dL_law_633 rfl rfl ?_
                                              refine iv_bipush (pc := 634) C (11 : Int32) dL_law_634 (by decide) ?_
                                              obtain ⟨v62, ev62, h⟩ := iw_be h
                                              refine iv_callV (pc := 636) (b := 0) (ci := 5) C [.int (11 : Int32)] (k_X5_count l G hJ n (11 : Int32) m61 ev62) gL_law_X5_count rfl qd_X5_count ⟨rfl, rfl, Nat.le_of_ble_eq_true rfl, Nat.le_of_ble_eq_true rfl⟩ (iw_ix hJ (by decide)) iw_Eo0 rfl rfl rfl (Nat.le_of_ble_eq_true rfl) dL_law_636 ?_
                                              refine iv_iload (pc := 639) C 3 dL_law_639 rfl ?_
                                              refine iv_iload (pc := 641) C 4 dL_law_641 rfl ?_
                                              refine iv_iadd (pc := 643) C dL_law_643 ?_
                                              refine iv_icmp_ne (pc := 644) C 659 dL_law_644 (by decide) (fun h63 => ?_) (fun h63 => ?_)
                                              · replace h := iw_iff h63 h
                                                refine iv_iconst (pc := 659) C (0 : Int32) dL_law_659 (by decide) ?_
                                                exact absurd (Option.some.inj h) (by decide)
                                              · replace h := iw_ift h63 h
                                                refine iv_aload_n (pc := 647) C 0 dL_law_647 rfl rfl ?_
                                                refine iv_iconst (pc := 648) C (5 : Int32) dL_law_648 (by decide) ?_
                                                obtain ⟨v64, ev64, h⟩ := iw_be h
                                                refine iv_callV (pc := 649) (b := 0) (ci := 5) C [.int (5 : Int32)] (k_X5_count l G hJ n (5 : Int32) m61 ev64) gL_law_X5_count rfl qd_X5_count ⟨rfl, rfl, Nat.le_of_ble_eq_true rfl, Nat.le_of_ble_eq_true rfl⟩ (iw_ix hJ (by decide)) iw_Eo0 rfl rfl rfl (Nat.le_of_ble_eq_true rfl) dL_law_649 ?_
                                                refine iv_iload (pc := 652) C 2 dL_law_652 rfl ?_
                                                refine iv_iconst (pc := 654) C (1 : Int32) dL_law_654 (by decide) ?_
                                                refine iv_iadd (pc := 655) C dL_law_655 ?_
                                                refine iv_icmp_eq (pc := 656) C 661 dL_law_656 (by decide) (fun h65 => ?_) (fun h65 => ?_)
                                                · replace h := iw_ift h65 h
                                                  refine iv_aload_n (pc := 661) C 0 dL_law_661 rfl rfl ?_
                                                  refine iv_bipush (pc := 662) C (6 : Int32) dL_law_662 (by decide) ?_
                                                  obtain ⟨v66, m67, ev66, h⟩ := iw_b2e h
                                                  refine iv_callV (pc := 664) (b := 0) (ci := 5) C [.int (6 : Int32)] (k_X5_bestPeriod l G hJ n (6 : Int32) m61 ev66) gL_law_X5_bestPeriod rfl qd_X5_bestPeriod ⟨rfl, rfl, Nat.le_of_ble_eq_true rfl, Nat.le_of_ble_eq_true rfl⟩ (iw_ix hJ (by decide)) iw_Eo0 rfl rfl rfl (Nat.le_of_ble_eq_true rfl) dL_law_664 ?_
                                                  refine iv_istore (pc := 667) C [(13, .int v66), (1, .ref (G.2.1 0)), (3, .int v1), (10, .int v57), (11, .int v58), (12, .int v59)] dL_law_667 (by decide) rfl ?_
                                                  refine iv_aload_n (pc := 669) C 1 dL_law_669 rfl rfl ?_
                                                  refine iv_iload (pc := 670) C 0 dL_law_670 rfl ?_
                                                  obtain ⟨v68, m69, ev68, h⟩ := iw_b2e h
                                                  refine iv_callV (pc := 672) (b := 0) (ci := 5) C [.int v66] (k_X5_setPeriod l G hJ n v66 m67 ev68) gL_law_X5_setPeriod rfl qd_X5_setPeriod ⟨rfl, rfl, Nat.le_of_ble_eq_true rfl, Nat.le_of_ble_eq_true rfl⟩ (iw_ix hJ (by decide)) iw_Eo0 rfl rfl rfl (Nat.le_of_ble_eq_true rfl) dL_law_672 ?_
                                                  refine iv_istore (pc := 675) C [(14, .int v68), (13, .int v66), (1, .ref (G.2.1 0)), (3, .int v1), (10, .int v57), (11, .int v58), (12, .int v59)] dL_law_675 (by decide) rfl ?_
                                                  refine iv_aload_n (pc := 677) C 2 dL_law_677 rfl rfl ?_
                                                  refine iv_bipush (pc := 678) C (6 : Int32) dL_law_678 (by decide) ?_
                                                  obtain ⟨v70, m71, ev70, h⟩ := iw_b2e h
                                                  refine iv_callV (pc := 680) (b := 0) (ci := 5) C [.int (6 : Int32)] (k_X5_willDeliver l G hJ n (6 : Int32) m69 ev70) gL_law_X5_willDeliver rfl qd_X5_willDeliver ⟨rfl, rfl, Nat.le_of_ble_eq_true rfl, Nat.le_of_ble_eq_true rfl⟩ (iw_ix hJ (by decide)) iw_Eo0 rfl rfl rfl (Nat.le_of_ble_eq_true rfl) dL_law_680 ?_
                                                  refine iv_istore (pc := 683) C [(15, .int v70), (14, .int v68), (13, .int v66), (1, .ref (G.2.1 0)), (3, .int v1), (10, .int v57), (11, .int v58), (12, .int v59)] dL_law_683 (by decide) rfl ?_
                                                  refine iv_aload_n (pc := 685) C 3 dL_law_685 rfl rfl ?_
                                                  refine iv_iconst (pc := 686) C (1 : Int32) dL_law_686 (by decide) ?_
                                                  refine iv_iload_n (pc := 687) C 4 dL_law_687 rfl rfl ?_
                                                  refine iv_bipush (pc := 688) C (12 : Int32) dL_law_688 (by decide) ?_
                                                  refine iv_ishr (pc := 690) C dL_law_690 ?_
                                                  refine iv_bipush (pc := 691) C (50 : Int32) dL_law_691 (by decide) ?_
                                                  obtain ⟨v72, ev72, h⟩ := iw_be h
                                                  refine iv_callS (pc := 693) C [.int (v1 >>> ((12 : Int32) &&& 31)), .int (50 : Int32)] (k_L_low l G hJ (v1 >>> ((12 : Int32) &&& 31)) (50 : Int32) m71 ev72) gL_law_L_low rfl qd_L_low ⟨rfl, rfl, Nat.le_of_ble_eq_true rfl, Nat.le_of_ble_eq_true rfl⟩ rfl rfl (Nat.le_of_ble_eq_true rfl) dL_law_693 ?_
                                                  refine iv_iadd (pc := 696) C dL_law_696 ?_
                                                  obtain ⟨v73, m74, ev73, h⟩ := iw_b2e h
                                                  refine iv_callV (pc := 697) (b := 0) (ci := 5) C [.int ((1 : Int32) + v72)] (k_X5_setPeriod l G hJ n ((1 : Int32) + v72) m71 ev73) gL_law_X5_setPeriod rfl qd_X5_setPeriod ⟨rfl, rfl, Nat.le_of_ble_eq_true rfl, Nat.le_of_ble_eq_true rfl⟩ (iw_ix hJ (by decide)) iw_Eo0 rfl rfl rfl (Nat.le_of_ble_eq_true rfl) dL_law_697 ?_
                                                  refine iv_pop (pc := 700) C rfl dL_law_700 ?_
                                                  refine iv_iload (pc := 701) C 2 dL_law_701 rfl ?_
                                                  refine iv_iconst (pc := 703) C (1 : Int32) dL_law_703 (by decide) ?_
                                                  refine iv_icmp_lt (pc := 704) C 756 dL_law_704 (by decide) (fun h75 => ?_) (fun h75 => ?_)
                                                  · replace h := iw_ift h75 h
                                                    refine iv_iconst (pc := 756) C (0 : Int32) dL_law_756 (by decide) ?_
                                                    exact absurd (Option.some.inj h) (by decide)
                                                  · replace h := iw_iff h75 h
                                                    refine iv_iload (pc := 707) C 2 dL_law_707 rfl ?_
                                                    refine iv_bipush (pc := 709) C (50 : Int32) dL_law_709 (by decide) ?_
                                                    refine iv_icmp_gt (pc := 711) C 756 dL_law_711 (by decide) (fun h76 => ?_) (fun h76 => ?_)
                                                    · replace h := iw_ift h76 h
                                                      refine iv_iconst (pc := 756) C (0 : Int32) dL_law_756 (by decide) ?_
                                                      exact absurd (Option.some.inj h) (by decide)
                                                    · replace h := iw_iff h76 h
                                                      refine iv_aload_n (pc := 714) C 3 dL_law_714 rfl rfl ?_
                                                      refine iv_bipush (pc := 715) C (6 : Int32) dL_law_715 (by decide) ?_
                                                      obtain ⟨v77, m78, ev77, h⟩ := iw_b2e h
                                                      refine iv_callV (pc := 717) (b := 0) (ci := 5) C [.int (6 : Int32)] (k_X5_willDeliver l G hJ n (6 : Int32) m74 ev77) gL_law_X5_willDeliver rfl qd_X5_willDeliver ⟨rfl, rfl, Nat.le_of_ble_eq_true rfl, Nat.le_of_ble_eq_true rfl⟩ (iw_ix hJ (by decide)) iw_Eo0 rfl rfl rfl (Nat.le_of_ble_eq_true rfl) dL_law_717 ?_
                                                      refine iv_iload (pc := 720) C 0 dL_law_720 rfl ?_
                                                      refine iv_icmp_gt (pc := 722) C 756 dL_law_722 (by decide) (fun h79 => ?_) (fun h79 => ?_)
                                                      · replace h := iw_ift h79 h
                                                        refine iv_iconst (pc := 756) C (0 : Int32) dL_law_756 (by decide) ?_
                                                        exact absurd (Option.some.inj h) (by decide)
                                                      · replace h := iw_iff h79 h
                                                        refine iv_aload_n (pc := 725) C 3 dL_law_725 rfl rfl ?_
                                                        refine iv_bipush (pc := 726) C (6 : Int32) dL_law_726 (by decide) ?_
                                                        obtain ⟨v80, m81, ev80, h⟩ := iw_b2e h
                                                        refine iv_callV (pc := 728) (b := 0) (ci := 5) C [.int (6 : Int32)] (k_X5_willDeliver l G hJ n (6 : Int32) m78 ev80) gL_law_X5_willDeliver rfl qd_X5_willDeliver ⟨rfl, rfl, Nat.le_of_ble_eq_true rfl, Nat.le_of_ble_eq_true rfl⟩ (iw_ix hJ (by decide)) iw_Eo0 rfl rfl rfl (Nat.le_of_ble_eq_true rfl) dL_law_728 ?_
                                                        refine iv_iload (pc := 731) C 0 dL_law_731 rfl ?_
                                                        have vJ746 : f_L_law_J746 n v68 m81  = some 1 → iw_V p l e room_1 s m #[Value.ref b] below meth c0 cells slots (lw_Z below #[Value.ref b] s) 18 G (il_A s) m81 746 [(1, .ref (G.2.1 0)), (14, .int v68)] [] := by
                                                          intro h
                                                          unfold f_L_law_J746 at h
                                                          refine iv_aload_n (pc := 746) C 0 dL_law_746 rfl rfl ?_
                                                          refine iv_iload (pc := 747) C 1 dL_law_747 rfl ?_
                                                          obtain ⟨v82, m83, ev82, h⟩ := iw_b2e h
                                                          refine iv_callV (pc := 749) (b := 0) (ci := 5) C [.int v68] (k_X5_setPeriod l G hJ n v68 m81 ev82) gL_law_X5_setPeriod rfl qd_X5_setPeriod ⟨rfl, rfl, Nat.le_of_ble_eq_true rfl, Nat.le_of_ble_eq_true rfl⟩ (iw_ix hJ (by decide)) iw_Eo0 rfl rfl rfl (Nat.le_of_ble_eq_true rfl) dL_law_749 ?_
                                                          refine iv_iconst (pc := 752) C (1 : Int32) dL_law_752 (by decide) ?_
                                                          refine iv_icmp_ge (pc := 753) C 758 dL_law_753 (by decide) (fun h84 => ?_) (fun h84 => ?_)
                                                          · replace h := iw_ift h84 h
                                                            refine iv_aload_n (pc := 758) C 0 dL_law_758 rfl rfl ?_
                                                            obtain ⟨v85, ev85, h⟩ := iw_be h
                                                            refine iv_callV (pc := 759) (b := 0) (ci := 5) C [] (k_X5_digest l G hJ n m83 ev85) gL_law_X5_digest rfl qd_X5_digest ⟨rfl, rfl, Nat.le_of_ble_eq_true rfl, Nat.le_of_ble_eq_true rfl⟩ (iw_ix hJ (by decide)) iw_Eo0 rfl rfl rfl (Nat.le_of_ble_eq_true rfl) dL_law_759 ?_
                                                            refine iv_lstore (pc := 762) C [(16, .long v85), (1, .ref (G.2.1 0)), (14, .int v68)] dL_law_762 (by decide) rfl ?_
                                                            refine iv_aload_n (pc := 764) C 1 dL_law_764 rfl rfl ?_
                                                            refine iv_iconst (pc := 765) C (0 : Int32) dL_law_765 (by decide) ?_
                                                            obtain ⟨v86, m87, ev86, h⟩ := iw_b2e h
                                                            refine iv_callV (pc := 766) (b := 0) (ci := 5) C [.int (0 : Int32)] (k_X5_addNode l G hJ n (0 : Int32) m83 ev86) gL_law_X5_addNode rfl qd_X5_addNode ⟨rfl, rfl, Nat.le_of_ble_eq_true rfl, Nat.le_of_ble_eq_true rfl⟩ (iw_ix hJ (by decide)) iw_Eo0 rfl rfl rfl (Nat.le_of_ble_eq_true rfl) dL_law_766 ?_
                                                            refine iv_sipush (pc := 769) C (-1002 : Int32) dL_law_769 (by decide) ?_
                                                            refine iv_icmp_ne (pc := 772) C 944 dL_law_772 (by decide) (fun h88 => ?_) (fun h88 => ?_)
                                                            · replace h := iw_iff h88 h
                                                              refine iv_iconst (pc := 944) C (0 : Int32) dL_law_944 (by decide) ?_
                                                              exact absurd (Option.some.inj h) (by decide)
                                                            · replace h := iw_ift h88 h
                                                              refine iv_aload_n (pc := 775) C 1 dL_law_775 rfl rfl ?_
                                                              refine iv_bipush (pc := 776) C (10 : Int32) dL_law_776 (by decide) ?_
                                                              refine iv_iconst (pc := 778) C (0 : Int32) dL_law_778 (by decide) ?_
                                                              obtain ⟨v89, m90, ev89, h⟩ := iw_let2e h
                                                              refine iv_callV (pc := 779) (b := 0) (ci := 5) C [.int (10 : Int32), .int (0 : Int32)] (k_X5_charge l G hJ (10 : Int32) (0 : Int32) m87 ev89) gL_law_X5_charge rfl qd_X5_charge ⟨rfl, rfl, Nat.le_of_ble_eq_true rfl, Nat.le_of_ble_eq_true rfl⟩ (iw_ix hJ (by decide)) iw_Eo0 rfl rfl rfl (Nat.le_of_ble_eq_true rfl) dL_law_779 ?_
                                                              refine iv_sipush (pc := 782) C (-1001 : Int32) dL_law_782 (by decide) ?_
                                                              refine iv_icmp_ne (pc := 785) C 944 dL_law_785 (by decide) (fun h91 => ?_) (fun h91 => ?_)
                                                              · replace h := iw_iff h91 h
                                                                refine iv_iconst (pc := 944) C (0 : Int32) dL_law_944 (by decide) ?_
                                                                exact absurd (Option.some.inj h) (by decide)
                                                              · replace h := iw_ift h91 h
                                                                refine iv_aload_n (pc := 788) C 1 dL_law_788 rfl rfl ?_
                                                                refine iv_iconst (pc := 789) C (0 : Int32) dL_law_789 (by decide) ?_
                                                                refine iv_iconst (pc := 790) C (0 : Int32) dL_law_790 (by decide) ?_
                                                                refine iv_iconst (pc := 791) C (1 : Int32) dL_law_791 (by decide) ?_
                                                                obtain ⟨v92, m93, ev92, h⟩ := iw_b2e h
                                                                refine iv_callV (pc := 792) (b := 0) (ci := 5) C [.int (0 : Int32), .int (0 : Int32), .int (1 : Int32)] (k_X5_link l G hJ n (0 : Int32) (0 : Int32) (1 : Int32) m90 ev92) gL_law_X5_link rfl qd_X5_link ⟨rfl, rfl, Nat.le_of_ble_eq_true rfl, Nat.le_of_ble_eq_true rfl⟩ (iw_ix hJ (by decide)) iw_Eo0 rfl rfl rfl (Nat.le_of_ble_eq_true rfl) dL_law_792 ?_
                                                                refine iv_sipush (pc := 795) C (-1003 : Int32) dL_law_795 (by decide) ?_
                                                                refine iv_icmp_ne (pc := 798) C 944 dL_law_798 (by decide) (fun h94 => ?_) (fun h94 => ?_)
                                                                · replace h := iw_iff h94 h
                                                                  refine iv_iconst (pc := 944) C (0 : Int32) dL_law_944 (by decide) ?_
                                                                  exact absurd (Option.some.inj h) (by decide)
                                                                · replace h := iw_ift h94 h
                                                                  refine iv_aload_n (pc := 801) C 1 dL_law_801 rfl rfl ?_
                                                                  refine iv_iconst (pc := 802) C (0 : Int32) dL_law_802 (by decide) ?_
                                                                  refine iv_iconst (pc := 803) C (1 : Int32) dL_law_803 (by decide) ?_
                                                                  refine iv_bipush (pc := 804) C (21 : Int32) dL_law_804 (by decide) ?_
                                                                  obtain ⟨v95, m96, ev95, h⟩ := iw_b2e h
                                                                  refine iv_callV (pc := 806) (b := 0) (ci := 5) C [.int (0 : Int32), .int (1 : Int32), .int (21 : Int32)] (k_X5_link l G hJ n (0 : Int32) (1 : Int32) (21 : Int32) m93 ev95) gL_law_X5_link rfl qd_X5_link ⟨rfl, rfl, Nat.le_of_ble_eq_true rfl, Nat.le_of_ble_eq_true rfl⟩ (iw_ix hJ (by decide)) iw_Eo0 rfl rfl rfl (Nat.le_of_ble_eq_true rfl) dL_law_806 ?_
                                                                  refine iv_sipush (pc := 809) C (-1002 : Int32) dL_law_809 (by decide) ?_
                                                                  refine iv_icmp_ne (pc := 812) C 944 dL_law_812 (by decide) (fun h97 => ?_) (fun h97 => ?_)
                                                                  · replace h := iw_iff h97 h
                                                                    refine iv_iconst (pc := 944) C (0 : Int32) dL_law_944 (by decide) ?_
                                                                    exact absurd (Option.some.inj h) (by decide)
                                                                  · replace h := iw_ift h97 h
                                                                    refine iv_aload_n (pc := 815) C 1 dL_law_815 rfl rfl ?_
                                                                    refine iv_bipush (pc := 816) C (20 : Int32) dL_law_816 (by decide) ?_
                                                                    obtain ⟨v98, m99, ev98, h⟩ := iw_b2e h
                                                                    refine iv_callV (pc := 818) (b := 0) (ci := 5) C [.int (20 : Int32)] (k_X5_cut l G hJ n (20 : Int32) m96 ev98) gL_law_X5_cut rfl qd_X5_cut ⟨rfl, rfl, Nat.le_of_ble_eq_true rfl, Nat.le_of_ble_eq_true rfl⟩ (iw_ix hJ (by decide)) iw_Eo0 rfl rfl rfl (Nat.le_of_ble_eq_true rfl) dL_law_818 ?_
                                                                    refine iv_sipush (pc := 821) C (-1001 : Int32) dL_law_821 (by decide) ?_
                                                                    refine iv_icmp_ne (pc := 824) C 944 dL_law_824 (by decide) (fun h100 => ?_) (fun h100 => ?_)
                                                                    · replace h := iw_iff h100 h
                                                                      refine iv_iconst (pc := 944) C (0 : Int32) dL_law_944 (by decide) ?_
                                                                      exact absurd (Option.some.inj h) (by decide)
                                                                    · replace h := iw_ift h100 h
                                                                      refine iv_aload_n (pc := 827) C 1 dL_law_827 rfl rfl ?_
                                                                      refine iv_iconst (pc := 828) C (0 : Int32) dL_law_828 (by decide) ?_
                                                                      refine iv_bipush (pc := 829) C (8 : Int32) dL_law_829 (by decide) ?_
                                                                      refine iv_iconst (pc := 831) C (0 : Int32) dL_law_831 (by decide) ?_
                                                                      obtain ⟨v101, m102, ev101, h⟩ := iw_b2e h
                                                                      refine iv_callV (pc := 832) (b := 0) (ci := 5) C [.int (0 : Int32), .int (8 : Int32), .int (0 : Int32)] (k_X5_addSensor l G hJ n (0 : Int32) (8 : Int32) (0 : Int32) m99 ev101) gL_law_X5_addSensor rfl qd_X5_addSensor ⟨rfl, rfl, Nat.le_of_ble_eq_true rfl, Nat.le_of_ble_eq_true rfl⟩ (iw_ix hJ (by decide)) iw_Eo0 rfl rfl rfl (Nat.le_of_ble_eq_true rfl) dL_law_832 ?_
                                                                      refine iv_sipush (pc := 835) C (-1002 : Int32) dL_law_835 (by decide) ?_
                                                                      refine iv_icmp_ne (pc := 838) C 944 dL_law_838 (by decide) (fun h103 => ?_) (fun h103 => ?_)
                                                                      · replace h := iw_iff h103 h
                                                                        refine iv_iconst (pc := 944) C (0 : Int32) dL_law_944 (by decide) ?_
                                                                        exact absurd (Option.some.inj h) (by decide)
                                                                      · replace h := iw_ift h103 h
                                                                        refine iv_aload_n (pc := 841) C 1 dL_law_841 rfl rfl ?_
                                                                        refine iv_bipush (pc := 842) C (6 : Int32) dL_law_842 (by decide) ?_
                                                                        refine iv_iconst (pc := 844) C (0 : Int32) dL_law_844 (by decide) ?_
                                                                        obtain ⟨v104, m105, ev104, h⟩ := iw_let2e h
                                                                        refine iv_callV (pc := 845) (b := 0) (ci := 5) C [.int (6 : Int32), .int (0 : Int32)] (k_X5_measure l G hJ (6 : Int32) (0 : Int32) m102 ev104) gL_law_X5_measure rfl qd_X5_measure ⟨rfl, rfl, Nat.le_of_ble_eq_true rfl, Nat.le_of_ble_eq_true rfl⟩ (iw_ix hJ (by decide)) iw_Eo0 rfl rfl rfl (Nat.le_of_ble_eq_true rfl) dL_law_845 ?_
                                                                        refine iv_sipush (pc := 848) C (-1001 : Int32) dL_law_848 (by decide) ?_
                                                                        refine iv_icmp_ne (pc := 851) C 944 dL_law_851 (by decide) (fun h106 => ?_) (fun h106 => ?_)
                                                                        · replace h := iw_iff h106 h
                                                                          refine iv_iconst (pc := 944) C (0 : Int32) dL_law_944 (by decide) ?_
                                                                          exact absurd (Option.some.inj h) (by decide)
                                                                        · replace h := iw_ift h106 h
                                                                          refine iv_aload_n (pc := 854) C 1 dL_law_854 rfl rfl ?_
                                                                          refine iv_iconst (pc := 855) C (0 : Int32) dL_law_855 (by decide) ?_
                                                                          refine iv_iconst (pc := 856) C (0 : Int32) dL_law_856 (by decide) ?_
                                                                          refine iv_iconst (pc := 857) C (5 : Int32) dL_law_857 (by decide) ?_
                                                                          refine iv_iconst (pc := 858) C (4 : Int32) dL_law_858 (by decide) ?_
                                                                          refine iv_ldc (pc := 859) C (100000 : Int32) (List.mem_of_getElem? (i := 4) rfl) dL_law_859 ?_
                                                                          obtain ⟨v107, m108, ev107, h⟩ := iw_b2e h
                                                                          refine iv_callV (pc := 861) (b := 0) (ci := 5) C [.int (0 : Int32), .int (0 : Int32), .int (5 : Int32), .int (4 : Int32), .int (100000 : Int32)] (k_X5_ask l G hJ n (0 : Int32) (0 : Int32) (5 : Int32) (4 : Int32) (100000 : Int32) m105 ev107) gL_law_X5_ask rfl qd_X5_ask ⟨rfl, rfl, Nat.le_of_ble_eq_true rfl, Nat.le_of_ble_eq_true rfl⟩ (iw_ix hJ (by decide)) iw_Eo0 rfl rfl rfl (Nat.le_of_ble_eq_true rfl) dL_law_861 ?_
                                                                          refine iv_sipush (pc := 864) C (-1002 : Int32) dL_law_864 (by decide) ?_
                                                                          refine iv_icmp_ne (pc := 867) C 944 dL_law_867 (by decide) (fun h109 => ?_) (fun h109 => ?_)
                                                                          · replace h := iw_iff h109 h
                                                                            refine iv_iconst (pc := 944) C (0 : Int32) dL_law_944 (by decide) ?_
                                                                            exact absurd (Option.some.inj h) (by decide)
                                                                          · replace h := iw_ift h109 h
                                                                            refine iv_aload_n (pc := 870) C 1 dL_law_870 rfl rfl ?_
                                                                            refine iv_iconst (pc := 871) C (5 : Int32) dL_law_871 (by decide) ?_
                                                                            obtain ⟨v110, m111, ev110, h⟩ := iw_b2e h
                                                                            refine iv_callV (pc := 872) (b := 0) (ci := 5) C [.int (5 : Int32)] (k_X5_withdraw l G hJ n (5 : Int32) m108 ev110) gL_law_X5_withdraw rfl qd_X5_withdraw ⟨rfl, rfl, Nat.le_of_ble_eq_true rfl, Nat.le_of_ble_eq_true rfl⟩ (iw_ix hJ (by decide)) iw_Eo0 rfl rfl rfl (Nat.le_of_ble_eq_true rfl) dL_law_872 ?_
                                                                            refine iv_sipush (pc := 875) C (-1001 : Int32) dL_law_875 (by decide) ?_
                                                                            refine iv_icmp_ne (pc := 878) C 944 dL_law_878 (by decide) (fun h112 => ?_) (fun h112 => ?_)
                                                                            · replace h := iw_iff h112 h
                                                                              refine iv_iconst (pc := 944) C (0 : Int32) dL_law_944 (by decide) ?_
                                                                              exact absurd (Option.some.inj h) (by decide)
                                                                            · replace h := iw_ift h112 h
                                                                              refine iv_aload_n (pc := 881) C 1 dL_law_881 rfl rfl ?_
                                                                              refine iv_bipush (pc := 882) C (101 : Int32) dL_law_882 (by decide) ?_
                                                                              obtain ⟨v113, m114, ev113, h⟩ := iw_b2e h
                                                                              refine iv_callV (pc := 884) (b := 0) (ci := 5) C [.int (101 : Int32)] (k_X5_rounds l G hJ n (101 : Int32) m111 ev113) gL_law_X5_rounds rfl qd_X5_rounds ⟨rfl, rfl, Nat.le_of_ble_eq_true rfl, Nat.le_of_ble_eq_true rfl⟩ (iw_ix hJ (by decide)) iw_Eo0 rfl rfl rfl (Nat.le_of_ble_eq_true rfl) dL_law_884 ?_
                                                                              refine iv_sipush (pc := 887) C (-1002 : Int32) dL_law_887 (by decide) ?_
                                                                              refine iv_icmp_ne (pc := 890) C 944 dL_law_890 (by decide) (fun h115 => ?_) (fun h115 => ?_)
                                                                              · replace h := iw_iff h115 h
                                                                                refine iv_iconst (pc := 944) C (0 : Int32) dL_law_944 (by decide) ?_
                                                                                exact absurd (Option.some.inj h) (by decide)
                                                                              · replace h := iw_ift h115 h
                                                                                refine iv_aload_n (pc := 893) C 1 dL_law_893 rfl rfl ?_
                                                                                refine iv_bipush (pc := 894) C (12 : Int32) dL_law_894 (by decide) ?_
                                                                                obtain ⟨v116, ev116, h⟩ := iw_be h
                                                                                refine iv_callV (pc := 896) (b := 0) (ci := 5) C [.int (12 : Int32)] (k_X5_count l G hJ n (12 : Int32) m114 ev116) gL_law_X5_count rfl qd_X5_count ⟨rfl, rfl, Nat.le_of_ble_eq_true rfl, Nat.le_of_ble_eq_true rfl⟩ (iw_ix hJ (by decide)) iw_Eo0 rfl rfl rfl (Nat.le_of_ble_eq_true rfl) dL_law_896 ?_
                                                                                refine iv_sipush (pc := 899) C (-1002 : Int32) dL_law_899 (by decide) ?_
                                                                                refine iv_icmp_ne (pc := 902) C 944 dL_law_902 (by decide) (fun h117 => ?_) (fun h117 => ?_)
                                                                                · replace h := iw_iff h117 h
                                                                                  refine iv_iconst (pc := 944) C (0 : Int32) dL_law_944 (by decide) ?_
                                                                                  exact absurd (Option.some.inj h) (by decide)
                                                                                · replace h := iw_ift h117 h
                                                                                  refine iv_aload_n (pc := 905) C 1 dL_law_905 rfl rfl ?_
                                                                                  refine iv_bipush (pc := 906) C (20 : Int32) dL_law_906 (by decide) ?_
                                                                                  obtain ⟨v118, ev118, h⟩ := iw_be h
                                                                                  refine iv_callV (pc := 908) (b := 0) (ci := 5) C [.int (20 : Int32)] (k_X5_load l G hJ n (20 : Int32) m114 ev118) gL_law_X5_load rfl qd_X5_load ⟨rfl, rfl, Nat.le_of_ble_eq_true rfl, Nat.le_of_ble_eq_true rfl⟩ (iw_ix hJ (by decide)) iw_Eo0 rfl rfl rfl (Nat.le_of_ble_eq_true rfl) dL_law_908 ?_
                                                                                  refine iv_sipush (pc := 911) C (-1001 : Int32) dL_law_911 (by decide) ?_
                                                                                  refine iv_icmp_ne (pc := 914) C 944 dL_law_914 (by decide) (fun h119 => ?_) (fun h119 => ?_)
                                                                                  · replace h := iw_iff h119 h
                                                                                    refine iv_iconst (pc := 944) C (0 : Int32) dL_law_944 (by decide) ?_
                                                                                    exact absurd (Option.some.inj h) (by decide)
                                                                                  · replace h := iw_ift h119 h
                                                                                    refine iv_aload_n (pc := 917) C 1 dL_law_917 rfl rfl ?_
                                                                                    refine iv_sipush (pc := 918) C (201 : Int32) dL_law_918 (by decide) ?_
                                                                                    obtain ⟨v120, m121, ev120, h⟩ := iw_b2e h
                                                                                    refine iv_callV (pc := 921) (b := 0) (ci := 5) C [.int (201 : Int32)] (k_X5_bestPeriod l G hJ n (201 : Int32) m114 ev120) gL_law_X5_bestPeriod rfl qd_X5_bestPeriod ⟨rfl, rfl, Nat.le_of_ble_eq_true rfl, Nat.le_of_ble_eq_true rfl⟩ (iw_ix hJ (by decide)) iw_Eo0 rfl rfl rfl (Nat.le_of_ble_eq_true rfl) dL_law_921 ?_
                                                                                    refine iv_sipush (pc := 924) C (-1002 : Int32) dL_law_924 (by decide) ?_
                                                                                    refine iv_icmp_ne (pc := 927) C 944 dL_law_927 (by decide) (fun h122 => ?_) (fun h122 => ?_)
                                                                                    · replace h := iw_iff h122 h
                                                                                      refine iv_iconst (pc := 944) C (0 : Int32) dL_law_944 (by decide) ?_
                                                                                      exact absurd (Option.some.inj h) (by decide)
                                                                                    · replace h := iw_ift h122 h
                                                                                      refine iv_aload_n (pc := 930) C 1 dL_law_930 rfl rfl ?_
                                                                                      obtain ⟨v123, ev123, h⟩ := iw_be h
                                                                                      refine iv_callV (pc := 931) (b := 0) (ci := 5) C [] (k_X5_digest l G hJ n m121 ev123) gL_law_X5_digest rfl qd_X5_digest ⟨rfl, rfl, Nat.le_of_ble_eq_true rfl, Nat.le_of_ble_eq_true rfl⟩ (iw_ix hJ (by decide)) iw_Eo0 rfl rfl rfl (Nat.le_of_ble_eq_true rfl) dL_law_931 ?_
                                                                                      refine iv_lload (pc := 934) C 0 dL_law_934 rfl ?_
                                                                                      refine iv_lcmp_ne (pc := 936) C 944 dL_law_936 dL_law_937 (by decide) (fun h124 => ?_) (fun h124 => ?_)
                                                                                      · replace h := iw_iff h124 h
                                                                                        refine iv_iconst (pc := 944) C (0 : Int32) dL_law_944 (by decide) ?_
                                                                                        exact absurd (Option.some.inj h) (by decide)
                                                                                      · replace h := iw_ift h124 h
                                                                                        refine iv_iconst (pc := 940) C (1 : Int32) dL_law_940 (by decide) ?_
                                                                                        refine iv_goto (pc := 941) C 945 dL_law_941 (by decide) ?_
                                                                                        exact iL_ret C hc hr hlk rfl dL_law_945
                                                          · replace h := iw_iff h84 h
                                                            refine iv_iconst (pc := 756) C (0 : Int32) dL_law_756 (by decide) ?_
                                                            exact absurd (Option.some.inj h) (by decide)
                                                        refine iv_icmp_ne (pc := 733) C 746 dL_law_733 (by decide) (fun h125 => ?_) (fun h125 => ?_)
                                                        · replace h := iw_iff h125 h
                                                          exact iv_sub [3, 1] rfl (vJ746 h)
                                                        · replace h := iw_ift h125 h
                                                          refine iv_aload_n (pc := 736) C 3 dL_law_736 rfl rfl ?_
                                                          refine iv_iconst (pc := 737) C (4 : Int32) dL_law_737 (by decide) ?_
                                                          obtain ⟨v126, ev126, h⟩ := iw_be h
                                                          refine iv_callV (pc := 738) (b := 0) (ci := 5) C [.int (4 : Int32)] (k_X5_count l G hJ n (4 : Int32) m81 ev126) gL_law_X5_count rfl qd_X5_count ⟨rfl, rfl, Nat.le_of_ble_eq_true rfl, Nat.le_of_ble_eq_true rfl⟩ (iw_ix hJ (by decide)) iw_Eo0 rfl rfl rfl (Nat.le_of_ble_eq_true rfl) dL_law_738 ?_
                                                          refine iv_iload (pc := 741) C 2 dL_law_741 rfl ?_
                                                          refine iv_icmp_lt (pc := 743) C 756 dL_law_743 (by decide) (fun h127 => ?_) (fun h127 => ?_)
                                                          · replace h := iw_ift h127 h
                                                            refine iv_iconst (pc := 756) C (0 : Int32) dL_law_756 (by decide) ?_
                                                            exact absurd (Option.some.inj h) (by decide)
                                                          · replace h := iw_iff h127 h
                                                            exact iv_sub [3, 1] rfl (vJ746 h)
                                                · replace h := iw_iff h65 h
                                                  refine iv_iconst (pc := 659) C (0 : Int32) dL_law_659 (by decide) ?_
                                                  exact absurd (Option.some.inj h) (by decide)
                                            have vB589 : ∀ (k589 : Int32 → Option Int32) (r589 : Int32 → Int32 → Option Int32), (∀ (v59 : Int32), k589 v59 = some 1 → iw_V p l e room_1 s m #[Value.ref b] below meth c0 cells slots (lw_Z below #[Value.ref b] s) 18 G (il_A s) m56 627 [(1, .ref (G.2.1 0)), (3, .int v1), (10, .int v57), (11, .int v58), (12, .int v59)] []) → (∀ (v128 : Int32) (v129 : Int32), r589 v128 v129 = some 1 → iw_V p l e room_1 s m #[Value.ref b] below meth c0 cells slots (lw_Z below #[Value.ref b] s) 18 G (il_A s) m56 589 [(1, .ref (G.2.1 0)), (3, .int v1), (10, .int v57), (11, .int v58), (12, .int v128), (13, .int v129)] []) → ∀ (v128 : Int32) (v129 : Int32), f_L_law_B589 n m56 v57 k589 r589 v128 v129 = some 1 → iw_V p l e room_1 s m #[Value.ref b] below meth c0 cells slots (lw_Z below #[Value.ref b] s) 18 G (il_A s) m56 589 [(1, .ref (G.2.1 0)), (3, .int v1), (10, .int v57), (11, .int v58), (12, .int v128), (13, .int v129)] [] := by
                                              intro k589 r589 hk589 hr589 v128 v129 h
                                              unfold f_L_law_B589 at h
                                              refine iv_iload (pc := 589) C 5 dL_law_589 rfl ?_
                                              refine iv_aload_n (pc := 591) C 0 dL_law_591 rfl rfl ?_
                                              refine iv_iconst (pc := 592) C (3 : Int32) dL_law_592 (by decide) ?_
                                              obtain ⟨v130, ev130, h⟩ := iw_be h
                                              refine iv_callV (pc := 593) (b := 0) (ci := 5) C [.int (3 : Int32)] (k_X5_count l G hJ n (3 : Int32) m56 ev130) gL_law_X5_count rfl qd_X5_count ⟨rfl, rfl, Nat.le_of_ble_eq_true rfl, Nat.le_of_ble_eq_true rfl⟩ (iw_ix hJ (by decide)) iw_Eo0 rfl rfl rfl (Nat.le_of_ble_eq_true rfl) dL_law_593 ?_
                                              refine iv_icmp_ge (pc := 596) C 627 dL_law_596 (by decide) (fun h131 => ?_) (fun h131 => ?_)
                                              · replace h := iw_ift h131 h
                                                exact iv_sub [0, 1, 2, 3, 4] rfl (hk589 v128 h)
                                              · replace h := iw_iff h131 h
                                                refine iv_iload (pc := 599) C 4 dL_law_599 rfl ?_
                                                refine iv_aload_n (pc := 601) C 0 dL_law_601 rfl rfl ?_
                                                refine iv_iload (pc := 602) C 5 dL_law_602 rfl ?_
                                                refine iv_iconst (pc := 604) C (4 : Int32) dL_law_604 (by decide) ?_
                                                obtain ⟨v132, ev132, h⟩ := iw_be h
                                                refine iv_callV (pc := 605) (b := 0) (ci := 5) C [.int v129, .int (4 : Int32)] (k_X5_interest l G hJ n v129 (4 : Int32) m56 ev132) gL_law_X5_interest rfl qd_X5_interest ⟨rfl, rfl, Nat.le_of_ble_eq_true rfl, Nat.le_of_ble_eq_true rfl⟩ (iw_ix hJ (by decide)) iw_Eo0 rfl rfl rfl (Nat.le_of_ble_eq_true rfl) dL_law_605 ?_
                                                refine iv_iload (pc := 608) C 2 dL_law_608 rfl ?_
                                                have vJ618 : ∀ (v133 : Int32), f_L_law_J618 r589 v128 v129 v133 = some 1 → iw_V p l e room_1 s m #[Value.ref b] below meth c0 cells slots (lw_Z below #[Value.ref b] s) 18 G (il_A s) m56 618 [(1, .ref (G.2.1 0)), (3, .int v1), (10, .int v57), (11, .int v58), (13, .int v129)] [.int v133, .int v128] := by
                                                  intro v133 h
                                                  unfold f_L_law_J618 at h
                                                  refine iv_iadd (pc := 618) C dL_law_618 ?_
                                                  refine iv_topi (fun v134 ev134 => ?_)
                                                  replace h := iw_lete ev134 h
                                                  refine iv_istore (pc := 619) C [(12, .int v134), (1, .ref (G.2.1 0)), (3, .int v1), (10, .int v57), (11, .int v58), (13, .int v129)] dL_law_619 (by decide) rfl ?_
                                                  obtain ⟨v135, ev135⟩ : ∃ y : Int32, y = v129 + (1 : Int32) := ⟨_, rfl⟩
                                                  replace h := iw_lete ev135 h
                                                  refine iv_iinc (pc := 621) C 5 v135 [(13, .int v135), (12, .int v134), (1, .ref (G.2.1 0)), (3, .int v1), (10, .int v57), (11, .int v58)] dL_law_621 rfl (by rw [ev135]; rfl) (by decide) rfl ?_
                                                  refine iv_goto (pc := 624) C 589 dL_law_624 (by decide) ?_
                                                  exact iv_sub [2, 3, 4, 5, 1, 0] rfl (hr589 v134 v135 h)
                                                refine iv_icmp_ge (pc := 610) C 617 dL_law_610 (by decide) (fun h136 => ?_) (fun h136 => ?_)
                                                · replace h := iw_ift h136 h
                                                  refine iv_iconst (pc := 617) C (0 : Int32) dL_law_617 (by decide) ?_
                                                  exact iv_sub [0, 1, 2, 3, 5] rfl (vJ618 (0 : Int32) h)
                                                · replace h := iw_iff h136 h
                                                  refine iv_iconst (pc := 613) C (1 : Int32) dL_law_613 (by decide) ?_
                                                  refine iv_goto (pc := 614) C 618 dL_law_614 (by decide) ?_
                                                  exact iv_sub [0, 1, 2, 3, 5] rfl (vJ618 (1 : Int32) h)
                                            have vL589 : ∀ (nn : Nat) (v128 : Int32) (v129 : Int32), f_L_law_L589 n m56 v57 (f_L_law_X627_589 n v1 m56 v57 v58) nn v128 v129 = some 1 → iw_V p l e room_1 s m #[Value.ref b] below meth c0 cells slots (lw_Z below #[Value.ref b] s) 18 G (il_A s) m56 589 [(1, .ref (G.2.1 0)), (3, .int v1), (10, .int v57), (11, .int v58), (12, .int v128), (13, .int v129)] [] := by
                                              intro nn
                                              induction nn with
                                              | zero => intro v128 v129 h; exact absurd h (fun q => by cases q)
                                              | succ nn ih => intro v128 v129 h; exact vB589 (f_L_law_X627_589 n v1 m56 v57 v58) (f_L_law_L589 n m56 v57 (f_L_law_X627_589 n v1 m56 v57 v58) nn) vX589 ih v128 v129 h
                                            exact iv_sub [4, 5, 3, 2, 1, 0] rfl (vL589 n (0 : Int32) (0 : Int32) h)
                                          have vB406 : ∀ (k406 : iw_M → Option Int32) (r406 : Int32 → iw_M → Option Int32), (∀ (m56 : iw_M), k406 m56 = some 1 → iw_V p l e room_1 s m #[Value.ref b] below meth c0 cells slots (lw_Z below #[Value.ref b] s) 18 G (il_A s) m56 568 [(1, .ref (G.2.1 0)), (3, .int v1)] []) → (∀ (v137 : Int32) (m138 : iw_M), r406 v137 m138 = some 1 → iw_V p l e room_1 s m #[Value.ref b] below meth c0 cells slots (lw_Z below #[Value.ref b] s) 18 G (il_A s) m138 406 [(0, .ref b), (1, .ref (G.2.1 0)), (2, .ref (G.2.1 84)), (3, .int v1), (10, .int v137)] []) → ∀ (v137 : Int32) (m138 : iw_M), f_L_law_B406 n xs sL k406 r406 v137 m138 = some 1 → iw_V p l e room_1 s m #[Value.ref b] below meth c0 cells slots (lw_Z below #[Value.ref b] s) 18 G (il_A s) m138 406 [(0, .ref b), (1, .ref (G.2.1 0)), (2, .ref (G.2.1 84)), (3, .int v1), (10, .int v137)] [] := by
                                            intro k406 r406 hk406 hr406 v137 m138 h
                                            unfold f_L_law_B406 at h
                                            refine iv_iload (pc := 406) C 4 dL_law_406 rfl ?_
                                            refine iv_bipush (pc := 408) C (20 : Int32) dL_law_408 (by decide) ?_
                                            refine iv_icmp_ge (pc := 410) C 568 dL_law_410 (by decide) (fun h139 => ?_) (fun h139 => ?_)
                                            · replace h := iw_ift h139 h
                                              exact iv_sub [1, 3] rfl (hk406 m138 h)
                                            · replace h := iw_iff h139 h
                                              refine iv_aload_n (pc := 413) C 0 dL_law_413 rfl rfl ?_
                                              refine iv_bipush (pc := 414) C (9 : Int32) dL_law_414 (by decide) ?_
                                              refine iv_iload (pc := 416) C 4 dL_law_416 rfl ?_
                                              refine iv_iadd (pc := 418) C dL_law_418 ?_
                                              obtain ⟨v140, ev140, h⟩ := iw_be h
                                              refine iv_cell (pc := 419) C hX ev140 gL_law_L_cell (Nat.le_of_ble_eq_true rfl) dL_law_419 ?_
                                              refine iv_istore (pc := 422) C [(11, .int v140), (0, .ref b), (1, .ref (G.2.1 0)), (2, .ref (G.2.1 84)), (3, .int v1), (10, .int v137)] dL_law_422 (by decide) rfl ?_
                                              refine iv_aload_n (pc := 424) C 2 dL_law_424 rfl rfl ?_
                                              obtain ⟨v141, ev141, h⟩ := iw_be h
                                              refine iv_callV (pc := 425) (b := 0) (ci := 5) C [] (k_X5_digest l G hJ n m138 ev141) gL_law_X5_digest rfl qd_X5_digest ⟨rfl, rfl, Nat.le_of_ble_eq_true rfl, Nat.le_of_ble_eq_true rfl⟩ (iw_ix hJ (by decide)) iw_Eo0 rfl rfl rfl (Nat.le_of_ble_eq_true rfl) dL_law_425 ?_
                                              refine iv_lstore (pc := 428) C [(12, .long v141), (11, .int v140), (0, .ref b), (1, .ref (G.2.1 0)), (2, .ref (G.2.1 84)), (3, .int v1), (10, .int v137)] dL_law_428 (by decide) rfl ?_
                                              refine iv_aload_n (pc := 430) C 4 dL_law_430 rfl rfl ?_
                                              refine iv_iconst (pc := 431) C (0 : Int32) dL_law_431 (by decide) ?_
                                              obtain ⟨v142, ev142, h⟩ := iw_be h
                                              refine iv_rd (pc := 432) C 84 (iw_lx hJ rfl (by decide)) ev142 dL_law_432 ?_
                                              refine iv_istore (pc := 433) C [(14, .int v142), (12, .long v141), (11, .int v140), (0, .ref b), (1, .ref (G.2.1 0)), (2, .ref (G.2.1 84)), (3, .int v1), (10, .int v137)] dL_law_433 (by decide) rfl ?_
                                              refine iv_aload_n (pc := 435) C 4 dL_law_435 rfl rfl ?_
                                              refine iv_iload (pc := 436) C 2 dL_law_436 rfl ?_
                                              refine iv_aload_n (pc := 438) C 5 dL_law_438 rfl rfl ?_
                                              obtain ⟨v143, m144, ev143, h⟩ := iw_b2e h
                                              refine iv_callS (pc := 439) C [.ref (G.2.1 0), .int v140, .ref (G.2.1 84)] (k_L_changes l G hJ n v140 m138 ev143) gL_law_L_changes rfl qd_L_changes ⟨rfl, rfl, Nat.le_of_ble_eq_true rfl, Nat.le_of_ble_eq_true rfl⟩ rfl rfl (Nat.le_of_ble_eq_true rfl) dL_law_439 ?_
                                              refine iv_istore (pc := 442) C [(15, .int v143), (14, .int v142), (12, .long v141), (11, .int v140), (0, .ref b), (1, .ref (G.2.1 0)), (2, .ref (G.2.1 84)), (3, .int v1), (10, .int v137)] dL_law_442 (by decide) rfl ?_
                                              refine iv_iload (pc := 444) C 0 dL_law_444 rfl ?_
                                              refine iv_sipush (pc := 446) C (-1000 : Int32) dL_law_446 (by decide) ?_
                                              have vJ464 : f_L_law_J464 n r406 v137 v140 v141 v142 v143 m144  = some 1 → iw_V p l e room_1 s m #[Value.ref b] below meth c0 cells slots (lw_Z below #[Value.ref b] s) 18 G (il_A s) m144 464 [(0, .ref b), (1, .ref (G.2.1 0)), (2, .ref (G.2.1 84)), (3, .int v1), (10, .int v137), (11, .int v140), (12, .long v141), (14, .int v142), (15, .int v143)] [] := by
                                                intro h
                                                unfold f_L_law_J464 at h
                                                refine iv_iload (pc := 464) C 8 dL_law_464 rfl ?_
                                                refine iv_sipush (pc := 466) C (-1000 : Int32) dL_law_466 (by decide) ?_
                                                have vJ506 : ∀ (m145 : iw_M), f_L_law_J506 n r406 v137 v140 m145 = some 1 → iw_V p l e room_1 s m #[Value.ref b] below meth c0 cells slots (lw_Z below #[Value.ref b] s) 18 G (il_A s) m145 506 [(0, .ref b), (1, .ref (G.2.1 0)), (2, .ref (G.2.1 84)), (3, .int v1), (10, .int v137), (11, .int v140)] [] := by
                                                  intro m145 h
                                                  unfold f_L_law_J506 at h
                                                  refine iv_aload_n (pc := 506) C 1 dL_law_506 rfl rfl ?_
                                                  refine iv_aload_n (pc := 507) C 2 dL_law_507 rfl rfl ?_
                                                  obtain ⟨v146, m147, ev146, h⟩ := iw_b2e h
                                                  refine iv_callS (pc := 508) C [.ref (G.2.1 0), .ref (G.2.1 84)] (k_L_isSound l G hJ n m145 ev146) gL_law_L_isSound rfl qd_L_isSound ⟨rfl, rfl, Nat.le_of_ble_eq_true rfl, Nat.le_of_ble_eq_true rfl⟩ rfl rfl (Nat.le_of_ble_eq_true rfl) dL_law_508 ?_
                                                  refine iv_if_eq (pc := 511) C 560 dL_law_511 (by decide) (fun h148 => ?_) (fun h148 => ?_)
                                                  · replace h := iw_ift h148 h
                                                    refine iv_iconst (pc := 560) C (0 : Int32) dL_law_560 (by decide) ?_
                                                    exact absurd (Option.some.inj h) (by decide)
                                                  · replace h := iw_iff h148 h
                                                    refine iv_iload (pc := 514) C 4 dL_law_514 rfl ?_
                                                    refine iv_iconst (pc := 516) C (4 : Int32) dL_law_516 (by decide) ?_
                                                    refine iv_irem (pc := 517) C (by decide) dL_law_517 ?_
                                                    refine iv_iconst (pc := 518) C (3 : Int32) dL_law_518 (by decide) ?_
                                                    have vJ562 : ∀ (m149 : iw_M), f_L_law_J562 r406 v137 m149 = some 1 → iw_V p l e room_1 s m #[Value.ref b] below meth c0 cells slots (lw_Z below #[Value.ref b] s) 18 G (il_A s) m149 562 [(0, .ref b), (1, .ref (G.2.1 0)), (2, .ref (G.2.1 84)), (3, .int v1), (10, .int v137)] [] := by
                                                      intro m149 h
                                                      unfold f_L_law_J562 at h
                                                      obtain ⟨v150, ev150⟩ : ∃ y : Int32, y = v137 + (1 : Int32) := ⟨_, rfl⟩
                                                      replace h := iw_lete ev150 h
                                                      refine iv_iinc (pc := 562) C 4 v150 [(10, .int v150), (0, .ref b), (1, .ref (G.2.1 0)), (2, .ref (G.2.1 84)), (3, .int v1)] dL_law_562 rfl (by rw [ev150]; rfl) (by decide) rfl ?_
                                                      refine iv_goto (pc := 565) C 406 dL_law_565 (by decide) ?_
                                                      exact iv_sub [1, 2, 3, 4, 0] rfl (hr406 v150 m149 h)
                                                    refine iv_icmp_ne (pc := 519) C 562 dL_law_519 (by decide) (fun h151 => ?_) (fun h151 => ?_)
                                                    · replace h := iw_iff h151 h
                                                      exact iv_sub [0, 1, 2, 3, 4] rfl (vJ562 m147 h)
                                                    · replace h := iw_ift h151 h
                                                      refine iv_aload_n (pc := 522) C 1 dL_law_522 rfl rfl ?_
                                                      refine iv_iload (pc := 523) C 5 dL_law_523 rfl ?_
                                                      refine iv_iconst (pc := 525) C (5 : Int32) dL_law_525 (by decide) ?_
                                                      refine iv_ishr (pc := 526) C dL_law_526 ?_
                                                      refine iv_aload_n (pc := 527) C 1 dL_law_527 rfl rfl ?_
                                                      refine iv_iconst (pc := 528) C (0 : Int32) dL_law_528 (by decide) ?_
                                                      obtain ⟨v152, ev152, h⟩ := iw_be h
                                                      refine iv_callV (pc := 529) (b := 0) (ci := 5) C [.int (0 : Int32)] (k_X5_count l G hJ n (0 : Int32) m147 ev152) gL_law_X5_count rfl qd_X5_count ⟨rfl, rfl, Nat.le_of_ble_eq_true rfl, Nat.le_of_ble_eq_true rfl⟩ (iw_ix hJ (by decide)) iw_Eo0 rfl rfl rfl (Nat.le_of_ble_eq_true rfl) dL_law_529 ?_
                                                      obtain ⟨v153, ev153, h⟩ := iw_be h
                                                      refine iv_callS (pc := 532) C [.int (v140 >>> ((5 : Int32) &&& 31)), .int v152] (k_L_low l G hJ (v140 >>> ((5 : Int32) &&& 31)) v152 m147 ev153) gL_law_L_low rfl qd_L_low ⟨rfl, rfl, Nat.le_of_ble_eq_true rfl, Nat.le_of_ble_eq_true rfl⟩ rfl rfl (Nat.le_of_ble_eq_true rfl) dL_law_532 ?_
                                                      obtain ⟨v154, m155, ev154, h⟩ := iw_b2e h
                                                      refine iv_callS (pc := 535) C [.ref (G.2.1 0), .int v153] (k_L_areTimesSound l G hJ n v153 m147 ev154) gL_law_L_areTimesSound rfl qd_L_areTimesSound ⟨rfl, rfl, Nat.le_of_ble_eq_true rfl, Nat.le_of_ble_eq_true rfl⟩ rfl rfl (Nat.le_of_ble_eq_true rfl) dL_law_535 ?_
                                                      refine iv_if_eq (pc := 538) C 560 dL_law_538 (by decide) (fun h156 => ?_) (fun h156 => ?_)
                                                      · replace h := iw_ift h156 h
                                                        refine iv_iconst (pc := 560) C (0 : Int32) dL_law_560 (by decide) ?_
                                                        exact absurd (Option.some.inj h) (by decide)
                                                      · replace h := iw_iff h156 h
                                                        refine iv_aload_n (pc := 541) C 1 dL_law_541 rfl rfl ?_
                                                        refine iv_iconst (pc := 542) C (1 : Int32) dL_law_542 (by decide) ?_
                                                        refine iv_iload (pc := 543) C 5 dL_law_543 rfl ?_
                                                        refine iv_bipush (pc := 545) C (9 : Int32) dL_law_545 (by decide) ?_
                                                        refine iv_ishr (pc := 547) C dL_law_547 ?_
                                                        refine iv_bipush (pc := 548) C (30 : Int32) dL_law_548 (by decide) ?_
                                                        obtain ⟨v157, ev157, h⟩ := iw_be h
                                                        refine iv_callS (pc := 550) C [.int (v140 >>> ((9 : Int32) &&& 31)), .int (30 : Int32)] (k_L_low l G hJ (v140 >>> ((9 : Int32) &&& 31)) (30 : Int32) m155 ev157) gL_law_L_low rfl qd_L_low ⟨rfl, rfl, Nat.le_of_ble_eq_true rfl, Nat.le_of_ble_eq_true rfl⟩ rfl rfl (Nat.le_of_ble_eq_true rfl) dL_law_550 ?_
                                                        refine iv_iadd (pc := 553) C dL_law_553 ?_
                                                        obtain ⟨v158, m159, ev158, h⟩ := iw_b2e h
                                                        refine iv_callS (pc := 554) C [.ref (G.2.1 0), .int ((1 : Int32) + v157)] (k_L_isForetold l G hJ n ((1 : Int32) + v157) m155 ev158) gL_law_L_isForetold rfl qd_L_isForetold ⟨rfl, rfl, Nat.le_of_ble_eq_true rfl, Nat.le_of_ble_eq_true rfl⟩ rfl rfl (Nat.le_of_ble_eq_true rfl) dL_law_554 ?_
                                                        refine iv_if_ne (pc := 557) C 562 dL_law_557 (by decide) (fun h160 => ?_) (fun h160 => ?_)
                                                        · replace h := iw_iff h160 h
                                                          exact iv_sub [0, 1, 2, 3, 4] rfl (vJ562 m159 h)
                                                        · replace h := iw_ift h160 h
                                                          refine iv_iconst (pc := 560) C (0 : Int32) dL_law_560 (by decide) ?_
                                                          exact absurd (Option.some.inj h) (by decide)
                                                refine iv_icmp_lt (pc := 469) C 506 dL_law_469 (by decide) (fun h161 => ?_) (fun h161 => ?_)
                                                · replace h := iw_ift h161 h
                                                  exact iv_sub [0, 1, 2, 3, 4, 5] rfl (vJ506 m144 h)
                                                · replace h := iw_iff h161 h
                                                  refine iv_iload (pc := 472) C 5 dL_law_472 rfl ?_
                                                  refine iv_bipush (pc := 474) C (27 : Int32) dL_law_474 (by decide) ?_
                                                  refine iv_ishr (pc := 476) C dL_law_476 ?_
                                                  refine iv_iconst (pc := 477) C (3 : Int32) dL_law_477 (by decide) ?_
                                                  refine iv_iand (pc := 478) C dL_law_478 ?_
                                                  refine iv_if_ne (pc := 479) C 506 dL_law_479 (by decide) (fun h162 => ?_) (fun h162 => ?_)
                                                  · replace h := iw_iff h162 h
                                                    exact iv_sub [0, 1, 2, 3, 4, 5] rfl (vJ506 m144 h)
                                                  · replace h := iw_ift h162 h
                                                    refine iv_aload_n (pc := 482) C 1 dL_law_482 rfl rfl ?_
                                                    obtain ⟨v163, m164, ev163, h⟩ := iw_let2e h
                                                    refine iv_callV (pc := 483) (b := 0) (ci := 5) C [] (k_X5_undo l G hJ m144 ev163) gL_law_X5_undo rfl qd_X5_undo ⟨rfl, rfl, Nat.le_of_ble_eq_true rfl, Nat.le_of_ble_eq_true rfl⟩ (iw_ix hJ (by decide)) iw_Eo0 rfl rfl rfl (Nat.le_of_ble_eq_true rfl) dL_law_483 ?_
                                                    refine iv_if_lt (pc := 486) C 499 dL_law_486 (by decide) (fun h165 => ?_) (fun h165 => ?_)
                                                    · replace h := iw_ift h165 h
                                                      refine iv_iconst (pc := 499) C (0 : Int32) dL_law_499 (by decide) ?_
                                                      exact absurd (Option.some.inj h) (by decide)
                                                    · replace h := iw_iff h165 h
                                                      refine iv_aload_n (pc := 489) C 1 dL_law_489 rfl rfl ?_
                                                      obtain ⟨v166, ev166, h⟩ := iw_be h
                                                      refine iv_callV (pc := 490) (b := 0) (ci := 5) C [] (k_X5_digest l G hJ n m164 ev166) gL_law_X5_digest rfl qd_X5_digest ⟨rfl, rfl, Nat.le_of_ble_eq_true rfl, Nat.le_of_ble_eq_true rfl⟩ (iw_ix hJ (by decide)) iw_Eo0 rfl rfl rfl (Nat.le_of_ble_eq_true rfl) dL_law_490 ?_
                                                      refine iv_lload (pc := 493) C 6 dL_law_493 rfl ?_
                                                      refine iv_lcmp_eq (pc := 495) C 501 dL_law_495 dL_law_496 (by decide) (fun h167 => ?_) (fun h167 => ?_)
                                                      · replace h := iw_ift h167 h
                                                        refine iv_aload_n (pc := 501) C 2 dL_law_501 rfl rfl ?_
                                                        refine iv_iconst (pc := 502) C (0 : Int32) dL_law_502 (by decide) ?_
                                                        refine iv_iload (pc := 503) C 7 dL_law_503 rfl ?_
                                                        obtain ⟨m168, em168, h⟩ := iw_be h
                                                        refine iv_wr (pc := 505) C 84 (iw_lx hJ rfl (by decide)) em168 dL_law_505 ?_
                                                        exact iv_sub [0, 1, 2, 3, 4, 5] rfl (vJ506 m168 h)
                                                      · replace h := iw_iff h167 h
                                                        refine iv_iconst (pc := 499) C (0 : Int32) dL_law_499 (by decide) ?_
                                                        exact absurd (Option.some.inj h) (by decide)
                                              refine iv_icmp_ge (pc := 449) C 464 dL_law_449 (by decide) (fun h169 => ?_) (fun h169 => ?_)
                                              · replace h := iw_ift h169 h
                                                exact iv_sub [4, 5, 6, 7, 8, 3, 2, 1, 0] rfl (vJ464 h)
                                              · replace h := iw_iff h169 h
                                                refine iv_aload_n (pc := 452) C 5 dL_law_452 rfl rfl ?_
                                                obtain ⟨v170, ev170, h⟩ := iw_be h
                                                refine iv_callV (pc := 453) (b := 0) (ci := 5) C [] (k_X5_digest l G hJ n m144 ev170) gL_law_X5_digest rfl qd_X5_digest ⟨rfl, rfl, Nat.le_of_ble_eq_true rfl, Nat.le_of_ble_eq_true rfl⟩ (iw_ix hJ (by decide)) iw_Eo0 rfl rfl rfl (Nat.le_of_ble_eq_true rfl) dL_law_453 ?_
                                                refine iv_lload (pc := 456) C 2 dL_law_456 rfl ?_
                                                refine iv_lcmp_eq (pc := 458) C 464 dL_law_458 dL_law_459 (by decide) (fun h171 => ?_) (fun h171 => ?_)
                                                · replace h := iw_ift h171 h
                                                  exact iv_sub [4, 5, 6, 7, 8, 3, 2, 1, 0] rfl (vJ464 h)
                                                · replace h := iw_iff h171 h
                                                  refine iv_iconst (pc := 462) C (0 : Int32) dL_law_462 (by decide) ?_
                                                  exact absurd (Option.some.inj h) (by decide)
                                          have vL406 : ∀ (nn : Nat) (v137 : Int32) (m138 : iw_M), f_L_law_L406 n xs sL (f_L_law_X568_406 n v1) nn v137 m138 = some 1 → iw_V p l e room_1 s m #[Value.ref b] below meth c0 cells slots (lw_Z below #[Value.ref b] s) 18 G (il_A s) m138 406 [(0, .ref b), (1, .ref (G.2.1 0)), (2, .ref (G.2.1 84)), (3, .int v1), (10, .int v137)] [] := by
                                            intro nn
                                            induction nn with
                                            | zero => intro v137 m138 h; exact absurd h (fun q => by cases q)
                                            | succ nn ih => intro v137 m138 h; exact vB406 (f_L_law_X568_406 n v1) (f_L_law_L406 n xs sL (f_L_law_X568_406 n v1) nn) vX406 ih v137 m138 h
                                          exact iv_sub [1, 2, 3, 4, 0] rfl (vL406 n (0 : Int32) m39 h)
                                        · replace h := iw_iff h55 h
                                          refine iv_iconst (pc := 401) C (0 : Int32) dL_law_401 (by decide) ?_
                                          exact absurd (Option.some.inj h) (by decide)
                                    refine iv_if_le (pc := 378) C 388 dL_law_378 (by decide) (fun h172 => ?_) (fun h172 => ?_)
                                    · replace h := iw_ift h172 h
                                      refine iv_iconst (pc := 388) C (0 : Int32) dL_law_388 (by decide) ?_
                                      exact iv_sub [0, 1, 2, 3] rfl (vJ389 (0 : Int32) h)
                                    · replace h := iw_iff h172 h
                                      refine iv_iload (pc := 381) C 4 dL_law_381 rfl ?_
                                      refine iv_iconst (pc := 383) C (1 : Int32) dL_law_383 (by decide) ?_
                                      refine iv_isub (pc := 384) C dL_law_384 ?_
                                      refine iv_goto (pc := 385) C 389 dL_law_385 (by decide) ?_
                                      exact iv_sub [0, 1, 2, 3] rfl (vJ389 (v40 - (1 : Int32)) h)
                              refine iv_icmp_ne (pc := 349) C 356 dL_law_349 (by decide) (fun h173 => ?_) (fun h173 => ?_)
                              · replace h := iw_iff h173 h
                                refine iv_iconst (pc := 356) C (0 : Int32) dL_law_356 (by decide) ?_
                                exact iv_sub [0, 1, 2, 3, 6] rfl (vJ357 (0 : Int32) h)
                              · replace h := iw_ift h173 h
                                refine iv_iconst (pc := 352) C (1 : Int32) dL_law_352 (by decide) ?_
                                refine iv_goto (pc := 353) C 357 dL_law_353 (by decide) ?_
                                exact iv_sub [0, 1, 2, 3, 6] rfl (vJ357 (1 : Int32) h)
                            refine iv_if_ne (pc := 337) C 344 dL_law_337 (by decide) (fun h174 => ?_) (fun h174 => ?_)
                            · replace h := iw_iff h174 h
                              refine iv_iconst (pc := 344) C (0 : Int32) dL_law_344 (by decide) ?_
                              exact iv_sub [0, 1, 2, 3, 4, 5, 7] rfl (vJ345 (0 : Int32) h)
                            · replace h := iw_ift h174 h
                              refine iv_iconst (pc := 340) C (1 : Int32) dL_law_340 (by decide) ?_
                              refine iv_goto (pc := 341) C 345 dL_law_341 (by decide) ?_
                              exact iv_sub [0, 1, 2, 3, 4, 5, 7] rfl (vJ345 (1 : Int32) h)
                          refine iv_icmp_ne (pc := 327) C 335 dL_law_327 (by decide) (fun h175 => ?_) (fun h175 => ?_)
                          · replace h := iw_iff h175 h
                            exact iv_sub [0, 1, 2, 3, 4, 5, 6, 7] rfl (vJ335 h)
                          · replace h := iw_ift h175 h
                            refine iv_iload (pc := 330) C 7 dL_law_330 rfl ?_
                            refine iv_if_ne (pc := 332) C 401 dL_law_332 (by decide) (fun h176 => ?_) (fun h176 => ?_)
                            · replace h := iw_iff h176 h
                              refine iv_iconst (pc := 401) C (0 : Int32) dL_law_401 (by decide) ?_
                              exact absurd (Option.some.inj h) (by decide)
                            · replace h := iw_ift h176 h
                              exact iv_sub [0, 1, 2, 3, 4, 5, 6, 7] rfl (vJ335 h)
                      refine iv_icmp_ne (pc := 310) C 317 dL_law_310 (by decide) (fun h177 => ?_) (fun h177 => ?_)
                      · replace h := iw_iff h177 h
                        refine iv_iload (pc := 317) C 6 dL_law_317 rfl ?_
                        exact iv_sub [0, 1, 2, 3, 4, 5, 6, 7] rfl (vJ319 v34 h)
                      · replace h := iw_ift h177 h
                        refine iv_iconst (pc := 313) C (0 : Int32) dL_law_313 (by decide) ?_
                        refine iv_goto (pc := 314) C 319 dL_law_314 (by decide) ?_
                        exact iv_sub [0, 1, 2, 3, 4, 5, 6, 7] rfl (vJ319 (0 : Int32) h)
                  refine iv_icmp_ne (pc := 287) C 294 dL_law_287 (by decide) (fun h178 => ?_) (fun h178 => ?_)
                  · replace h := iw_iff h178 h
                    refine iv_iconst (pc := 294) C (1 : Int32) dL_law_294 (by decide) ?_
                    exact iv_sub [5, 6, 7, 8, 4, 3, 2, 0] rfl (vJ295 (1 : Int32) h)
                  · replace h := iw_ift h178 h
                    refine iv_iconst (pc := 290) C (0 : Int32) dL_law_290 (by decide) ?_
                    refine iv_goto (pc := 291) C 295 dL_law_291 (by decide) ?_
                    exact iv_sub [5, 6, 7, 8, 4, 3, 2, 0] rfl (vJ295 (0 : Int32) h)
                have vB99 : ∀ (k99 : iw_M → Option Int32) (r99 : Int32 → iw_M → Option Int32), (∀ (m25 : iw_M), k99 m25 = some 1 → iw_V p l e room_1 s m #[Value.ref b] below meth c0 cells slots (lw_Z below #[Value.ref b] s) 18 G (il_A s) m25 195 [(0, .ref b), (1, .ref (G.2.1 0)), (2, .ref (G.2.1 84)), (3, .int v1), (4, .int v24)] []) → (∀ (v179 : Int32) (m180 : iw_M), r99 v179 m180 = some 1 → iw_V p l e room_1 s m #[Value.ref b] below meth c0 cells slots (lw_Z below #[Value.ref b] s) 18 G (il_A s) m180 99 [(0, .ref b), (1, .ref (G.2.1 0)), (2, .ref (G.2.1 84)), (3, .int v1), (4, .int v24), (5, .int v179)] []) → ∀ (v179 : Int32) (m180 : iw_M), f_L_law_B99 n xs sL v24 k99 r99 v179 m180 = some 1 → iw_V p l e room_1 s m #[Value.ref b] below meth c0 cells slots (lw_Z below #[Value.ref b] s) 18 G (il_A s) m180 99 [(0, .ref b), (1, .ref (G.2.1 0)), (2, .ref (G.2.1 84)), (3, .int v1), (4, .int v24), (5, .int v179)] [] := by
                  intro k99 r99 hk99 hr99 v179 m180 h
                  unfold f_L_law_B99 at h
                  refine iv_iload (pc := 99) C 5 dL_law_99 rfl ?_
                  refine iv_iload (pc := 101) C 4 dL_law_101 rfl ?_
                  refine iv_icmp_ge (pc := 103) C 195 dL_law_103 (by decide) (fun h181 => ?_) (fun h181 => ?_)
                  · replace h := iw_ift h181 h
                    exact iv_sub [0, 1, 2, 3, 4] rfl (hk99 m180 h)
                  · replace h := iw_iff h181 h
                    refine iv_iconst (pc := 106) C (5 : Int32) dL_law_106 (by decide) ?_
                    refine iv_aload_n (pc := 107) C 0 dL_law_107 rfl rfl ?_
                    refine iv_iconst (pc := 108) C (1 : Int32) dL_law_108 (by decide) ?_
                    refine iv_iload (pc := 109) C 5 dL_law_109 rfl ?_
                    refine iv_iadd (pc := 111) C dL_law_111 ?_
                    obtain ⟨v182, ev182, h⟩ := iw_be h
                    refine iv_cell (pc := 112) C hX ev182 gL_law_L_cell (Nat.le_of_ble_eq_true rfl) dL_law_112 ?_
                    refine iv_bipush (pc := 115) C (60 : Int32) dL_law_115 (by decide) ?_
                    obtain ⟨v183, ev183, h⟩ := iw_be h
                    refine iv_callS (pc := 117) C [.int v182, .int (60 : Int32)] (k_L_low l G hJ v182 (60 : Int32) m180 ev183) gL_law_L_low rfl qd_L_low ⟨rfl, rfl, Nat.le_of_ble_eq_true rfl, Nat.le_of_ble_eq_true rfl⟩ rfl rfl (Nat.le_of_ble_eq_true rfl) dL_law_117 ?_
                    refine iv_iadd (pc := 120) C dL_law_120 ?_
                    refine iv_topi (fun v184 ev184 => ?_)
                    replace h := iw_lete ev184 h
                    refine iv_istore (pc := 121) C [(6, .int v184), (0, .ref b), (1, .ref (G.2.1 0)), (2, .ref (G.2.1 84)), (3, .int v1), (4, .int v24), (5, .int v179)] dL_law_121 (by decide) rfl ?_
                    refine iv_aload_n (pc := 123) C 2 dL_law_123 rfl rfl ?_
                    refine iv_iload (pc := 124) C 0 dL_law_124 rfl ?_
                    obtain ⟨v185, m186, ev185, h⟩ := iw_b2e h
                    refine iv_callV (pc := 126) (b := 0) (ci := 5) C [.int v184] (k_X5_addNode l G hJ n v184 m180 ev185) gL_law_X5_addNode rfl qd_X5_addNode ⟨rfl, rfl, Nat.le_of_ble_eq_true rfl, Nat.le_of_ble_eq_true rfl⟩ (iw_ix hJ (by decide)) iw_Eo0 rfl rfl rfl (Nat.le_of_ble_eq_true rfl) dL_law_126 ?_
                    refine iv_iload (pc := 129) C 6 dL_law_129 rfl ?_
                    refine iv_icmp_eq (pc := 131) C 136 dL_law_131 (by decide) (fun h187 => ?_) (fun h187 => ?_)
                    · replace h := iw_ift h187 h
                      refine iv_aload_n (pc := 136) C 3 dL_law_136 rfl rfl ?_
                      refine iv_iconst (pc := 137) C (0 : Int32) dL_law_137 (by decide) ?_
                      refine iv_dup2 (pc := 138) C rfl rfl dL_law_138 ?_
                      obtain ⟨v188, ev188, h⟩ := iw_be h
                      refine iv_rd (pc := 139) C 84 (iw_lx hJ rfl (by decide)) ev188 dL_law_139 ?_
                      refine iv_iload (pc := 140) C 0 dL_law_140 rfl ?_
                      refine iv_iadd (pc := 142) C dL_law_142 ?_
                      obtain ⟨m189, em189, h⟩ := iw_be h
                      refine iv_wr (pc := 143) C 84 (iw_lx hJ rfl (by decide)) em189 dL_law_143 ?_
                      refine iv_iload (pc := 144) C 6 dL_law_144 rfl ?_
                      have vJ189 : ∀ (m190 : iw_M), f_L_law_J189 r99 v179 m190 = some 1 → iw_V p l e room_1 s m #[Value.ref b] below meth c0 cells slots (lw_Z below #[Value.ref b] s) 18 G (il_A s) m190 189 [(0, .ref b), (1, .ref (G.2.1 0)), (2, .ref (G.2.1 84)), (3, .int v1), (4, .int v24), (5, .int v179)] [] := by
                        intro m190 h
                        unfold f_L_law_J189 at h
                        obtain ⟨v191, ev191⟩ : ∃ y : Int32, y = v179 + (1 : Int32) := ⟨_, rfl⟩
                        replace h := iw_lete ev191 h
                        refine iv_iinc (pc := 189) C 5 v191 [(5, .int v191), (0, .ref b), (1, .ref (G.2.1 0)), (2, .ref (G.2.1 84)), (3, .int v1), (4, .int v24)] dL_law_189 rfl (by rw [ev191]; rfl) (by decide) rfl ?_
                        refine iv_goto (pc := 192) C 99 dL_law_192 (by decide) ?_
                        exact iv_sub [1, 2, 3, 4, 5, 0] rfl (hr99 v191 m190 h)
                      refine iv_if_le (pc := 146) C 189 dL_law_146 (by decide) (fun h192 => ?_) (fun h192 => ?_)
                      · replace h := iw_ift h192 h
                        exact iv_sub [1, 2, 3, 4, 5, 6] rfl (vJ189 m189 h)
                      · replace h := iw_iff h192 h
                        refine iv_aload_n (pc := 149) C 2 dL_law_149 rfl rfl ?_
                        refine iv_iload (pc := 150) C 6 dL_law_150 rfl ?_
                        refine iv_aload_n (pc := 152) C 1 dL_law_152 rfl rfl ?_
                        refine iv_iconst (pc := 153) C (1 : Int32) dL_law_153 (by decide) ?_
                        refine iv_iload (pc := 154) C 6 dL_law_154 rfl ?_
                        refine iv_iadd (pc := 156) C dL_law_156 ?_
                        obtain ⟨v193, ev193, h⟩ := iw_be h
                        refine iv_cell (pc := 157) C hX ev193 gL_law_L_cell (Nat.le_of_ble_eq_true rfl) dL_law_157 ?_
                        refine iv_bipush (pc := 160) C (6 : Int32) dL_law_160 (by decide) ?_
                        refine iv_ishr (pc := 162) C dL_law_162 ?_
                        refine iv_iload (pc := 163) C 6 dL_law_163 rfl ?_
                        obtain ⟨v194, ev194, h⟩ := iw_be h
                        refine iv_callS (pc := 165) C [.int (v193 >>> ((6 : Int32) &&& 31)), .int v179] (k_L_low l G hJ (v193 >>> ((6 : Int32) &&& 31)) v179 m189 ev194) gL_law_L_low rfl qd_L_low ⟨rfl, rfl, Nat.le_of_ble_eq_true rfl, Nat.le_of_ble_eq_true rfl⟩ rfl rfl (Nat.le_of_ble_eq_true rfl) dL_law_165 ?_
                        refine iv_iconst (pc := 168) C (1 : Int32) dL_law_168 (by decide) ?_
                        refine iv_aload_n (pc := 169) C 1 dL_law_169 rfl rfl ?_
                        refine iv_iconst (pc := 170) C (1 : Int32) dL_law_170 (by decide) ?_
                        refine iv_iload (pc := 171) C 6 dL_law_171 rfl ?_
                        refine iv_iadd (pc := 173) C dL_law_173 ?_
                        obtain ⟨v195, ev195, h⟩ := iw_be h
                        refine iv_cell (pc := 174) C hX ev195 gL_law_L_cell (Nat.le_of_ble_eq_true rfl) dL_law_174 ?_
                        refine iv_bipush (pc := 177) C (10 : Int32) dL_law_177 (by decide) ?_
                        refine iv_ishr (pc := 179) C dL_law_179 ?_
                        refine iv_iconst (pc := 180) C (5 : Int32) dL_law_180 (by decide) ?_
                        obtain ⟨v196, ev196, h⟩ := iw_be h
                        refine iv_callS (pc := 181) C [.int (v195 >>> ((10 : Int32) &&& 31)), .int (5 : Int32)] (k_L_low l G hJ (v195 >>> ((10 : Int32) &&& 31)) (5 : Int32) m189 ev196) gL_law_L_low rfl qd_L_low ⟨rfl, rfl, Nat.le_of_ble_eq_true rfl, Nat.le_of_ble_eq_true rfl⟩ rfl rfl (Nat.le_of_ble_eq_true rfl) dL_law_181 ?_
                        refine iv_iadd (pc := 184) C dL_law_184 ?_
                        obtain ⟨v197, m198, ev197, h⟩ := iw_b2e h
                        refine iv_callV (pc := 185) (b := 0) (ci := 5) C [.int v179, .int v194, .int ((1 : Int32) + v196)] (k_X5_link l G hJ n v179 v194 ((1 : Int32) + v196) m189 ev197) gL_law_X5_link rfl qd_X5_link ⟨rfl, rfl, Nat.le_of_ble_eq_true rfl, Nat.le_of_ble_eq_true rfl⟩ (iw_ix hJ (by decide)) iw_Eo0 rfl rfl rfl (Nat.le_of_ble_eq_true rfl) dL_law_185 ?_
                        refine iv_pop (pc := 188) C rfl dL_law_188 ?_
                        exact iv_sub [1, 2, 3, 4, 5, 6] rfl (vJ189 m198 h)
                    · replace h := iw_iff h187 h
                      refine iv_iconst (pc := 134) C (0 : Int32) dL_law_134 (by decide) ?_
                      exact absurd (Option.some.inj h) (by decide)
                have vL99 : ∀ (nn : Nat) (v179 : Int32) (m180 : iw_M), f_L_law_L99 n xs sL v24 (f_L_law_X195_99 n xs sL v1 v24) nn v179 m180 = some 1 → iw_V p l e room_1 s m #[Value.ref b] below meth c0 cells slots (lw_Z below #[Value.ref b] s) 18 G (il_A s) m180 99 [(0, .ref b), (1, .ref (G.2.1 0)), (2, .ref (G.2.1 84)), (3, .int v1), (4, .int v24), (5, .int v179)] [] := by
                  intro nn
                  induction nn with
                  | zero => intro v179 m180 h; exact absurd h (fun q => by cases q)
                  | succ nn ih => intro v179 m180 h; exact vB99 (f_L_law_X195_99 n xs sL v1 v24) (f_L_law_L99 n xs sL v24 (f_L_law_X195_99 n xs sL v1 v24) nn) vX99 ih v179 m180 h
                exact iv_sub [3, 4, 5, 2, 1, 0] rfl (vL99 n (0 : Int32) m21 h)
              · replace h := iw_iff h22 h
                refine iv_iconst (pc := 85) C (0 : Int32) dL_law_85 (by decide) ?_
                exact absurd (Option.some.inj h) (by decide)
