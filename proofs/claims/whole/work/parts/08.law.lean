/-! the law: its judgement over the two memories -/
def il_A (s : State) : Nat → Prop := fun q => s.heap.size ≤ q
def il_C (p : Program) (s : State) (m : MethodId) (meth : Method) (c : Code) (b L : Nat) (xs : Nat → Int32) (cells slots : Nat) (Gx Gm : iw_G) : Prop :=
  p.tables.exec = Jvm.exec ∧ c.code = cL_law ∧ c.maxLocals = 4 ∧ s.vm.findClass RL = some m.cls ∧ (∀ w ∈ wsL_law, w.before #[Value.ref b] s = true) ∧ (iw_K Gx s ∧ iw_K Gm s) ∧ (iw_JX Gx ∧ iw_JM Gm) ∧ ((∀ a, iw_in Gx a → s.heap.size ≤ Gx.2.1 a) ∧ (∀ a, iw_in Gm a → s.heap.size ≤ Gm.2.1 a) ∧ ∀ a a', iw_in Gx a → iw_in Gm a' → Gx.2.1 a ≠ Gm.2.1 a') ∧ (cells ≤ 600000 ∧ slots ≤ 7302250) ∧ (va_X b L xs s s.heap ∧ b < s.heap.size ∧ L ≤ 3072) ∧ meth.sig.returnType = ret ∧ meth.locks = false
def il_V (p : Program) (l : Launch) (e : Env) (s : State) (m : MethodId) (below : List Frame) (meth : Method) (c : Code) (b cells slots : Nat) (Gx Gm : iw_G) (σx σm : iw_M) (pc : Nat) (lv : List (Nat × Value)) (st : List Value) : Prop :=
  ∀ (H : Heap) (locs : List Loc) (ls : Array Slot), va_P Gx.1 vwCl (iw_wl Gx σx) H → va_P Gm.1 vwCl (iw_wl Gm σm) H → va_S (il_A s) s.heap H locs → lv_has ls 4 lv → W p l e room_1 s m #[Value.ref b] below meth c H locs cells slots (lw_Z below #[Value.ref b] s) (F0 m pc ls st)
section IL
variable {p : Program} {l : Launch} {e : Env} {s : State} {m : MethodId} {below : List Frame} {meth : Method} {c : Code} {b L cells slots : Nat} {xs : Nat → Int32} {Gx Gm : iw_G} {σx σm : iw_M} {pc : Nat} {lv : List (Nat × Value)} {st : List Value}
theorem il_iconst (C : il_C p s m meth c b L xs cells slots Gx Gm) {n : Int} (v : Int32) (hdg : decode cL_law pc = .ok (.iconst n, 1)) (hv : Int32.ofInt n = v) (k : il_V p l e s m below meth c b cells slots Gx Gm σx σm (pc + 1) lv (.int v :: st)) : il_V p l e s m below meth c b cells slots Gx Gm σx σm pc lv st := fun H locs ls hP hQ hS hl => lv_iconst C.1 C.2.1 hdg hv (k H locs ls hP hQ hS hl)
theorem il_bipush (C : il_C p s m meth c b L xs cells slots Gx Gm) {n : Int} (v : Int32) (hdg : decode cL_law pc = .ok (.bipush n, 2)) (hv : (Int8.ofInt n).toInt32 = v) (k : il_V p l e s m below meth c b cells slots Gx Gm σx σm (pc + 2) lv (.int v :: st)) : il_V p l e s m below meth c b cells slots Gx Gm σx σm pc lv st := fun H locs ls hP hQ hS hl => lv_bipush C.1 C.2.1 hdg hv (k H locs ls hP hQ hS hl)
theorem il_iload_n (C : il_C p s m meth c b L xs cells slots Gx Gm) (j : Nat) {k : Fin 4} {i : Nat} {x : Int32} (hdg : decode cL_law pc = .ok (.iload_n k, 1)) (hi : (k : Nat) = i) (h : lv[j]? = some (i, .int x)) (q : il_V p l e s m below meth c b cells slots Gx Gm σx σm (pc + 1) lv (.int x :: st)) : il_V p l e s m below meth c b cells slots Gx Gm σx σm pc lv st := fun H locs ls hP hQ hS hl => lv_iload_n C.1 C.2.1 hdg hi (lv_at hl j h) (q H locs ls hP hQ hS hl)
theorem il_aload_n (C : il_C p s m meth c b L xs cells slots Gx Gm) (j : Nat) {k : Fin 4} {i : Nat} {x : Nat} (hdg : decode cL_law pc = .ok (.aload_n k, 1)) (hi : (k : Nat) = i) (h : lv[j]? = some (i, .ref x)) (q : il_V p l e s m below meth c b cells slots Gx Gm σx σm (pc + 1) lv (.ref x :: st)) : il_V p l e s m below meth c b cells slots Gx Gm σx σm pc lv st := fun H locs ls hP hQ hS hl => lv_aload_n C.1 C.2.1 hdg hi (lv_at hl j h) (q H locs ls hP hQ hS hl)
theorem il_iinc (C : il_C p s m meth c b L xs cells slots Gx Gm) (j : Nat) (v : Int32) (lv' : List (Nat × Value)) {i : Nat} {n : Int} {x : Int32} (hdg : decode cL_law pc = .ok (.iinc i n, 3)) (hk : lv[j]? = some (i, .int x)) (hv : x + Int32.ofInt n = v) (hn : i < 4) (h : (i, Value.int v) :: lv.filter (fun q => !(q.1 == i) && !(q.1 + 1 == i && q.2.category == 2)) = lv') (q : il_V p l e s m below meth c b cells slots Gx Gm σx σm (pc + 3) lv' st) : il_V p l e s m below meth c b cells slots Gx Gm σx σm pc lv st := fun H locs ls hP hQ hS hl => lv_iinc C.1 C.2.1 hdg hl hk hv hn h (fun ls' hl' => q H locs ls' hP hQ hS hl')
theorem il_iadd (C : il_C p s m meth c b L xs cells slots Gx Gm) {x y : Int32} (hdg : decode cL_law pc = .ok (.iadd, 1)) (q : il_V p l e s m below meth c b cells slots Gx Gm σx σm (pc + 1) lv (.int (x + y) :: st)) : il_V p l e s m below meth c b cells slots Gx Gm σx σm pc lv (.int y :: .int x :: st) := fun H locs ls hP hQ hS hl => lv_iadd C.1 C.2.1 hdg (q H locs ls hP hQ hS hl)
theorem il_isub (C : il_C p s m meth c b L xs cells slots Gx Gm) {x y : Int32} (hdg : decode cL_law pc = .ok (.isub, 1)) (q : il_V p l e s m below meth c b cells slots Gx Gm σx σm (pc + 1) lv (.int (x - y) :: st)) : il_V p l e s m below meth c b cells slots Gx Gm σx σm pc lv (.int y :: .int x :: st) := fun H locs ls hP hQ hS hl => lv_isub C.1 C.2.1 hdg (q H locs ls hP hQ hS hl)
theorem il_iand (C : il_C p s m meth c b L xs cells slots Gx Gm) {x y : Int32} (hdg : decode cL_law pc = .ok (.iand, 1)) (q : il_V p l e s m below meth c b cells slots Gx Gm σx σm (pc + 1) lv (.int (x &&& y) :: st)) : il_V p l e s m below meth c b cells slots Gx Gm σx σm pc lv (.int y :: .int x :: st) := fun H locs ls hP hQ hS hl => lv_iand C.1 C.2.1 hdg (q H locs ls hP hQ hS hl)
theorem il_goto (C : il_C p s m meth c b L xs cells slots Gx Gm) (tgt : Nat) {off : Int} (hdg : decode cL_law pc = .ok (.goto off, 3)) (ht : (pc : Int) + off = (tgt : Int)) (q : il_V p l e s m below meth c b cells slots Gx Gm σx σm tgt lv st) : il_V p l e s m below meth c b cells slots Gx Gm σx σm pc lv st := fun H locs ls hP hQ hS hl => lv_goto C.1 C.2.1 hdg ht (q H locs ls hP hQ hS hl)
theorem il_icmp_gt (C : il_C p s m meth c b L xs cells slots Gx Gm) (tgt : Nat) {x y : Int32} {off : Int} (hdg : decode cL_law pc = .ok (.if_icmp .gt off, 3)) (ht : (pc : Int) + off = (tgt : Int)) (kt : y < x → il_V p l e s m below meth c b cells slots Gx Gm σx σm tgt lv st) (kf : ¬ y < x → il_V p l e s m below meth c b cells slots Gx Gm σx σm (pc + 3) lv st) : il_V p l e s m below meth c b cells slots Gx Gm σx σm pc lv (.int y :: .int x :: st) := fun H locs ls hP hQ hS hl => lv_icmp_gt C.1 C.2.1 hdg ht (fun h => kt h H locs ls hP hQ hS hl) (fun h => kf h H locs ls hP hQ hS hl)
theorem il_same (C : il_C p s m meth c b L xs cells slots Gx Gm) (tgt : Nat) {x : Int32} {off : Int} (hdg : decode cL_law pc = .ok (.if_icmp .eq off, 3)) (ht : (pc : Int) + off = (tgt : Int)) (kt : il_V p l e s m below meth c b cells slots Gx Gm σx σm tgt lv st) : il_V p l e s m below meth c b cells slots Gx Gm σx σm pc lv (.int x :: .int x :: st) := fun H locs ls hP hQ hS hl => lv_icmp_eq C.1 C.2.1 hdg ht (fun _ => kt H locs ls hP hQ hS hl) (fun h => absurd rfl h)
theorem il_tin (C : il_C p s m meth c b L xs cells slots Gx Gm) {dflt lo hi : Int} {offs : Array Int} {len : Nat} {x : Int32} {off : Int} (tgt : Nat) (hdg : decode cL_law pc = .ok (.tableswitch dflt lo hi offs, len)) (h1 : ¬ x.toInt < lo) (h2 : ¬ hi < x.toInt) (ho : offs[(x.toInt - lo).toNat]? = some off) (ht : (pc : Int) + off = (tgt : Int)) (q : il_V p l e s m below meth c b cells slots Gx Gm σx σm tgt lv st) : il_V p l e s m below meth c b cells slots Gx Gm σx σm pc lv (.int x :: st) := fun H locs ls hP hQ hS hl => lv_tableIn C.1 C.2.1 hdg h1 h2 ho ht (q H locs ls hP hQ hS hl)
theorem il_tout (C : il_C p s m meth c b L xs cells slots Gx Gm) {dflt lo hi : Int} {offs : Array Int} {len : Nat} {x : Int32} (tgt : Nat) (hdg : decode cL_law pc = .ok (.tableswitch dflt lo hi offs, len)) (h : x.toInt < lo ∨ hi < x.toInt) (ht : (pc : Int) + dflt = (tgt : Int)) (q : il_V p l e s m below meth c b cells slots Gx Gm σx σm tgt lv st) : il_V p l e s m below meth c b cells slots Gx Gm σx σm pc lv (.int x :: st) := fun H locs ls hP hQ hS hl => lv_tableOut C.1 C.2.1 hdg h ht (q H locs ls hP hQ hS hl)
theorem il_b (C : il_C p s m meth c b L xs cells slots Gx Gm) : ¬ il_A s b := Nat.not_le.mpr C.2.2.2.2.2.2.2.2.2.1.2.1
theorem il_slen (C : il_C p s m meth c b L xs cells slots Gx Gm) (hdg : decode cL_law pc = .ok (.arraylength, 1)) (q : il_V p l e s m below meth c b cells slots Gx Gm σx σm (pc + 1) lv (.int (nI L) :: st)) : il_V p l e s m below meth c b cells slots Gx Gm σx σm pc lv (.ref b :: st) := fun H locs ls hP hQ hS hl => va_slen C.1 C.2.1 C.2.2.2.2.2.2.2.2.2.1.1 C.2.2.2.2.2.2.2.2.2.1.2.1 (il_b C) hS hdg (q H locs ls hP hQ hS hl)
theorem il_sld (C : il_C p s m meth c b L xs cells slots Gx Gm) {i : Int32} (hin : vp_in i L) (hdg : decode cL_law pc = .ok (.iaload, 1)) (q : il_V p l e s m below meth c b cells slots Gx Gm σx σm (pc + 1) lv (.int (xs i.toNatClampNeg) :: st)) : il_V p l e s m below meth c b cells slots Gx Gm σx σm pc lv (.int i :: .ref b :: st) := fun H locs ls hP hQ hS hl => va_sld C.1 C.2.1 C.2.2.2.2.2.2.2.2.2.1.1 C.2.2.2.2.2.2.2.2.2.1.2.1 (il_b C) hS hin hdg (q H locs ls hP hQ hS hl)
theorem il_topi {x : Int32} (q : ∀ y : Int32, y = x → il_V p l e s m below meth c b cells slots Gx Gm σx σm pc lv (.int y :: st)) : il_V p l e s m below meth c b cells slots Gx Gm σx σm pc lv (.int x :: st) := q x rfl
theorem il_lcmp (C : il_C p s m meth c b L xs cells slots Gx Gm) {x : Int64} (tgt : Nat) {off : Int} (hdg : decode cL_law pc = .ok (.lcmp, 1)) (hdg2 : decode cL_law (pc + 1) = .ok (.ifCond .eq off, 3)) (ht : ((pc + 1 : Nat) : Int) + off = (tgt : Int)) (q : il_V p l e s m below meth c b cells slots Gx Gm σx σm tgt lv st) : il_V p l e s m below meth c b cells slots Gx Gm σx σm pc lv (.long x :: .long x :: st) := fun H locs ls hP hQ hS hl => W.lcmp C.1 C.2.1 hdg (lv_if_eq C.1 C.2.1 hdg2 ht (fun _ => q H locs ls hP hQ hS hl) (fun h => absurd (by simp [lg_cmp]) h))
theorem il_callx (C : il_C p s m meth c b L xs cells slots Gx Gm) {as : List Value} {v : Option Value} {σx' : iw_M} {st0 : List Value} (hr : ∀ (H : Heap) (locs : List Loc) (ls : Array Slot), va_P Gx.1 vwCl (iw_wl Gx σx) H → va_P Gm.1 vwCl (iw_wl Gm σm) H → va_S (il_A s) s.heap H locs → lv_has ls 4 lv → va_Run p l e room_1 s m #[Value.ref b] below meth c H locs cells slots 0 0 (F0 m pc ls st0) st (iw_Q v Gx σx' as.toArray) (iw_A Gx)) (q : il_V p l e s m below meth c b cells slots Gx Gm σx' σm (pc + 3) lv (v.toList ++ st)) : il_V p l e s m below meth c b cells slots Gx Gm σx σm pc lv st0 := by
  intro H locs ls hP hQ hS hl T hT X
  obtain ⟨v1, st₀, t, T', L, h0, X', hL, e1, e2, ⟨hv, hw, hz, hk⟩, hst⟩ := hr H locs ls hP hQ hS hl T hT X
  have hv : v1 = v := by injection hv
  subst hv
  rw [h0] at hz hk
  have hA : ∀ q, iw_A Gx q → il_A s q := fun q ⟨a, h1, h2⟩ => by rw [h2]; exact C.2.2.2.2.2.2.2.1.1 a h1
  have hOther : va_P Gm.1 vwCl (iw_wl Gm σm) T'.heap := by
    intro k q hq
    obtain ⟨hi, rfl⟩ := iw_lt hq
    have hold := hQ k _ hq
    refine hold.kept ?_
    rw [e1]
    exact hk _ hold.lt (fun ⟨a, h1, h2⟩ => C.2.2.2.2.2.2.2.1.2.2 a _ h1 hi h2.symm)
  obtain ⟨t2, a1, b1⟩ := q T'.heap (locs ++ L) ls (by rw [e1]; exact hw.1) hOther
    ⟨Nat.le_trans hS.1 (by rw [e1]; exact hz), fun q h1 h2 => by rw [e1, hk q (Nat.lt_of_lt_of_le h1 hS.1) (fun z => h2 (hA q z))]; exact hS.2.1 q h1 h2, fun q hq => by
      rcases List.mem_append.mp hq with h | h
      · exact hS.2.2 q h
      · exact hA _ (hL q h)⟩ hl T' rfl X'
  exact ⟨t2, hst t2 a1, b1⟩
theorem il_callxV (C : il_C p s m meth c b L xs cells slots Gx Gm) {y : MethodName} {ws ws' : List Cond} {rm : Room} {maxL index n : Nat} {ret : Option FieldType} {bytes : ByteArray} (As : List Value) {v : Option Value} {σx' : iw_M} {st0 : List Value} (hM : iw_Ct l y ws rm Gx (.ref (Gx.2.1 0) :: As) σx v σx') (hG : GoodIn wsL_law (wsV RL index RX5 y ws)) (hw : ws = Cond.code y bytes maxL ret :: ws') (hd : y.cls = RX5 ∧ y.cls ≠ "java/lang/invoke/MethodHandle" ∧ y.cls ≠ "java/lang/invoke/VarHandle" ∧ (parseMethodDescriptor y.desc).map (fun d => d.parameters.length) = some n) (hrm : rm.cells = 0 ∧ rm.slots = 0 ∧ rm.frames + 1 ≤ 10 ∧ 8 + (maxL + 11) + rm.locals ≤ 380) (hn : As.length = n) (hst : st0 = As.reverse ++ .ref (Gx.2.1 0) :: st) (hcat : (st.map fun v => v.category).sum ≤ 8) (hdg : decode cL_law pc = .ok (.invokevirtual index, 3)) (q : il_V p l e s m below meth c b cells slots Gx Gm σx' σm (pc + 3) lv (v.toList ++ st)) : il_V p l e s m below meth c b cells slots Gx Gm σx σm pc lv st0 :=
  il_callx C (fun H locs ls hP hQ hS hl => va_runV (As := As) (rest := st) ⟨C.1, C.2.1, C.2.2.1, C.2.2.2.1, C.2.2.2.2.1⟩ hM (cwV n C.2.2.2.2.1 hG hw hrm.1 hrm.2.1 hd hrm.2.2) ⟨iw_blind, va_recv C.2.2.2.2.2.1.1.1 hP (q := (RX5, TX5, 5)) (ci := 5) rfl (show (iw_wl Gx σx)[0 - Gx.2.2.2.2.2.1]? = some (Gx.2.1 0, _) by rw [iw_at (iw_ix C.2.2.2.2.2.2.1.1 (by decide)), iw_Eo0]), fun U hU hW => ⟨rfl, by rw [hU]; exact hP, iw_K.warm hW C.2.2.2.2.2.1.1⟩⟩ rfl hn hl.1 hst (lv_room hcat) hdg ⟨C.2.2.2.2.2.2.2.2.1.1, C.2.2.2.2.2.2.2.2.1.2⟩) q
theorem il_callm (C : il_C p s m meth c b L xs cells slots Gx Gm) {as : List Value} {v : Option Value} {σm' : iw_M} {st0 : List Value} (hr : ∀ (H : Heap) (locs : List Loc) (ls : Array Slot), va_P Gx.1 vwCl (iw_wl Gx σx) H → va_P Gm.1 vwCl (iw_wl Gm σm) H → va_S (il_A s) s.heap H locs → lv_has ls 4 lv → va_Run p l e room_1 s m #[Value.ref b] below meth c H locs cells slots 0 0 (F0 m pc ls st0) st (iw_Q v Gm σm' as.toArray) (iw_A Gm)) (q : il_V p l e s m below meth c b cells slots Gx Gm σx σm' (pc + 3) lv (v.toList ++ st)) : il_V p l e s m below meth c b cells slots Gx Gm σx σm pc lv st0 := by
  intro H locs ls hP hQ hS hl T hT X
  obtain ⟨v1, st₀, t, T', L, h0, X', hL, e1, e2, ⟨hv, hw, hz, hk⟩, hst⟩ := hr H locs ls hP hQ hS hl T hT X
  have hv : v1 = v := by injection hv
  subst hv
  rw [h0] at hz hk
  have hA : ∀ q, iw_A Gm q → il_A s q := fun q ⟨a, h1, h2⟩ => by rw [h2]; exact C.2.2.2.2.2.2.2.1.2.1 a h1
  have hOther : va_P Gx.1 vwCl (iw_wl Gx σx) T'.heap := by
    intro k q hq
    obtain ⟨hi, rfl⟩ := iw_lt hq
    have hold := hP k _ hq
    refine hold.kept ?_
    rw [e1]
    exact hk _ hold.lt (fun ⟨a, h1, h2⟩ => C.2.2.2.2.2.2.2.1.2.2 _ a hi h1 h2)
  obtain ⟨t2, a1, b1⟩ := q T'.heap (locs ++ L) ls hOther (by rw [e1]; exact hw.1)
    ⟨Nat.le_trans hS.1 (by rw [e1]; exact hz), fun q h1 h2 => by rw [e1, hk q (Nat.lt_of_lt_of_le h1 hS.1) (fun z => h2 (hA q z))]; exact hS.2.1 q h1 h2, fun q hq => by
      rcases List.mem_append.mp hq with h | h
      · exact hS.2.2 q h
      · exact hA _ (hL q h)⟩ hl T' rfl X'
  exact ⟨t2, hst t2 a1, b1⟩
theorem il_callmV (C : il_C p s m meth c b L xs cells slots Gx Gm) {y : MethodName} {ws ws' : List Cond} {rm : Room} {maxL index n : Nat} {ret : Option FieldType} {bytes : ByteArray} (As : List Value) {v : Option Value} {σm' : iw_M} {st0 : List Value} (hM : iw_Ct l y ws rm Gm (.ref (Gm.2.1 84) :: As) σm v σm') (hG : GoodIn wsL_law (wsV RL index RX6 y ws)) (hw : ws = Cond.code y bytes maxL ret :: ws') (hd : y.cls = RX6 ∧ y.cls ≠ "java/lang/invoke/MethodHandle" ∧ y.cls ≠ "java/lang/invoke/VarHandle" ∧ (parseMethodDescriptor y.desc).map (fun d => d.parameters.length) = some n) (hrm : rm.cells = 0 ∧ rm.slots = 0 ∧ rm.frames + 1 ≤ 10 ∧ 8 + (maxL + 11) + rm.locals ≤ 380) (hn : As.length = n) (hst : st0 = As.reverse ++ .ref (Gm.2.1 84) :: st) (hcat : (st.map fun v => v.category).sum ≤ 8) (hdg : decode cL_law pc = .ok (.invokevirtual index, 3)) (q : il_V p l e s m below meth c b cells slots Gx Gm σx σm' (pc + 3) lv (v.toList ++ st)) : il_V p l e s m below meth c b cells slots Gx Gm σx σm pc lv st0 :=
  il_callm C (fun H locs ls hP hQ hS hl => va_runV (As := As) (rest := st) ⟨C.1, C.2.1, C.2.2.1, C.2.2.2.1, C.2.2.2.2.1⟩ hM (cwV n C.2.2.2.2.1 hG hw hrm.1 hrm.2.1 hd hrm.2.2) ⟨iw_blind, va_recv C.2.2.2.2.2.1.2.1 hQ (q := (RX6, TX6, 16)) (ci := 6) rfl (show (iw_wl Gm σm)[84 - Gm.2.2.2.2.2.1]? = some (Gm.2.1 84, _) by rw [iw_at (iw_im C.2.2.2.2.2.2.1.2 (by decide)), iw_Eo84]), fun U hU hW => ⟨rfl, by rw [hU]; exact hQ, iw_K.warm hW C.2.2.2.2.2.1.2⟩⟩ rfl hn hl.1 hst (lv_room hcat) hdg ⟨C.2.2.2.2.2.2.2.2.1.1, C.2.2.2.2.2.2.2.2.1.2⟩) q
theorem il_end (C : il_C p s m meth c b L xs cells slots Gx Gm) (hdg : decode cL_law 958 = .ok (.iconst 1, 1)) (hdg2 : decode cL_law 959 = .ok (.ireturn, 1)) : il_V p l e s m below meth c b cells slots Gx Gm σx σm 958 lv [] := fun H locs ls hP hQ hS hl => by
  refine lv_iconst (v := 1) C.1 C.2.1 hdg (by decide) ?_
  refine va_forget (fun q hq => hS.2.2 q hq) ?_
  refine W.widen (k := 600000) (n := 7302250) C.2.2.2.2.2.2.2.2.1.1 C.2.2.2.2.2.2.2.2.1.2 ?_
  exact lw_ret C.1 C.2.1 C.2.2.2.2.2.2.2.2.2.2.1 C.2.2.2.2.2.2.2.2.2.2.2 hdg2
theorem il_le {k L : Nat} (hk : k < 2 ^ 30) (hL : L < 2 ^ 30) (h : ¬ nI L - 6 < nI k) : k + 6 ≤ L := by
  have e6 : (6 : Int32) = nI 6 := by decide
  rw [e6] at h
  have h1 := pk_sub_toInt (a := L) (b := 6) hL (by decide)
  have h2 : ¬ (nI L - nI 6).toInt < (nI k).toInt := fun q => h (Int32.lt_iff_toInt_lt.mpr q)
  rw [h1, nI_toInt (by omega)] at h2
  omega
theorem il_in {k j L : Nat} (hL : L < 2 ^ 31) (h : k + j < L) {y : Int32} (hy : y = nI j) : vp_in (nI k + y) L := by
  rw [hy, nI_add]
  exact vp_in_nI h hL
end IL
def sim_addNode (n : Nat) (RR : iw_M → iw_M → Prop) : Prop := ∀ (p1 : Int32) (σx σm : iw_M), RR σx σm → ∃ (r : Int32) (σx' σm' : iw_M), (f_X5_addNode n p1 σx = some (r, σx')) ∧ (f_X6_addNode n p1 σm = some (r, σm')) ∧ RR σx' σm'
def sim_charge (n : Nat) (RR : iw_M → iw_M → Prop) : Prop := ∀ (p1 : Int32) (p2 : Int32) (σx σm : iw_M), RR σx σm → ∃ (r : Int32) (σx' σm' : iw_M), (f_X5_charge p1 p2 σx = (r, σx')) ∧ (f_X6_charge n p1 p2 σm = some (r, σm')) ∧ RR σx' σm'
def sim_link (n : Nat) (RR : iw_M → iw_M → Prop) : Prop := ∀ (p1 : Int32) (p2 : Int32) (p3 : Int32) (σx σm : iw_M), RR σx σm → ∃ (r : Int32) (σx' σm' : iw_M), (f_X5_link n p1 p2 p3 σx = some (r, σx')) ∧ (f_X6_link n p1 p2 p3 σm = some (r, σm')) ∧ RR σx' σm'
def sim_cut (n : Nat) (RR : iw_M → iw_M → Prop) : Prop := ∀ (p1 : Int32) (σx σm : iw_M), RR σx σm → ∃ (r : Int32) (σx' σm' : iw_M), (f_X5_cut n p1 σx = some (r, σx')) ∧ (f_X6_cut n p1 σm = some (r, σm')) ∧ RR σx' σm'
def sim_addSensor (n : Nat) (RR : iw_M → iw_M → Prop) : Prop := ∀ (p1 : Int32) (p2 : Int32) (p3 : Int32) (σx σm : iw_M), RR σx σm → ∃ (r : Int32) (σx' σm' : iw_M), (f_X5_addSensor n p1 p2 p3 σx = some (r, σx')) ∧ (f_X6_addSensor n p1 p2 p3 σm = some (r, σm')) ∧ RR σx' σm'
def sim_measure (n : Nat) (RR : iw_M → iw_M → Prop) : Prop := ∀ (p1 : Int32) (p2 : Int32) (σx σm : iw_M), RR σx σm → ∃ (r : Int32) (σx' σm' : iw_M), (f_X5_measure p1 p2 σx = (r, σx')) ∧ (f_X6_measure n p1 p2 σm = some (r, σm')) ∧ RR σx' σm'
def sim_ask (n : Nat) (RR : iw_M → iw_M → Prop) : Prop := ∀ (p1 : Int32) (p2 : Int32) (p3 : Int32) (p4 : Int32) (p5 : Int32) (σx σm : iw_M), RR σx σm → ∃ (r : Int32) (σx' σm' : iw_M), (f_X5_ask n p1 p2 p3 p4 p5 σx = some (r, σx')) ∧ (f_X6_ask n p1 p2 p3 p4 p5 σm = some (r, σm')) ∧ RR σx' σm'
def sim_withdraw (n : Nat) (RR : iw_M → iw_M → Prop) : Prop := ∀ (p1 : Int32) (σx σm : iw_M), RR σx σm → ∃ (r : Int32) (σx' σm' : iw_M), (f_X5_withdraw n p1 σx = some (r, σx')) ∧ (f_X6_withdraw n p1 σm = some (r, σm')) ∧ RR σx' σm'
def sim_setPeriod (n : Nat) (RR : iw_M → iw_M → Prop) : Prop := ∀ (p1 : Int32) (σx σm : iw_M), RR σx σm → ∃ (r : Int32) (σx' σm' : iw_M), (f_X5_setPeriod n p1 σx = some (r, σx')) ∧ (f_X6_setPeriod n p1 σm = some (r, σm')) ∧ RR σx' σm'
def sim_count (n : Nat) (RR : iw_M → iw_M → Prop) : Prop := ∀ (p1 : Int32) (σx σm : iw_M), RR σx σm → ∃ (r : Int32) (σx' σm' : iw_M), (f_X5_count n p1 σx = some r ∧ σx' = σx) ∧ (f_X6_count n p1 σm = some r ∧ σm' = σm) ∧ RR σx' σm'
def sim_energy (n : Nat) (RR : iw_M → iw_M → Prop) : Prop := ∀ (p1 : Int32) (σx σm : iw_M), RR σx σm → ∃ (r : Int32) (σx' σm' : iw_M), (f_X5_energy p1 σx = r ∧ σx' = σx) ∧ (f_X6_energy p1 σm = some r ∧ σm' = σm) ∧ RR σx' σm'
def sim_linkPart (n : Nat) (RR : iw_M → iw_M → Prop) : Prop := ∀ (p1 : Int32) (p2 : Int32) (σx σm : iw_M), RR σx σm → ∃ (r : Int32) (σx' σm' : iw_M), (f_X5_linkPart p1 p2 σx = r ∧ σx' = σx) ∧ (f_X6_linkPart p1 p2 σm = some r ∧ σm' = σm) ∧ RR σx' σm'
def sim_sensor (n : Nat) (RR : iw_M → iw_M → Prop) : Prop := ∀ (p1 : Int32) (p2 : Int32) (σx σm : iw_M), RR σx σm → ∃ (r : Int32) (σx' σm' : iw_M), (f_X5_sensor p1 p2 σx = r ∧ σx' = σx) ∧ (f_X6_sensor p1 p2 σm = some r ∧ σm' = σm) ∧ RR σx' σm'
def sim_interest (n : Nat) (RR : iw_M → iw_M → Prop) : Prop := ∀ (p1 : Int32) (p2 : Int32) (σx σm : iw_M), RR σx σm → ∃ (r : Int32) (σx' σm' : iw_M), (f_X5_interest n p1 p2 σx = some r ∧ σx' = σx) ∧ (f_X6_interest n p1 p2 σm = some r ∧ σm' = σm) ∧ RR σx' σm'
def sim_rounds (n : Nat) (RR : iw_M → iw_M → Prop) : Prop := ∀ (p1 : Int32) (σx σm : iw_M), RR σx σm → ∃ (r : Int32) (σx' σm' : iw_M), (f_X5_rounds n p1 σx = some (r, σx')) ∧ (f_X6_rounds n p1 σm = some (r, σm')) ∧ RR σx' σm'
def sim_wayLength (n : Nat) (RR : iw_M → iw_M → Prop) : Prop := ∀ (p1 : Int32) (p2 : Int32) (σx σm : iw_M), RR σx σm → ∃ (r : Int32) (σx' σm' : iw_M), (f_X5_wayLength p1 p2 σx = r ∧ σx' = σx) ∧ (f_X6_wayLength p1 p2 σm = some r ∧ σm' = σm) ∧ RR σx' σm'
def sim_wayNode (n : Nat) (RR : iw_M → iw_M → Prop) : Prop := ∀ (p1 : Int32) (p2 : Int32) (p3 : Int32) (σx σm : iw_M), RR σx σm → ∃ (r : Int32) (σx' σm' : iw_M), (f_X5_wayNode p1 p2 p3 σx = r ∧ σx' = σx) ∧ (f_X6_wayNode p1 p2 p3 σm = some r ∧ σm' = σm) ∧ RR σx' σm'
def sim_isWhole (n : Nat) (RR : iw_M → iw_M → Prop) : Prop := ∀ (p1 : Int32) (p2 : Int32) (σx σm : iw_M), RR σx σm → ∃ (r : Int32) (σx' σm' : iw_M), (f_X5_isWhole n p1 p2 σx = some (r, σx')) ∧ (f_X6_isWhole n p1 p2 σm = some r ∧ σm' = σm) ∧ RR σx' σm'
def sim_quickest (n : Nat) (RR : iw_M → iw_M → Prop) : Prop := ∀ (p1 : Int32) (p2 : Int32) (σx σm : iw_M), RR σx σm → ∃ (r : Int32) (σx' σm' : iw_M), (f_X5_quickest n p1 p2 σx = some (r, σx')) ∧ (f_X6_quickest n p1 p2 σm = some (r, σm')) ∧ RR σx' σm'
def sim_load (n : Nat) (RR : iw_M → iw_M → Prop) : Prop := ∀ (p1 : Int32) (σx σm : iw_M), RR σx σm → ∃ (r : Int32) (σx' σm' : iw_M), (f_X5_load n p1 σx = some r ∧ σx' = σx) ∧ (f_X6_load n p1 σm = some r ∧ σm' = σm) ∧ RR σx' σm'
def sim_firstDeath (n : Nat) (RR : iw_M → iw_M → Prop) : Prop := ∀ (σx σm : iw_M), RR σx σm → ∃ (r : Int32) (σx' σm' : iw_M), (f_X5_firstDeath n σx = some (r, σx')) ∧ (f_X6_firstDeath n σm = some (r, σm')) ∧ RR σx' σm'
def sim_willDeliver (n : Nat) (RR : iw_M → iw_M → Prop) : Prop := ∀ (p1 : Int32) (σx σm : iw_M), RR σx σm → ∃ (r : Int32) (σx' σm' : iw_M), (f_X5_willDeliver n p1 σx = some (r, σx')) ∧ (f_X6_willDeliver n p1 σm = some (r, σm')) ∧ RR σx' σm'
def sim_bestPeriod (n : Nat) (RR : iw_M → iw_M → Prop) : Prop := ∀ (p1 : Int32) (σx σm : iw_M), RR σx σm → ∃ (r : Int32) (σx' σm' : iw_M), (f_X5_bestPeriod n p1 σx = some (r, σx')) ∧ (f_X6_bestPeriod n p1 σm = some (r, σm')) ∧ RR σx' σm'
def sim_undo (n : Nat) (RR : iw_M → iw_M → Prop) : Prop := ∀ (σx σm : iw_M), RR σx σm → ∃ (r : Int32) (σx' σm' : iw_M), (f_X5_undo σx = (r, σx')) ∧ (f_X6_undo n σm = some (r, σm')) ∧ RR σx' σm'
def sim_type (n : Nat) (RR : iw_M → iw_M → Prop) : Prop := ∀ (p1 : Int32) (σx σm : iw_M), RR σx σm → ∃ (r : Int32) (σx' σm' : iw_M), (f_X5_type p1 σx = (r, σx')) ∧ (f_X6_type p1 σm = some (r, σm')) ∧ RR σx' σm'
def sim_clearText (n : Nat) (RR : iw_M → iw_M → Prop) : Prop := ∀ (σx σm : iw_M), RR σx σm → ∃ (r : Int32) (σx' σm' : iw_M), (f_X5_clearText σx = (r, σx')) ∧ (f_X6_clearText σm = (r, σm')) ∧ RR σx' σm'
def sim_textFault (n : Nat) (RR : iw_M → iw_M → Prop) : Prop := ∀ (σx σm : iw_M), RR σx σm → ∃ (r : Int32) (σx' σm' : iw_M), (f_X5_textFault n σx = some (r, σx')) ∧ (f_X6_textFault n σm = some (r, σm')) ∧ RR σx' σm'
def sim_build (n : Nat) (RR : iw_M → iw_M → Prop) : Prop := ∀ (σx σm : iw_M), RR σx σm → ∃ (r : Int32) (σx' σm' : iw_M), (f_X5_build n σx = some (r, σx')) ∧ (f_X6_build n σm = some (r, σm')) ∧ RR σx' σm'
def sim_digest (n : Nat) (RR : iw_M → iw_M → Prop) : Prop := ∀ (σx σm : iw_M), RR σx σm → ∃ (r : Int64) (σx' σm' : iw_M), (f_X5_digest n σx = some r ∧ σx' = σx) ∧ (f_X6_digest n σm = some (r, σm')) ∧ RR σx' σm'
def iL_Sim (n : Nat) (RR : iw_M → iw_M → Prop) : Prop := sim_addNode n RR ∧ sim_charge n RR ∧ sim_link n RR ∧ sim_cut n RR ∧ sim_addSensor n RR ∧ sim_measure n RR ∧ sim_ask n RR ∧ sim_withdraw n RR ∧ sim_setPeriod n RR ∧ sim_count n RR ∧ sim_energy n RR ∧ sim_linkPart n RR ∧ sim_sensor n RR ∧ sim_interest n RR ∧ sim_rounds n RR ∧ sim_wayLength n RR ∧ sim_wayNode n RR ∧ sim_isWhole n RR ∧ sim_quickest n RR ∧ sim_load n RR ∧ sim_firstDeath n RR ∧ sim_willDeliver n RR ∧ sim_bestPeriod n RR ∧ sim_undo n RR ∧ sim_type n RR ∧ sim_clearText n RR ∧ sim_textFault n RR ∧ sim_build n RR ∧ sim_digest n RR
set_option maxHeartbeats 8000000 in
set_option maxRecDepth 100000 in
theorem law_loop {p : Program} {l : Launch} {e : Env} {s : State} {m : MethodId} {below : List Frame} {meth : Method} {c : Code} {b L cells slots : Nat} {xs : Nat → Int32} {Gx Gm : iw_G} (C : il_C p s m meth c b L xs cells slots Gx Gm) (n : Nat) (RR : iw_M → iw_M → Prop) (S : iL_Sim n RR) :
    ∀ (d k : Nat) (σx σm : iw_M), RR σx σm → L < k + d → k < 2 ^ 20 → il_V p l e s m below meth c b cells slots Gx Gm σx σm 18 [(0, .ref b), (1, .ref (Gx.2.1 0)), (2, .ref (Gm.2.1 84)), (3, .int (nI k))] [] := by
  have hL : L ≤ 3072 := C.2.2.2.2.2.2.2.2.2.1.2.2
  obtain ⟨hJx, hJm⟩ := C.2.2.2.2.2.2.1
  obtain ⟨S0, S1, S2, S3, S4, S5, S6, S7, S8, S9, S10, S11, S12, S13, S14, S15, S16, S17, S18, S19, S20, S21, S22, S23, S24, S25, S26, S27, S28⟩ := S
  intro d
  induction d with
  | zero =>
    intro k σx σm hR hd hk
    refine il_iload_n (pc := 18) C 3 dL_law_18 rfl rfl ?_
    refine il_aload_n (pc := 19) C 0 dL_law_19 rfl rfl ?_
    refine il_slen (pc := 20) C dL_law_20 ?_
    refine il_bipush (pc := 21) C (6 : Int32) dL_law_21 (by decide) ?_
    refine il_isub (pc := 23) C dL_law_23 ?_
    refine il_icmp_gt (pc := 24) C 958 dL_law_24 (by decide) (fun h => ?_) (fun h => ?_)
    · exact il_end C dL_law_958 dL_law_959
    · have := il_le (by omega) (by omega) h
      omega
  | succ d ih =>
    intro k σx σm hR hd hk
    refine il_iload_n (pc := 18) C 3 dL_law_18 rfl rfl ?_
    refine il_aload_n (pc := 19) C 0 dL_law_19 rfl rfl ?_
    refine il_slen (pc := 20) C dL_law_20 ?_
    refine il_bipush (pc := 21) C (6 : Int32) dL_law_21 (by decide) ?_
    refine il_isub (pc := 23) C dL_law_23 ?_
    refine il_icmp_gt (pc := 24) C 958 dL_law_24 (by decide) (fun h => ?_) (fun h => ?_)
    · exact il_end C dL_law_958 dL_law_959
    have hk6 := il_le (by omega) (by omega) h
    have hin0 : vp_in (nI k) L := vp_in_nI (by omega) (by omega)
    have hin1 : vp_in (nI k + 1) L := il_in (j := 1) (by omega) (by omega) (by decide)
    have hin2 : vp_in (nI k + 2) L := il_in (j := 2) (by omega) (by omega) (by decide)
    have hin3 : vp_in (nI k + 3) L := il_in (j := 3) (by omega) (by omega) (by decide)
    have hin4 : vp_in (nI k + 4) L := il_in (j := 4) (by omega) (by omega) (by decide)
    have hin5 : vp_in (nI k + 5) L := il_in (j := 5) (by omega) (by omega) (by decide)
    have next : ∀ (σx' σm' : iw_M), RR σx' σm' → il_V p l e s m below meth c b cells slots Gx Gm σx' σm' 952 [(0, .ref b), (1, .ref (Gx.2.1 0)), (2, .ref (Gm.2.1 84)), (3, .int (nI k))] [] := by
      intro σx' σm' hR'
      refine il_iinc (pc := 952) C 3 (nI (k + 6)) [(3, .int (nI (k + 6))), (0, .ref b), (1, .ref (Gx.2.1 0)), (2, .ref (Gm.2.1 84))] dL_law_952 rfl (by rw [← nI_add]; rfl) (by decide) rfl ?_
      refine il_goto (pc := 955) C 18 dL_law_955 (by decide) ?_
      exact fun H locs ls hP hQ hS hl => ih (k + 6) σx' σm' hR' (by omega) (by omega) H locs ls hP hQ hS (lv_sub hl [1, 2, 3, 0] rfl)
    refine il_aload_n (pc := 27) C 0 dL_law_27 rfl rfl ?_
    refine il_iload_n (pc := 28) C 3 dL_law_28 rfl rfl ?_
    refine il_sld (pc := 29) C hin0 dL_law_29 ?_
    refine il_bipush (pc := 30) C (31 : Int32) dL_law_30 (by decide) ?_
    refine il_iand (pc := 32) C dL_law_32 ?_
    obtain ⟨j, hj, ej⟩ := pk_andE (xs (nI k).toNatClampNeg) (m := 31) 5 (by decide)
    rw [ej]
    rcases (show j = 0 ∨ j = 1 ∨ j = 2 ∨ j = 3 ∨ j = 4 ∨ j = 5 ∨ j = 6 ∨ j = 7 ∨ j = 8 ∨ j = 9 ∨ j = 10 ∨ j = 11 ∨ j = 12 ∨ j = 13 ∨ j = 14 ∨ j = 15 ∨ j = 16 ∨ j = 17 ∨ j = 18 ∨ j = 19 ∨ j = 20 ∨ j = 21 ∨ j = 22 ∨ j = 23 ∨ j = 24 ∨ j = 25 ∨ j = 26 ∨ j = 27 ∨ j = 28 ∨ 28 < j by omega) with rfl | rfl | rfl | rfl | rfl | rfl | rfl | rfl | rfl | rfl | rfl | rfl | rfl | rfl | rfl | rfl | rfl | rfl | rfl | rfl | rfl | rfl | rfl | rfl | rfl | rfl | rfl | rfl | rfl | hj28
    · refine il_tin (pc := 33) C 164 dL_law_33 (by decide) (by decide) rfl (by decide) ?_
      obtain ⟨r, σx', σm', hx1, hm1, hR'⟩ := S0 (xs (nI k + 1).toNatClampNeg) σx σm hR
      refine il_aload_n (pc := 164) C 1 dL_law_164 rfl rfl ?_
      refine il_aload_n (pc := 165) C 0 dL_law_165 rfl rfl ?_
      refine il_iload_n (pc := 166) C 3 dL_law_166 rfl rfl ?_
      refine il_iconst (pc := 167) C (1 : Int32) dL_law_167 (by decide) ?_
      refine il_iadd (pc := 168) C dL_law_168 ?_
      refine il_sld (pc := 169) C hin1 dL_law_169 ?_
      refine il_callxV (pc := 170) C [.int (xs (nI k + 1).toNatClampNeg)] (k_X5_addNode l Gx hJx n (xs (nI k + 1).toNatClampNeg) σx hx1) gL_law_X5_addNode rfl qd_X5_addNode ⟨rfl, rfl, Nat.le_of_ble_eq_true rfl, Nat.le_of_ble_eq_true rfl⟩ rfl rfl (Nat.le_of_ble_eq_true rfl) dL_law_170 ?_
      refine il_aload_n (pc := 173) C 2 dL_law_173 rfl rfl ?_
      refine il_aload_n (pc := 174) C 0 dL_law_174 rfl rfl ?_
      refine il_iload_n (pc := 175) C 3 dL_law_175 rfl rfl ?_
      refine il_iconst (pc := 176) C (1 : Int32) dL_law_176 (by decide) ?_
      refine il_iadd (pc := 177) C dL_law_177 ?_
      refine il_sld (pc := 178) C hin1 dL_law_178 ?_
      refine il_callmV (pc := 179) C [.int (xs (nI k + 1).toNatClampNeg)] (k_X6_addNode l Gm hJm n (xs (nI k + 1).toNatClampNeg) σm hm1) gL_law_X6_addNode rfl qd_X6_addNode ⟨rfl, rfl, Nat.le_of_ble_eq_true rfl, Nat.le_of_ble_eq_true rfl⟩ rfl rfl (Nat.le_of_ble_eq_true rfl) dL_law_179 ?_
      exact il_same (pc := 182) C 952 dL_law_182 (by decide) (next σx' σm' hR')
    · refine il_tin (pc := 33) C 187 dL_law_33 (by decide) (by decide) rfl (by decide) ?_
      obtain ⟨r, σx', σm', hx1, hm1, hR'⟩ := S1 (xs (nI k + 1).toNatClampNeg) (xs (nI k + 2).toNatClampNeg) σx σm hR
      refine il_aload_n (pc := 187) C 1 dL_law_187 rfl rfl ?_
      refine il_aload_n (pc := 188) C 0 dL_law_188 rfl rfl ?_
      refine il_iload_n (pc := 189) C 3 dL_law_189 rfl rfl ?_
      refine il_iconst (pc := 190) C (1 : Int32) dL_law_190 (by decide) ?_
      refine il_iadd (pc := 191) C dL_law_191 ?_
      refine il_sld (pc := 192) C hin1 dL_law_192 ?_
      refine il_aload_n (pc := 193) C 0 dL_law_193 rfl rfl ?_
      refine il_iload_n (pc := 194) C 3 dL_law_194 rfl rfl ?_
      refine il_iconst (pc := 195) C (2 : Int32) dL_law_195 (by decide) ?_
      refine il_iadd (pc := 196) C dL_law_196 ?_
      refine il_sld (pc := 197) C hin2 dL_law_197 ?_
      refine il_callxV (pc := 198) C [.int (xs (nI k + 1).toNatClampNeg), .int (xs (nI k + 2).toNatClampNeg)] (k_X5_charge l Gx hJx (xs (nI k + 1).toNatClampNeg) (xs (nI k + 2).toNatClampNeg) σx hx1) gL_law_X5_charge rfl qd_X5_charge ⟨rfl, rfl, Nat.le_of_ble_eq_true rfl, Nat.le_of_ble_eq_true rfl⟩ rfl rfl (Nat.le_of_ble_eq_true rfl) dL_law_198 ?_
      refine il_aload_n (pc := 201) C 2 dL_law_201 rfl rfl ?_
      refine il_aload_n (pc := 202) C 0 dL_law_202 rfl rfl ?_
      refine il_iload_n (pc := 203) C 3 dL_law_203 rfl rfl ?_
      refine il_iconst (pc := 204) C (1 : Int32) dL_law_204 (by decide) ?_
      refine il_iadd (pc := 205) C dL_law_205 ?_
      refine il_sld (pc := 206) C hin1 dL_law_206 ?_
      refine il_aload_n (pc := 207) C 0 dL_law_207 rfl rfl ?_
      refine il_iload_n (pc := 208) C 3 dL_law_208 rfl rfl ?_
      refine il_iconst (pc := 209) C (2 : Int32) dL_law_209 (by decide) ?_
      refine il_iadd (pc := 210) C dL_law_210 ?_
      refine il_sld (pc := 211) C hin2 dL_law_211 ?_
      refine il_callmV (pc := 212) C [.int (xs (nI k + 1).toNatClampNeg), .int (xs (nI k + 2).toNatClampNeg)] (k_X6_charge l Gm hJm n (xs (nI k + 1).toNatClampNeg) (xs (nI k + 2).toNatClampNeg) σm hm1) gL_law_X6_charge rfl qd_X6_charge ⟨rfl, rfl, Nat.le_of_ble_eq_true rfl, Nat.le_of_ble_eq_true rfl⟩ rfl rfl (Nat.le_of_ble_eq_true rfl) dL_law_212 ?_
      exact il_same (pc := 215) C 952 dL_law_215 (by decide) (next σx' σm' hR')
    · refine il_tin (pc := 33) C 220 dL_law_33 (by decide) (by decide) rfl (by decide) ?_
      obtain ⟨r, σx', σm', hx1, hm1, hR'⟩ := S2 (xs (nI k + 1).toNatClampNeg) (xs (nI k + 2).toNatClampNeg) (xs (nI k + 3).toNatClampNeg) σx σm hR
      refine il_aload_n (pc := 220) C 1 dL_law_220 rfl rfl ?_
      refine il_aload_n (pc := 221) C 0 dL_law_221 rfl rfl ?_
      refine il_iload_n (pc := 222) C 3 dL_law_222 rfl rfl ?_
      refine il_iconst (pc := 223) C (1 : Int32) dL_law_223 (by decide) ?_
      refine il_iadd (pc := 224) C dL_law_224 ?_
      refine il_sld (pc := 225) C hin1 dL_law_225 ?_
      refine il_aload_n (pc := 226) C 0 dL_law_226 rfl rfl ?_
      refine il_iload_n (pc := 227) C 3 dL_law_227 rfl rfl ?_
      refine il_iconst (pc := 228) C (2 : Int32) dL_law_228 (by decide) ?_
      refine il_iadd (pc := 229) C dL_law_229 ?_
      refine il_sld (pc := 230) C hin2 dL_law_230 ?_
      refine il_aload_n (pc := 231) C 0 dL_law_231 rfl rfl ?_
      refine il_iload_n (pc := 232) C 3 dL_law_232 rfl rfl ?_
      refine il_iconst (pc := 233) C (3 : Int32) dL_law_233 (by decide) ?_
      refine il_iadd (pc := 234) C dL_law_234 ?_
      refine il_sld (pc := 235) C hin3 dL_law_235 ?_
      refine il_callxV (pc := 236) C [.int (xs (nI k + 1).toNatClampNeg), .int (xs (nI k + 2).toNatClampNeg), .int (xs (nI k + 3).toNatClampNeg)] (k_X5_link l Gx hJx n (xs (nI k + 1).toNatClampNeg) (xs (nI k + 2).toNatClampNeg) (xs (nI k + 3).toNatClampNeg) σx hx1) gL_law_X5_link rfl qd_X5_link ⟨rfl, rfl, Nat.le_of_ble_eq_true rfl, Nat.le_of_ble_eq_true rfl⟩ rfl rfl (Nat.le_of_ble_eq_true rfl) dL_law_236 ?_
      refine il_aload_n (pc := 239) C 2 dL_law_239 rfl rfl ?_
      refine il_aload_n (pc := 240) C 0 dL_law_240 rfl rfl ?_
      refine il_iload_n (pc := 241) C 3 dL_law_241 rfl rfl ?_
      refine il_iconst (pc := 242) C (1 : Int32) dL_law_242 (by decide) ?_
      refine il_iadd (pc := 243) C dL_law_243 ?_
      refine il_sld (pc := 244) C hin1 dL_law_244 ?_
      refine il_aload_n (pc := 245) C 0 dL_law_245 rfl rfl ?_
      refine il_iload_n (pc := 246) C 3 dL_law_246 rfl rfl ?_
      refine il_iconst (pc := 247) C (2 : Int32) dL_law_247 (by decide) ?_
      refine il_iadd (pc := 248) C dL_law_248 ?_
      refine il_sld (pc := 249) C hin2 dL_law_249 ?_
      refine il_aload_n (pc := 250) C 0 dL_law_250 rfl rfl ?_
      refine il_iload_n (pc := 251) C 3 dL_law_251 rfl rfl ?_
      refine il_iconst (pc := 252) C (3 : Int32) dL_law_252 (by decide) ?_
      refine il_iadd (pc := 253) C dL_law_253 ?_
      refine il_sld (pc := 254) C hin3 dL_law_254 ?_
      refine il_callmV (pc := 255) C [.int (xs (nI k + 1).toNatClampNeg), .int (xs (nI k + 2).toNatClampNeg), .int (xs (nI k + 3).toNatClampNeg)] (k_X6_link l Gm hJm n (xs (nI k + 1).toNatClampNeg) (xs (nI k + 2).toNatClampNeg) (xs (nI k + 3).toNatClampNeg) σm hm1) gL_law_X6_link rfl qd_X6_link ⟨rfl, rfl, Nat.le_of_ble_eq_true rfl, Nat.le_of_ble_eq_true rfl⟩ rfl rfl (Nat.le_of_ble_eq_true rfl) dL_law_255 ?_
      exact il_same (pc := 258) C 952 dL_law_258 (by decide) (next σx' σm' hR')
    · refine il_tin (pc := 33) C 263 dL_law_33 (by decide) (by decide) rfl (by decide) ?_
      obtain ⟨r, σx', σm', hx1, hm1, hR'⟩ := S3 (xs (nI k + 1).toNatClampNeg) σx σm hR
      refine il_aload_n (pc := 263) C 1 dL_law_263 rfl rfl ?_
      refine il_aload_n (pc := 264) C 0 dL_law_264 rfl rfl ?_
      refine il_iload_n (pc := 265) C 3 dL_law_265 rfl rfl ?_
      refine il_iconst (pc := 266) C (1 : Int32) dL_law_266 (by decide) ?_
      refine il_iadd (pc := 267) C dL_law_267 ?_
      refine il_sld (pc := 268) C hin1 dL_law_268 ?_
      refine il_callxV (pc := 269) C [.int (xs (nI k + 1).toNatClampNeg)] (k_X5_cut l Gx hJx n (xs (nI k + 1).toNatClampNeg) σx hx1) gL_law_X5_cut rfl qd_X5_cut ⟨rfl, rfl, Nat.le_of_ble_eq_true rfl, Nat.le_of_ble_eq_true rfl⟩ rfl rfl (Nat.le_of_ble_eq_true rfl) dL_law_269 ?_
      refine il_aload_n (pc := 272) C 2 dL_law_272 rfl rfl ?_
      refine il_aload_n (pc := 273) C 0 dL_law_273 rfl rfl ?_
      refine il_iload_n (pc := 274) C 3 dL_law_274 rfl rfl ?_
      refine il_iconst (pc := 275) C (1 : Int32) dL_law_275 (by decide) ?_
      refine il_iadd (pc := 276) C dL_law_276 ?_
      refine il_sld (pc := 277) C hin1 dL_law_277 ?_
      refine il_callmV (pc := 278) C [.int (xs (nI k + 1).toNatClampNeg)] (k_X6_cut l Gm hJm n (xs (nI k + 1).toNatClampNeg) σm hm1) gL_law_X6_cut rfl qd_X6_cut ⟨rfl, rfl, Nat.le_of_ble_eq_true rfl, Nat.le_of_ble_eq_true rfl⟩ rfl rfl (Nat.le_of_ble_eq_true rfl) dL_law_278 ?_
      exact il_same (pc := 281) C 952 dL_law_281 (by decide) (next σx' σm' hR')
    · refine il_tin (pc := 33) C 286 dL_law_33 (by decide) (by decide) rfl (by decide) ?_
      obtain ⟨r, σx', σm', hx1, hm1, hR'⟩ := S4 (xs (nI k + 1).toNatClampNeg) (xs (nI k + 2).toNatClampNeg) (xs (nI k + 3).toNatClampNeg) σx σm hR
      refine il_aload_n (pc := 286) C 1 dL_law_286 rfl rfl ?_
      refine il_aload_n (pc := 287) C 0 dL_law_287 rfl rfl ?_
      refine il_iload_n (pc := 288) C 3 dL_law_288 rfl rfl ?_
      refine il_iconst (pc := 289) C (1 : Int32) dL_law_289 (by decide) ?_
      refine il_iadd (pc := 290) C dL_law_290 ?_
      refine il_sld (pc := 291) C hin1 dL_law_291 ?_
      refine il_aload_n (pc := 292) C 0 dL_law_292 rfl rfl ?_
      refine il_iload_n (pc := 293) C 3 dL_law_293 rfl rfl ?_
      refine il_iconst (pc := 294) C (2 : Int32) dL_law_294 (by decide) ?_
      refine il_iadd (pc := 295) C dL_law_295 ?_
      refine il_sld (pc := 296) C hin2 dL_law_296 ?_
      refine il_aload_n (pc := 297) C 0 dL_law_297 rfl rfl ?_
      refine il_iload_n (pc := 298) C 3 dL_law_298 rfl rfl ?_
      refine il_iconst (pc := 299) C (3 : Int32) dL_law_299 (by decide) ?_
      refine il_iadd (pc := 300) C dL_law_300 ?_
      refine il_sld (pc := 301) C hin3 dL_law_301 ?_
      refine il_callxV (pc := 302) C [.int (xs (nI k + 1).toNatClampNeg), .int (xs (nI k + 2).toNatClampNeg), .int (xs (nI k + 3).toNatClampNeg)] (k_X5_addSensor l Gx hJx n (xs (nI k + 1).toNatClampNeg) (xs (nI k + 2).toNatClampNeg) (xs (nI k + 3).toNatClampNeg) σx hx1) gL_law_X5_addSensor rfl qd_X5_addSensor ⟨rfl, rfl, Nat.le_of_ble_eq_true rfl, Nat.le_of_ble_eq_true rfl⟩ rfl rfl (Nat.le_of_ble_eq_true rfl) dL_law_302 ?_
      refine il_aload_n (pc := 305) C 2 dL_law_305 rfl rfl ?_
      refine il_aload_n (pc := 306) C 0 dL_law_306 rfl rfl ?_
      refine il_iload_n (pc := 307) C 3 dL_law_307 rfl rfl ?_
      refine il_iconst (pc := 308) C (1 : Int32) dL_law_308 (by decide) ?_
      refine il_iadd (pc := 309) C dL_law_309 ?_
      refine il_sld (pc := 310) C hin1 dL_law_310 ?_
      refine il_aload_n (pc := 311) C 0 dL_law_311 rfl rfl ?_
      refine il_iload_n (pc := 312) C 3 dL_law_312 rfl rfl ?_
      refine il_iconst (pc := 313) C (2 : Int32) dL_law_313 (by decide) ?_
      refine il_iadd (pc := 314) C dL_law_314 ?_
      refine il_sld (pc := 315) C hin2 dL_law_315 ?_
      refine il_aload_n (pc := 316) C 0 dL_law_316 rfl rfl ?_
      refine il_iload_n (pc := 317) C 3 dL_law_317 rfl rfl ?_
      refine il_iconst (pc := 318) C (3 : Int32) dL_law_318 (by decide) ?_
      refine il_iadd (pc := 319) C dL_law_319 ?_
      refine il_sld (pc := 320) C hin3 dL_law_320 ?_
      refine il_callmV (pc := 321) C [.int (xs (nI k + 1).toNatClampNeg), .int (xs (nI k + 2).toNatClampNeg), .int (xs (nI k + 3).toNatClampNeg)] (k_X6_addSensor l Gm hJm n (xs (nI k + 1).toNatClampNeg) (xs (nI k + 2).toNatClampNeg) (xs (nI k + 3).toNatClampNeg) σm hm1) gL_law_X6_addSensor rfl qd_X6_addSensor ⟨rfl, rfl, Nat.le_of_ble_eq_true rfl, Nat.le_of_ble_eq_true rfl⟩ rfl rfl (Nat.le_of_ble_eq_true rfl) dL_law_321 ?_
      exact il_same (pc := 324) C 952 dL_law_324 (by decide) (next σx' σm' hR')
    · refine il_tin (pc := 33) C 329 dL_law_33 (by decide) (by decide) rfl (by decide) ?_
      obtain ⟨r, σx', σm', hx1, hm1, hR'⟩ := S5 (xs (nI k + 1).toNatClampNeg) (xs (nI k + 2).toNatClampNeg) σx σm hR
      refine il_aload_n (pc := 329) C 1 dL_law_329 rfl rfl ?_
      refine il_aload_n (pc := 330) C 0 dL_law_330 rfl rfl ?_
      refine il_iload_n (pc := 331) C 3 dL_law_331 rfl rfl ?_
      refine il_iconst (pc := 332) C (1 : Int32) dL_law_332 (by decide) ?_
      refine il_iadd (pc := 333) C dL_law_333 ?_
      refine il_sld (pc := 334) C hin1 dL_law_334 ?_
      refine il_aload_n (pc := 335) C 0 dL_law_335 rfl rfl ?_
      refine il_iload_n (pc := 336) C 3 dL_law_336 rfl rfl ?_
      refine il_iconst (pc := 337) C (2 : Int32) dL_law_337 (by decide) ?_
      refine il_iadd (pc := 338) C dL_law_338 ?_
      refine il_sld (pc := 339) C hin2 dL_law_339 ?_
      refine il_callxV (pc := 340) C [.int (xs (nI k + 1).toNatClampNeg), .int (xs (nI k + 2).toNatClampNeg)] (k_X5_measure l Gx hJx (xs (nI k + 1).toNatClampNeg) (xs (nI k + 2).toNatClampNeg) σx hx1) gL_law_X5_measure rfl qd_X5_measure ⟨rfl, rfl, Nat.le_of_ble_eq_true rfl, Nat.le_of_ble_eq_true rfl⟩ rfl rfl (Nat.le_of_ble_eq_true rfl) dL_law_340 ?_
      refine il_aload_n (pc := 343) C 2 dL_law_343 rfl rfl ?_
      refine il_aload_n (pc := 344) C 0 dL_law_344 rfl rfl ?_
      refine il_iload_n (pc := 345) C 3 dL_law_345 rfl rfl ?_
      refine il_iconst (pc := 346) C (1 : Int32) dL_law_346 (by decide) ?_
      refine il_iadd (pc := 347) C dL_law_347 ?_
      refine il_sld (pc := 348) C hin1 dL_law_348 ?_
      refine il_aload_n (pc := 349) C 0 dL_law_349 rfl rfl ?_
      refine il_iload_n (pc := 350) C 3 dL_law_350 rfl rfl ?_
      refine il_iconst (pc := 351) C (2 : Int32) dL_law_351 (by decide) ?_
      refine il_iadd (pc := 352) C dL_law_352 ?_
      refine il_sld (pc := 353) C hin2 dL_law_353 ?_
      refine il_callmV (pc := 354) C [.int (xs (nI k + 1).toNatClampNeg), .int (xs (nI k + 2).toNatClampNeg)] (k_X6_measure l Gm hJm n (xs (nI k + 1).toNatClampNeg) (xs (nI k + 2).toNatClampNeg) σm hm1) gL_law_X6_measure rfl qd_X6_measure ⟨rfl, rfl, Nat.le_of_ble_eq_true rfl, Nat.le_of_ble_eq_true rfl⟩ rfl rfl (Nat.le_of_ble_eq_true rfl) dL_law_354 ?_
      exact il_same (pc := 357) C 952 dL_law_357 (by decide) (next σx' σm' hR')
    · refine il_tin (pc := 33) C 362 dL_law_33 (by decide) (by decide) rfl (by decide) ?_
      obtain ⟨r, σx', σm', hx1, hm1, hR'⟩ := S6 (xs (nI k + 1).toNatClampNeg) (xs (nI k + 2).toNatClampNeg) (xs (nI k + 3).toNatClampNeg) (xs (nI k + 4).toNatClampNeg) (xs (nI k + 5).toNatClampNeg) σx σm hR
      refine il_aload_n (pc := 362) C 1 dL_law_362 rfl rfl ?_
      refine il_aload_n (pc := 363) C 0 dL_law_363 rfl rfl ?_
      refine il_iload_n (pc := 364) C 3 dL_law_364 rfl rfl ?_
      refine il_iconst (pc := 365) C (1 : Int32) dL_law_365 (by decide) ?_
      refine il_iadd (pc := 366) C dL_law_366 ?_
      refine il_sld (pc := 367) C hin1 dL_law_367 ?_
      refine il_aload_n (pc := 368) C 0 dL_law_368 rfl rfl ?_
      refine il_iload_n (pc := 369) C 3 dL_law_369 rfl rfl ?_
      refine il_iconst (pc := 370) C (2 : Int32) dL_law_370 (by decide) ?_
      refine il_iadd (pc := 371) C dL_law_371 ?_
      refine il_sld (pc := 372) C hin2 dL_law_372 ?_
      refine il_aload_n (pc := 373) C 0 dL_law_373 rfl rfl ?_
      refine il_iload_n (pc := 374) C 3 dL_law_374 rfl rfl ?_
      refine il_iconst (pc := 375) C (3 : Int32) dL_law_375 (by decide) ?_
      refine il_iadd (pc := 376) C dL_law_376 ?_
      refine il_sld (pc := 377) C hin3 dL_law_377 ?_
      refine il_aload_n (pc := 378) C 0 dL_law_378 rfl rfl ?_
      refine il_iload_n (pc := 379) C 3 dL_law_379 rfl rfl ?_
      refine il_iconst (pc := 380) C (4 : Int32) dL_law_380 (by decide) ?_
      refine il_iadd (pc := 381) C dL_law_381 ?_
      refine il_sld (pc := 382) C hin4 dL_law_382 ?_
      refine il_aload_n (pc := 383) C 0 dL_law_383 rfl rfl ?_
      refine il_iload_n (pc := 384) C 3 dL_law_384 rfl rfl ?_
      refine il_iconst (pc := 385) C (5 : Int32) dL_law_385 (by decide) ?_
      refine il_iadd (pc := 386) C dL_law_386 ?_
      refine il_sld (pc := 387) C hin5 dL_law_387 ?_
      refine il_callxV (pc := 388) C [.int (xs (nI k + 1).toNatClampNeg), .int (xs (nI k + 2).toNatClampNeg), .int (xs (nI k + 3).toNatClampNeg), .int (xs (nI k + 4).toNatClampNeg), .int (xs (nI k + 5).toNatClampNeg)] (k_X5_ask l Gx hJx n (xs (nI k + 1).toNatClampNeg) (xs (nI k + 2).toNatClampNeg) (xs (nI k + 3).toNatClampNeg) (xs (nI k + 4).toNatClampNeg) (xs (nI k + 5).toNatClampNeg) σx hx1) gL_law_X5_ask rfl qd_X5_ask ⟨rfl, rfl, Nat.le_of_ble_eq_true rfl, Nat.le_of_ble_eq_true rfl⟩ rfl rfl (Nat.le_of_ble_eq_true rfl) dL_law_388 ?_
      refine il_aload_n (pc := 391) C 2 dL_law_391 rfl rfl ?_
      refine il_aload_n (pc := 392) C 0 dL_law_392 rfl rfl ?_
      refine il_iload_n (pc := 393) C 3 dL_law_393 rfl rfl ?_
      refine il_iconst (pc := 394) C (1 : Int32) dL_law_394 (by decide) ?_
      refine il_iadd (pc := 395) C dL_law_395 ?_
      refine il_sld (pc := 396) C hin1 dL_law_396 ?_
      refine il_aload_n (pc := 397) C 0 dL_law_397 rfl rfl ?_
      refine il_iload_n (pc := 398) C 3 dL_law_398 rfl rfl ?_
      refine il_iconst (pc := 399) C (2 : Int32) dL_law_399 (by decide) ?_
      refine il_iadd (pc := 400) C dL_law_400 ?_
      refine il_sld (pc := 401) C hin2 dL_law_401 ?_
      refine il_aload_n (pc := 402) C 0 dL_law_402 rfl rfl ?_
      refine il_iload_n (pc := 403) C 3 dL_law_403 rfl rfl ?_
      refine il_iconst (pc := 404) C (3 : Int32) dL_law_404 (by decide) ?_
      refine il_iadd (pc := 405) C dL_law_405 ?_
      refine il_sld (pc := 406) C hin3 dL_law_406 ?_
      refine il_aload_n (pc := 407) C 0 dL_law_407 rfl rfl ?_
      refine il_iload_n (pc := 408) C 3 dL_law_408 rfl rfl ?_
      refine il_iconst (pc := 409) C (4 : Int32) dL_law_409 (by decide) ?_
      refine il_iadd (pc := 410) C dL_law_410 ?_
      refine il_sld (pc := 411) C hin4 dL_law_411 ?_
      refine il_aload_n (pc := 412) C 0 dL_law_412 rfl rfl ?_
      refine il_iload_n (pc := 413) C 3 dL_law_413 rfl rfl ?_
      refine il_iconst (pc := 414) C (5 : Int32) dL_law_414 (by decide) ?_
      refine il_iadd (pc := 415) C dL_law_415 ?_
      refine il_sld (pc := 416) C hin5 dL_law_416 ?_
      refine il_callmV (pc := 417) C [.int (xs (nI k + 1).toNatClampNeg), .int (xs (nI k + 2).toNatClampNeg), .int (xs (nI k + 3).toNatClampNeg), .int (xs (nI k + 4).toNatClampNeg), .int (xs (nI k + 5).toNatClampNeg)] (k_X6_ask l Gm hJm n (xs (nI k + 1).toNatClampNeg) (xs (nI k + 2).toNatClampNeg) (xs (nI k + 3).toNatClampNeg) (xs (nI k + 4).toNatClampNeg) (xs (nI k + 5).toNatClampNeg) σm hm1) gL_law_X6_ask rfl qd_X6_ask ⟨rfl, rfl, Nat.le_of_ble_eq_true rfl, Nat.le_of_ble_eq_true rfl⟩ rfl rfl (Nat.le_of_ble_eq_true rfl) dL_law_417 ?_
      exact il_same (pc := 420) C 952 dL_law_420 (by decide) (next σx' σm' hR')
    · refine il_tin (pc := 33) C 425 dL_law_33 (by decide) (by decide) rfl (by decide) ?_
      obtain ⟨r, σx', σm', hx1, hm1, hR'⟩ := S7 (xs (nI k + 1).toNatClampNeg) σx σm hR
      refine il_aload_n (pc := 425) C 1 dL_law_425 rfl rfl ?_
      refine il_aload_n (pc := 426) C 0 dL_law_426 rfl rfl ?_
      refine il_iload_n (pc := 427) C 3 dL_law_427 rfl rfl ?_
      refine il_iconst (pc := 428) C (1 : Int32) dL_law_428 (by decide) ?_
      refine il_iadd (pc := 429) C dL_law_429 ?_
      refine il_sld (pc := 430) C hin1 dL_law_430 ?_
      refine il_callxV (pc := 431) C [.int (xs (nI k + 1).toNatClampNeg)] (k_X5_withdraw l Gx hJx n (xs (nI k + 1).toNatClampNeg) σx hx1) gL_law_X5_withdraw rfl qd_X5_withdraw ⟨rfl, rfl, Nat.le_of_ble_eq_true rfl, Nat.le_of_ble_eq_true rfl⟩ rfl rfl (Nat.le_of_ble_eq_true rfl) dL_law_431 ?_
      refine il_aload_n (pc := 434) C 2 dL_law_434 rfl rfl ?_
      refine il_aload_n (pc := 435) C 0 dL_law_435 rfl rfl ?_
      refine il_iload_n (pc := 436) C 3 dL_law_436 rfl rfl ?_
      refine il_iconst (pc := 437) C (1 : Int32) dL_law_437 (by decide) ?_
      refine il_iadd (pc := 438) C dL_law_438 ?_
      refine il_sld (pc := 439) C hin1 dL_law_439 ?_
      refine il_callmV (pc := 440) C [.int (xs (nI k + 1).toNatClampNeg)] (k_X6_withdraw l Gm hJm n (xs (nI k + 1).toNatClampNeg) σm hm1) gL_law_X6_withdraw rfl qd_X6_withdraw ⟨rfl, rfl, Nat.le_of_ble_eq_true rfl, Nat.le_of_ble_eq_true rfl⟩ rfl rfl (Nat.le_of_ble_eq_true rfl) dL_law_440 ?_
      exact il_same (pc := 443) C 952 dL_law_443 (by decide) (next σx' σm' hR')
    · refine il_tin (pc := 33) C 448 dL_law_33 (by decide) (by decide) rfl (by decide) ?_
      obtain ⟨r, σx', σm', hx1, hm1, hR'⟩ := S8 (xs (nI k + 1).toNatClampNeg) σx σm hR
      refine il_aload_n (pc := 448) C 1 dL_law_448 rfl rfl ?_
      refine il_aload_n (pc := 449) C 0 dL_law_449 rfl rfl ?_
      refine il_iload_n (pc := 450) C 3 dL_law_450 rfl rfl ?_
      refine il_iconst (pc := 451) C (1 : Int32) dL_law_451 (by decide) ?_
      refine il_iadd (pc := 452) C dL_law_452 ?_
      refine il_sld (pc := 453) C hin1 dL_law_453 ?_
      refine il_callxV (pc := 454) C [.int (xs (nI k + 1).toNatClampNeg)] (k_X5_setPeriod l Gx hJx n (xs (nI k + 1).toNatClampNeg) σx hx1) gL_law_X5_setPeriod rfl qd_X5_setPeriod ⟨rfl, rfl, Nat.le_of_ble_eq_true rfl, Nat.le_of_ble_eq_true rfl⟩ rfl rfl (Nat.le_of_ble_eq_true rfl) dL_law_454 ?_
      refine il_aload_n (pc := 457) C 2 dL_law_457 rfl rfl ?_
      refine il_aload_n (pc := 458) C 0 dL_law_458 rfl rfl ?_
      refine il_iload_n (pc := 459) C 3 dL_law_459 rfl rfl ?_
      refine il_iconst (pc := 460) C (1 : Int32) dL_law_460 (by decide) ?_
      refine il_iadd (pc := 461) C dL_law_461 ?_
      refine il_sld (pc := 462) C hin1 dL_law_462 ?_
      refine il_callmV (pc := 463) C [.int (xs (nI k + 1).toNatClampNeg)] (k_X6_setPeriod l Gm hJm n (xs (nI k + 1).toNatClampNeg) σm hm1) gL_law_X6_setPeriod rfl qd_X6_setPeriod ⟨rfl, rfl, Nat.le_of_ble_eq_true rfl, Nat.le_of_ble_eq_true rfl⟩ rfl rfl (Nat.le_of_ble_eq_true rfl) dL_law_463 ?_
      exact il_same (pc := 466) C 952 dL_law_466 (by decide) (next σx' σm' hR')
    · refine il_tin (pc := 33) C 471 dL_law_33 (by decide) (by decide) rfl (by decide) ?_
      obtain ⟨r, σx', σm', hx1, hm1, hR'⟩ := S9 (xs (nI k + 1).toNatClampNeg) σx σm hR
      obtain ⟨hx1, rfl⟩ := hx1
      obtain ⟨hm1, rfl⟩ := hm1
      refine il_aload_n (pc := 471) C 1 dL_law_471 rfl rfl ?_
      refine il_aload_n (pc := 472) C 0 dL_law_472 rfl rfl ?_
      refine il_iload_n (pc := 473) C 3 dL_law_473 rfl rfl ?_
      refine il_iconst (pc := 474) C (1 : Int32) dL_law_474 (by decide) ?_
      refine il_iadd (pc := 475) C dL_law_475 ?_
      refine il_sld (pc := 476) C hin1 dL_law_476 ?_
      refine il_callxV (pc := 477) C [.int (xs (nI k + 1).toNatClampNeg)] (k_X5_count l Gx hJx n (xs (nI k + 1).toNatClampNeg) σx' hx1) gL_law_X5_count rfl qd_X5_count ⟨rfl, rfl, Nat.le_of_ble_eq_true rfl, Nat.le_of_ble_eq_true rfl⟩ rfl rfl (Nat.le_of_ble_eq_true rfl) dL_law_477 ?_
      refine il_aload_n (pc := 480) C 2 dL_law_480 rfl rfl ?_
      refine il_aload_n (pc := 481) C 0 dL_law_481 rfl rfl ?_
      refine il_iload_n (pc := 482) C 3 dL_law_482 rfl rfl ?_
      refine il_iconst (pc := 483) C (1 : Int32) dL_law_483 (by decide) ?_
      refine il_iadd (pc := 484) C dL_law_484 ?_
      refine il_sld (pc := 485) C hin1 dL_law_485 ?_
      refine il_callmV (pc := 486) C [.int (xs (nI k + 1).toNatClampNeg)] (k_X6_count l Gm hJm n (xs (nI k + 1).toNatClampNeg) σm' hm1) gL_law_X6_count rfl qd_X6_count ⟨rfl, rfl, Nat.le_of_ble_eq_true rfl, Nat.le_of_ble_eq_true rfl⟩ rfl rfl (Nat.le_of_ble_eq_true rfl) dL_law_486 ?_
      exact il_same (pc := 489) C 952 dL_law_489 (by decide) (next σx' σm' hR')
    · refine il_tin (pc := 33) C 494 dL_law_33 (by decide) (by decide) rfl (by decide) ?_
      obtain ⟨r, σx', σm', hx1, hm1, hR'⟩ := S10 (xs (nI k + 1).toNatClampNeg) σx σm hR
      obtain ⟨hx1, rfl⟩ := hx1
      obtain ⟨hm1, rfl⟩ := hm1
      refine il_aload_n (pc := 494) C 1 dL_law_494 rfl rfl ?_
      refine il_aload_n (pc := 495) C 0 dL_law_495 rfl rfl ?_
      refine il_iload_n (pc := 496) C 3 dL_law_496 rfl rfl ?_
      refine il_iconst (pc := 497) C (1 : Int32) dL_law_497 (by decide) ?_
      refine il_iadd (pc := 498) C dL_law_498 ?_
      refine il_sld (pc := 499) C hin1 dL_law_499 ?_
      refine il_callxV (pc := 500) C [.int (xs (nI k + 1).toNatClampNeg)] (k_X5_energy l Gx hJx (xs (nI k + 1).toNatClampNeg) σx' hx1) gL_law_X5_energy rfl qd_X5_energy ⟨rfl, rfl, Nat.le_of_ble_eq_true rfl, Nat.le_of_ble_eq_true rfl⟩ rfl rfl (Nat.le_of_ble_eq_true rfl) dL_law_500 ?_
      refine il_aload_n (pc := 503) C 2 dL_law_503 rfl rfl ?_
      refine il_aload_n (pc := 504) C 0 dL_law_504 rfl rfl ?_
      refine il_iload_n (pc := 505) C 3 dL_law_505 rfl rfl ?_
      refine il_iconst (pc := 506) C (1 : Int32) dL_law_506 (by decide) ?_
      refine il_iadd (pc := 507) C dL_law_507 ?_
      refine il_sld (pc := 508) C hin1 dL_law_508 ?_
      refine il_callmV (pc := 509) C [.int (xs (nI k + 1).toNatClampNeg)] (k_X6_energy l Gm hJm (xs (nI k + 1).toNatClampNeg) σm' hm1) gL_law_X6_energy rfl qd_X6_energy ⟨rfl, rfl, Nat.le_of_ble_eq_true rfl, Nat.le_of_ble_eq_true rfl⟩ rfl rfl (Nat.le_of_ble_eq_true rfl) dL_law_509 ?_
      exact il_same (pc := 512) C 952 dL_law_512 (by decide) (next σx' σm' hR')
    · refine il_tin (pc := 33) C 517 dL_law_33 (by decide) (by decide) rfl (by decide) ?_
      obtain ⟨r, σx', σm', hx1, hm1, hR'⟩ := S11 (xs (nI k + 1).toNatClampNeg) (xs (nI k + 2).toNatClampNeg) σx σm hR
      obtain ⟨hx1, rfl⟩ := hx1
      obtain ⟨hm1, rfl⟩ := hm1
      refine il_aload_n (pc := 517) C 1 dL_law_517 rfl rfl ?_
      refine il_aload_n (pc := 518) C 0 dL_law_518 rfl rfl ?_
      refine il_iload_n (pc := 519) C 3 dL_law_519 rfl rfl ?_
      refine il_iconst (pc := 520) C (1 : Int32) dL_law_520 (by decide) ?_
      refine il_iadd (pc := 521) C dL_law_521 ?_
      refine il_sld (pc := 522) C hin1 dL_law_522 ?_
      refine il_aload_n (pc := 523) C 0 dL_law_523 rfl rfl ?_
      refine il_iload_n (pc := 524) C 3 dL_law_524 rfl rfl ?_
      refine il_iconst (pc := 525) C (2 : Int32) dL_law_525 (by decide) ?_
      refine il_iadd (pc := 526) C dL_law_526 ?_
      refine il_sld (pc := 527) C hin2 dL_law_527 ?_
      refine il_callxV (pc := 528) C [.int (xs (nI k + 1).toNatClampNeg), .int (xs (nI k + 2).toNatClampNeg)] (k_X5_linkPart l Gx hJx (xs (nI k + 1).toNatClampNeg) (xs (nI k + 2).toNatClampNeg) σx' hx1) gL_law_X5_linkPart rfl qd_X5_linkPart ⟨rfl, rfl, Nat.le_of_ble_eq_true rfl, Nat.le_of_ble_eq_true rfl⟩ rfl rfl (Nat.le_of_ble_eq_true rfl) dL_law_528 ?_
      refine il_aload_n (pc := 531) C 2 dL_law_531 rfl rfl ?_
      refine il_aload_n (pc := 532) C 0 dL_law_532 rfl rfl ?_
      refine il_iload_n (pc := 533) C 3 dL_law_533 rfl rfl ?_
      refine il_iconst (pc := 534) C (1 : Int32) dL_law_534 (by decide) ?_
      refine il_iadd (pc := 535) C dL_law_535 ?_
      refine il_sld (pc := 536) C hin1 dL_law_536 ?_
      refine il_aload_n (pc := 537) C 0 dL_law_537 rfl rfl ?_
      refine il_iload_n (pc := 538) C 3 dL_law_538 rfl rfl ?_
      refine il_iconst (pc := 539) C (2 : Int32) dL_law_539 (by decide) ?_
      refine il_iadd (pc := 540) C dL_law_540 ?_
      refine il_sld (pc := 541) C hin2 dL_law_541 ?_
      refine il_callmV (pc := 542) C [.int (xs (nI k + 1).toNatClampNeg), .int (xs (nI k + 2).toNatClampNeg)] (k_X6_linkPart l Gm hJm (xs (nI k + 1).toNatClampNeg) (xs (nI k + 2).toNatClampNeg) σm' hm1) gL_law_X6_linkPart rfl qd_X6_linkPart ⟨rfl, rfl, Nat.le_of_ble_eq_true rfl, Nat.le_of_ble_eq_true rfl⟩ rfl rfl (Nat.le_of_ble_eq_true rfl) dL_law_542 ?_
      exact il_same (pc := 545) C 952 dL_law_545 (by decide) (next σx' σm' hR')
    · refine il_tin (pc := 33) C 550 dL_law_33 (by decide) (by decide) rfl (by decide) ?_
      obtain ⟨r, σx', σm', hx1, hm1, hR'⟩ := S12 (xs (nI k + 1).toNatClampNeg) (xs (nI k + 2).toNatClampNeg) σx σm hR
      obtain ⟨hx1, rfl⟩ := hx1
      obtain ⟨hm1, rfl⟩ := hm1
      refine il_aload_n (pc := 550) C 1 dL_law_550 rfl rfl ?_
      refine il_aload_n (pc := 551) C 0 dL_law_551 rfl rfl ?_
      refine il_iload_n (pc := 552) C 3 dL_law_552 rfl rfl ?_
      refine il_iconst (pc := 553) C (1 : Int32) dL_law_553 (by decide) ?_
      refine il_iadd (pc := 554) C dL_law_554 ?_
      refine il_sld (pc := 555) C hin1 dL_law_555 ?_
      refine il_aload_n (pc := 556) C 0 dL_law_556 rfl rfl ?_
      refine il_iload_n (pc := 557) C 3 dL_law_557 rfl rfl ?_
      refine il_iconst (pc := 558) C (2 : Int32) dL_law_558 (by decide) ?_
      refine il_iadd (pc := 559) C dL_law_559 ?_
      refine il_sld (pc := 560) C hin2 dL_law_560 ?_
      refine il_callxV (pc := 561) C [.int (xs (nI k + 1).toNatClampNeg), .int (xs (nI k + 2).toNatClampNeg)] (k_X5_sensor l Gx hJx (xs (nI k + 1).toNatClampNeg) (xs (nI k + 2).toNatClampNeg) σx' hx1) gL_law_X5_sensor rfl qd_X5_sensor ⟨rfl, rfl, Nat.le_of_ble_eq_true rfl, Nat.le_of_ble_eq_true rfl⟩ rfl rfl (Nat.le_of_ble_eq_true rfl) dL_law_561 ?_
      refine il_aload_n (pc := 564) C 2 dL_law_564 rfl rfl ?_
      refine il_aload_n (pc := 565) C 0 dL_law_565 rfl rfl ?_
      refine il_iload_n (pc := 566) C 3 dL_law_566 rfl rfl ?_
      refine il_iconst (pc := 567) C (1 : Int32) dL_law_567 (by decide) ?_
      refine il_iadd (pc := 568) C dL_law_568 ?_
      refine il_sld (pc := 569) C hin1 dL_law_569 ?_
      refine il_aload_n (pc := 570) C 0 dL_law_570 rfl rfl ?_
      refine il_iload_n (pc := 571) C 3 dL_law_571 rfl rfl ?_
      refine il_iconst (pc := 572) C (2 : Int32) dL_law_572 (by decide) ?_
      refine il_iadd (pc := 573) C dL_law_573 ?_
      refine il_sld (pc := 574) C hin2 dL_law_574 ?_
      refine il_callmV (pc := 575) C [.int (xs (nI k + 1).toNatClampNeg), .int (xs (nI k + 2).toNatClampNeg)] (k_X6_sensor l Gm hJm (xs (nI k + 1).toNatClampNeg) (xs (nI k + 2).toNatClampNeg) σm' hm1) gL_law_X6_sensor rfl qd_X6_sensor ⟨rfl, rfl, Nat.le_of_ble_eq_true rfl, Nat.le_of_ble_eq_true rfl⟩ rfl rfl (Nat.le_of_ble_eq_true rfl) dL_law_575 ?_
      exact il_same (pc := 578) C 952 dL_law_578 (by decide) (next σx' σm' hR')
    · refine il_tin (pc := 33) C 583 dL_law_33 (by decide) (by decide) rfl (by decide) ?_
      obtain ⟨r, σx', σm', hx1, hm1, hR'⟩ := S13 (xs (nI k + 1).toNatClampNeg) (xs (nI k + 2).toNatClampNeg) σx σm hR
      obtain ⟨hx1, rfl⟩ := hx1
      obtain ⟨hm1, rfl⟩ := hm1
      refine il_aload_n (pc := 583) C 1 dL_law_583 rfl rfl ?_
      refine il_aload_n (pc := 584) C 0 dL_law_584 rfl rfl ?_
      refine il_iload_n (pc := 585) C 3 dL_law_585 rfl rfl ?_
      refine il_iconst (pc := 586) C (1 : Int32) dL_law_586 (by decide) ?_
      refine il_iadd (pc := 587) C dL_law_587 ?_
      refine il_sld (pc := 588) C hin1 dL_law_588 ?_
      refine il_aload_n (pc := 589) C 0 dL_law_589 rfl rfl ?_
      refine il_iload_n (pc := 590) C 3 dL_law_590 rfl rfl ?_
      refine il_iconst (pc := 591) C (2 : Int32) dL_law_591 (by decide) ?_
      refine il_iadd (pc := 592) C dL_law_592 ?_
      refine il_sld (pc := 593) C hin2 dL_law_593 ?_
      refine il_callxV (pc := 594) C [.int (xs (nI k + 1).toNatClampNeg), .int (xs (nI k + 2).toNatClampNeg)] (k_X5_interest l Gx hJx n (xs (nI k + 1).toNatClampNeg) (xs (nI k + 2).toNatClampNeg) σx' hx1) gL_law_X5_interest rfl qd_X5_interest ⟨rfl, rfl, Nat.le_of_ble_eq_true rfl, Nat.le_of_ble_eq_true rfl⟩ rfl rfl (Nat.le_of_ble_eq_true rfl) dL_law_594 ?_
      refine il_aload_n (pc := 597) C 2 dL_law_597 rfl rfl ?_
      refine il_aload_n (pc := 598) C 0 dL_law_598 rfl rfl ?_
      refine il_iload_n (pc := 599) C 3 dL_law_599 rfl rfl ?_
      refine il_iconst (pc := 600) C (1 : Int32) dL_law_600 (by decide) ?_
      refine il_iadd (pc := 601) C dL_law_601 ?_
      refine il_sld (pc := 602) C hin1 dL_law_602 ?_
      refine il_aload_n (pc := 603) C 0 dL_law_603 rfl rfl ?_
      refine il_iload_n (pc := 604) C 3 dL_law_604 rfl rfl ?_
      refine il_iconst (pc := 605) C (2 : Int32) dL_law_605 (by decide) ?_
      refine il_iadd (pc := 606) C dL_law_606 ?_
      refine il_sld (pc := 607) C hin2 dL_law_607 ?_
      refine il_callmV (pc := 608) C [.int (xs (nI k + 1).toNatClampNeg), .int (xs (nI k + 2).toNatClampNeg)] (k_X6_interest l Gm hJm n (xs (nI k + 1).toNatClampNeg) (xs (nI k + 2).toNatClampNeg) σm' hm1) gL_law_X6_interest rfl qd_X6_interest ⟨rfl, rfl, Nat.le_of_ble_eq_true rfl, Nat.le_of_ble_eq_true rfl⟩ rfl rfl (Nat.le_of_ble_eq_true rfl) dL_law_608 ?_
      exact il_same (pc := 611) C 952 dL_law_611 (by decide) (next σx' σm' hR')
    · refine il_tin (pc := 33) C 616 dL_law_33 (by decide) (by decide) rfl (by decide) ?_
      obtain ⟨r, σx', σm', hx1, hm1, hR'⟩ := S14 (xs (nI k + 1).toNatClampNeg) σx σm hR
      refine il_aload_n (pc := 616) C 1 dL_law_616 rfl rfl ?_
      refine il_aload_n (pc := 617) C 0 dL_law_617 rfl rfl ?_
      refine il_iload_n (pc := 618) C 3 dL_law_618 rfl rfl ?_
      refine il_iconst (pc := 619) C (1 : Int32) dL_law_619 (by decide) ?_
      refine il_iadd (pc := 620) C dL_law_620 ?_
      refine il_sld (pc := 621) C hin1 dL_law_621 ?_
      refine il_callxV (pc := 622) C [.int (xs (nI k + 1).toNatClampNeg)] (k_X5_rounds l Gx hJx n (xs (nI k + 1).toNatClampNeg) σx hx1) gL_law_X5_rounds rfl qd_X5_rounds ⟨rfl, rfl, Nat.le_of_ble_eq_true rfl, Nat.le_of_ble_eq_true rfl⟩ rfl rfl (Nat.le_of_ble_eq_true rfl) dL_law_622 ?_
      refine il_aload_n (pc := 625) C 2 dL_law_625 rfl rfl ?_
      refine il_aload_n (pc := 626) C 0 dL_law_626 rfl rfl ?_
      refine il_iload_n (pc := 627) C 3 dL_law_627 rfl rfl ?_
      refine il_iconst (pc := 628) C (1 : Int32) dL_law_628 (by decide) ?_
      refine il_iadd (pc := 629) C dL_law_629 ?_
      refine il_sld (pc := 630) C hin1 dL_law_630 ?_
      refine il_callmV (pc := 631) C [.int (xs (nI k + 1).toNatClampNeg)] (k_X6_rounds l Gm hJm n (xs (nI k + 1).toNatClampNeg) σm hm1) gL_law_X6_rounds rfl qd_X6_rounds ⟨rfl, rfl, Nat.le_of_ble_eq_true rfl, Nat.le_of_ble_eq_true rfl⟩ rfl rfl (Nat.le_of_ble_eq_true rfl) dL_law_631 ?_
      exact il_same (pc := 634) C 952 dL_law_634 (by decide) (next σx' σm' hR')
    · refine il_tin (pc := 33) C 639 dL_law_33 (by decide) (by decide) rfl (by decide) ?_
      obtain ⟨r, σx', σm', hx1, hm1, hR'⟩ := S15 (xs (nI k + 1).toNatClampNeg) (xs (nI k + 2).toNatClampNeg) σx σm hR
      obtain ⟨hx1, rfl⟩ := hx1
      obtain ⟨hm1, rfl⟩ := hm1
      refine il_aload_n (pc := 639) C 1 dL_law_639 rfl rfl ?_
      refine il_aload_n (pc := 640) C 0 dL_law_640 rfl rfl ?_
      refine il_iload_n (pc := 641) C 3 dL_law_641 rfl rfl ?_
      refine il_iconst (pc := 642) C (1 : Int32) dL_law_642 (by decide) ?_
      refine il_iadd (pc := 643) C dL_law_643 ?_
      refine il_sld (pc := 644) C hin1 dL_law_644 ?_
      refine il_aload_n (pc := 645) C 0 dL_law_645 rfl rfl ?_
      refine il_iload_n (pc := 646) C 3 dL_law_646 rfl rfl ?_
      refine il_iconst (pc := 647) C (2 : Int32) dL_law_647 (by decide) ?_
      refine il_iadd (pc := 648) C dL_law_648 ?_
      refine il_sld (pc := 649) C hin2 dL_law_649 ?_
      refine il_callxV (pc := 650) C [.int (xs (nI k + 1).toNatClampNeg), .int (xs (nI k + 2).toNatClampNeg)] (k_X5_wayLength l Gx hJx (xs (nI k + 1).toNatClampNeg) (xs (nI k + 2).toNatClampNeg) σx' hx1) gL_law_X5_wayLength rfl qd_X5_wayLength ⟨rfl, rfl, Nat.le_of_ble_eq_true rfl, Nat.le_of_ble_eq_true rfl⟩ rfl rfl (Nat.le_of_ble_eq_true rfl) dL_law_650 ?_
      refine il_aload_n (pc := 653) C 2 dL_law_653 rfl rfl ?_
      refine il_aload_n (pc := 654) C 0 dL_law_654 rfl rfl ?_
      refine il_iload_n (pc := 655) C 3 dL_law_655 rfl rfl ?_
      refine il_iconst (pc := 656) C (1 : Int32) dL_law_656 (by decide) ?_
      refine il_iadd (pc := 657) C dL_law_657 ?_
      refine il_sld (pc := 658) C hin1 dL_law_658 ?_
      refine il_aload_n (pc := 659) C 0 dL_law_659 rfl rfl ?_
      refine il_iload_n (pc := 660) C 3 dL_law_660 rfl rfl ?_
      refine il_iconst (pc := 661) C (2 : Int32) dL_law_661 (by decide) ?_
      refine il_iadd (pc := 662) C dL_law_662 ?_
      refine il_sld (pc := 663) C hin2 dL_law_663 ?_
      refine il_callmV (pc := 664) C [.int (xs (nI k + 1).toNatClampNeg), .int (xs (nI k + 2).toNatClampNeg)] (k_X6_wayLength l Gm hJm (xs (nI k + 1).toNatClampNeg) (xs (nI k + 2).toNatClampNeg) σm' hm1) gL_law_X6_wayLength rfl qd_X6_wayLength ⟨rfl, rfl, Nat.le_of_ble_eq_true rfl, Nat.le_of_ble_eq_true rfl⟩ rfl rfl (Nat.le_of_ble_eq_true rfl) dL_law_664 ?_
      exact il_same (pc := 667) C 952 dL_law_667 (by decide) (next σx' σm' hR')
    · refine il_tin (pc := 33) C 672 dL_law_33 (by decide) (by decide) rfl (by decide) ?_
      obtain ⟨r, σx', σm', hx1, hm1, hR'⟩ := S16 (xs (nI k + 1).toNatClampNeg) (xs (nI k + 2).toNatClampNeg) (xs (nI k + 3).toNatClampNeg) σx σm hR
      obtain ⟨hx1, rfl⟩ := hx1
      obtain ⟨hm1, rfl⟩ := hm1
      refine il_aload_n (pc := 672) C 1 dL_law_672 rfl rfl ?_
      refine il_aload_n (pc := 673) C 0 dL_law_673 rfl rfl ?_
      refine il_iload_n (pc := 674) C 3 dL_law_674 rfl rfl ?_
      refine il_iconst (pc := 675) C (1 : Int32) dL_law_675 (by decide) ?_
      refine il_iadd (pc := 676) C dL_law_676 ?_
      refine il_sld (pc := 677) C hin1 dL_law_677 ?_
      refine il_aload_n (pc := 678) C 0 dL_law_678 rfl rfl ?_
      refine il_iload_n (pc := 679) C 3 dL_law_679 rfl rfl ?_
      refine il_iconst (pc := 680) C (2 : Int32) dL_law_680 (by decide) ?_
      refine il_iadd (pc := 681) C dL_law_681 ?_
      refine il_sld (pc := 682) C hin2 dL_law_682 ?_
      refine il_aload_n (pc := 683) C 0 dL_law_683 rfl rfl ?_
      refine il_iload_n (pc := 684) C 3 dL_law_684 rfl rfl ?_
      refine il_iconst (pc := 685) C (3 : Int32) dL_law_685 (by decide) ?_
      refine il_iadd (pc := 686) C dL_law_686 ?_
      refine il_sld (pc := 687) C hin3 dL_law_687 ?_
      refine il_callxV (pc := 688) C [.int (xs (nI k + 1).toNatClampNeg), .int (xs (nI k + 2).toNatClampNeg), .int (xs (nI k + 3).toNatClampNeg)] (k_X5_wayNode l Gx hJx (xs (nI k + 1).toNatClampNeg) (xs (nI k + 2).toNatClampNeg) (xs (nI k + 3).toNatClampNeg) σx' hx1) gL_law_X5_wayNode rfl qd_X5_wayNode ⟨rfl, rfl, Nat.le_of_ble_eq_true rfl, Nat.le_of_ble_eq_true rfl⟩ rfl rfl (Nat.le_of_ble_eq_true rfl) dL_law_688 ?_
      refine il_aload_n (pc := 691) C 2 dL_law_691 rfl rfl ?_
      refine il_aload_n (pc := 692) C 0 dL_law_692 rfl rfl ?_
      refine il_iload_n (pc := 693) C 3 dL_law_693 rfl rfl ?_
      refine il_iconst (pc := 694) C (1 : Int32) dL_law_694 (by decide) ?_
      refine il_iadd (pc := 695) C dL_law_695 ?_
      refine il_sld (pc := 696) C hin1 dL_law_696 ?_
      refine il_aload_n (pc := 697) C 0 dL_law_697 rfl rfl ?_
      refine il_iload_n (pc := 698) C 3 dL_law_698 rfl rfl ?_
      refine il_iconst (pc := 699) C (2 : Int32) dL_law_699 (by decide) ?_
      refine il_iadd (pc := 700) C dL_law_700 ?_
      refine il_sld (pc := 701) C hin2 dL_law_701 ?_
      refine il_aload_n (pc := 702) C 0 dL_law_702 rfl rfl ?_
      refine il_iload_n (pc := 703) C 3 dL_law_703 rfl rfl ?_
      refine il_iconst (pc := 704) C (3 : Int32) dL_law_704 (by decide) ?_
      refine il_iadd (pc := 705) C dL_law_705 ?_
      refine il_sld (pc := 706) C hin3 dL_law_706 ?_
      refine il_callmV (pc := 707) C [.int (xs (nI k + 1).toNatClampNeg), .int (xs (nI k + 2).toNatClampNeg), .int (xs (nI k + 3).toNatClampNeg)] (k_X6_wayNode l Gm hJm (xs (nI k + 1).toNatClampNeg) (xs (nI k + 2).toNatClampNeg) (xs (nI k + 3).toNatClampNeg) σm' hm1) gL_law_X6_wayNode rfl qd_X6_wayNode ⟨rfl, rfl, Nat.le_of_ble_eq_true rfl, Nat.le_of_ble_eq_true rfl⟩ rfl rfl (Nat.le_of_ble_eq_true rfl) dL_law_707 ?_
      exact il_same (pc := 710) C 952 dL_law_710 (by decide) (next σx' σm' hR')
    · refine il_tin (pc := 33) C 715 dL_law_33 (by decide) (by decide) rfl (by decide) ?_
      obtain ⟨r, σx', σm', hx1, hm1, hR'⟩ := S17 (xs (nI k + 1).toNatClampNeg) (xs (nI k + 2).toNatClampNeg) σx σm hR
      obtain ⟨hm1, rfl⟩ := hm1
      refine il_aload_n (pc := 715) C 1 dL_law_715 rfl rfl ?_
      refine il_aload_n (pc := 716) C 0 dL_law_716 rfl rfl ?_
      refine il_iload_n (pc := 717) C 3 dL_law_717 rfl rfl ?_
      refine il_iconst (pc := 718) C (1 : Int32) dL_law_718 (by decide) ?_
      refine il_iadd (pc := 719) C dL_law_719 ?_
      refine il_sld (pc := 720) C hin1 dL_law_720 ?_
      refine il_aload_n (pc := 721) C 0 dL_law_721 rfl rfl ?_
      refine il_iload_n (pc := 722) C 3 dL_law_722 rfl rfl ?_
      refine il_iconst (pc := 723) C (2 : Int32) dL_law_723 (by decide) ?_
      refine il_iadd (pc := 724) C dL_law_724 ?_
      refine il_sld (pc := 725) C hin2 dL_law_725 ?_
      refine il_callxV (pc := 726) C [.int (xs (nI k + 1).toNatClampNeg), .int (xs (nI k + 2).toNatClampNeg)] (k_X5_isWhole l Gx hJx n (xs (nI k + 1).toNatClampNeg) (xs (nI k + 2).toNatClampNeg) σx hx1) gL_law_X5_isWhole rfl qd_X5_isWhole ⟨rfl, rfl, Nat.le_of_ble_eq_true rfl, Nat.le_of_ble_eq_true rfl⟩ rfl rfl (Nat.le_of_ble_eq_true rfl) dL_law_726 ?_
      refine il_aload_n (pc := 729) C 2 dL_law_729 rfl rfl ?_
      refine il_aload_n (pc := 730) C 0 dL_law_730 rfl rfl ?_
      refine il_iload_n (pc := 731) C 3 dL_law_731 rfl rfl ?_
      refine il_iconst (pc := 732) C (1 : Int32) dL_law_732 (by decide) ?_
      refine il_iadd (pc := 733) C dL_law_733 ?_
      refine il_sld (pc := 734) C hin1 dL_law_734 ?_
      refine il_aload_n (pc := 735) C 0 dL_law_735 rfl rfl ?_
      refine il_iload_n (pc := 736) C 3 dL_law_736 rfl rfl ?_
      refine il_iconst (pc := 737) C (2 : Int32) dL_law_737 (by decide) ?_
      refine il_iadd (pc := 738) C dL_law_738 ?_
      refine il_sld (pc := 739) C hin2 dL_law_739 ?_
      refine il_callmV (pc := 740) C [.int (xs (nI k + 1).toNatClampNeg), .int (xs (nI k + 2).toNatClampNeg)] (k_X6_isWhole l Gm hJm n (xs (nI k + 1).toNatClampNeg) (xs (nI k + 2).toNatClampNeg) σm' hm1) gL_law_X6_isWhole rfl qd_X6_isWhole ⟨rfl, rfl, Nat.le_of_ble_eq_true rfl, Nat.le_of_ble_eq_true rfl⟩ rfl rfl (Nat.le_of_ble_eq_true rfl) dL_law_740 ?_
      exact il_same (pc := 743) C 952 dL_law_743 (by decide) (next σx' σm' hR')
    · refine il_tin (pc := 33) C 748 dL_law_33 (by decide) (by decide) rfl (by decide) ?_
      obtain ⟨r, σx', σm', hx1, hm1, hR'⟩ := S18 (xs (nI k + 1).toNatClampNeg) (xs (nI k + 2).toNatClampNeg) σx σm hR
      refine il_aload_n (pc := 748) C 1 dL_law_748 rfl rfl ?_
      refine il_aload_n (pc := 749) C 0 dL_law_749 rfl rfl ?_
      refine il_iload_n (pc := 750) C 3 dL_law_750 rfl rfl ?_
      refine il_iconst (pc := 751) C (1 : Int32) dL_law_751 (by decide) ?_
      refine il_iadd (pc := 752) C dL_law_752 ?_
      refine il_sld (pc := 753) C hin1 dL_law_753 ?_
      refine il_aload_n (pc := 754) C 0 dL_law_754 rfl rfl ?_
      refine il_iload_n (pc := 755) C 3 dL_law_755 rfl rfl ?_
      refine il_iconst (pc := 756) C (2 : Int32) dL_law_756 (by decide) ?_
      refine il_iadd (pc := 757) C dL_law_757 ?_
      refine il_sld (pc := 758) C hin2 dL_law_758 ?_
      refine il_callxV (pc := 759) C [.int (xs (nI k + 1).toNatClampNeg), .int (xs (nI k + 2).toNatClampNeg)] (k_X5_quickest l Gx hJx n (xs (nI k + 1).toNatClampNeg) (xs (nI k + 2).toNatClampNeg) σx hx1) gL_law_X5_quickest rfl qd_X5_quickest ⟨rfl, rfl, Nat.le_of_ble_eq_true rfl, Nat.le_of_ble_eq_true rfl⟩ rfl rfl (Nat.le_of_ble_eq_true rfl) dL_law_759 ?_
      refine il_aload_n (pc := 762) C 2 dL_law_762 rfl rfl ?_
      refine il_aload_n (pc := 763) C 0 dL_law_763 rfl rfl ?_
      refine il_iload_n (pc := 764) C 3 dL_law_764 rfl rfl ?_
      refine il_iconst (pc := 765) C (1 : Int32) dL_law_765 (by decide) ?_
      refine il_iadd (pc := 766) C dL_law_766 ?_
      refine il_sld (pc := 767) C hin1 dL_law_767 ?_
      refine il_aload_n (pc := 768) C 0 dL_law_768 rfl rfl ?_
      refine il_iload_n (pc := 769) C 3 dL_law_769 rfl rfl ?_
      refine il_iconst (pc := 770) C (2 : Int32) dL_law_770 (by decide) ?_
      refine il_iadd (pc := 771) C dL_law_771 ?_
      refine il_sld (pc := 772) C hin2 dL_law_772 ?_
      refine il_callmV (pc := 773) C [.int (xs (nI k + 1).toNatClampNeg), .int (xs (nI k + 2).toNatClampNeg)] (k_X6_quickest l Gm hJm n (xs (nI k + 1).toNatClampNeg) (xs (nI k + 2).toNatClampNeg) σm hm1) gL_law_X6_quickest rfl qd_X6_quickest ⟨rfl, rfl, Nat.le_of_ble_eq_true rfl, Nat.le_of_ble_eq_true rfl⟩ rfl rfl (Nat.le_of_ble_eq_true rfl) dL_law_773 ?_
      exact il_same (pc := 776) C 952 dL_law_776 (by decide) (next σx' σm' hR')
    · refine il_tin (pc := 33) C 781 dL_law_33 (by decide) (by decide) rfl (by decide) ?_
      obtain ⟨r, σx', σm', hx1, hm1, hR'⟩ := S19 (xs (nI k + 1).toNatClampNeg) σx σm hR
      obtain ⟨hx1, rfl⟩ := hx1
      obtain ⟨hm1, rfl⟩ := hm1
      refine il_aload_n (pc := 781) C 1 dL_law_781 rfl rfl ?_
      refine il_aload_n (pc := 782) C 0 dL_law_782 rfl rfl ?_
      refine il_iload_n (pc := 783) C 3 dL_law_783 rfl rfl ?_
      refine il_iconst (pc := 784) C (1 : Int32) dL_law_784 (by decide) ?_
      refine il_iadd (pc := 785) C dL_law_785 ?_
      refine il_sld (pc := 786) C hin1 dL_law_786 ?_
      refine il_callxV (pc := 787) C [.int (xs (nI k + 1).toNatClampNeg)] (k_X5_load l Gx hJx n (xs (nI k + 1).toNatClampNeg) σx' hx1) gL_law_X5_load rfl qd_X5_load ⟨rfl, rfl, Nat.le_of_ble_eq_true rfl, Nat.le_of_ble_eq_true rfl⟩ rfl rfl (Nat.le_of_ble_eq_true rfl) dL_law_787 ?_
      refine il_aload_n (pc := 790) C 2 dL_law_790 rfl rfl ?_
      refine il_aload_n (pc := 791) C 0 dL_law_791 rfl rfl ?_
      refine il_iload_n (pc := 792) C 3 dL_law_792 rfl rfl ?_
      refine il_iconst (pc := 793) C (1 : Int32) dL_law_793 (by decide) ?_
      refine il_iadd (pc := 794) C dL_law_794 ?_
      refine il_sld (pc := 795) C hin1 dL_law_795 ?_
      refine il_callmV (pc := 796) C [.int (xs (nI k + 1).toNatClampNeg)] (k_X6_load l Gm hJm n (xs (nI k + 1).toNatClampNeg) σm' hm1) gL_law_X6_load rfl qd_X6_load ⟨rfl, rfl, Nat.le_of_ble_eq_true rfl, Nat.le_of_ble_eq_true rfl⟩ rfl rfl (Nat.le_of_ble_eq_true rfl) dL_law_796 ?_
      exact il_same (pc := 799) C 952 dL_law_799 (by decide) (next σx' σm' hR')
    · refine il_tin (pc := 33) C 804 dL_law_33 (by decide) (by decide) rfl (by decide) ?_
      obtain ⟨r, σx', σm', hx1, hm1, hR'⟩ := S20 σx σm hR
      refine il_aload_n (pc := 804) C 1 dL_law_804 rfl rfl ?_
      refine il_callxV (pc := 805) C [] (k_X5_firstDeath l Gx hJx n σx hx1) gL_law_X5_firstDeath rfl qd_X5_firstDeath ⟨rfl, rfl, Nat.le_of_ble_eq_true rfl, Nat.le_of_ble_eq_true rfl⟩ rfl rfl (Nat.le_of_ble_eq_true rfl) dL_law_805 ?_
      refine il_aload_n (pc := 808) C 2 dL_law_808 rfl rfl ?_
      refine il_callmV (pc := 809) C [] (k_X6_firstDeath l Gm hJm n σm hm1) gL_law_X6_firstDeath rfl qd_X6_firstDeath ⟨rfl, rfl, Nat.le_of_ble_eq_true rfl, Nat.le_of_ble_eq_true rfl⟩ rfl rfl (Nat.le_of_ble_eq_true rfl) dL_law_809 ?_
      exact il_same (pc := 812) C 952 dL_law_812 (by decide) (next σx' σm' hR')
    · refine il_tin (pc := 33) C 817 dL_law_33 (by decide) (by decide) rfl (by decide) ?_
      obtain ⟨r, σx', σm', hx1, hm1, hR'⟩ := S21 (xs (nI k + 1).toNatClampNeg) σx σm hR
      refine il_aload_n (pc := 817) C 1 dL_law_817 rfl rfl ?_
      refine il_aload_n (pc := 818) C 0 dL_law_818 rfl rfl ?_
      refine il_iload_n (pc := 819) C 3 dL_law_819 rfl rfl ?_
      refine il_iconst (pc := 820) C (1 : Int32) dL_law_820 (by decide) ?_
      refine il_iadd (pc := 821) C dL_law_821 ?_
      refine il_sld (pc := 822) C hin1 dL_law_822 ?_
      refine il_callxV (pc := 823) C [.int (xs (nI k + 1).toNatClampNeg)] (k_X5_willDeliver l Gx hJx n (xs (nI k + 1).toNatClampNeg) σx hx1) gL_law_X5_willDeliver rfl qd_X5_willDeliver ⟨rfl, rfl, Nat.le_of_ble_eq_true rfl, Nat.le_of_ble_eq_true rfl⟩ rfl rfl (Nat.le_of_ble_eq_true rfl) dL_law_823 ?_
      refine il_aload_n (pc := 826) C 2 dL_law_826 rfl rfl ?_
      refine il_aload_n (pc := 827) C 0 dL_law_827 rfl rfl ?_
      refine il_iload_n (pc := 828) C 3 dL_law_828 rfl rfl ?_
      refine il_iconst (pc := 829) C (1 : Int32) dL_law_829 (by decide) ?_
      refine il_iadd (pc := 830) C dL_law_830 ?_
      refine il_sld (pc := 831) C hin1 dL_law_831 ?_
      refine il_callmV (pc := 832) C [.int (xs (nI k + 1).toNatClampNeg)] (k_X6_willDeliver l Gm hJm n (xs (nI k + 1).toNatClampNeg) σm hm1) gL_law_X6_willDeliver rfl qd_X6_willDeliver ⟨rfl, rfl, Nat.le_of_ble_eq_true rfl, Nat.le_of_ble_eq_true rfl⟩ rfl rfl (Nat.le_of_ble_eq_true rfl) dL_law_832 ?_
      exact il_same (pc := 835) C 952 dL_law_835 (by decide) (next σx' σm' hR')
    · refine il_tin (pc := 33) C 840 dL_law_33 (by decide) (by decide) rfl (by decide) ?_
      obtain ⟨r, σx', σm', hx1, hm1, hR'⟩ := S22 (xs (nI k + 1).toNatClampNeg) σx σm hR
      refine il_aload_n (pc := 840) C 1 dL_law_840 rfl rfl ?_
      refine il_aload_n (pc := 841) C 0 dL_law_841 rfl rfl ?_
      refine il_iload_n (pc := 842) C 3 dL_law_842 rfl rfl ?_
      refine il_iconst (pc := 843) C (1 : Int32) dL_law_843 (by decide) ?_
      refine il_iadd (pc := 844) C dL_law_844 ?_
      refine il_sld (pc := 845) C hin1 dL_law_845 ?_
      refine il_callxV (pc := 846) C [.int (xs (nI k + 1).toNatClampNeg)] (k_X5_bestPeriod l Gx hJx n (xs (nI k + 1).toNatClampNeg) σx hx1) gL_law_X5_bestPeriod rfl qd_X5_bestPeriod ⟨rfl, rfl, Nat.le_of_ble_eq_true rfl, Nat.le_of_ble_eq_true rfl⟩ rfl rfl (Nat.le_of_ble_eq_true rfl) dL_law_846 ?_
      refine il_aload_n (pc := 849) C 2 dL_law_849 rfl rfl ?_
      refine il_aload_n (pc := 850) C 0 dL_law_850 rfl rfl ?_
      refine il_iload_n (pc := 851) C 3 dL_law_851 rfl rfl ?_
      refine il_iconst (pc := 852) C (1 : Int32) dL_law_852 (by decide) ?_
      refine il_iadd (pc := 853) C dL_law_853 ?_
      refine il_sld (pc := 854) C hin1 dL_law_854 ?_
      refine il_callmV (pc := 855) C [.int (xs (nI k + 1).toNatClampNeg)] (k_X6_bestPeriod l Gm hJm n (xs (nI k + 1).toNatClampNeg) σm hm1) gL_law_X6_bestPeriod rfl qd_X6_bestPeriod ⟨rfl, rfl, Nat.le_of_ble_eq_true rfl, Nat.le_of_ble_eq_true rfl⟩ rfl rfl (Nat.le_of_ble_eq_true rfl) dL_law_855 ?_
      exact il_same (pc := 858) C 952 dL_law_858 (by decide) (next σx' σm' hR')
    · refine il_tin (pc := 33) C 863 dL_law_33 (by decide) (by decide) rfl (by decide) ?_
      obtain ⟨r, σx', σm', hx1, hm1, hR'⟩ := S23 σx σm hR
      refine il_aload_n (pc := 863) C 1 dL_law_863 rfl rfl ?_
      refine il_callxV (pc := 864) C [] (k_X5_undo l Gx hJx σx hx1) gL_law_X5_undo rfl qd_X5_undo ⟨rfl, rfl, Nat.le_of_ble_eq_true rfl, Nat.le_of_ble_eq_true rfl⟩ rfl rfl (Nat.le_of_ble_eq_true rfl) dL_law_864 ?_
      refine il_aload_n (pc := 867) C 2 dL_law_867 rfl rfl ?_
      refine il_callmV (pc := 868) C [] (k_X6_undo l Gm hJm n σm hm1) gL_law_X6_undo rfl qd_X6_undo ⟨rfl, rfl, Nat.le_of_ble_eq_true rfl, Nat.le_of_ble_eq_true rfl⟩ rfl rfl (Nat.le_of_ble_eq_true rfl) dL_law_868 ?_
      exact il_same (pc := 871) C 952 dL_law_871 (by decide) (next σx' σm' hR')
    · refine il_tin (pc := 33) C 876 dL_law_33 (by decide) (by decide) rfl (by decide) ?_
      obtain ⟨r, σx', σm', hx1, hm1, hR'⟩ := S24 (xs (nI k + 1).toNatClampNeg) σx σm hR
      refine il_aload_n (pc := 876) C 1 dL_law_876 rfl rfl ?_
      refine il_aload_n (pc := 877) C 0 dL_law_877 rfl rfl ?_
      refine il_iload_n (pc := 878) C 3 dL_law_878 rfl rfl ?_
      refine il_iconst (pc := 879) C (1 : Int32) dL_law_879 (by decide) ?_
      refine il_iadd (pc := 880) C dL_law_880 ?_
      refine il_sld (pc := 881) C hin1 dL_law_881 ?_
      refine il_callxV (pc := 882) C [.int (xs (nI k + 1).toNatClampNeg)] (k_X5_type l Gx hJx (xs (nI k + 1).toNatClampNeg) σx hx1) gL_law_X5_type rfl qd_X5_type ⟨rfl, rfl, Nat.le_of_ble_eq_true rfl, Nat.le_of_ble_eq_true rfl⟩ rfl rfl (Nat.le_of_ble_eq_true rfl) dL_law_882 ?_
      refine il_aload_n (pc := 885) C 2 dL_law_885 rfl rfl ?_
      refine il_aload_n (pc := 886) C 0 dL_law_886 rfl rfl ?_
      refine il_iload_n (pc := 887) C 3 dL_law_887 rfl rfl ?_
      refine il_iconst (pc := 888) C (1 : Int32) dL_law_888 (by decide) ?_
      refine il_iadd (pc := 889) C dL_law_889 ?_
      refine il_sld (pc := 890) C hin1 dL_law_890 ?_
      refine il_callmV (pc := 891) C [.int (xs (nI k + 1).toNatClampNeg)] (k_X6_type l Gm hJm (xs (nI k + 1).toNatClampNeg) σm hm1) gL_law_X6_type rfl qd_X6_type ⟨rfl, rfl, Nat.le_of_ble_eq_true rfl, Nat.le_of_ble_eq_true rfl⟩ rfl rfl (Nat.le_of_ble_eq_true rfl) dL_law_891 ?_
      exact il_same (pc := 894) C 952 dL_law_894 (by decide) (next σx' σm' hR')
    · refine il_tin (pc := 33) C 899 dL_law_33 (by decide) (by decide) rfl (by decide) ?_
      obtain ⟨r, σx', σm', hx1, hm1, hR'⟩ := S25 σx σm hR
      refine il_aload_n (pc := 899) C 1 dL_law_899 rfl rfl ?_
      refine il_callxV (pc := 900) C [] (k_X5_clearText l Gx hJx σx hx1) gL_law_X5_clearText rfl qd_X5_clearText ⟨rfl, rfl, Nat.le_of_ble_eq_true rfl, Nat.le_of_ble_eq_true rfl⟩ rfl rfl (Nat.le_of_ble_eq_true rfl) dL_law_900 ?_
      refine il_aload_n (pc := 903) C 2 dL_law_903 rfl rfl ?_
      refine il_callmV (pc := 904) C [] (k_X6_clearText l Gm hJm σm hm1) gL_law_X6_clearText rfl qd_X6_clearText ⟨rfl, rfl, Nat.le_of_ble_eq_true rfl, Nat.le_of_ble_eq_true rfl⟩ rfl rfl (Nat.le_of_ble_eq_true rfl) dL_law_904 ?_
      exact il_same (pc := 907) C 952 dL_law_907 (by decide) (next σx' σm' hR')
    · refine il_tin (pc := 33) C 912 dL_law_33 (by decide) (by decide) rfl (by decide) ?_
      obtain ⟨r, σx', σm', hx1, hm1, hR'⟩ := S26 σx σm hR
      refine il_aload_n (pc := 912) C 1 dL_law_912 rfl rfl ?_
      refine il_callxV (pc := 913) C [] (k_X5_textFault l Gx hJx n σx hx1) gL_law_X5_textFault rfl qd_X5_textFault ⟨rfl, rfl, Nat.le_of_ble_eq_true rfl, Nat.le_of_ble_eq_true rfl⟩ rfl rfl (Nat.le_of_ble_eq_true rfl) dL_law_913 ?_
      refine il_aload_n (pc := 916) C 2 dL_law_916 rfl rfl ?_
      refine il_callmV (pc := 917) C [] (k_X6_textFault l Gm hJm n σm hm1) gL_law_X6_textFault rfl qd_X6_textFault ⟨rfl, rfl, Nat.le_of_ble_eq_true rfl, Nat.le_of_ble_eq_true rfl⟩ rfl rfl (Nat.le_of_ble_eq_true rfl) dL_law_917 ?_
      exact il_same (pc := 920) C 952 dL_law_920 (by decide) (next σx' σm' hR')
    · refine il_tin (pc := 33) C 925 dL_law_33 (by decide) (by decide) rfl (by decide) ?_
      obtain ⟨r, σx', σm', hx1, hm1, hR'⟩ := S27 σx σm hR
      refine il_aload_n (pc := 925) C 1 dL_law_925 rfl rfl ?_
      refine il_callxV (pc := 926) C [] (k_X5_build l Gx hJx n σx hx1) gL_law_X5_build rfl qd_X5_build ⟨rfl, rfl, Nat.le_of_ble_eq_true rfl, Nat.le_of_ble_eq_true rfl⟩ rfl rfl (Nat.le_of_ble_eq_true rfl) dL_law_926 ?_
      refine il_aload_n (pc := 929) C 2 dL_law_929 rfl rfl ?_
      refine il_callmV (pc := 930) C [] (k_X6_build l Gm hJm n σm hm1) gL_law_X6_build rfl qd_X6_build ⟨rfl, rfl, Nat.le_of_ble_eq_true rfl, Nat.le_of_ble_eq_true rfl⟩ rfl rfl (Nat.le_of_ble_eq_true rfl) dL_law_930 ?_
      exact il_same (pc := 933) C 952 dL_law_933 (by decide) (next σx' σm' hR')
    · refine il_tin (pc := 33) C 938 dL_law_33 (by decide) (by decide) rfl (by decide) ?_
      obtain ⟨r, σx', σm', hx1, hm1, hR'⟩ := S28 σx σm hR
      obtain ⟨hx1, rfl⟩ := hx1
      refine il_aload_n (pc := 938) C 1 dL_law_938 rfl rfl ?_
      refine il_callxV (pc := 939) C [] (k_X5_digest l Gx hJx n σx' hx1) gL_law_X5_digest rfl qd_X5_digest ⟨rfl, rfl, Nat.le_of_ble_eq_true rfl, Nat.le_of_ble_eq_true rfl⟩ rfl rfl (Nat.le_of_ble_eq_true rfl) dL_law_939 ?_
      refine il_aload_n (pc := 942) C 2 dL_law_942 rfl rfl ?_
      refine il_callmV (pc := 943) C [] (k_X6_digest l Gm hJm n σm hm1) gL_law_X6_digest rfl qd_X6_digest ⟨rfl, rfl, Nat.le_of_ble_eq_true rfl, Nat.le_of_ble_eq_true rfl⟩ rfl rfl (Nat.le_of_ble_eq_true rfl) dL_law_943 ?_
      exact il_lcmp (pc := 946) C 952 dL_law_946 dL_law_947 (by decide) (next σx' σm' hR')
    · refine il_tout (pc := 33) C 952 dL_law_33 (Or.inr (by rw [nI_toInt (by omega)]; omega)) (by decide) ?_
      exact next σx σm hR
