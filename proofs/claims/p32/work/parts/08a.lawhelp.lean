/-! what the law's walks need beside: a switch, a compare of longs, the script's cell, the end -/
def il_A (s : State) : Nat → Prop := fun q => s.heap.size ≤ q
theorem iw_swout {x : Int32} (n : Nat) (h : ∀ k : Nat, k ≤ n → x ≠ nI k) : x.toInt < 0 ∨ (n : Int) < x.toInt := by
  by_cases h1 : x < 0
  · exact Or.inl (Int32.lt_iff_toInt_lt.mp h1)
  · obtain ⟨j, hj, rfl⟩ := nI_of h1
    rw [nI_toInt hj]
    refine Or.inr ?_
    by_cases h2 : j ≤ n
    · exact absurd rfl (h j h2)
    · omega
section LW
variable {p : Program} {l : Launch} {e : Env} {R : Room} {s : State} {m : MethodId} {args : Array Value} {below : List Frame} {meth : Method} {c : Code} {cells slots : Nat} {Q : State → Prop} {nL : Nat} {G : iw_G} {A : Nat → Prop} {σ : iw_M} {pc : Nat} {lv : List (Nat × Value)} {st : List Value} {cc : ByteArray} {Ts : List Cond} {own : String}
theorem iv_tin (C : iw_C p R s m args c cc nL Ts own G A cells slots) {dflt lo hi : Int} {offs : Array Int} {len : Nat} {x : Int32} {off : Int} (tgt : Nat) (hdg : decode cc pc = .ok (.tableswitch dflt lo hi offs, len)) (h1 : ¬ x.toInt < lo) (h2 : ¬ hi < x.toInt) (ho : offs[(x.toInt - lo).toNat]? = some off) (ht : (pc : Int) + off = (tgt : Int)) (q : iw_V p l e R s m args below meth c cells slots Q nL G A σ tgt lv st) : iw_V p l e R s m args below meth c cells slots Q nL G A σ pc lv (.int x :: st) := fun H locs ls hP hS hl => lv_tableIn C.1 C.2.1 hdg h1 h2 ho ht (q H locs ls hP hS hl)
theorem iv_tout (C : iw_C p R s m args c cc nL Ts own G A cells slots) {dflt lo hi : Int} {offs : Array Int} {len : Nat} {x : Int32} (tgt : Nat) (hdg : decode cc pc = .ok (.tableswitch dflt lo hi offs, len)) (h : x.toInt < lo ∨ hi < x.toInt) (ht : (pc : Int) + dflt = (tgt : Int)) (q : iw_V p l e R s m args below meth c cells slots Q nL G A σ tgt lv st) : iw_V p l e R s m args below meth c cells slots Q nL G A σ pc lv (.int x :: st) := fun H locs ls hP hS hl => lv_tableOut C.1 C.2.1 hdg h ht (q H locs ls hP hS hl)
theorem iv_lcmp_ne (C : iw_C p R s m args c cc nL Ts own G A cells slots) (tgt : Nat) {x y : Int64} {off : Int} (hdg : decode cc pc = .ok (.lcmp, 1)) (hdg2 : decode cc (pc + 1) = .ok (.ifCond .ne off, 3)) (ht : ((pc + 1 : Nat) : Int) + off = (tgt : Int)) (kt : ¬ x = y → iw_V p l e R s m args below meth c cells slots Q nL G A σ tgt lv st) (kf : x = y → iw_V p l e R s m args below meth c cells slots Q nL G A σ (pc + 4) lv st) : iw_V p l e R s m args below meth c cells slots Q nL G A σ pc lv (.long y :: .long x :: st) := fun H locs ls hP hS hl => W.lcmp C.1 C.2.1 hdg (lv_if_ne C.1 C.2.1 hdg2 ht (fun h => kt (fun q => h ((lg_cmp_eq x y).mpr q)) H locs ls hP hS hl) (fun h => kf ((lg_cmp_eq x y).mp h) H locs ls hP hS hl))
theorem iv_lcmp_eq (C : iw_C p R s m args c cc nL Ts own G A cells slots) (tgt : Nat) {x y : Int64} {off : Int} (hdg : decode cc pc = .ok (.lcmp, 1)) (hdg2 : decode cc (pc + 1) = .ok (.ifCond .eq off, 3)) (ht : ((pc + 1 : Nat) : Int) + off = (tgt : Int)) (kt : x = y → iw_V p l e R s m args below meth c cells slots Q nL G A σ tgt lv st) (kf : ¬ x = y → iw_V p l e R s m args below meth c cells slots Q nL G A σ (pc + 4) lv st) : iw_V p l e R s m args below meth c cells slots Q nL G A σ pc lv (.long y :: .long x :: st) := fun H locs ls hP hS hl => W.lcmp C.1 C.2.1 hdg (lv_if_eq C.1 C.2.1 hdg2 ht (fun h => kt ((lg_cmp_eq x y).mp h) H locs ls hP hS hl) (fun h => kf (fun q => h ((lg_cmp_eq x y).mpr q)) H locs ls hP hS hl))
/-- the script's cell, or a number made of its place -/
def f_L_cell (xs : Nat → Int32) (sL : Nat) (k : Int32) : Option Int32 := if nI sL ≤ k then some ((7919 : Int32) * (k + (3 : Int32)) * (k + (11 : Int32))) else if k < 0 then none else some (xs k.toNatClampNeg)
abbrev rm_L_cell : Room := { frames := 0, cells := 0, slots := 0, locals := 0 }
theorem qd_L_cell : yL_cell.cls ≠ "java/lang/invoke/MethodHandle" ∧ yL_cell.cls ≠ "java/lang/invoke/VarHandle" ∧ (parseMethodDescriptor yL_cell.desc).map (fun d => d.parameters.length) = some 2 := by decide +kernel
theorem k_L_cell (l : Launch) (b sL : Nat) (xs : Nat → Int32) (k : Int32) (hsL : sL ≤ 260) {v : Int32} (h : f_L_cell xs sL k = some v) : Met l yL_cell wsL_cell rm_L_cell (va_Pc [.ref b, .int k] (fun U => va_X b sL xs U U.heap ∧ b < U.heap.size)) (fun _ st oc t => oc = .returned (some (.int v)) ∧ va_F (fun _ => False) st t) 0 0 (fun _ => False) := by
  refine Met.ofW (cc := cL_cell) (maxL := 2) (ret := (some .int)) (by decide +kernel) rfl ?_
  intro p e s m args below meth c s₁ B hml hv
  obtain ⟨rfl, hX, hb⟩ := hv
  rw [lg_entry_eq]
  have hl := lv_entry ([.ref b, .int k]) (n := 2) (Nat.le_of_ble_eq_true rfl)
  have hS : va_S (fun _ => False) s.heap s.heap [] := va_S.rf
  have hbA : ¬ (fun _ : Nat => False) b := fun q => q
  refine lv_iload_n B.exec B.bytes dL_cell_0 rfl (lv_at hl 1 rfl) ?_
  refine lv_aload_n B.exec B.bytes dL_cell_1 rfl (lv_at hl 0 rfl) ?_
  refine va_slen B.exec B.bytes hX hb hbA hS dL_cell_2 ?_
  unfold f_L_cell at h
  refine lv_icmp_ge (tgt := 12) B.exec B.bytes dL_cell_3 (by decide) (fun h1 => ?_) (fun h1 => ?_)
  · rw [if_pos (show nI sL ≤ k from h1)] at h
    cases h
    refine lv_sipush (v := 7919) B.exec B.bytes dL_cell_12 (by decide) ?_
    refine lv_iload_n B.exec B.bytes dL_cell_15 rfl (lv_at hl 1 rfl) ?_
    refine lv_iconst (v := 3) B.exec B.bytes dL_cell_16 (by decide) ?_
    refine lv_iadd B.exec B.bytes dL_cell_17 ?_
    refine lv_imul B.exec B.bytes dL_cell_18 ?_
    refine lv_iload_n B.exec B.bytes dL_cell_19 rfl (lv_at hl 1 rfl) ?_
    refine lv_bipush (v := 11) B.exec B.bytes dL_cell_20 (by decide) ?_
    refine lv_iadd B.exec B.bytes dL_cell_22 ?_
    refine lv_imul B.exec B.bytes dL_cell_23 ?_
    exact W.iret B.exec B.bytes B.returns (fun t ht hW => ⟨rfl, hS.F ht⟩) hS.2.2 dL_cell_24 B.notSynchronized
  · rw [if_neg (show ¬ nI sL ≤ k from h1)] at h
    by_cases h2 : k < 0
    · rw [if_pos h2] at h; cases h
    · rw [if_neg h2] at h
      cases h
      refine lv_aload_n B.exec B.bytes dL_cell_6 rfl (lv_at hl 0 rfl) ?_
      refine lv_iload_n B.exec B.bytes dL_cell_7 rfl (lv_at hl 1 rfl) ?_
      refine va_sld B.exec B.bytes hX hb hbA hS (iw_inb (by omega) h2 h1) dL_cell_8 ?_
      refine lv_goto (tgt := 24) B.exec B.bytes dL_cell_9 (by decide) ?_
      exact W.iret B.exec B.bytes B.returns (fun t ht hW => ⟨rfl, hS.F ht⟩) hS.2.2 dL_cell_24 B.notSynchronized
theorem iv_cell {p : Program} {l : Launch} {e : Env} {s : State} {m : MethodId} {below : List Frame} {meth : Method} {c : Code} {b sL cells slots : Nat} {Q : State → Prop} {xs : Nat → Int32} {G : iw_G} {σ : iw_M} {pc index : Nat} {lv : List (Nat × Value)} {st : List Value} {k v : Int32} (C : iw_C p room_1 s m #[Value.ref b] c cL_law 18 wsL_law RL G (il_A s) cells slots) (hX : va_X b sL xs s s.heap ∧ b < s.heap.size ∧ sL ≤ 260) (h : f_L_cell xs sL k = some v) (hG : GoodIn wsL_law (va_wsS RL index yL_cell wsL_cell)) (hcat : (st.map fun v => v.category).sum ≤ 8) (hdg : decode cL_law pc = .ok (.invokestatic index, 3)) (q : iw_V p l e room_1 s m #[Value.ref b] below meth c cells slots Q 18 G (il_A s) σ (pc + 3) lv (.int v :: st)) : iw_V p l e room_1 s m #[Value.ref b] below meth c cells slots Q 18 G (il_A s) σ pc lv (.int k :: .ref b :: st) := by
  intro H locs ls hP hS hl T hT X
  have hbA : ¬ il_A s b := Nat.not_le.mpr hX.2.1
  have hXH : va_X b sL xs s H := va_X.kept hX.1 (hS.2.1 b hX.2.1 hbA)
  have hr := va_runS (l := l) (e := e) (below := below) (meth := meth) (locs := locs) (cells := cells) (slots := slots) (As := [.ref b, .int k]) (rest := st) (g := F0 m pc ls (.int k :: .ref b :: st)) (cc := cL_law) (nL := 18) (Ts := wsL_law) (own := RL) (H := H) (R := room_1) (args := #[Value.ref b]) (s := s) (c := c) (m := m) (p := p) ⟨C.1, C.2.1, C.2.2.1, C.2.2.2.1, C.2.2.2.2.1⟩ (k_L_cell l b sL xs k hX.2.2 h) (va_cwS 2 C.2.2.2.2.1 hG rfl rfl rfl qd_L_cell ⟨Nat.le_of_ble_eq_true rfl, Nat.le_of_ble_eq_true rfl⟩) ⟨fun a U g mk q => ⟨q.1, va_X.moved (Vm.Alike.refl U.vm) q.2.1, q.2.2⟩, fun U hU hW => ⟨rfl, by rw [hU]; exact va_X.moved hW.alike hXH, by rw [hU]; exact Nat.lt_of_lt_of_le hX.2.1 hS.1⟩⟩ rfl rfl hl.1 rfl (lv_room hcat) hdg ⟨C.2.2.2.2.2.2.2.2.1, C.2.2.2.2.2.2.2.2.2⟩
  obtain ⟨v1, st₀, t, T', L, h0, X', hL, e1, e2, ⟨hv, hz, hk⟩, hst⟩ := hr T hT X
  have hv : v1 = some (.int v) := by injection hv
  subst hv
  rw [h0] at hz hk
  have hkk : ∀ q : Nat, q < H.size → t.heap[q]? = H[q]? := fun q h1 => hk q h1 (fun z => z)
  obtain ⟨t2, a1, b1⟩ := q T'.heap (locs ++ L) ls (fun k q hq => by rw [e1]; exact (hP k q hq).kept (hkk q.1 (hP k q hq).lt))
    ⟨Nat.le_trans hS.1 (by rw [e1]; exact hz), fun q h1 h2 => by rw [e1, hkk q (Nat.lt_of_lt_of_le h1 hS.1)]; exact hS.2.1 q h1 h2, fun q hq => by
      rcases List.mem_append.mp hq with h | h
      · exact hS.2.2 q h
      · exact absurd (hL q h) (fun z => z)⟩ hl T' rfl X'
  exact ⟨t2, hst t2 a1, b1⟩
theorem iL_ret {p : Program} {l : Launch} {e : Env} {s : State} {m : MethodId} {below : List Frame} {meth : Method} {c : Code} {b cells slots : Nat} {G : iw_G} {σ : iw_M} {pc : Nat} {lv : List (Nat × Value)} {v : Int32} (C : iw_C p room_1 s m #[Value.ref b] c cL_law 18 wsL_law RL G (il_A s) cells slots) (hc : cells ≤ 600000 ∧ slots ≤ 7302250) (hr : meth.sig.returnType = ret) (hlk : meth.locks = false) (hv : v = 1) (hdg : decode cL_law pc = .ok (.ireturn, 1)) : iw_V p l e room_1 s m #[Value.ref b] below meth c cells slots (lw_Z below #[Value.ref b] s) 18 G (il_A s) σ pc lv [.int v] := fun H locs ls hP hS hl => by
  subst hv
  refine va_forget (fun q hq => hS.2.2 q hq) ?_
  refine W.widen (k := 600000) (n := 7302250) hc.1 hc.2 ?_
  exact lw_ret C.1 C.2.1 hr hlk hdg
end LW
