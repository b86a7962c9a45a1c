/-! construction: the cells are listed -/
def ib_C (p : Program) (R : Room) (s : State) (m : MethodId) (args : Array Value) (c : Code) (cc : ByteArray) (nL : Nat) (Ts : List Cond) (own : String) (G : iw_G) (A : Nat → Prop) : Prop :=
  p.tables.exec = Jvm.exec ∧ c.code = cc ∧ c.maxLocals = nL ∧ s.vm.findClass own = some m.cls ∧ (∀ w ∈ Ts, w.before args s = true) ∧ iw_K G s ∧ ∀ q, s.heap.size ≤ q → A q
def ib_V (p : Program) (l : Launch) (e : Env) (R : Room) (s : State) (m : MethodId) (args : Array Value) (below : List Frame) (meth : Method) (c : Code) (Q : State → Prop) (nL : Nat) (G : iw_G) (A : Nat → Prop) (cells slots : Nat) (ws : va_W) (pc : Nat) (lv : List (Nat × Value)) (st : List Value) : Prop :=
  ∀ (H : Heap) (locs : List Loc) (ls : Array Slot), va_P G.1 vwCl ws H → va_D A ws → va_S A s.heap H locs → lv_has ls nL lv → W p l e R s m args below meth c H locs cells slots Q (F0 m pc ls st)
/-- a constructor's contract: its object at h0; W1 f behind it, f the addresses -/
def ib_Ct (l : Launch) (y : MethodName) (ws : List Cond) (rm : Room) (G : iw_G) (h0 ci : Nat) (fs0 : List Value) (N ms : Nat) (W1 : (Nat → Nat) → va_W) : Prop :=
  ∀ sz : Nat, h0 < sz → Met l y ws rm (va_Pc [.ref h0] (fun U => U.heap.size = sz ∧ va_P G.1 vwCl [(h0, .inr (ci, fs0))] U.heap ∧ iw_K G U))
    (fun _ st oc t => oc = .returned none ∧ (∃ f : Nat → Nat, va_P G.1 vwCl (W1 f) t.heap ∧ va_D (fun q => q = h0 ∨ sz ≤ q) (W1 f)) ∧ iw_K G t ∧ va_F (fun q => q = h0 ∨ sz ≤ q) st t) N ms (fun q => q = h0 ∨ sz ≤ q)
section IB
variable {p : Program} {l : Launch} {e : Env} {R : Room} {s : State} {m : MethodId} {args : Array Value} {below : List Frame} {meth : Method} {c : Code} {cells slots : Nat} {Q : State → Prop} {nL : Nat} {G : iw_G} {A : Nat → Prop} {ws : va_W} {pc : Nat} {lv : List (Nat × Value)} {st : List Value} {cc : ByteArray} {Ts : List Cond} {own : String}
theorem ib_C.K (C : ib_C p R s m args c cc nL Ts own G A) : iw_K G s := C.2.2.2.2.2.1
theorem ib_iconst (C : ib_C p R s m args c cc nL Ts own G A) {n : Int} (v : Int32) (hdg : decode cc pc = .ok (.iconst n, 1)) (hv : Int32.ofInt n = v) (k : ib_V p l e R s m args below meth c Q nL G A cells slots ws (pc + 1) lv (.int v :: st)) : ib_V p l e R s m args below meth c Q nL G A cells slots ws pc lv st := fun H locs ls hP hD hS hl => lv_iconst C.1 C.2.1 hdg hv (k H locs ls hP hD hS hl)
theorem ib_bipush (C : ib_C p R s m args c cc nL Ts own G A) {n : Int} (v : Int32) (hdg : decode cc pc = .ok (.bipush n, 2)) (hv : (Int8.ofInt n).toInt32 = v) (k : ib_V p l e R s m args below meth c Q nL G A cells slots ws (pc + 2) lv (.int v :: st)) : ib_V p l e R s m args below meth c Q nL G A cells slots ws pc lv st := fun H locs ls hP hD hS hl => lv_bipush C.1 C.2.1 hdg hv (k H locs ls hP hD hS hl)
theorem ib_sipush (C : ib_C p R s m args c cc nL Ts own G A) {n : Int} (v : Int32) (hdg : decode cc pc = .ok (.sipush n, 3)) (hv : (Int16.ofInt n).toInt32 = v) (k : ib_V p l e R s m args below meth c Q nL G A cells slots ws (pc + 3) lv (.int v :: st)) : ib_V p l e R s m args below meth c Q nL G A cells slots ws pc lv st := fun H locs ls hP hD hS hl => lv_sipush C.1 C.2.1 hdg hv (k H locs ls hP hD hS hl)
theorem ib_iload_n (C : ib_C p R s m args c cc nL Ts own G A) (j : Nat) {k : Fin 4} {i : Nat} {x : Int32} (hdg : decode cc pc = .ok (.iload_n k, 1)) (hi : (k : Nat) = i) (h : lv[j]? = some (i, .int x)) (q : ib_V p l e R s m args below meth c Q nL G A cells slots ws (pc + 1) lv (.int x :: st)) : ib_V p l e R s m args below meth c Q nL G A cells slots ws pc lv st := fun H locs ls hP hD hS hl => lv_iload_n C.1 C.2.1 hdg hi (lv_at hl j h) (q H locs ls hP hD hS hl)
theorem ib_istore_n (C : ib_C p R s m args c cc nL Ts own G A) (lv' : List (Nat × Value)) {k : Fin 4} {i : Nat} {x : Int32} (hdg : decode cc pc = .ok (.istore_n k, 1)) (hi : (k : Nat) = i) (hn : i < nL) (h : (i, Value.int x) :: lv.filter (fun q => !(q.1 == i) && !(q.1 + 1 == i && q.2.category == 2)) = lv') (q : ib_V p l e R s m args below meth c Q nL G A cells slots ws (pc + 1) lv' st) : ib_V p l e R s m args below meth c Q nL G A cells slots ws pc lv (.int x :: st) := fun H locs ls hP hD hS hl => lv_istore_n C.1 C.2.1 hdg hi hl hn h (fun ls' hl' => q H locs ls' hP hD hS hl')
theorem ib_aload_n (C : ib_C p R s m args c cc nL Ts own G A) (j : Nat) {k : Fin 4} {i : Nat} {x : Nat} (hdg : decode cc pc = .ok (.aload_n k, 1)) (hi : (k : Nat) = i) (h : lv[j]? = some (i, .ref x)) (q : ib_V p l e R s m args below meth c Q nL G A cells slots ws (pc + 1) lv (.ref x :: st)) : ib_V p l e R s m args below meth c Q nL G A cells slots ws pc lv st := fun H locs ls hP hD hS hl => lv_aload_n C.1 C.2.1 hdg hi (lv_at hl j h) (q H locs ls hP hD hS hl)
theorem ib_astore_n (C : ib_C p R s m args c cc nL Ts own G A) (lv' : List (Nat × Value)) {k : Fin 4} {i : Nat} {x : Nat} (hdg : decode cc pc = .ok (.astore_n k, 1)) (hi : (k : Nat) = i) (hn : i < nL) (h : (i, Value.ref x) :: lv.filter (fun q => !(q.1 == i) && !(q.1 + 1 == i && q.2.category == 2)) = lv') (q : ib_V p l e R s m args below meth c Q nL G A cells slots ws (pc + 1) lv' st) : ib_V p l e R s m args below meth c Q nL G A cells slots ws pc lv (.ref x :: st) := fun H locs ls hP hD hS hl => lv_astore_n C.1 C.2.1 hdg hi hl hn h (fun ls' hl' => q H locs ls' hP hD hS hl')
theorem ib_iinc (C : ib_C p R s m args c cc nL Ts own G A) (j : Nat) (v : Int32) (lv' : List (Nat × Value)) {i : Nat} {n : Int} {x : Int32} (hdg : decode cc pc = .ok (.iinc i n, 3)) (hk : lv[j]? = some (i, .int x)) (hv : x + Int32.ofInt n = v) (hn : i < nL) (h : (i, Value.int v) :: lv.filter (fun q => !(q.1 == i) && !(q.1 + 1 == i && q.2.category == 2)) = lv') (q : ib_V p l e R s m args below meth c Q nL G A cells slots ws (pc + 3) lv' st) : ib_V p l e R s m args below meth c Q nL G A cells slots ws pc lv st := fun H locs ls hP hD hS hl => lv_iinc C.1 C.2.1 hdg hl hk hv hn h (fun ls' hl' => q H locs ls' hP hD hS hl')
theorem ib_dup (C : ib_C p R s m args c cc nL Ts own G A) {va : Value} (hva : va.category = 1) (hdg : decode cc pc = .ok (.dup, 1)) (q : ib_V p l e R s m args below meth c Q nL G A cells slots ws (pc + 1) lv (va :: va :: st)) : ib_V p l e R s m args below meth c Q nL G A cells slots ws pc lv (va :: st) := fun H locs ls hP hD hS hl => lv_dup C.1 C.2.1 hdg hva (q H locs ls hP hD hS hl)
theorem ib_goto (C : ib_C p R s m args c cc nL Ts own G A) (tgt : Nat) {off : Int} (hdg : decode cc pc = .ok (.goto off, 3)) (ht : (pc : Int) + off = (tgt : Int)) (q : ib_V p l e R s m args below meth c Q nL G A cells slots ws tgt lv st) : ib_V p l e R s m args below meth c Q nL G A cells slots ws pc lv st := fun H locs ls hP hD hS hl => lv_goto C.1 C.2.1 hdg ht (q H locs ls hP hD hS hl)
theorem ib_icmp_ge (C : ib_C p R s m args c cc nL Ts own G A) (tgt : Nat) {x y : Int32} {off : Int} (hdg : decode cc pc = .ok (.if_icmp .ge off, 3)) (ht : (pc : Int) + off = (tgt : Int)) (kt : y ≤ x → ib_V p l e R s m args below meth c Q nL G A cells slots ws tgt lv st) (kf : ¬ y ≤ x → ib_V p l e R s m args below meth c Q nL G A cells slots ws (pc + 3) lv st) : ib_V p l e R s m args below meth c Q nL G A cells slots ws pc lv (.int y :: .int x :: st) := fun H locs ls hP hD hS hl => lv_icmp_ge C.1 C.2.1 hdg ht (fun h => kt h H locs ls hP hD hS hl) (fun h => kf h H locs ls hP hD hS hl)
theorem ib_alen9 (C : ib_C p R s m args c cc nL Ts own G A) (q0 : Nat) {a n : Nat} {f : Nat → Option Nat} (v : Int32) (he : ws[q0]? = some (a, .inl (G.2.2.2.2.1, n, .inr (.inr (.inr (.inr f)))))) (hv : Int32.ofNat n = v) (hdg : decode cc pc = .ok (.arraylength, 1)) (q : ib_V p l e R s m args below meth c Q nL G A cells slots ws (pc + 1) lv (.int v :: st)) : ib_V p l e R s m args below meth c Q nL G A cells slots ws pc lv (.ref a :: st) := fun H locs ls hP hD hS hl =>
  va_alen (x := (n, .inr (.inr (.inr (.inr f))))) C.1 C.2.1 C.K.1 hP q0 2 he rfl hv hdg (q H locs ls hP hD hS hl)
theorem ib_getf (C : ib_C p R s m args c cc nL Ts own G A) {Cn ref : String} {T : u_T} {N ci index a : Nat} {fs : List Value} (q0 : Nat) (k : Nat) {v : Value} (hin : ∀ w ∈ u_ws Cn T N, w ∈ Ts) (he : ws[q0]? = some (a, .inr (ci, fs))) (hc : vwCl[ci]? = some (Cn, T, N)) (hk : k < N) (hlink : Cond.fieldLink own index ref (T k).2.1 (T k).2.2.1 ∈ Ts) (href : (T k).1 = ref) (hv : fs[k]? = some v) (hdg : decode cc pc = .ok (.getfield index, 3)) (q : ib_V p l e R s m args below meth c Q nL G A cells slots ws (pc + 3) lv (v :: st)) : ib_V p l e R s m args below meth c Q nL G A cells slots ws pc lv (.ref a :: st) := fun H locs ls hP hD hS hl =>
  va_get C.1 C.2.1 C.2.2.2.2.1 hin C.2.2.2.1 C.K.1 hP q0 he hc k hk (C.2.2.2.2.1 _ hlink) (fun x h => by rw [← href]; exact h) hv hdg (q H locs ls hP hD hS hl)
theorem ib_putF (C : ib_C p R s m args c cc nL Ts own G A) {Cn ref : String} {T : u_T} {N ci index a : Nat} {fs : List Value} {ty0 : Nat → FieldType} {ty : FieldType} (q0 : Nat) (k : Nat) {v : Value} (ws' : va_W) (hin : ∀ w ∈ u_ws Cn T N, w ∈ Ts) (he : ws[q0]? = some (a, .inr (ci, fs))) (hty : ∀ k, k < N → parseFieldDescriptor (T k).2.2.1 = some (ty0 k)) (hnm : ∀ a, a < N → ∀ b, b < N → a ≠ b → (T a).2.1 ≠ (T b).2.1) (hc : vwCl[ci]? = some (Cn, T, N)) (hk : k < N) (hlink : Cond.fieldLink own index ref (T k).2.1 (T k).2.2.1 ∈ Ts) (href : (T k).1 = ref) (hfin : (T k).2.2.2 = true) (hin2 : meth.name = "<init>") (hdecl : (T k).1 = own) (hd : parseFieldDescriptor (T k).2.2.1 = some ty) (hn : narrow ty v = v) (hfit : fits ty v = true) (hl : k < fs.length) (hw : ws.set q0 (a, .inr (ci, fs.set k v)) = ws') (hdg : decode cc pc = .ok (.putfield index, 3)) (q : ib_V p l e R s m args below meth c Q nL G A cells slots ws' (pc + 3) lv st) : ib_V p l e R s m args below meth c Q nL G A cells slots ws pc lv (v :: .ref a :: st) := fun H locs ls hP hD hS hls =>
  va_putF C.1 C.2.1 C.2.2.2.2.1 hin ty0 hty hnm C.2.2.2.1 C.K.1 hP hD hS q0 he hc k hk (C.2.2.2.2.1 _ hlink) (fun x h => by rw [← href]; exact h) hfin hin2 hdecl hd hn hfit hl hdg (fun H1 locs1 hP1 hD1 hS1 => q H1 locs1 ls (by rw [hw] at hP1; exact hP1) (by rw [hw] at hD1; exact hD1) hS1 hls)
theorem ib_new (C : ib_C p R s m args c cc nL Ts own G A) {Cn : String} {T : u_T} {N index : Nat} {ty : Nat → FieldType} (ci : Nat) (fs : List Value) (hin : ∀ w ∈ u_ws Cn T N, w ∈ Ts) (hty : ∀ k, k < N → parseFieldDescriptor (T k).2.2.1 = some (ty k)) (hw : Cond.classLink own index Cn ∈ Ts ∧ Cond.instantiable Cn N ∈ Ts ∧ Cond.initialized Cn ∈ Ts) (hc : vwCl[ci]? = some (Cn, T, N)) (hfs : ∀ j, j < N → defaultValue (ty j) = vp_V fs j) (hcells : cells + 1 ≤ R.cells) (hslots : slots + N ≤ R.slots) (hdg : decode cc pc = .ok (.new index, 3)) (q : ∀ a : Nat, ib_V p l e R s m args below meth c Q nL G A (cells + 1) (slots + N) (ws ++ [(a, .inr (ci, fs))]) (pc + 3) lv (.ref a :: st)) : ib_V p l e R s m args below meth c Q nL G A cells slots ws pc lv st := fun H locs ls hP hD hS hl =>
  va_new C.1 C.2.1 C.2.2.2.2.1 hin ty hty C.2.2.2.1 (C.2.2.2.2.1 _ hw.1) (C.2.2.2.2.1 _ hw.2.1) (C.2.2.2.2.1 _ hw.2.2) C.K.1 hP hD hS C.2.2.2.2.2.2 hc hfs hcells hslots hdg (fun a H1 hP1 hD1 hS1 => q a H1 locs ls hP1 hD1 hS1 hl)
theorem ib_newI (C : ib_C p R s m args c cc nL Ts own G A) {n : Int32} (N' : Nat) (harr : Cond.arrayClass .int ∈ Ts) (hn : ¬ n < 0) (hN : n.toNatClampNeg = N') (hbytes : N' * componentBytes .int ≤ 536870912) (hcells : cells + 1 ≤ R.cells) (hslots : slots + N' ≤ R.slots) (hdg : decode cc pc = .ok (.newarray .int, 2)) (q : ∀ a : Nat, ib_V p l e R s m args below meth c Q nL G A (cells + 1) (slots + N') (ws ++ [(a, .inl (G.2.2.1, N', .inl (fun _ => 0)))]) (pc + 2) lv (.ref a :: st)) : ib_V p l e R s m args below meth c Q nL G A cells slots ws pc lv (.int n :: st) := fun H locs ls hP hD hS hl =>
  va_newa (atype := .int) (ty := .int) C.1 C.2.1 (C.2.2.2.2.1 _ harr) rfl C.K.1 hP hD hS C.2.2.2.2.2.2 (a0 := (N', .inl (fun _ => 0))) (fun _ => rfl) hn hN hbytes hcells hslots hdg (fun a cA H1 hK1 hP1 hD1 hS1 => by
    have e1 : cA = G.2.2.1 := Option.some.inj ((va_nm_int (hK1.2 3 (cA, .int) rfl).2).symm.trans (va_nm_int (C.K.1.2 0 _ rfl).2))
    subst e1
    exact q a H1 locs ls hP1 hD1 hS1 hl)
theorem ib_newQ (C : ib_C p R s m args c cc nL Ts own G A) {n : Int32} {index : Nat} (N' : Nat) (hw : Cond.classLink own index "InterestNet$Net" ∈ Ts) (hn : ¬ n < 0) (hN : n.toNatClampNeg = N') (hbytes : N' * 4 ≤ 536870912) (hcells : cells + 1 ≤ R.cells) (hslots : slots + N' ≤ R.slots) (hdg : decode cc pc = .ok (.anewarray index, 3)) (q : ∀ a : Nat, ib_V p l e R s m args below meth c Q nL G A (cells + 1) (slots + N') (ws ++ [(a, .inl (G.2.2.2.2.1, N', .inr (.inr (.inr (.inr (fun _ => none))))))]) (pc + 3) lv (.ref a :: st)) : ib_V p l e R s m args below meth c Q nL G A cells slots ws pc lv (.int n :: st) := fun H locs ls hP hD hS hl =>
  va_newq C.1 C.2.1 C.2.2.2.1 (C.2.2.2.2.1 _ hw) C.K.2.1 C.K.1 hP hD hS C.2.2.2.2.2.2 hn hN hbytes hcells hslots hdg (fun a cA H1 hK1 hP1 hD1 hS1 => by
    have e1 : cA = G.2.2.2.2.1 := Option.some.inj ((va_nmO (hK1.2 3 (cA, .object "InterestNet$Net") rfl).2 rfl).symm.trans (va_nmO (C.K.1.2 2 _ rfl).2 rfl))
    subst e1
    exact q a H1 locs ls hP1 hD1 hS1 hl)
theorem ib_iast (C : ib_C p R s m args c cc nL Ts own G A) (q0 : Nat) {a n : Nat} {f : Nat → Int32} {i x : Int32} (ws' : va_W) (ha : ws[q0]? = some (a, .inl (G.2.2.1, n, .inl f))) (hin : vp_in i n) (hw : ws.set q0 (a, .inl (G.2.2.1, n, .inl (upd f i.toNatClampNeg x))) = ws') (hdg : decode cc pc = .ok (.iastore, 1)) (q : ib_V p l e R s m args below meth c Q nL G A cells slots ws' (pc + 1) lv st) : ib_V p l e R s m args below meth c Q nL G A cells slots ws pc lv (.int x :: .int i :: .ref a :: st) := fun H locs ls hP hD hS hl =>
  va_iast C.1 C.2.1 C.K.1 hP hD hS q0 0 ha rfl hin hdg (fun H1 locs1 hP1 hD1 hS1 => q H1 locs1 ls (by rw [hw] at hP1; exact hP1) (by rw [hw] at hD1; exact hD1) hS1 hl)
theorem ib_aast (C : ib_C p R s m args c cc nL Ts own G A) (q0 qk : Nat) {a n v : Nat} {f : Nat → Option Nat} {vs : List Value} {i : Int32} (ws' : va_W) (ha : ws[q0]? = some (a, .inl (G.2.2.2.2.1, n, .inr (.inr (.inr (.inr f)))))) (hv : ws[qk]? = some (v, .inr (1, vs))) (hin : vp_in i n) (hw : ws.set q0 (a, .inl (G.2.2.2.2.1, n, .inr (.inr (.inr (.inr (va_up f i.toNatClampNeg (some v))))))) = ws') (hdg : decode cc pc = .ok (.aastore, 1)) (q : ib_V p l e R s m args below meth c Q nL G A cells slots ws' (pc + 1) lv st) : ib_V p l e R s m args below meth c Q nL G A cells slots ws pc lv (.ref v :: .int i :: .ref a :: st) := fun H locs ls hP hD hS hl =>
  va_astq C.1 C.2.1 C.K.1 hP hD hS q0 2 qk 1 (r := (RX1, TX1, 7)) ha rfl hv rfl hin hdg (fun H1 locs1 hP1 hD1 hS1 => q H1 locs1 ls (by rw [hw] at hP1; exact hP1) (by rw [hw] at hD1; exact hD1) hS1 hl)
theorem ib_oinit (C : ib_C p R s m args c cc nL Ts own G A) {a idx : Nat} (hw : Cond.methodLink own idx objectInit ∈ Ts ∧ Cond.instanceMethod objectInit ∈ Ts ∧ Cond.code objectInit ⟨#[0xb1]⟩ 1 none ∈ Ts) (hd : decode cc pc = .ok (.invokespecial idx, 3)) (hframes : 1 ≤ R.frames) (hlocals : (st.map fun v => v.category).sum + 12 ≤ R.locals) (q : ib_V p l e R s m args below meth c Q nL G A cells slots ws (pc + 3) lv st) : ib_V p l e R s m args below meth c Q nL G A cells slots ws pc lv (.ref a :: st) := fun H locs ls hP hD hS hl =>
  W.objInit C.1 C.2.1 C.2.2.2.1 (C.2.2.2.2.1 _ hw.1) (C.2.2.2.2.1 _ hw.2.1) (C.2.2.2.2.1 _ hw.2.2) rfl (by rw [C.2.2.1]; exact hl.1) rfl hd hframes (by show 2 * 0 + _ + 12 ≤ _; omega) (q H locs ls hP hD hS hl)
theorem ib_er {A0 : Nat → Prop} {W1 : va_W} {H H1 : Heap} (h0 i sz : Nat) {e0 : va_E} (hi : ws[i]? = some (h0, e0)) (hz : H.size = sz) (hP : va_P G.1 vwCl ws H) (hD : va_D A0 ws) (hA : ∀ q, sz ≤ q → A0 q) (hk : ∀ q : Nat, q < H.size → ¬ (q = h0 ∨ sz ≤ q) → H1[q]? = H[q]?) (hP1 : va_P G.1 vwCl W1 H1) (hD1 : va_D (fun q => q = h0 ∨ sz ≤ q) W1) : va_P G.1 vwCl (ws.eraseIdx i ++ W1) H1 ∧ va_D A0 (ws.eraseIdx i ++ W1) := by
  have key : ∀ (k : Nat) (q : Nat × va_E), (ws.eraseIdx i)[k]? = some q → ∃ j, j ≠ i ∧ ws[j]? = some q ∧ j = (if k < i then k else k + 1) := by
    intro k q hq
    rw [List.getElem?_eraseIdx] at hq
    by_cases h : k < i
    · rw [if_pos h] at hq
      exact ⟨k, by omega, hq, by rw [if_pos h]⟩
    · rw [if_neg h] at hq
      exact ⟨k + 1, by omega, hq, by rw [if_neg h]⟩
  have far : ∀ (k : Nat) (q : Nat × va_E), (ws.eraseIdx i)[k]? = some q → q.1 < sz ∧ ¬ (q.1 = h0 ∨ sz ≤ q.1) := by
    intro k q hq
    obtain ⟨j, h1, h2, -⟩ := key k q hq
    have hl := (hP j q h2).lt
    refine ⟨by omega, fun h => ?_⟩
    rcases h with h | h
    · exact h1 (hD.1 j i q (h0, e0) h2 hi h)
    · omega
  refine ⟨va_P.app (fun k q hq => ?_) hP1, va_D.app ⟨fun a b x y hx hy hxy => ?_, fun k q hq => ?_⟩ (hD1.weaken (fun k q hq h => ?_)) (fun a b x y hx hy hxy => ?_)⟩
  · obtain ⟨j, h1, h2, -⟩ := key k q hq
    obtain ⟨g1, g2⟩ := far k q hq
    exact (hP j q h2).kept (hk q.1 (by omega) g2)
  · obtain ⟨j, -, h2, h3⟩ := key a x hx
    obtain ⟨j', -, h2', h3'⟩ := key b y hy
    have := hD.1 j j' x y h2 h2' hxy
    by_cases c1 : a < i <;> by_cases c2 : b < i <;> simp only [c1, c2, if_true, if_false] at h3 h3' <;> omega
  · obtain ⟨j, -, h2, -⟩ := key k q hq
    exact hD.2 j q h2
  · rcases h with h | h
    · rw [h]
      exact hD.2 i _ hi
    · exact hA _ h
  · exact (far a x hx).2 (by rw [hxy]; exact hD1.2 b y hy)
theorem ib_blind {h0 sz ci : Nat} {fs0 : List Value} : FrameBlind (va_Pc [.ref h0] (fun U => U.heap.size = sz ∧ va_P G.1 vwCl [(h0, .inr (ci, fs0))] U.heap ∧ iw_K G U)) := fun _ _ _ _ q => ⟨q.1, q.2.1, q.2.2.1, iw_K.same rfl q.2.2.2⟩
theorem ib_one {h0 i ci : Nat} {fs0 : List Value} {H : Heap} (hi : ws[i]? = some (h0, .inr (ci, fs0))) (hP : va_P G.1 vwCl ws H) : va_P G.1 vwCl [(h0, .inr (ci, fs0))] H := fun k q hq => by
  have hz : k < 1 := (List.getElem?_eq_some_iff.mp hq).1
  rw [show k = 0 by omega] at hq
  cases hq
  exact hP i _ hi
theorem ib_behind (C : ib_C p R s m args c cc nL Ts own G A) {h0 i N ms : Nat} {e0 : va_E} {W1 : (Nat → Nat) → va_W} {st0 : List Value} (hi : ws[i]? = some (h0, e0))
    (hr : ∀ (H : Heap) (locs : List Loc) (ls : Array Slot), va_P G.1 vwCl ws H → va_D A ws → va_S A s.heap H locs → lv_has ls nL lv → va_Run p l e R s m args below meth c H locs cells slots N ms (F0 m pc ls st0) st (fun st oc t => oc = .returned none ∧ (∃ f : Nat → Nat, va_P G.1 vwCl (W1 f) t.heap ∧ va_D (fun q => q = h0 ∨ H.size ≤ q) (W1 f)) ∧ iw_K G t ∧ va_F (fun q => q = h0 ∨ H.size ≤ q) st t) (fun q => q = h0 ∨ H.size ≤ q))
    (q : ∀ f : Nat → Nat, ib_V p l e R s m args below meth c Q nL G A (cells + N) (slots + ms) (ws.eraseIdx i ++ W1 f) (pc + 3) lv st) : ib_V p l e R s m args below meth c Q nL G A cells slots ws pc lv st0 := by
  intro H locs ls hP hD hS hl T hT X
  obtain ⟨v1, st₀, t, T', L, h0', X', hL, e1, e2, ⟨hv, ⟨f, hP1, hD1⟩, hK1, hz, hk⟩, hst⟩ := hr H locs ls hP hD hS hl T hT X
  have hv : v1 = none := by injection hv
  subst hv
  rw [h0'] at hz hk
  have hAh : A h0 := hD.2 i _ hi
  have hA : ∀ q, H.size ≤ q → A q := fun q h => C.2.2.2.2.2.2 q (Nat.le_trans hS.1 h)
  have hA2 : ∀ q, (q = h0 ∨ H.size ≤ q) → A q := fun q h => by
    rcases h with h | h
    · rw [h]; exact hAh
    · exact hA q h
  obtain ⟨hP2, hD2⟩ := ib_er h0 i H.size hi rfl hP hD hA hk hP1 hD1
  obtain ⟨t2, a1, b1⟩ := q f T'.heap (locs ++ L) ls (by rw [e1]; exact hP2) hD2
    ⟨Nat.le_trans hS.1 (by rw [e1]; exact hz), fun q h1 h2 => by rw [e1, hk q (Nat.lt_of_lt_of_le h1 hS.1) (fun z => h2 (hA2 q z))]; exact hS.2.1 q h1 h2, fun q hq => by
      rcases List.mem_append.mp hq with h | h
      · exact hS.2.2 q h
      · exact hA2 _ (hL q h)⟩ hl T' rfl X'
  exact ⟨t2, hst t2 a1, b1⟩
theorem ib_init (C : ib_C p R s m args c cc nL Ts own G A) {y : MethodName} {wsy ws' : List Cond} {rm : Room} {maxL index h0 ci N ms : Nat} {bytes : ByteArray} {fs0 : List Value} {W1 : (Nat → Nat) → va_W} (i : Nat) (hi : ws[i]? = some (h0, .inr (ci, fs0))) (hM : ib_Ct l y wsy rm G h0 ci fs0 N ms W1) (hG : GoodIn Ts wsy) (hw : wsy = Cond.code y bytes maxL none :: ws') (hlk : Cond.initialized y.cls ∈ Ts ∧ Cond.methodLink own index y ∈ Ts ∧ Cond.instanceMethod y ∈ Ts) (hy1 : y.name = "<init>") (hd : y.cls ≠ "java/lang/invoke/MethodHandle" ∧ y.cls ≠ "java/lang/invoke/VarHandle" ∧ (parseMethodDescriptor y.desc).map (fun d => d.parameters.length) = some 0) (hrm : rm.cells = N ∧ rm.slots = ms ∧ rm.frames + 1 ≤ R.frames ∧ 8 + (maxL + 11) + rm.locals ≤ R.locals) (hcat : (st.map fun v => v.category).sum ≤ 8) (hf : cells + N ≤ R.cells ∧ slots + ms ≤ R.slots) (hdg : decode cc pc = .ok (.invokespecial index, 3)) (q : ∀ f : Nat → Nat, ib_V p l e R s m args below meth c Q nL G A (cells + N) (slots + ms) (ws.eraseIdx i ++ W1 f) (pc + 3) lv st) : ib_V p l e R s m args below meth c Q nL G A cells slots ws pc lv (.ref h0 :: st) :=
  ib_behind C hi (fun H locs ls hP hD hS hl => va_runI (As := []) (rest := st) ⟨C.1, C.2.1, C.2.2.1, C.2.2.2.1, C.2.2.2.2.1⟩ (hM H.size ((hP i _ hi).lt)) (cwI 0 C.2.2.2.2.1 hG hw hrm.1 hrm.2.1 (C.2.2.2.2.1 _ hlk.1) (C.2.2.2.2.1 _ hlk.2.1) (C.2.2.2.2.1 _ hlk.2.2) hy1 hd hrm.2.2) ⟨ib_blind, fun U hU hW => ⟨rfl, by rw [hU], by rw [hU]; exact ib_one hi hP, C.K.warm hW⟩⟩ rfl rfl hl.1 rfl (lv_room hcat) hdg hf) q
theorem ib_initN (C : ib_C p R s m args c cc nL Ts own G A) {y : MethodName} {wsy ws' : List Cond} {rm : Room} {maxL index h0 ci N ms : Nat} {bytes : ByteArray} {fs0 : List Value} {W1 : (Nat → Nat) → va_W} (i : Nat) (hi : ws[i]? = some (h0, .inr (ci, fs0))) (hM : ib_Ct l y wsy rm G h0 ci fs0 N ms W1) (hG : GoodIn Ts wsy) (hw : wsy = Cond.code y bytes maxL none :: ws') (hne : (own, index, y) ∈ iw_nm) (hlk : Cond.initialized y.cls ∈ Ts ∧ Cond.instanceMethod y ∈ Ts) (hy1 : y.name = "<init>") (hd : y.cls ≠ "java/lang/invoke/MethodHandle" ∧ y.cls ≠ "java/lang/invoke/VarHandle" ∧ (parseMethodDescriptor y.desc).map (fun d => d.parameters.length) = some 0) (hrm : rm.cells = N ∧ rm.slots = ms ∧ rm.frames + 1 ≤ R.frames ∧ 8 + (maxL + 11) + rm.locals ≤ R.locals) (hcat : (st.map fun v => v.category).sum ≤ 8) (hf : cells + N ≤ R.cells ∧ slots + ms ≤ R.slots) (hdg : decode cc pc = .ok (.invokespecial index, 3)) (q : ∀ f : Nat → Nat, ib_V p l e R s m args below meth c Q nL G A (cells + N) (slots + ms) (ws.eraseIdx i ++ W1 f) (pc + 3) lv st) : ib_V p l e R s m args below meth c Q nL G A cells slots ws pc lv (.ref h0 :: st) :=
  ib_behind C hi (fun H locs ls hP hD hS hl => va_runIN (host := "InterestNet") (As := []) (rest := st) ⟨C.1, C.2.1, C.2.2.1, C.2.2.2.1, C.2.2.2.2.1⟩ (hM H.size ((hP i _ hi).lt)) ⟨va_cnB 0 C.2.2.2.2.1 hG hw hrm.1 hrm.2.1 (C.K.2.2.1 _ hne) (C.2.2.2.2.1 _ hlk.1) hd hrm.2.2, hy1, C.2.2.2.2.1 _ hlk.2⟩ ⟨ib_blind, fun U hU hW => ⟨rfl, by rw [hU], by rw [hU]; exact ib_one hi hP, C.K.warm hW⟩⟩ rfl rfl hl.1 rfl (lv_room hcat) hdg hf) q
theorem ib_imp {H : Heap} {locs : List Loc} {mc ms : Nat} {g : JFrame} {rest : List Value} {Qa Qb : State → Outcome → State → Prop} {fa fb : Addr → Prop} (h : va_Run p l e R s m args below meth c H locs cells slots mc ms g rest Qa fa) (hq : ∀ st oc t, st.heap = H → Qa st oc t → Qb st oc t) (hf : ∀ q, fa q → fb q) : va_Run p l e R s m args below meth c H locs cells slots mc ms g rest Qb fb := by
  intro T hT X
  obtain ⟨v, st₀, t, T', L, h0, X', hL, e1, e2, hQ, hst⟩ := h T hT X
  exact ⟨v, st₀, t, T', L, h0, X', fun q hq => hf _ (hL q hq), e1, e2, hq _ _ _ h0 hQ, hst⟩
theorem ib_ws {ws' : va_W} (h : ws = ws') (q : ib_V p l e R s m args below meth c Q nL G A cells slots ws' pc lv st) : ib_V p l e R s m args below meth c Q nL G A cells slots ws pc lv st := by subst h; exact q
theorem ib_widen {k n : Nat} (h1 : cells ≤ k) (h2 : slots ≤ n) (q : ib_V p l e R s m args below meth c Q nL G A k n ws pc lv st) : ib_V p l e R s m args below meth c Q nL G A cells slots ws pc lv st := fun H locs ls hP hD hS hl => W.widen h1 h2 (q H locs ls hP hD hS hl)
theorem ib_vret {h0 N ms : Nat} {W1 : (Nat → Nat) → va_W} (C : ib_C p R s m args c cc nL Ts own G (fun q => q = h0 ∨ s.heap.size ≤ q)) (f : Nat → Nat) (hr : meth.sig.returnType = none) (hlk : meth.locks = false) (hw : W1 f = ws) (hdg : decode cc pc = .ok (.return_, 1)) : ib_V p l e R s m args below meth c (MQ below (fun _ st oc t => oc = .returned none ∧ (∃ f : Nat → Nat, va_P G.1 vwCl (W1 f) t.heap ∧ va_D (fun q => q = h0 ∨ s.heap.size ≤ q) (W1 f)) ∧ iw_K G t ∧ va_F (fun q => q = h0 ∨ s.heap.size ≤ q) st t) args s N ms (fun q => q = h0 ∨ s.heap.size ≤ q)) nL G (fun q => q = h0 ∨ s.heap.size ≤ q) N ms ws pc lv [] := fun H locs ls hP hD hS hl =>
  W.vret C.1 C.2.1 hr (fun t ht hW => ⟨rfl, ⟨f, by rw [hw, ht]; exact hP, by rw [hw]; exact hD⟩, C.K.warm hW, hS.F ht⟩) hS.2.2 hdg hlk
theorem ib_start {y : MethodName} {wsy ws' : List Cond} {rm : Room} {h0 ci N ms : Nat} {fs0 : List Value} {W1 : (Nat → Nat) → va_W} (hy : plainName y.cls = true) (hw : wsy = .code y cc nL none :: ws') (hown : y.cls = own) (hL : 1 ≤ nL)
    (body : ∀ (p : Program) (e : Env) (s : State) (m : MethodId) (below : List Frame) (meth : Method) (c : Code), ib_C p rm s m [Value.ref h0].toArray c cc nL wsy own G (fun q => q = h0 ∨ s.heap.size ≤ q) → meth.sig.returnType = none → meth.locks = false → meth.name = y.name → ib_V p l e rm s m [Value.ref h0].toArray below meth c (MQ below (fun _ st oc t => oc = .returned none ∧ (∃ f : Nat → Nat, va_P G.1 vwCl (W1 f) t.heap ∧ va_D (fun q => q = h0 ∨ s.heap.size ≤ q) (W1 f)) ∧ iw_K G t ∧ va_F (fun q => q = h0 ∨ s.heap.size ≤ q) st t) [Value.ref h0].toArray s N ms (fun q => q = h0 ∨ s.heap.size ≤ q)) nL G (fun q => q = h0 ∨ s.heap.size ≤ q) 0 0 [(h0, .inr (ci, fs0))] 0 [(0, .ref h0)] []) : ib_Ct l y wsy rm G h0 ci fs0 N ms W1 := by
  intro sz hsz
  refine Met.ofW (cc := cc) (maxL := nL) (ret := none) hy hw ?_
  intro p e s m args below meth c s₁ B hml hv
  obtain ⟨rfl, hz, hP, hK⟩ := hv
  subst hz
  have hC : ib_C p rm s m [Value.ref h0].toArray c cc nL wsy own G (fun q => q = h0 ∨ s.heap.size ≤ q) := ⟨B.exec, B.bytes, hml, hown ▸ findClass_of_methodNamed B.named, atoms_spec (ws := wsy) B.pre, hK, fun q h => Or.inr h⟩
  have hD : va_D (fun q => q = h0 ∨ s.heap.size ≤ q) [(h0, (.inr (ci, fs0) : va_E))] := ⟨fun i j x y hx hy _ => by
    have h1 : i < 1 := (List.getElem?_eq_some_iff.mp hx).1
    have h2 : j < 1 := (List.getElem?_eq_some_iff.mp hy).1
    omega, fun k q hq => by
    have h1 : k < 1 := (List.getElem?_eq_some_iff.mp hq).1
    rw [show k = 0 by omega] at hq
    cases hq
    exact Or.inl rfl⟩
  rw [lg_entry_eq]
  exact body p e s m below meth c hC B.returns B.notSynchronized (name_of_methodNamed B.named B.method).1 s.heap [] _ hP hD va_S.rf (lv_entry [Value.ref h0] hL)
end IB
