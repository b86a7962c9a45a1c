/-! the one world: every object and array of the class, and the law's own array of one int, by a number ('id'); what they hold is one function of id and index -/
abbrev iw_M : Type := Nat → Nat → Int32
abbrev iw_G : Type := va_G × (Nat → Nat) × ClassId × ClassId × ClassId × Nat × Nat
/-- the ids of a world: the class's are 0 to 83, the law's own array is 84; 85 to 92 are a ghost's, in no world -/
def iw_in (G : iw_G) (a : Nat) : Prop := G.2.2.2.2.2.1 ≤ a ∧ a < G.2.2.2.2.2.2
def iw_nth (l : List Nat) (i : Nat) : Nat := l.getD i 0
/-- the kind of an id: 0 History, 1 Net, 2 Paths, 3 Runner, 4 Text, 5 InterestNet, 7 ints, 8 booleans, 9 nets -/
def iw_kd (a : Nat) : Nat := if a < 8 then iw_nth [5, 3, 7, 7, 0, 9, 4, 7] a else if a < 20 then (if (a - 8) % 6 = 0 then 2 else 7) else if a < 84 then (if (a - 20) % 8 = 0 then 1 else 7) else iw_nth [7, 7, 7, 8, 8, 7, 7, 8, 7] (a - 84)
/-- how long an array is -/
def iw_al (a : Nat) : Nat := if a < 8 then iw_nth [0, 0, 10, 60, 0, 5, 0, 120] a else if a < 20 then iw_nth [0, 100, 10, 10, 100, 100] ((a - 8) % 6) else if a < 84 then iw_nth [0, 12, 10, 60, 18, 35, 30, 300] ((a - 20) % 8) else iw_nth [1, 3255, 10, 10, 10, 10, 10, 600, 120] (a - 84)
def iw_h (hi lo : Int32) : Int64 := Int64.ofBitVec (hi.toBitVec ++ lo.toBitVec)
def iw_hi (v : Int64) : Int32 := Int32.ofBitVec (v.toBitVec.extractLsb' 32 32)
def iw_lo (v : Int64) : Int32 := Int32.ofBitVec (v.toBitVec.extractLsb' 0 32)
theorem iw_h_hl (v : Int64) : iw_h (iw_hi v) (iw_lo v) = v := by
  apply Int64.toBitVec_inj.mp
  show (v.toBitVec.extractLsb' 32 32 ++ v.toBitVec.extractLsb' 0 32 : BitVec 64) = v.toBitVec
  apply BitVec.eq_of_getLsbD_eq
  intro i hi
  rw [BitVec.getLsbD_append]
  by_cases h : i < 32
  · simp [h]
  · have h2 : i - 32 < 32 := by omega
    have h3 : 32 + (i - 32) = i := by omega
    simp [h, h2, h3]
def iw_E (G : iw_G) (σ : iw_M) (a : Nat) : va_E :=
  if iw_kd a = 7 then .inl (G.2.2.1, iw_al a, .inl (σ a))
  else if iw_kd a = 8 then .inl (G.2.2.2.1, iw_al a, .inl (σ a))
  else if iw_kd a = 9 then .inl (G.2.2.2.2.1, 5, .inr (.inr (.inr (.inr (fun j => some (G.2.1 (44 + 8 * j)))))))
  else if iw_kd a = 1 then .inr (1, [.ref (G.2.1 (a + 1)), .ref (G.2.1 (a + 2)), .ref (G.2.1 (a + 3)), .ref (G.2.1 (a + 4)), .ref (G.2.1 (a + 5)), .ref (G.2.1 (a + 6)), .ref (G.2.1 (a + 7))])
  else if iw_kd a = 2 then .inr (2, [.ref (G.2.1 (a + 1)), .ref (G.2.1 (a + 2)), .ref (G.2.1 (a + 3)), .ref (G.2.1 (a + 4)), .ref (G.2.1 (a + 5))])
  else if iw_kd a = 3 then .inr (3, [.ref (G.2.1 28), .ref (G.2.1 14), .ref (G.2.1 2), .ref (G.2.1 3)])
  else if iw_kd a = 4 then .inr (4, [.ref (G.2.1 36), .ref (G.2.1 7), .int (σ a 2), .int (σ a 3), .int (σ a 4), .int (σ a 5), .int (σ a 6)])
  else if iw_kd a = 5 then .inr (5, [.ref (G.2.1 20), .ref (G.2.1 1), .ref (G.2.1 8), .ref (G.2.1 4), .ref (G.2.1 6)])
  else if iw_kd a = 0 then .inr (0, [.ref (G.2.1 5), .int (σ a 1), .int (σ a 2)])
  else .inr (6, [])
def iw_wl (G : iw_G) (σ : iw_M) : va_W := (List.range (G.2.2.2.2.2.2 - G.2.2.2.2.2.1)).map (fun k => (G.2.1 (G.2.2.2.2.2.1 + k), iw_E G σ (G.2.2.2.2.2.1 + k)))
def iw_up (σ : iw_M) (a i : Nat) (v : Int32) : iw_M := fun b => if b = a then upd (σ a) i v else σ b
theorem iw_at {G : iw_G} {σ : iw_M} {a : Nat} (h : iw_in G a) : (iw_wl G σ)[a - G.2.2.2.2.2.1]? = some (G.2.1 a, iw_E G σ a) := by
  obtain ⟨h1, h2⟩ := h
  have h3 : a - G.2.2.2.2.2.1 < G.2.2.2.2.2.2 - G.2.2.2.2.2.1 := by omega
  have h4 : G.2.2.2.2.2.1 + (a - G.2.2.2.2.2.1) = a := by omega
  simp [iw_wl, h3, h4]
theorem iw_E_congr {G : iw_G} {σ σ' : iw_M} {a : Nat} (h : σ' a = σ a) : iw_E G σ' a = iw_E G σ a := by
  unfold iw_E
  rw [h]
theorem iw_wlk {G : iw_G} {σ : iw_M} {k : Nat} (h : k < G.2.2.2.2.2.2 - G.2.2.2.2.2.1) : (iw_wl G σ)[k]? = some (G.2.1 (G.2.2.2.2.2.1 + k), iw_E G σ (G.2.2.2.2.2.1 + k)) := by
  simp [iw_wl, h]
theorem iw_set {G : iw_G} {σ σ' : iw_M} {a : Nat} {e : va_E} (h : iw_in G a) (he : iw_E G σ' a = e) (hne : ∀ b, b ≠ a → σ' b = σ b) : (iw_wl G σ).set (a - G.2.2.2.2.2.1) (G.2.1 a, e) = iw_wl G σ' := by
  obtain ⟨h1, h2⟩ := h
  have hlen : (iw_wl G σ).length = G.2.2.2.2.2.2 - G.2.2.2.2.2.1 := by simp [iw_wl]
  have hlen' : (iw_wl G σ').length = G.2.2.2.2.2.2 - G.2.2.2.2.2.1 := by simp [iw_wl]
  apply List.ext_getElem?
  intro i
  by_cases hi : i = a - G.2.2.2.2.2.1
  · subst hi
    rw [List.getElem?_set_self (by rw [hlen]; omega), iw_at ⟨h1, h2⟩, he]
  · rw [List.getElem?_set_ne (fun q => hi q.symm)]
    by_cases h : i < G.2.2.2.2.2.2 - G.2.2.2.2.2.1
    · rw [iw_wlk h, iw_wlk h, iw_E_congr (hne _ (by omega))]
    · rw [List.getElem?_eq_none (by omega), List.getElem?_eq_none (by omega)]
theorem iw_up_ne {σ : iw_M} {a i b : Nat} {v : Int32} (h : b ≠ a) : iw_up σ a i v b = σ b := if_neg h
theorem iw_up_eq {σ : iw_M} {a i : Nat} {v : Int32} : iw_up σ a i v a = upd (σ a) i v := if_pos rfl
theorem iw_E7 {G : iw_G} {σ : iw_M} {a : Nat} (h : iw_kd a = 7) : iw_E G σ a = .inl (G.2.2.1, iw_al a, .inl (σ a)) := by
  unfold iw_E
  rw [if_pos h]
theorem iw_E8 {G : iw_G} {σ : iw_M} {a : Nat} (h : iw_kd a = 8) : iw_E G σ a = .inl (G.2.2.2.1, iw_al a, .inl (σ a)) := by
  unfold iw_E
  rw [if_neg (by rw [h]; decide), if_pos h]
theorem iw_E1 {G : iw_G} {σ : iw_M} {a : Nat} (h : iw_kd a = 1) : iw_E G σ a = .inr (1, [.ref (G.2.1 (a + 1)), .ref (G.2.1 (a + 2)), .ref (G.2.1 (a + 3)), .ref (G.2.1 (a + 4)), .ref (G.2.1 (a + 5)), .ref (G.2.1 (a + 6)), .ref (G.2.1 (a + 7))]) := by
  unfold iw_E
  rw [if_neg (by rw [h]; decide), if_neg (by rw [h]; decide), if_neg (by rw [h]; decide), if_pos h]
theorem iw_E2 {G : iw_G} {σ : iw_M} {a : Nat} (h : iw_kd a = 2) : iw_E G σ a = .inr (2, [.ref (G.2.1 (a + 1)), .ref (G.2.1 (a + 2)), .ref (G.2.1 (a + 3)), .ref (G.2.1 (a + 4)), .ref (G.2.1 (a + 5))]) := by
  unfold iw_E
  rw [if_neg (by rw [h]; decide), if_neg (by rw [h]; decide), if_neg (by rw [h]; decide), if_neg (by rw [h]; decide), if_pos h]
def iw_tys (G : iw_G) : List (ClassId × FieldType) := [(G.2.2.1, .int), (G.2.2.2.1, .int), (G.2.2.2.2.1, .object "InterestNet$Net")]
def iw_nm : List (String × Nat × MethodName) := [
(RX1, 33, yX5_put), (RX1, 51, yX5_at), (RX1, 37, yX5_copy), (RX1, 64, yX5_removePiece), (RX1, 55, yX5_increase), (RX1, 74, yX5_wayOf), (RX1, 90, yX5_isWithin), (RX1, 104, yX5_hashOf), (RX2, 43, yX5_put), (RX2, 57, yX5_holds), (RX2, 47, yX5_at), (RX3, 60, yX5_wayOf), (RX3, 77, yX5_holds), (RX3, 133, yX5_put), (RX3, 140, yX5_at), (RX4, 92, yX5_at), (RX4, 96, yX5_isWithin), (RX5, 18, yX3_init), (RX3, 20, yX2_init), (RX5, 25, yX2_init), (RX5, 39, yX4_init)]
def iw_nf : List (String × Nat × String × String × String) := [
(RX5, 114, RX3, "draft", "LInterestNet$Net;"), (RX5, 162, RX0, "size", "I"), (RX5, 179, RX4, "draft", "LInterestNet$Net;"), (RX5, 180, RX4, "items", "I")]
def iw_K (G : iw_G) (U : State) : Prop := va_K G.1 vwCl (iw_tys G) U ∧ va_AO "InterestNet$Net" U ∧ (∀ q ∈ iw_nm, va_Nw (.methodLinkNest q.1 q.2.1 q.2.2 "InterestNet") U) ∧ ∀ q ∈ iw_nf, va_Nw (.fieldLinkNest q.1 q.2.1 q.2.2.1 q.2.2.2.1 q.2.2.2.2 "InterestNet") U
theorem iw_K.warm {G : iw_G} {s U : State} (hW : s.WarmedH U.vm) (h : iw_K G s) : iw_K G U := ⟨va_K.moved hW.alike h.1, va_AO.moved hW.alike h.2.1, fun q hq => va_Nw.warmM hW (h.2.2.1 q hq), fun q hq => va_Nw.warmF hW (h.2.2.2 q hq)⟩
theorem iw_K.same {G : iw_G} {u U : State} (hW : u.vm = U.vm) (h : iw_K G u) : iw_K G U := ⟨va_K.moved (by rw [hW]; exact Vm.Alike.refl U.vm) h.1, va_AO.moved (by rw [hW]; exact Vm.Alike.refl U.vm) h.2.1, fun q hq => va_Nw.same rfl hW (h.2.2.1 q hq), fun q hq => va_Nw.same rfl hW (h.2.2.2 q hq)⟩
def iw_Wd (G : iw_G) (σ : iw_M) (U : State) : Prop := va_P G.1 vwCl (iw_wl G σ) U.heap ∧ iw_K G U
def iw_A (G : iw_G) : Nat → Prop := fun q => ∃ a, iw_in G a ∧ q = G.2.1 a
def iw_J (G : iw_G) : Prop := ∀ a b, iw_in G a → iw_in G b → G.2.1 a = G.2.1 b → a = b
def iw_JX (G : iw_G) : Prop := iw_J G ∧ G.2.2.2.2.2 = (0, 85)
theorem iw_ix {G : iw_G} {a : Nat} (h : iw_JX G) (ha : a < 85) : iw_in G a := by
  unfold iw_in
  rw [h.2]
  exact ⟨Nat.zero_le _, ha⟩
def iw_Q (v : Option Value) (G : iw_G) (σ' : iw_M) : Array Value → State → Outcome → State → Prop := fun _ st oc t => oc = .returned v ∧ iw_Wd G σ' t ∧ va_F (iw_A G) st t
def iw_Ct (l : Launch) (y : MethodName) (ws : List Cond) (rm : Room) (G : iw_G) (as : List Value) (σ : iw_M) (v : Option Value) (σ' : iw_M) : Prop :=
  Met l y ws rm (va_Pc as (iw_Wd G σ)) (iw_Q v G σ') 0 0 (iw_A G)
theorem iw_lt {G : iw_G} {σ : iw_M} {k : Nat} {q : Nat × va_E} (h : (iw_wl G σ)[k]? = some q) : iw_in G (G.2.2.2.2.2.1 + k) ∧ q = (G.2.1 (G.2.2.2.2.2.1 + k), iw_E G σ (G.2.2.2.2.2.1 + k)) := by
  have h1 : k < (iw_wl G σ).length := (List.getElem?_eq_some_iff.mp h).1
  have h2 : k < G.2.2.2.2.2.2 - G.2.2.2.2.2.1 := by simpa [iw_wl] using h1
  rw [iw_wlk h2] at h
  exact ⟨⟨by omega, by omega⟩, (Option.some.inj h).symm⟩
theorem iw_D {G : iw_G} {σ : iw_M} {A : Nat → Prop} (hJ : iw_J G) (hA : ∀ a, iw_in G a → A (G.2.1 a)) : va_D A (iw_wl G σ) := by
  refine ⟨fun i j p q hi hj e => ?_, fun k q hk => ?_⟩
  · obtain ⟨h1, rfl⟩ := iw_lt hi
    obtain ⟨h2, rfl⟩ := iw_lt hj
    have := hJ _ _ h1 h2 e
    omega
  · obtain ⟨h1, rfl⟩ := iw_lt hk
    exact hA _ h1
def iw_C (p : Program) (R : Room) (s : State) (m : MethodId) (args : Array Value) (c : Code) (cc : ByteArray) (nL : Nat) (Ts : List Cond) (own : String) (G : iw_G) (A : Nat → Prop) (cells slots : Nat) : Prop :=
  p.tables.exec = Jvm.exec ∧ c.code = cc ∧ c.maxLocals = nL ∧ s.vm.findClass own = some m.cls ∧ (∀ w ∈ Ts, w.before args s = true) ∧ iw_K G s ∧ iw_J G ∧ (∀ a, iw_in G a → A (G.2.1 a)) ∧ cells ≤ R.cells ∧ slots ≤ R.slots
/-- from here on, with this memory, these locals and this stack, the machine comes to Q -/
def iw_V (p : Program) (l : Launch) (e : Env) (R : Room) (s : State) (m : MethodId) (args : Array Value) (below : List Frame) (meth : Method) (c : Code) (cells slots : Nat) (Q : State → Prop) (nL : Nat) (G : iw_G) (A : Nat → Prop) (σ : iw_M) (pc : Nat) (lv : List (Nat × Value)) (st : List Value) : Prop :=
  ∀ (H : Heap) (locs : List Loc) (ls : Array Slot), va_P G.1 vwCl (iw_wl G σ) H → va_S A s.heap H locs → lv_has ls nL lv → W p l e R s m args below meth c H locs cells slots Q (F0 m pc ls st)
