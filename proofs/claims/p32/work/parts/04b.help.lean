/-! binds of the methods' functions, and what the walks do with them -/
def iw_let {α β : Type} (x : α) (f : α → β) : β := f x
def iw_let2 {α β γ : Type} (x : α × β) (f : α → β → γ) : γ := f x.1 x.2
def iw_b2 {α β γ : Type} (x : Option (α × β)) (f : α → β → Option γ) : Option γ := match x with
  | none => none
  | some q => f q.1 q.2
def iw_on {α : Type} (x : Option Nat) (a : α) (f : Nat → α) : α := match x with
  | none => a
  | some c => f c
def iw_it {α : Type} (b : α → α) (z : α) : Nat → α
  | 0 => z
  | n + 1 => b (iw_it b z n)
theorem iw_ift {α : Type} {c : Prop} [Decidable c] {a b o : α} (hc : c) (h : (if c then a else b) = o) : a = o := by rw [if_pos hc] at h; exact h
theorem iw_iff {α : Type} {c : Prop} [Decidable c] {a b o : α} (hc : ¬ c) (h : (if c then a else b) = o) : b = o := by rw [if_neg hc] at h; exact h
theorem iw_lete {α β : Type} {x y : α} {f : α → β} {o : β} (e : y = x) (h : iw_let x f = o) : f y = o := by subst e; exact h
theorem iw_let2e {α β γ : Type} {x : α × β} {f : α → β → γ} {o : γ} (h : iw_let2 x f = o) : ∃ (a : α) (b : β), x = (a, b) ∧ f a b = o := ⟨x.1, x.2, rfl, h⟩
theorem iw_be {α β : Type} {x : Option α} {f : α → Option β} {o : β} (h : x.bind f = some o) : ∃ a : α, x = some a ∧ f a = some o := by
  cases x with
  | none => cases h
  | some a => exact ⟨a, rfl, h⟩
theorem iw_b2e {α β γ : Type} {x : Option (α × β)} {f : α → β → Option γ} {o : γ} (h : iw_b2 x f = some o) : ∃ (a : α) (b : β), x = some (a, b) ∧ f a b = some o := by
  cases x with
  | none => cases h
  | some q => exact ⟨q.1, q.2, rfl, h⟩
theorem iw_it0 {α : Type} {b : α → α} {z : α} : iw_it b z 0 = z := rfl
theorem iw_itS {α : Type} {b : α → α} {z : α} {n : Nat} : iw_it b z (n + 1) = b (iw_it b z n) := rfl
def iw_rd (σ : iw_M) (a : Nat) (i : Int32) : Option Int32 := if i < 0 ∨ iw_al a ≤ i.toNatClampNeg then none else some (σ a i.toNatClampNeg)
def iw_wr (σ : iw_M) (a : Nat) (i x : Int32) : Option iw_M := if i < 0 ∨ iw_al a ≤ i.toNatClampNeg then none else some (iw_up σ a i.toNatClampNeg x)
def iw_rem (x y : Int32) : Option Int32 := if y = 0 then none else some (x - x / y * y)
def iw_geth (σ : iw_M) : Int64 := iw_h (σ 84 15) (σ 84 16)
def iw_puth (σ : iw_M) (v : Int64) : iw_M := iw_up (iw_up σ 84 15 (iw_hi v)) 84 16 (iw_lo v)
theorem iw_rde {σ : iw_M} {a : Nat} {i v : Int32} (h : iw_rd σ a i = some v) : vp_in i (iw_al a) ∧ σ a i.toNatClampNeg = v := by
  unfold iw_rd at h
  by_cases hc : i < 0 ∨ iw_al a ≤ i.toNatClampNeg
  · rw [if_pos hc] at h; cases h
  · rw [if_neg hc] at h; exact ⟨hc, Option.some.inj h⟩
theorem iw_wre {σ σ' : iw_M} {a : Nat} {i x : Int32} (h : iw_wr σ a i x = some σ') : vp_in i (iw_al a) ∧ iw_up σ a i.toNatClampNeg x = σ' := by
  unfold iw_wr at h
  by_cases hc : i < 0 ∨ iw_al a ≤ i.toNatClampNeg
  · rw [if_pos hc] at h; cases h
  · rw [if_neg hc] at h; exact ⟨hc, Option.some.inj h⟩
theorem iw_reme {x y v : Int32} (h : iw_rem x y = some v) : ¬ y = 0 ∧ x - x / y * y = v := by
  unfold iw_rem at h
  by_cases hc : y = 0
  · rw [if_pos hc] at h; cases h
  · rw [if_neg hc] at h; exact ⟨hc, Option.some.inj h⟩
/-- ids: a Net, a Paths, an int array, a boolean array -/
def iw_net (c : Nat) : Prop := c = 20 ∨ c = 28 ∨ c = 36 ∨ c = 44 ∨ c = 52 ∨ c = 60 ∨ c = 68 ∨ c = 76
def iw_pth (c : Nat) : Prop := c = 8 ∨ c = 14
def iw_ia (G : iw_G) (a : Nat) : Prop := iw_kd a = 7 ∧ iw_in G a
def iw_za (G : iw_G) (a : Nat) : Prop := iw_kd a = 8 ∧ iw_in G a
theorem iw_lx {G : iw_G} {a : Nat} (hJ : iw_JX G) (h : iw_kd a = 7) (ha : a < 85) : iw_ia G a := ⟨h, iw_ix hJ ha⟩
theorem iw_net_20 : iw_net 20 := by unfold iw_net; omega
theorem iw_net_28 : iw_net 28 := by unfold iw_net; omega
theorem iw_net_36 : iw_net 36 := by unfold iw_net; omega
theorem iw_pth_8 : iw_pth 8 := Or.inl rfl
theorem iw_pth_14 : iw_pth 14 := Or.inr rfl
theorem iw_nk {c : Nat} (h : iw_net c) : iw_kd c = 1 := by rcases h with rfl | rfl | rfl | rfl | rfl | rfl | rfl | rfl <;> rfl
theorem iw_nl {c : Nat} (h : iw_net c) : c < 85 := by rcases h with rfl | rfl | rfl | rfl | rfl | rfl | rfl | rfl <;> decide
theorem iw_pk {c : Nat} (h : iw_pth c) : iw_kd c = 2 := by rcases h with rfl | rfl <;> rfl
theorem iw_pl {c : Nat} (h : iw_pth c) : c < 85 := by rcases h with rfl | rfl <;> decide
theorem iw_na1 {G : iw_G} {c : Nat} (hJ : iw_JX G) (h : iw_net c) : iw_ia G (c + 1) := by rcases h with rfl | rfl | rfl | rfl | rfl | rfl | rfl | rfl <;> exact ⟨rfl, iw_ix hJ (by decide)⟩
theorem iw_na2 {G : iw_G} {c : Nat} (hJ : iw_JX G) (h : iw_net c) : iw_ia G (c + 2) := by rcases h with rfl | rfl | rfl | rfl | rfl | rfl | rfl | rfl <;> exact ⟨rfl, iw_ix hJ (by decide)⟩
theorem iw_na3 {G : iw_G} {c : Nat} (hJ : iw_JX G) (h : iw_net c) : iw_ia G (c + 3) := by rcases h with rfl | rfl | rfl | rfl | rfl | rfl | rfl | rfl <;> exact ⟨rfl, iw_ix hJ (by decide)⟩
theorem iw_na4 {G : iw_G} {c : Nat} (hJ : iw_JX G) (h : iw_net c) : iw_ia G (c + 4) := by rcases h with rfl | rfl | rfl | rfl | rfl | rfl | rfl | rfl <;> exact ⟨rfl, iw_ix hJ (by decide)⟩
theorem iw_na5 {G : iw_G} {c : Nat} (hJ : iw_JX G) (h : iw_net c) : iw_ia G (c + 5) := by rcases h with rfl | rfl | rfl | rfl | rfl | rfl | rfl | rfl <;> exact ⟨rfl, iw_ix hJ (by decide)⟩
theorem iw_na6 {G : iw_G} {c : Nat} (hJ : iw_JX G) (h : iw_net c) : iw_ia G (c + 6) := by rcases h with rfl | rfl | rfl | rfl | rfl | rfl | rfl | rfl <;> exact ⟨rfl, iw_ix hJ (by decide)⟩
theorem iw_na7 {G : iw_G} {c : Nat} (hJ : iw_JX G) (h : iw_net c) : iw_ia G (c + 7) := by rcases h with rfl | rfl | rfl | rfl | rfl | rfl | rfl | rfl <;> exact ⟨rfl, iw_ix hJ (by decide)⟩
theorem iw_pa1 {G : iw_G} {c : Nat} (hJ : iw_JX G) (h : iw_pth c) : iw_ia G (c + 1) := by rcases h with rfl | rfl <;> exact ⟨rfl, iw_ix hJ (by decide)⟩
theorem iw_pa2 {G : iw_G} {c : Nat} (hJ : iw_JX G) (h : iw_pth c) : iw_ia G (c + 2) := by rcases h with rfl | rfl <;> exact ⟨rfl, iw_ix hJ (by decide)⟩
theorem iw_pa3 {G : iw_G} {c : Nat} (hJ : iw_JX G) (h : iw_pth c) : iw_ia G (c + 3) := by rcases h with rfl | rfl <;> exact ⟨rfl, iw_ix hJ (by decide)⟩
theorem iw_pa4 {G : iw_G} {c : Nat} (hJ : iw_JX G) (h : iw_pth c) : iw_ia G (c + 4) := by rcases h with rfl | rfl <;> exact ⟨rfl, iw_ix hJ (by decide)⟩
theorem iw_pa5 {G : iw_G} {c : Nat} (hJ : iw_JX G) (h : iw_pth c) : iw_ia G (c + 5) := by rcases h with rfl | rfl <;> exact ⟨rfl, iw_ix hJ (by decide)⟩
theorem iw_Eo0 {G : iw_G} {σ : iw_M} : iw_E G σ 0 = .inr (5, [.ref (G.2.1 20), .ref (G.2.1 1), .ref (G.2.1 8), .ref (G.2.1 4), .ref (G.2.1 6)]) := rfl
theorem iw_Eo1 {G : iw_G} {σ : iw_M} : iw_E G σ 1 = .inr (3, [.ref (G.2.1 28), .ref (G.2.1 14), .ref (G.2.1 2), .ref (G.2.1 3)]) := rfl
theorem iw_Eo4 {G : iw_G} {σ : iw_M} : iw_E G σ 4 = .inr (0, [.ref (G.2.1 5), .int (σ 4 1), .int (σ 4 2)]) := rfl
theorem iw_Eo6 {G : iw_G} {σ : iw_M} : iw_E G σ 6 = .inr (4, [.ref (G.2.1 36), .ref (G.2.1 7), .int (σ 6 2), .int (σ 6 3), .int (σ 6 4), .int (σ 6 5), .int (σ 6 6)]) := rfl
section IV2
variable {p : Program} {l : Launch} {e : Env} {R : Room} {s : State} {m : MethodId} {args : Array Value} {below : List Frame} {meth : Method} {c : Code} {cells slots : Nat} {Q : State → Prop} {nL : Nat} {G : iw_G} {A : Nat → Prop} {σ : iw_M} {pc : Nat} {lv : List (Nat × Value)} {st : List Value} {cc : ByteArray} {Ts : List Cond} {own : String}
theorem iv_topm (q : ∀ y : iw_M, y = σ → iw_V p l e R s m args below meth c cells slots Q nL G A y pc lv st) : iw_V p l e R s m args below meth c cells slots Q nL G A σ pc lv st := q σ rfl
theorem iv_rd (C : iw_C p R s m args c cc nL Ts own G A cells slots) (a : Nat) (ha : iw_ia G a) {i v : Int32} (e1 : iw_rd σ a i = some v) (hdg : decode cc pc = .ok (.iaload, 1)) (q : iw_V p l e R s m args below meth c cells slots Q nL G A σ (pc + 1) lv (.int v :: st)) : iw_V p l e R s m args below meth c cells slots Q nL G A σ pc lv (.int i :: .ref (G.2.1 a) :: st) := iv_iald C a ha.2 ha.1 (iw_rde e1).1 hdg (by rw [(iw_rde e1).2]; exact q)
theorem iv_wr (C : iw_C p R s m args c cc nL Ts own G A cells slots) (a : Nat) (ha : iw_ia G a) {i x : Int32} {σ' : iw_M} (e1 : iw_wr σ a i x = some σ') (hdg : decode cc pc = .ok (.iastore, 1)) (q : iw_V p l e R s m args below meth c cells slots Q nL G A σ' (pc + 1) lv st) : iw_V p l e R s m args below meth c cells slots Q nL G A σ pc lv (.int x :: .int i :: .ref (G.2.1 a) :: st) := iv_iast C a ha.2 ha.1 (iw_wre e1).1 hdg (by rw [(iw_wre e1).2]; exact q)
theorem iv_rem (C : iw_C p R s m args c cc nL Ts own G A cells slots) {x y v : Int32} (e1 : iw_rem x y = some v) (hdg : decode cc pc = .ok (.irem, 1)) (q : iw_V p l e R s m args below meth c cells slots Q nL G A σ (pc + 1) lv (.int v :: st)) : iw_V p l e R s m args below meth c cells slots Q nL G A σ pc lv (.int y :: .int x :: st) := iv_irem C (iw_reme e1).1 hdg (by rw [(iw_reme e1).2]; exact q)
end IV2
