def is_x0 : iw_M := fun a => if 20 ≤ a ∧ a < 84 ∧ (a - 20) % 8 = 1 then upd (fun _ => 0) 4 10 else fun _ => 0
abbrev is_adx (q0 : Nat) (f1 : Nat → Nat) (q1 : Nat) : Nat → Nat := fun a => ([q0, f1 8, f1 23, f1 24, f1 31, f1 32, f1 73, f1 82, f1 25, f1 26, f1 27, f1 28, f1 29, f1 30, f1 17, f1 18, f1 19, f1 20, f1 21, f1 22, f1 0, f1 7, f1 1, f1 2, f1 3, f1 4, f1 5, f1 6, f1 9, f1 16, f1 10, f1 11, f1 12, f1 13, f1 14, f1 15, f1 74, f1 81, f1 75, f1 76, f1 77, f1 78, f1 79, f1 80, f1 33, f1 40, f1 34, f1 35, f1 36, f1 37, f1 38, f1 39, f1 41, f1 48, f1 42, f1 43, f1 44, f1 45, f1 46, f1 47, f1 49, f1 56, f1 50, f1 51, f1 52, f1 53, f1 54, f1 55, f1 57, f1 64, f1 58, f1 59, f1 60, f1 61, f1 62, f1 63, f1 65, f1 72, f1 66, f1 67, f1 68, f1 69, f1 70, f1 71, q1] : List Nat).getD a 0
abbrev is_W (G : iw_G) (q0 : Nat) (f1 : Nat → Nat) (q1 : Nat) : va_W := ib_W5 G q0 f1 ++ [(q1, .inl (G.2.2.1, 1, .inl (fun _ => 0)))]
abbrev is_pix : List Nat := [0, 9, 24, 25, 32, 33, 74, 83, 26, 27, 28, 29, 30, 31, 18, 19, 20, 21, 22, 23, 1, 8, 2, 3, 4, 5, 6, 7, 10, 17, 11, 12, 13, 14, 15, 16, 75, 82, 76, 77, 78, 79, 80, 81, 34, 41, 35, 36, 37, 38, 39, 40, 42, 49, 43, 44, 45, 46, 47, 48, 50, 57, 51, 52, 53, 54, 55, 56, 58, 65, 59, 60, 61, 62, 63, 64, 66, 73, 67, 68, 69, 70, 71, 72, 84]
theorem is_q {cA : ClassId} {n : Nat} {f g : Nat → Option Nat} (h : ∀ j, j < n → f j = g j) : vp_cell cA (n, .inr (.inr (.inr (.inr f)))) = vp_cell cA (n, .inr (.inr (.inr (.inr g)))) := by
  rw [vp_cell_q, vp_cell_q]
  unfold arrV
  congr 1
  apply Array.ext
  · simp
  · intro i h1 h2
    simp only [Array.getElem_ofFn]
    have h3 : i < n := by simpa using h1
    rw [h i h3]
set_option maxRecDepth 100000 in
set_option maxHeartbeats 4000000 in
theorem is_px {G : iw_G} {q0 : Nat} {f1 : Nat → Nat} {q1 : Nat} {H : Heap} (hP : va_P G.1 vwCl (is_W G q0 f1 q1) H) : ∀ a : Nat, a < 85 → va_at G.1 vwCl (is_adx q0 f1 q1 a, iw_E (G.1, is_adx q0 f1 q1, G.2.2.1, G.2.2.2.1, G.2.2.2.2.1, 0, 85) is_x0 a) H := by
  intro a ha
  match a, ha with
  | 0, _ => exact hP 0 _ rfl
  | 1, _ => exact hP 9 _ rfl
  | 2, _ => exact hP 24 _ rfl
  | 3, _ => exact hP 25 _ rfl
  | 4, _ => exact hP 32 _ rfl
  | 5, _ =>
    have h := hP 33 _ rfl
    refine Eq.trans h (congrArg some (is_q (fun j hj => ?_)))
    rcases (show j = 0 ∨ j = 1 ∨ j = 2 ∨ j = 3 ∨ j = 4 by omega) with rfl | rfl | rfl | rfl | rfl <;> rfl
  | 6, _ => exact hP 74 _ rfl
  | 7, _ => exact hP 83 _ rfl
  | 8, _ => exact hP 26 _ rfl
  | 9, _ => exact hP 27 _ rfl
  | 10, _ => exact hP 28 _ rfl
  | 11, _ => exact hP 29 _ rfl
  | 12, _ => exact hP 30 _ rfl
  | 13, _ => exact hP 31 _ rfl
  | 14, _ => exact hP 18 _ rfl
  | 15, _ => exact hP 19 _ rfl
  | 16, _ => exact hP 20 _ rfl
  | 17, _ => exact hP 21 _ rfl
  | 18, _ => exact hP 22 _ rfl
  | 19, _ => exact hP 23 _ rfl
  | 20, _ => exact hP 1 _ rfl
  | 21, _ => exact hP 8 _ rfl
  | 22, _ => exact hP 2 _ rfl
  | 23, _ => exact hP 3 _ rfl
  | 24, _ => exact hP 4 _ rfl
  | 25, _ => exact hP 5 _ rfl
  | 26, _ => exact hP 6 _ rfl
  | 27, _ => exact hP 7 _ rfl
  | 28, _ => exact hP 10 _ rfl
  | 29, _ => exact hP 17 _ rfl
  | 30, _ => exact hP 11 _ rfl
  | 31, _ => exact hP 12 _ rfl
  | 32, _ => exact hP 13 _ rfl
  | 33, _ => exact hP 14 _ rfl
  | 34, _ => exact hP 15 _ rfl
  | 35, _ => exact hP 16 _ rfl
  | 36, _ => exact hP 75 _ rfl
  | 37, _ => exact hP 82 _ rfl
  | 38, _ => exact hP 76 _ rfl
  | 39, _ => exact hP 77 _ rfl
  | 40, _ => exact hP 78 _ rfl
  | 41, _ => exact hP 79 _ rfl
  | 42, _ => exact hP 80 _ rfl
  | 43, _ => exact hP 81 _ rfl
  | 44, _ => exact hP 34 _ rfl
  | 45, _ => exact hP 41 _ rfl
  | 46, _ => exact hP 35 _ rfl
  | 47, _ => exact hP 36 _ rfl
  | 48, _ => exact hP 37 _ rfl
  | 49, _ => exact hP 38 _ rfl
  | 50, _ => exact hP 39 _ rfl
  | 51, _ => exact hP 40 _ rfl
  | 52, _ => exact hP 42 _ rfl
  | 53, _ => exact hP 49 _ rfl
  | 54, _ => exact hP 43 _ rfl
  | 55, _ => exact hP 44 _ rfl
  | 56, _ => exact hP 45 _ rfl
  | 57, _ => exact hP 46 _ rfl
  | 58, _ => exact hP 47 _ rfl
  | 59, _ => exact hP 48 _ rfl
  | 60, _ => exact hP 50 _ rfl
  | 61, _ => exact hP 57 _ rfl
  | 62, _ => exact hP 51 _ rfl
  | 63, _ => exact hP 52 _ rfl
  | 64, _ => exact hP 53 _ rfl
  | 65, _ => exact hP 54 _ rfl
  | 66, _ => exact hP 55 _ rfl
  | 67, _ => exact hP 56 _ rfl
  | 68, _ => exact hP 58 _ rfl
  | 69, _ => exact hP 65 _ rfl
  | 70, _ => exact hP 59 _ rfl
  | 71, _ => exact hP 60 _ rfl
  | 72, _ => exact hP 61 _ rfl
  | 73, _ => exact hP 62 _ rfl
  | 74, _ => exact hP 63 _ rfl
  | 75, _ => exact hP 64 _ rfl
  | 76, _ => exact hP 66 _ rfl
  | 77, _ => exact hP 73 _ rfl
  | 78, _ => exact hP 67 _ rfl
  | 79, _ => exact hP 68 _ rfl
  | 80, _ => exact hP 69 _ rfl
  | 81, _ => exact hP 70 _ rfl
  | 82, _ => exact hP 71 _ rfl
  | 83, _ => exact hP 72 _ rfl
  | 84, _ => exact hP 84 _ rfl
  | a + 85, h => exact absurd h (by omega)
set_option maxRecDepth 100000 in
set_option maxHeartbeats 4000000 in
theorem is_ax {G : iw_G} {q0 : Nat} {f1 : Nat → Nat} {q1 : Nat} : ∀ a : Nat, a < 85 → ∃ e, (is_W G q0 f1 q1)[iw_nth is_pix a]? = some (is_adx q0 f1 q1 a, e) := by
  intro a ha
  match a, ha with
  | 0, _ => exact ⟨_, rfl⟩
  | 1, _ => exact ⟨_, rfl⟩
  | 2, _ => exact ⟨_, rfl⟩
  | 3, _ => exact ⟨_, rfl⟩
  | 4, _ => exact ⟨_, rfl⟩
  | 5, _ => exact ⟨_, rfl⟩
  | 6, _ => exact ⟨_, rfl⟩
  | 7, _ => exact ⟨_, rfl⟩
  | 8, _ => exact ⟨_, rfl⟩
  | 9, _ => exact ⟨_, rfl⟩
  | 10, _ => exact ⟨_, rfl⟩
  | 11, _ => exact ⟨_, rfl⟩
  | 12, _ => exact ⟨_, rfl⟩
  | 13, _ => exact ⟨_, rfl⟩
  | 14, _ => exact ⟨_, rfl⟩
  | 15, _ => exact ⟨_, rfl⟩
  | 16, _ => exact ⟨_, rfl⟩
  | 17, _ => exact ⟨_, rfl⟩
  | 18, _ => exact ⟨_, rfl⟩
  | 19, _ => exact ⟨_, rfl⟩
  | 20, _ => exact ⟨_, rfl⟩
  | 21, _ => exact ⟨_, rfl⟩
  | 22, _ => exact ⟨_, rfl⟩
  | 23, _ => exact ⟨_, rfl⟩
  | 24, _ => exact ⟨_, rfl⟩
  | 25, _ => exact ⟨_, rfl⟩
  | 26, _ => exact ⟨_, rfl⟩
  | 27, _ => exact ⟨_, rfl⟩
  | 28, _ => exact ⟨_, rfl⟩
  | 29, _ => exact ⟨_, rfl⟩
  | 30, _ => exact ⟨_, rfl⟩
  | 31, _ => exact ⟨_, rfl⟩
  | 32, _ => exact ⟨_, rfl⟩
  | 33, _ => exact ⟨_, rfl⟩
  | 34, _ => exact ⟨_, rfl⟩
  | 35, _ => exact ⟨_, rfl⟩
  | 36, _ => exact ⟨_, rfl⟩
  | 37, _ => exact ⟨_, rfl⟩
  | 38, _ => exact ⟨_, rfl⟩
  | 39, _ => exact ⟨_, rfl⟩
  | 40, _ => exact ⟨_, rfl⟩
  | 41, _ => exact ⟨_, rfl⟩
  | 42, _ => exact ⟨_, rfl⟩
  | 43, _ => exact ⟨_, rfl⟩
  | 44, _ => exact ⟨_, rfl⟩
  | 45, _ => exact ⟨_, rfl⟩
  | 46, _ => exact ⟨_, rfl⟩
  | 47, _ => exact ⟨_, rfl⟩
  | 48, _ => exact ⟨_, rfl⟩
  | 49, _ => exact ⟨_, rfl⟩
  | 50, _ => exact ⟨_, rfl⟩
  | 51, _ => exact ⟨_, rfl⟩
  | 52, _ => exact ⟨_, rfl⟩
  | 53, _ => exact ⟨_, rfl⟩
  | 54, _ => exact ⟨_, rfl⟩
  | 55, _ => exact ⟨_, rfl⟩
  | 56, _ => exact ⟨_, rfl⟩
  | 57, _ => exact ⟨_, rfl⟩
  | 58, _ => exact ⟨_, rfl⟩
  | 59, _ => exact ⟨_, rfl⟩
  | 60, _ => exact ⟨_, rfl⟩
  | 61, _ => exact ⟨_, rfl⟩
  | 62, _ => exact ⟨_, rfl⟩
  | 63, _ => exact ⟨_, rfl⟩
  | 64, _ => exact ⟨_, rfl⟩
  | 65, _ => exact ⟨_, rfl⟩
  | 66, _ => exact ⟨_, rfl⟩
  | 67, _ => exact ⟨_, rfl⟩
  | 68, _ => exact ⟨_, rfl⟩
  | 69, _ => exact ⟨_, rfl⟩
  | 70, _ => exact ⟨_, rfl⟩
  | 71, _ => exact ⟨_, rfl⟩
  | 72, _ => exact ⟨_, rfl⟩
  | 73, _ => exact ⟨_, rfl⟩
  | 74, _ => exact ⟨_, rfl⟩
  | 75, _ => exact ⟨_, rfl⟩
  | 76, _ => exact ⟨_, rfl⟩
  | 77, _ => exact ⟨_, rfl⟩
  | 78, _ => exact ⟨_, rfl⟩
  | 79, _ => exact ⟨_, rfl⟩
  | 80, _ => exact ⟨_, rfl⟩
  | 81, _ => exact ⟨_, rfl⟩
  | 82, _ => exact ⟨_, rfl⟩
  | 83, _ => exact ⟨_, rfl⟩
  | 84, _ => exact ⟨_, rfl⟩
  | a + 85, h => exact absurd h (by omega)
theorem is_inj : ∀ a, a < 85 → ∀ b, b < 85 → iw_nth is_pix a = iw_nth is_pix b → a = b := by decide +kernel
set_option maxRecDepth 20000 in
theorem is_nm : ∀ w ∈ iw_nm.map (fun q => Cond.methodLinkNest q.1 q.2.1 q.2.2 "InterestNet"), w ∈ lw_tbl := iw_memby [46, 201, 222, 278, 283, 315, 398, 614, 372, 422, 427, 389, 399, 462, 471, 569, 590, 74, 82, 117, 140] rfl
set_option maxRecDepth 20000 in
theorem is_nf : ∀ w ∈ iw_nf.map (fun q => Cond.fieldLinkNest q.1 q.2.1 q.2.2.1 q.2.2.2.1 q.2.2.2.2 "InterestNet"), w ∈ lw_tbl := iw_memby [103, 130, 147, 151] rfl
set_option maxRecDepth 20000 in
theorem is_aw : ∀ w ∈ [Cond.arrayClass .int, Cond.arrayOver (.object "InterestNet$Net"), Cond.instantiable RX0 3, Cond.instantiable RX1 7, Cond.instantiable RX2 5, Cond.instantiable RX3 4, Cond.instantiable RX4 7, Cond.instantiable RX5 5], w ∈ lw_tbl := iw_memby [71, 125, 119, 41, 81, 73, 139, 33] rfl
/-- the tables' facts that the worlds carry -/
theorem is_K {s : State} {b : Nat} (hts : ∀ w ∈ lw_tbl, w.before #[Value.ref b] s = true) : ∃ (D : va_G) (cI cO : ClassId), ∀ (ad : Nat → Nat) (lo hi : Nat), iw_K (D, ad, cI, cI, cO, lo, hi) s := by
  obtain ⟨c0, i0, hk0⟩ := u_known (C := RX0) (T := TX0) (N := 3) (n := 3) hts inX0 (hts _ (is_aw _ (List.mem_of_getElem? (i := 2) rfl)))
  obtain ⟨c1, i1, hk1⟩ := u_known (C := RX1) (T := TX1) (N := 7) (n := 7) hts inX1 (hts _ (is_aw _ (List.mem_of_getElem? (i := 3) rfl)))
  obtain ⟨c2, i2, hk2⟩ := u_known (C := RX2) (T := TX2) (N := 5) (n := 5) hts inX2 (hts _ (is_aw _ (List.mem_of_getElem? (i := 4) rfl)))
  obtain ⟨c3, i3, hk3⟩ := u_known (C := RX3) (T := TX3) (N := 4) (n := 4) hts inX3 (hts _ (is_aw _ (List.mem_of_getElem? (i := 5) rfl)))
  obtain ⟨c4, i4, hk4⟩ := u_known (C := RX4) (T := TX4) (N := 7) (n := 7) hts inX4 (hts _ (is_aw _ (List.mem_of_getElem? (i := 6) rfl)))
  obtain ⟨c5, i5, hk5⟩ := u_known (C := RX5) (T := TX5) (N := 5) (n := 5) hts inX5 (hts _ (is_aw _ (List.mem_of_getElem? (i := 7) rfl)))
  obtain ⟨cI, kI, compI, a1, a2, a3⟩ := Cond.arrayClass_spec (hts _ (is_aw _ (List.mem_of_getElem? (i := 0) rfl)))
  have hov := hts _ (is_aw _ (List.mem_of_getElem? (i := 1) rfl))
  obtain ⟨comp, cO, kO, o1, -, o3, o4, o5⟩ := Cond.arrayOver_spec hov
  refine ⟨(fun k => match k with | 0 => c0 | 1 => c1 | 2 => c2 | 3 => c3 | 4 => c4 | _ => c5, fun k => match k with | 0 => i0 | 1 => i1 | 2 => i2 | 3 => i3 | 4 => i4 | _ => i5), cI, cO, fun ad lo hi => ⟨⟨fun k q hq => ?_, fun k q hq => ?_⟩, ?_, fun q hq => ?_, fun q hq => ?_⟩⟩
  · match k, hq with
    | 0, hq => cases hq; exact hk0
    | 1, hq => cases hq; exact hk1
    | 2, hq => cases hq; exact hk2
    | 3, hq => cases hq; exact hk3
    | 4, hq => cases hq; exact hk4
    | 5, hq => cases hq; exact hk5
    | k + 6, hq => simp [vwCl] at hq
  · match k, hq with
    | 0, hq => cases hq; exact ⟨fun n z => ⟨fun k h => (by cases h), kI, a2, compI, a3⟩, a1⟩
    | 1, hq => cases hq; exact ⟨fun n z => ⟨fun k h => (by cases h), kI, a2, compI, a3⟩, a1⟩
    | 2, hq => cases hq; exact ⟨fun n z => ⟨fun k h => (by cases h), kO, o3, comp, o4⟩, kO, comp, o3, o4, o1, o5⟩
    | k + 3, hq => simp [iw_tys] at hq
  · exact va_AO.of (A := #[Value.ref b]) (by exact hov)
  · exact va_Nw.of rfl (hts _ (is_nm _ (List.mem_map.mpr ⟨q, hq, rfl⟩)))
  · exact va_Nw.of rfl (hts _ (is_nf _ (List.mem_map.mpr ⟨q, hq, rfl⟩)))
theorem is_law1 : Cond.classLink RL 9 RX5 ∈ wsL_law ∧ Cond.instantiable RX5 5 ∈ wsL_law ∧ Cond.initialized RX5 ∈ wsL_law := ⟨List.mem_of_getElem? (i := 0) rfl, List.mem_of_getElem? (i := 1) rfl, List.mem_of_getElem? (i := 2) rfl⟩
theorem is_law2 : Cond.arrayClass .int ∈ wsL_law := List.mem_of_getElem? (i := 3) rfl
theorem is_law3 : Cond.initialized yX5_init.cls ∈ wsL_law ∧ Cond.methodLink RL 97 yX5_init ∈ wsL_law ∧ Cond.instanceMethod yX5_init ∈ wsL_law := ⟨List.mem_of_getElem? (i := 2) rfl, List.mem_of_getElem? (i := 5) rfl, List.mem_of_getElem? (i := 6) rfl⟩
set_option maxRecDepth 100000 in
set_option maxHeartbeats 4000000 in
theorem law_from {p : Program} {e : Env} {s : State} {m : MethodId} {below : List Frame} {meth : Method} {c : Code} (l : Launch) {b L : Nat} {xs : Nat → Int32} (hL : L ≤ 260) (C0 : lw_At p s m meth c b L xs) (n : Nat) (h1 : f_L_law n xs L is_x0 = some 1) : W p l e room_1 s m #[Value.ref b] below meth c s.heap [] 0 0 (lw_Z below #[Value.ref b] s) (entryFrame m ([Value.ref b] : List Value).toArray 18) := by
  obtain ⟨hx, hb, hr, hml, hown, hts, hX, hbl, hlocks, hgv⟩ := C0
  obtain ⟨D, cI, cO, hK⟩ := is_K hts
  have C : ib_C p room_1 s m #[Value.ref b] c cL_law 18 wsL_law RL (D, (fun _ => 0), cI, cI, cO, 0, 0) (fun q => s.heap.size ≤ q) := ⟨hx, hb, hml, hown, fun w h => hts w (wsL_law_in w h), hK _ _ _, fun q h => h⟩
  have hV : ib_V p l e room_1 s m #[Value.ref b] below meth c (lw_Z below #[Value.ref b] s) 18 (D, (fun _ => 0), cI, cI, cO, 0, 0) (fun q => s.heap.size ≤ q) 0 0 [] 0 [(0, .ref b)] [] := by
    refine ib_new (pc := 0) (T := TX5) (N := 5) C 5 [.null, .null, .null, .null, .null] inlX5 tyX5_ok is_law1 rfl (by decide +kernel) (Nat.le_of_ble_eq_true rfl) (Nat.le_of_ble_eq_true rfl) dL_law_0 (fun q0 => ?_)
    refine ib_dup (pc := 3) C rfl dL_law_3 ?_
    refine ib_init (pc := 4) C 0 rfl (k_X5_init l (D, (fun _ => 0), cI, cI, cO, 0, 0) q0) gL_law_X5_init rfl is_law3 (by decide +kernel) qd_X5_init ⟨rfl, rfl, Nat.le_of_ble_eq_true rfl, Nat.le_of_ble_eq_true rfl⟩ (Nat.le_of_ble_eq_true rfl) ⟨Nat.le_of_ble_eq_true rfl, Nat.le_of_ble_eq_true rfl⟩ dL_law_4 (fun f1 => ?_)
    refine ib_ws (ws' := ib_W5 (D, (fun _ => 0), cI, cI, cO, 0, 0) q0 f1) rfl ?_
    refine ib_astore_n (pc := 7) C [(1, .ref q0), (0, .ref b)] dL_law_7 rfl (by decide) rfl ?_
    refine ib_iconst (pc := 8) C (1 : Int32) dL_law_8 (by decide) ?_
    refine ib_newI (pc := 9) C 1 is_law2 (by decide) rfl (by decide) (Nat.le_of_ble_eq_true rfl) (Nat.le_of_ble_eq_true rfl) dL_law_9 (fun q1 => ?_)
    refine ib_ws (ws' := is_W (D, (fun _ => 0), cI, cI, cO, 0, 0) q0 f1 q1) rfl ?_
    refine ib_astore_n (pc := 11) C [(2, .ref q1), (1, .ref q0), (0, .ref b)] dL_law_11 rfl (by decide) rfl ?_
    intro H locs ls hP hD hS hl
    have hPx := is_px hP
    have hAx : ∀ a, a < 85 → s.heap.size ≤ is_adx q0 f1 q1 a := fun a ha => by
      obtain ⟨e1, h1⟩ := is_ax (G := (D, (fun _ => 0), cI, cI, cO, 0, 0)) (q0 := q0) (f1 := f1) (q1 := q1) a ha
      exact hD.2 _ _ h1
    have hJ : iw_JX (D, is_adx q0 f1 q1, cI, cI, cO, 0, 85) := ⟨fun a a' h1 h2 h3 => by
      obtain ⟨e1, g1⟩ := is_ax (G := (D, (fun _ => 0), cI, cI, cO, 0, 0)) (q0 := q0) (f1 := f1) (q1 := q1) a h1.2
      obtain ⟨e2, g2⟩ := is_ax (G := (D, (fun _ => 0), cI, cI, cO, 0, 0)) (q0 := q0) (f1 := f1) (q1 := q1) a' h2.2
      exact is_inj a h1.2 a' h2.2 (hD.1 _ _ _ _ g1 g2 h3), rfl⟩
    have CL : iw_C p room_1 s m #[Value.ref b] c cL_law 18 wsL_law RL (D, is_adx q0 f1 q1, cI, cI, cO, 0, 85) (il_A s) 85 4641 := ⟨hx, hb, hml, hown, C.2.2.2.2.1, hK _ _ _, hJ.1, fun a h => hAx a h.2, Nat.le_of_ble_eq_true rfl, Nat.le_of_ble_eq_true rfl⟩
    have hwalk := k_L_law (e := e) (below := below) l hJ CL ⟨hX, hbl, hL⟩ ⟨Nat.le_of_ble_eq_true rfl, Nat.le_of_ble_eq_true rfl⟩ hr hlocks n is_x0 h1
    refine hwalk H locs ls (fun k q hq => ?_) hS (lv_sub hl [2, 1, 0] rfl)
    obtain ⟨hi, rfl⟩ := iw_lt hq
    exact hPx _ hi.2
  have hl := lv_entry ([.ref b]) (n := 18) (Nat.le_of_ble_eq_true rfl)
  rw [lg_entry_eq]
  exact hV s.heap [] _ (fun k q h => by simp at h) ⟨fun i j p q h => by simp at h, fun k q h => by simp at h⟩ va_S.rf hl
