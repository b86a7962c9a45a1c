/-! a ghost: the functions that stood for the reference in another proof, here words alone (no method of this claim): they fix what a round makes of a row of numbers -/
def f_X6_in (p1 : Int32) (p2 : Int32) (p3 : Int32) : Int32 :=
if p1 < p2 then
((0 : Int32))
else
(if p3 < p1 then
((0 : Int32))
else
((1 : Int32)))
def f_X6_copies_X39_2 (m1 : iw_M) : Option (iw_M) :=
some m1
def f_X6_copies_B2 (p1 : Int32) (p2 : Int32) (k2 : iw_M → Option (iw_M)) (r2 : Int32 → iw_M → Option (iw_M)) (v2 : Int32) (m3 : iw_M) : Option (iw_M) :=
if (465 : Int32) ≤ v2 then
(k2 m3)
else
((iw_rd m3 85 (((465 : Int32) * p1) + v2)).bind fun v5 =>
(iw_wr m3 85 (((465 : Int32) * p2) + v2) v5).bind fun m6 =>
iw_let (v2 + (1 : Int32)) fun v7 =>
r2 v7 m6)
def f_X6_copies_L2 (p1 : Int32) (p2 : Int32) (k2 : iw_M → Option (iw_M)) (nn : Nat) : Int32 → iw_M → Option (iw_M) :=
iw_it (fun r2 => f_X6_copies_B2 p1 p2 k2 r2) (fun _ _ => none) nn
def f_X6_copies (n : Nat) (p1 : Int32) (p2 : Int32) (σ : iw_M) : Option (iw_M) :=
f_X6_copies_L2 p1 p2 (f_X6_copies_X39_2) n (0 : Int32) σ
def f_X6_saves_J47 (n : Nat) (m1 : iw_M) (v2 : Int32) : Option (iw_M) :=
iw_let (iw_up m1 84 1 ((m1 84 1) - v2)) fun m3 =>
iw_let (iw_up m3 84 1 ((m3 84 1) + (1 : Int32))) fun m4 =>
(f_X6_copies n (0 : Int32) (m4 84 1) m4).bind fun m5 =>
some m5
def f_X6_saves_X29_2 (n : Nat) (m1 : iw_M) : Option (iw_M) :=
if (m1 84 1) = (5 : Int32) then
(f_X6_saves_J47 n m1 (1 : Int32))
else
(f_X6_saves_J47 n m1 (0 : Int32))
def f_X6_saves_B2 (n : Nat) (k2 : iw_M → Option (iw_M)) (r2 : Int32 → iw_M → Option (iw_M)) (v7 : Int32) (m8 : iw_M) : Option (iw_M) :=
if (5 : Int32) ≤ v7 then
(k2 m8)
else
(if (m8 84 1) = (5 : Int32) then
((f_X6_copies n (v7 + (1 : Int32)) v7 m8).bind fun m11 =>
iw_let (v7 + (1 : Int32)) fun v12 =>
r2 v12 m11)
else
(k2 m8))
def f_X6_saves_L2 (n : Nat) (k2 : iw_M → Option (iw_M)) (nn : Nat) : Int32 → iw_M → Option (iw_M) :=
iw_it (fun r2 => f_X6_saves_B2 n k2 r2) (fun _ _ => none) nn
def f_X6_saves (n : Nat) (σ : iw_M) : Option (iw_M) :=
f_X6_saves_L2 n (f_X6_saves_X29_2 n) n (1 : Int32) σ
def f_X6_isNode (p1 : Int32) (σ : iw_M) : Option (Int32) :=
(iw_rd σ 85 (0 : Int32)).bind fun v1 =>
some ((f_X6_in p1 (0 : Int32) (v1 - (1 : Int32))) &&& 1)
def f_X6_isLink (p1 : Int32) (σ : iw_M) : Option (Int32) :=
(iw_rd σ 85 (1 : Int32)).bind fun v1 =>
some ((f_X6_in p1 (0 : Int32) (v1 - (1 : Int32))) &&& 1)
def f_X6_isSensor (p1 : Int32) (σ : iw_M) : Option (Int32) :=
(iw_rd σ 85 (2 : Int32)).bind fun v1 =>
some ((f_X6_in p1 (0 : Int32) (v1 - (1 : Int32))) &&& 1)
def f_X6_isInterest (p1 : Int32) (σ : iw_M) : Option (Int32) :=
(iw_rd σ 85 (3 : Int32)).bind fun v1 =>
some ((f_X6_in p1 (0 : Int32) (v1 - (1 : Int32))) &&& 1)
def f_X6_ofLink (p1 : Int32) (p2 : Int32) (σ : iw_M) : Option (Int32) :=
(iw_rd σ 85 (((22 : Int32) + ((3 : Int32) * p1)) + p2)).bind fun v1 =>
some v1
def f_X6_ofSensor (p1 : Int32) (p2 : Int32) (σ : iw_M) : Option (Int32) :=
(iw_rd σ 85 (((82 : Int32) + ((3 : Int32) * p1)) + p2)).bind fun v1 =>
some v1
def f_X6_ofInterest (p1 : Int32) (p2 : Int32) (σ : iw_M) : Option (Int32) :=
(iw_rd σ 85 (((100 : Int32) + ((7 : Int32) * p1)) + p2)).bind fun v1 =>
some v1
def f_X6_isAlive (p1 : Int32) (σ : iw_M) : Option (Int32) :=
(iw_rd σ 85 ((12 : Int32) + p1)).bind fun v1 =>
if v1 ≤ (0 : Int32) then
(some (0 : Int32))
else
(some (1 : Int32))
def f_X6_linkOf_X73_7 (v1 : Int32) : Option (Int32) :=
some v1
def f_X6_linkOf_J66 (r7 : Int32 → Int32 → Option (Int32)) (v3 : Int32) (v8 : Int32) : Option (Int32) :=
iw_let (v3 + (1 : Int32)) fun v9 =>
r7 v8 v9
def f_X6_linkOf_J60 (r7 : Int32 → Int32 → Option (Int32)) (v3 : Int32) : Option (Int32) :=
f_X6_linkOf_J66 r7 v3 v3
def f_X6_linkOf_J65 (r7 : Int32 → Int32 → Option (Int32)) (v2 : Int32) (v3 : Int32) : Option (Int32) :=
f_X6_linkOf_J66 r7 v3 v2
def f_X6_linkOf_J48 (p1 : Int32) (p2 : Int32) (r7 : Int32 → Int32 → Option (Int32)) (v2 : Int32) (v3 : Int32) (v6 : Int32) (v7 : Int32) : Option (Int32) :=
if v6 = p2 then
(if v7 = p1 then
(f_X6_linkOf_J60 r7 v3)
else
(f_X6_linkOf_J65 r7 v2 v3))
else
(f_X6_linkOf_J65 r7 v2 v3)
def f_X6_linkOf_B7 (p1 : Int32) (p2 : Int32) (σ : iw_M) (k7 : Int32 → Option (Int32)) (r7 : Int32 → Int32 → Option (Int32)) (v2 : Int32) (v3 : Int32) : Option (Int32) :=
(iw_rd σ 85 (1 : Int32)).bind fun v4 =>
if v4 ≤ v3 then
(k7 v2)
else
((f_X6_ofLink v3 (0 : Int32) σ).bind fun v6 =>
(f_X6_ofLink v3 (1 : Int32) σ).bind fun v7 =>
if v6 = p1 then
(if v7 = p2 then
(f_X6_linkOf_J60 r7 v3)
else
(f_X6_linkOf_J48 p1 p2 r7 v2 v3 v6 v7))
else
(f_X6_linkOf_J48 p1 p2 r7 v2 v3 v6 v7))
def f_X6_linkOf_L7 (p1 : Int32) (p2 : Int32) (σ : iw_M) (k7 : Int32 → Option (Int32)) (nn : Nat) : Int32 → Int32 → Option (Int32) :=
iw_it (fun r7 => f_X6_linkOf_B7 p1 p2 σ k7 r7) (fun _ _ => none) nn
def f_X6_linkOf (n : Nat) (p1 : Int32) (p2 : Int32) (σ : iw_M) : Option (Int32) :=
f_X6_linkOf_L7 p1 p2 σ (f_X6_linkOf_X73_7) n (-1000 : Int32) (0 : Int32)
def f_X6_wayAt (p1 : Int32) (p2 : Int32) : Int32 :=
((135 : Int32) + ((11 : Int32) * (((6 : Int32) * p1) + p2)))
def f_X6_lengthOf (p1 : Int32) (p2 : Int32) (σ : iw_M) : Option (Int32) :=
(iw_rd σ 85 (f_X6_wayAt p1 p2)).bind fun v1 =>
some v1
def f_X6_nodeOf (p1 : Int32) (p2 : Int32) (p3 : Int32) (σ : iw_M) : Option (Int32) :=
(iw_rd σ 85 (((f_X6_wayAt p1 p2) + (1 : Int32)) + p3)).bind fun v1 =>
some v1
def f_X6_laysNode (p1 : Int32) (σ : iw_M) : Option (iw_M) :=
(iw_rd σ 85 (0 : Int32)).bind fun v1 =>
(iw_wr σ 85 ((12 : Int32) + v1) p1).bind fun m2 =>
(iw_rd m2 85 (0 : Int32)).bind fun v3 =>
(iw_wr m2 85 (0 : Int32) (v3 + (1 : Int32))).bind fun m4 =>
some m4
def f_X6_laysLink (p1 : Int32) (p2 : Int32) (p3 : Int32) (σ : iw_M) : Option (iw_M) :=
(iw_rd σ 85 (1 : Int32)).bind fun v1 =>
iw_let ((22 : Int32) + ((3 : Int32) * v1)) fun v2 =>
(iw_wr σ 85 v2 p1).bind fun m3 =>
(iw_wr m3 85 (v2 + (1 : Int32)) p2).bind fun m4 =>
(iw_wr m4 85 (v2 + (2 : Int32)) p3).bind fun m5 =>
(iw_rd m5 85 (1 : Int32)).bind fun v6 =>
(iw_wr m5 85 (1 : Int32) (v6 + (1 : Int32))).bind fun m7 =>
some m7
def f_X6_laysSensor_X74_44 (m6 : iw_M) : Option (iw_M) :=
(iw_rd m6 85 (2 : Int32)).bind fun v7 =>
(iw_wr m6 85 (2 : Int32) (v7 + (1 : Int32))).bind fun m8 =>
some m8
def f_X6_laysSensor_B44 (k44 : iw_M → Option (iw_M)) (r44 : Int32 → iw_M → Option (iw_M)) (v9 : Int32) (m10 : iw_M) : Option (iw_M) :=
if (5 : Int32) ≤ v9 then
(k44 m10)
else
((iw_rd m10 85 (2 : Int32)).bind fun v12 =>
(iw_wr m10 85 (f_X6_wayAt v9 v12) (0 : Int32)).bind fun m13 =>
iw_let (v9 + (1 : Int32)) fun v14 =>
r44 v14 m13)
def f_X6_laysSensor_L44 (k44 : iw_M → Option (iw_M)) (nn : Nat) : Int32 → iw_M → Option (iw_M) :=
iw_it (fun r44 => f_X6_laysSensor_B44 k44 r44) (fun _ _ => none) nn
def f_X6_laysSensor (n : Nat) (p1 : Int32) (p2 : Int32) (p3 : Int32) (σ : iw_M) : Option (iw_M) :=
(iw_rd σ 85 (2 : Int32)).bind fun v1 =>
iw_let ((82 : Int32) + ((3 : Int32) * v1)) fun v2 =>
(iw_wr σ 85 v2 p1).bind fun m3 =>
(iw_wr m3 85 (v2 + (1 : Int32)) p2).bind fun m4 =>
(iw_wr m4 85 (v2 + (2 : Int32)) p3).bind fun m5 =>
f_X6_laysSensor_L44 (f_X6_laysSensor_X74_44) n (0 : Int32) m5
def f_X6_addNode (n : Nat) (p1 : Int32) (σ : iw_M) : Option (Int32 × iw_M) :=
if (f_X6_in p1 (1 : Int32) (10000 : Int32)) = (0 : Int32) then
(some ((-1002 : Int32), σ))
else
((iw_rd σ 85 (0 : Int32)).bind fun v2 =>
if v2 = (10 : Int32) then
(some ((-1004 : Int32), σ))
else
((f_X6_saves n σ).bind fun m4 =>
(f_X6_laysNode p1 m4).bind fun m5 =>
(iw_rd m5 85 (0 : Int32)).bind fun v6 =>
some ((v6 - (1 : Int32)), m5)))
def f_X6_charge (n : Nat) (p1 : Int32) (p2 : Int32) (σ : iw_M) : Option (Int32 × iw_M) :=
(f_X6_isNode p1 σ).bind fun v1 =>
if v1 = (0 : Int32) then
(some ((-1001 : Int32), σ))
else
(if (f_X6_in p2 (0 : Int32) (10000 : Int32)) = (0 : Int32) then
(some ((-1002 : Int32), σ))
else
((f_X6_saves n σ).bind fun m4 =>
(iw_rd m4 85 ((12 : Int32) + p1)).bind fun v5 =>
(iw_wr m4 85 ((12 : Int32) + p1) p2).bind fun m6 =>
some (v5, m6)))
def f_X6_link (n : Nat) (p1 : Int32) (p2 : Int32) (p3 : Int32) (σ : iw_M) : Option (Int32 × iw_M) :=
(f_X6_isNode p1 σ).bind fun v1 =>
if v1 = (0 : Int32) then
(some ((-1001 : Int32), σ))
else
((f_X6_isNode p2 σ).bind fun v3 =>
if v3 = (0 : Int32) then
(some ((-1001 : Int32), σ))
else
(if (f_X6_in p3 (1 : Int32) (20 : Int32)) = (0 : Int32) then
(some ((-1002 : Int32), σ))
else
(if p1 = p2 then
(some ((-1003 : Int32), σ))
else
((f_X6_linkOf n p1 p2 σ).bind fun v7 =>
if v7 = (-1000 : Int32) then
((iw_rd σ 85 (1 : Int32)).bind fun v9 =>
if v9 = (20 : Int32) then
(some ((-1004 : Int32), σ))
else
((f_X6_saves n σ).bind fun m11 =>
(f_X6_laysLink p1 p2 p3 m11).bind fun m12 =>
(iw_rd m12 85 (1 : Int32)).bind fun v13 =>
some ((v13 - (1 : Int32)), m12)))
else
(some ((-1003 : Int32), σ))))))
def f_X6_cut_X68_30 (m7 : iw_M) : Option (Int32 × iw_M) :=
(iw_rd m7 85 (1 : Int32)).bind fun v8 =>
some (v8, m7)
def f_X6_cut_B30 (k30 : iw_M → Option (Int32 × iw_M)) (r30 : Int32 → iw_M → Option (Int32 × iw_M)) (v9 : Int32) (m10 : iw_M) : Option (Int32 × iw_M) :=
(iw_rd m10 85 (1 : Int32)).bind fun v11 =>
if ((3 : Int32) * v11) ≤ v9 then
(k30 m10)
else
((iw_rd m10 85 (((22 : Int32) + v9) + (3 : Int32))).bind fun v13 =>
(iw_wr m10 85 ((22 : Int32) + v9) v13).bind fun m14 =>
iw_let (v9 + (1 : Int32)) fun v15 =>
r30 v15 m14)
def f_X6_cut_L30 (k30 : iw_M → Option (Int32 × iw_M)) (nn : Nat) : Int32 → iw_M → Option (Int32 × iw_M) :=
iw_it (fun r30 => f_X6_cut_B30 k30 r30) (fun _ _ => none) nn
def f_X6_cut (n : Nat) (p1 : Int32) (σ : iw_M) : Option (Int32 × iw_M) :=
(f_X6_isLink p1 σ).bind fun v1 =>
if v1 = (0 : Int32) then
(some ((-1001 : Int32), σ))
else
((f_X6_saves n σ).bind fun m3 =>
(iw_rd m3 85 (1 : Int32)).bind fun v4 =>
(iw_wr m3 85 (1 : Int32) (v4 - (1 : Int32))).bind fun m5 =>
iw_let ((3 : Int32) * p1) fun v6 =>
f_X6_cut_L30 (f_X6_cut_X68_30) n v6 m5)
def f_X6_isKind (p1 : Int32) : Int32 :=
((f_X6_in p1 (0 : Int32) (7 : Int32)) &&& 1)
def f_X6_isMeasure (p1 : Int32) : Int32 :=
((f_X6_in p1 (-100 : Int32) (100 : Int32)) &&& 1)
def f_X6_addSensor (n : Nat) (p1 : Int32) (p2 : Int32) (p3 : Int32) (σ : iw_M) : Option (Int32 × iw_M) :=
(f_X6_isNode p1 σ).bind fun v1 =>
if v1 = (0 : Int32) then
(some ((-1001 : Int32), σ))
else
(if (f_X6_isKind p2) = (0 : Int32) then
(some ((-1002 : Int32), σ))
else
(if (f_X6_isMeasure p3) = (0 : Int32) then
(some ((-1002 : Int32), σ))
else
((iw_rd σ 85 (2 : Int32)).bind fun v5 =>
if v5 = (6 : Int32) then
(some ((-1004 : Int32), σ))
else
((f_X6_saves n σ).bind fun m7 =>
(f_X6_laysSensor n p1 p2 p3 m7).bind fun m8 =>
(iw_rd m8 85 (2 : Int32)).bind fun v9 =>
some ((v9 - (1 : Int32)), m8)))))
def f_X6_measure (n : Nat) (p1 : Int32) (p2 : Int32) (σ : iw_M) : Option (Int32 × iw_M) :=
(f_X6_isSensor p1 σ).bind fun v1 =>
if v1 = (0 : Int32) then
(some ((-1001 : Int32), σ))
else
(if (f_X6_isMeasure p2) = (0 : Int32) then
(some ((-1002 : Int32), σ))
else
((f_X6_saves n σ).bind fun m4 =>
(f_X6_ofSensor p1 (2 : Int32) m4).bind fun v5 =>
(iw_wr m4 85 (((82 : Int32) + ((3 : Int32) * p1)) + (2 : Int32)) p2).bind fun m6 =>
some (v5, m6)))
def f_X6_ask_X194_167 (v11 : Int32) (m20 : iw_M) : Option (Int32 × iw_M) :=
(iw_rd m20 85 (3 : Int32)).bind fun v21 =>
(iw_wr m20 85 (3 : Int32) (v21 + (1 : Int32))).bind fun m22 =>
some (v11, m22)
def f_X6_ask_B167 (v11 : Int32) (k167 : iw_M → Option (Int32 × iw_M)) (r167 : Int32 → iw_M → Option (Int32 × iw_M)) (v23 : Int32) (m24 : iw_M) : Option (Int32 × iw_M) :=
if (6 : Int32) ≤ v23 then
(k167 m24)
else
((iw_wr m24 85 (f_X6_wayAt v11 v23) (0 : Int32)).bind fun m26 =>
iw_let (v23 + (1 : Int32)) fun v27 =>
r167 v27 m26)
def f_X6_ask_L167 (v11 : Int32) (k167 : iw_M → Option (Int32 × iw_M)) (nn : Nat) : Int32 → iw_M → Option (Int32 × iw_M) :=
iw_it (fun r167 => f_X6_ask_B167 v11 k167 r167) (fun _ _ => none) nn
def f_X6_ask (n : Nat) (p1 : Int32) (p2 : Int32) (p3 : Int32) (p4 : Int32) (p5 : Int32) (σ : iw_M) : Option (Int32 × iw_M) :=
(f_X6_isNode p1 σ).bind fun v1 =>
if v1 = (0 : Int32) then
(some ((-1001 : Int32), σ))
else
(if (f_X6_isKind p2) = (0 : Int32) then
(some ((-1002 : Int32), σ))
else
(if (f_X6_isMeasure p3) = (0 : Int32) then
(some ((-1002 : Int32), σ))
else
(if (f_X6_in p4 p3 (100 : Int32)) = (0 : Int32) then
(some ((-1002 : Int32), σ))
else
((iw_rd σ 85 (5 : Int32)).bind fun v6 =>
if (f_X6_in p5 v6 (100000 : Int32)) = (0 : Int32) then
(some ((-1002 : Int32), σ))
else
((iw_rd σ 85 (3 : Int32)).bind fun v8 =>
if v8 = (5 : Int32) then
(some ((-1004 : Int32), σ))
else
((f_X6_saves n σ).bind fun m10 =>
(iw_rd m10 85 (3 : Int32)).bind fun v11 =>
iw_let ((100 : Int32) + ((7 : Int32) * v11)) fun v12 =>
(iw_wr m10 85 v12 p1).bind fun m13 =>
(iw_wr m13 85 (v12 + (1 : Int32)) p2).bind fun m14 =>
(iw_wr m14 85 (v12 + (2 : Int32)) p3).bind fun m15 =>
(iw_wr m15 85 (v12 + (3 : Int32)) p4).bind fun m16 =>
(iw_wr m16 85 (v12 + (4 : Int32)) p5).bind fun m17 =>
(iw_wr m17 85 (v12 + (5 : Int32)) (0 : Int32)).bind fun m18 =>
(iw_wr m18 85 (v12 + (6 : Int32)) (0 : Int32)).bind fun m19 =>
f_X6_ask_L167 v11 (f_X6_ask_X194_167 v11) n (0 : Int32) m19))))))
def f_X6_removes_X98_62 (m6 : iw_M) : Option (iw_M) :=
some m6
def f_X6_removes_B62 (k62 : iw_M → Option (iw_M)) (r62 : Int32 → iw_M → Option (iw_M)) (v7 : Int32) (m8 : iw_M) : Option (iw_M) :=
(iw_rd m8 85 (3 : Int32)).bind fun v9 =>
if (f_X6_wayAt v9 (0 : Int32)) ≤ v7 then
(k62 m8)
else
((iw_rd m8 85 (v7 + (66 : Int32))).bind fun v11 =>
(iw_wr m8 85 v7 v11).bind fun m12 =>
iw_let (v7 + (1 : Int32)) fun v13 =>
r62 v13 m12)
def f_X6_removes_L62 (k62 : iw_M → Option (iw_M)) (nn : Nat) : Int32 → iw_M → Option (iw_M) :=
iw_it (fun r62 => f_X6_removes_B62 k62 r62) (fun _ _ => none) nn
def f_X6_removes_X55_15 (n : Nat) (p1 : Int32) (m4 : iw_M) : Option (iw_M) :=
iw_let (f_X6_wayAt p1 (0 : Int32)) fun v5 =>
f_X6_removes_L62 (f_X6_removes_X98_62) n v5 m4
def f_X6_removes_B15 (k15 : iw_M → Option (iw_M)) (r15 : Int32 → iw_M → Option (iw_M)) (v14 : Int32) (m15 : iw_M) : Option (iw_M) :=
(iw_rd m15 85 (3 : Int32)).bind fun v16 =>
if ((7 : Int32) * v16) ≤ v14 then
(k15 m15)
else
((iw_rd m15 85 (((100 : Int32) + v14) + (7 : Int32))).bind fun v18 =>
(iw_wr m15 85 ((100 : Int32) + v14) v18).bind fun m19 =>
iw_let (v14 + (1 : Int32)) fun v20 =>
r15 v20 m19)
def f_X6_removes_L15 (k15 : iw_M → Option (iw_M)) (nn : Nat) : Int32 → iw_M → Option (iw_M) :=
iw_it (fun r15 => f_X6_removes_B15 k15 r15) (fun _ _ => none) nn
def f_X6_removes (n : Nat) (p1 : Int32) (σ : iw_M) : Option (iw_M) :=
(iw_rd σ 85 (3 : Int32)).bind fun v1 =>
(iw_wr σ 85 (3 : Int32) (v1 - (1 : Int32))).bind fun m2 =>
iw_let ((7 : Int32) * p1) fun v3 =>
f_X6_removes_L15 (f_X6_removes_X55_15 n p1) n v3 m2
def f_X6_withdraw (n : Nat) (p1 : Int32) (σ : iw_M) : Option (Int32 × iw_M) :=
(f_X6_isInterest p1 σ).bind fun v1 =>
if v1 = (0 : Int32) then
(some ((-1001 : Int32), σ))
else
((f_X6_saves n σ).bind fun m3 =>
(f_X6_removes n p1 m3).bind fun m4 =>
(iw_rd m4 85 (3 : Int32)).bind fun v5 =>
some (v5, m4))
def f_X6_setPeriod (n : Nat) (p1 : Int32) (σ : iw_M) : Option (Int32 × iw_M) :=
if (f_X6_in p1 (1 : Int32) (50 : Int32)) = (0 : Int32) then
(some ((-1002 : Int32), σ))
else
((f_X6_saves n σ).bind fun m2 =>
(iw_rd m2 85 (4 : Int32)).bind fun v3 =>
(iw_wr m2 85 (4 : Int32) p1).bind fun m4 =>
some (v3, m4))
def f_X6_living_X36_4 (v1 : Int32) : Option (Int32) :=
some v1
def f_X6_living_J28 (r4 : Int32 → Int32 → Option (Int32)) (v2 : Int32) (v3 : Int32) (v7 : Int32) : Option (Int32) :=
iw_let (v2 + v7) fun v8 =>
iw_let (v3 + (1 : Int32)) fun v9 =>
r4 v8 v9
def f_X6_living_B4 (σ : iw_M) (k4 : Int32 → Option (Int32)) (r4 : Int32 → Int32 → Option (Int32)) (v2 : Int32) (v3 : Int32) : Option (Int32) :=
(iw_rd σ 85 (0 : Int32)).bind fun v4 =>
if v4 ≤ v3 then
(k4 v2)
else
((f_X6_isAlive v3 σ).bind fun v6 =>
if v6 = (0 : Int32) then
(f_X6_living_J28 r4 v2 v3 (0 : Int32))
else
(f_X6_living_J28 r4 v2 v3 (1 : Int32)))
def f_X6_living_L4 (σ : iw_M) (k4 : Int32 → Option (Int32)) (nn : Nat) : Int32 → Int32 → Option (Int32) :=
iw_it (fun r4 => f_X6_living_B4 σ k4 r4) (fun _ _ => none) nn
def f_X6_living (n : Nat) (σ : iw_M) : Option (Int32) :=
f_X6_living_L4 σ (f_X6_living_X36_4) n (0 : Int32) (0 : Int32)
def f_X6_count (n : Nat) (p1 : Int32) (σ : iw_M) : Option (Int32) :=
if (f_X6_in p1 (0 : Int32) (11 : Int32)) = (0 : Int32) then
(some (-1002 : Int32))
else
(if p1 = (6 : Int32) then
((f_X6_living n σ).bind fun v4 =>
some v4)
else
((iw_rd σ 85 p1).bind fun v3 =>
some v3))
def f_X6_energy (p1 : Int32) (σ : iw_M) : Option (Int32) :=
(f_X6_isNode p1 σ).bind fun v1 =>
if v1 = (0 : Int32) then
(some (-1001 : Int32))
else
((iw_rd σ 85 ((12 : Int32) + p1)).bind fun v3 =>
some v3)
def f_X6_linkPart (p1 : Int32) (p2 : Int32) (σ : iw_M) : Option (Int32) :=
(f_X6_isLink p1 σ).bind fun v1 =>
if v1 = (0 : Int32) then
(some (-1001 : Int32))
else
(if (f_X6_in p2 (0 : Int32) (2 : Int32)) = (0 : Int32) then
(some (-1002 : Int32))
else
((f_X6_ofLink p1 p2 σ).bind fun v4 =>
some v4))
def f_X6_sensor (p1 : Int32) (p2 : Int32) (σ : iw_M) : Option (Int32) :=
(f_X6_isSensor p1 σ).bind fun v1 =>
if v1 = (0 : Int32) then
(some (-1001 : Int32))
else
(if (f_X6_in p2 (0 : Int32) (2 : Int32)) = (0 : Int32) then
(some (-1002 : Int32))
else
((f_X6_ofSensor p1 p2 σ).bind fun v4 =>
some v4))
def f_X6_part_X53_18 (v2 : Int32) : Option (Int32) :=
some v2
def f_X6_part_J45 (r18 : Int32 → Int32 → Option (Int32)) (v3 : Int32) (v4 : Int32) (v8 : Int32) : Option (Int32) :=
iw_let (v3 + v8) fun v9 =>
iw_let (v4 + (1 : Int32)) fun v10 =>
r18 v9 v10
def f_X6_part_B18 (p1 : Int32) (σ : iw_M) (k18 : Int32 → Option (Int32)) (r18 : Int32 → Int32 → Option (Int32)) (v3 : Int32) (v4 : Int32) : Option (Int32) :=
(iw_rd σ 85 (2 : Int32)).bind fun v5 =>
if v5 ≤ v4 then
(k18 v3)
else
((f_X6_lengthOf p1 v4 σ).bind fun v7 =>
if v7 ≤ (0 : Int32) then
(f_X6_part_J45 r18 v3 v4 (0 : Int32))
else
(f_X6_part_J45 r18 v3 v4 (1 : Int32)))
def f_X6_part_L18 (p1 : Int32) (σ : iw_M) (k18 : Int32 → Option (Int32)) (nn : Nat) : Int32 → Int32 → Option (Int32) :=
iw_it (fun r18 => f_X6_part_B18 p1 σ k18 r18) (fun _ _ => none) nn
def f_X6_part (n : Nat) (p1 : Int32) (p2 : Int32) (σ : iw_M) : Option (Int32) :=
if (7 : Int32) ≤ p2 then
(f_X6_part_L18 p1 σ (f_X6_part_X53_18) n (0 : Int32) (0 : Int32))
else
((f_X6_ofInterest p1 p2 σ).bind fun v12 =>
some v12)
def f_X6_interest (n : Nat) (p1 : Int32) (p2 : Int32) (σ : iw_M) : Option (Int32) :=
(f_X6_isInterest p1 σ).bind fun v1 =>
if v1 = (0 : Int32) then
(some (-1001 : Int32))
else
(if (f_X6_in p2 (0 : Int32) (7 : Int32)) = (0 : Int32) then
(some (-1002 : Int32))
else
((f_X6_part n p1 p2 σ).bind fun v4 =>
some v4))
def f_X6_looksAlive_X43_2 (m1 : iw_M) : Option (iw_M) :=
some m1
def f_X6_looksAlive_J36 (r2 : Int32 → iw_M → Option (iw_M)) (v2 : Int32) (m3 : iw_M) (v6 : Int32) : Option (iw_M) :=
(iw_wr m3 87 v2 (v6 &&& 1)).bind fun m7 =>
iw_let (v2 + (1 : Int32)) fun v8 =>
r2 v8 m7
def f_X6_looksAlive_J35 (r2 : Int32 → iw_M → Option (iw_M)) (v2 : Int32) (m3 : iw_M) : Option (iw_M) :=
f_X6_looksAlive_J36 r2 v2 m3 (0 : Int32)
def f_X6_looksAlive_B2 (k2 : iw_M → Option (iw_M)) (r2 : Int32 → iw_M → Option (iw_M)) (v2 : Int32) (m3 : iw_M) : Option (iw_M) :=
if (10 : Int32) ≤ v2 then
(k2 m3)
else
((iw_rd m3 85 (0 : Int32)).bind fun v5 =>
if v5 ≤ v2 then
(f_X6_looksAlive_J35 r2 v2 m3)
else
((f_X6_isAlive v2 m3).bind fun v10 =>
if v10 = (0 : Int32) then
(f_X6_looksAlive_J35 r2 v2 m3)
else
(f_X6_looksAlive_J36 r2 v2 m3 (1 : Int32))))
def f_X6_looksAlive_L2 (k2 : iw_M → Option (iw_M)) (nn : Nat) : Int32 → iw_M → Option (iw_M) :=
iw_it (fun r2 => f_X6_looksAlive_B2 k2 r2) (fun _ _ => none) nn
def f_X6_looksAlive (n : Nat) (σ : iw_M) : Option (iw_M) :=
f_X6_looksAlive_L2 (f_X6_looksAlive_X43_2) n (0 : Int32) σ
def f_X6_reaches_X287_65 (m4 : iw_M) : Option (iw_M) :=
some m4
def f_X6_reaches_X284_219 (r65 : Int32 → iw_M → Option (iw_M)) (m9 : iw_M) (v10 : Int32) : Option (iw_M) :=
r65 v10 m9
def f_X6_reaches_J277 (r219 : Int32 → Int32 → Option (iw_M)) (v12 : Int32) (v16 : Int32) : Option (iw_M) :=
iw_let (v12 + (1 : Int32)) fun v17 =>
r219 v16 v17
def f_X6_reaches_J276 (r219 : Int32 → Int32 → Option (iw_M)) (v11 : Int32) (v12 : Int32) : Option (iw_M) :=
f_X6_reaches_J277 r219 v12 v11
def f_X6_reaches_J272 (r219 : Int32 → Int32 → Option (iw_M)) (v12 : Int32) : Option (iw_M) :=
f_X6_reaches_J277 r219 v12 v12
def f_X6_reaches_B219 (m9 : iw_M) (k219 : Int32 → Option (iw_M)) (r219 : Int32 → Int32 → Option (iw_M)) (v11 : Int32) (v12 : Int32) : Option (iw_M) :=
(iw_rd m9 85 (0 : Int32)).bind fun v13 =>
if v13 ≤ v12 then
(k219 v11)
else
((iw_rd m9 88 v12).bind fun v15 =>
if v15 = (0 : Int32) then
((iw_rd m9 86 v12).bind fun v19 =>
if v19 = (-1000 : Int32) then
(f_X6_reaches_J276 r219 v11 v12)
else
(if v11 = (-1000 : Int32) then
(f_X6_reaches_J272 r219 v12)
else
((iw_rd m9 86 v12).bind fun v22 =>
(iw_rd m9 86 v11).bind fun v23 =>
if v23 ≤ v22 then
(f_X6_reaches_J276 r219 v11 v12)
else
(f_X6_reaches_J272 r219 v12))))
else
(f_X6_reaches_J276 r219 v11 v12))
def f_X6_reaches_L219 (m9 : iw_M) (k219 : Int32 → Option (iw_M)) (nn : Nat) : Int32 → Int32 → Option (iw_M) :=
iw_it (fun r219 => f_X6_reaches_B219 m9 k219 r219) (fun _ _ => none) nn
def f_X6_reaches_X213_81 (n : Nat) (r65 : Int32 → iw_M → Option (iw_M)) (m9 : iw_M) : Option (iw_M) :=
f_X6_reaches_L219 m9 (f_X6_reaches_X284_219 r65 m9) n (-1000 : Int32) (0 : Int32)
def f_X6_reaches_J206 (r81 : Int32 → iw_M → Option (iw_M)) (v25 : Int32) (m26 : iw_M) (v30 : Int32) (v34 : Int32) : Option (iw_M) :=
(iw_wr m26 86 v30 v34).bind fun m35 =>
iw_let (v25 + (1 : Int32)) fun v36 =>
r81 v36 m35
def f_X6_reaches_J199 (r81 : Int32 → iw_M → Option (iw_M)) (v25 : Int32) (m26 : iw_M) (v30 : Int32) : Option (iw_M) :=
(iw_rd m26 86 v30).bind fun v37 =>
f_X6_reaches_J206 r81 v25 m26 v30 v37
def f_X6_reaches_J194 (r81 : Int32 → iw_M → Option (iw_M)) (v25 : Int32) (m26 : iw_M) (v30 : Int32) (v33 : Int32) : Option (iw_M) :=
f_X6_reaches_J206 r81 v25 m26 v30 v33
def f_X6_reaches_J130 (v5 : Int32) (r81 : Int32 → iw_M → Option (iw_M)) (v25 : Int32) (m26 : iw_M) (v30 : Int32) : Option (iw_M) :=
(iw_rd m26 86 v5).bind fun v31 =>
(f_X6_ofLink v25 (2 : Int32) m26).bind fun v32 =>
iw_let (v31 + v32) fun v33 =>
if v30 = v5 then
(f_X6_reaches_J199 r81 v25 m26 v30)
else
((iw_rd m26 87 v30).bind fun v39 =>
if v39 = (0 : Int32) then
(f_X6_reaches_J199 r81 v25 m26 v30)
else
((iw_rd m26 86 v30).bind fun v41 =>
if v41 = (-1000 : Int32) then
(f_X6_reaches_J194 r81 v25 m26 v30 v33)
else
((iw_rd m26 86 v30).bind fun v43 =>
if v43 ≤ v33 then
(f_X6_reaches_J199 r81 v25 m26 v30)
else
(f_X6_reaches_J194 r81 v25 m26 v30 v33))))
def f_X6_reaches_B81 (v5 : Int32) (k81 : iw_M → Option (iw_M)) (r81 : Int32 → iw_M → Option (iw_M)) (v25 : Int32) (m26 : iw_M) : Option (iw_M) :=
(iw_rd m26 85 (1 : Int32)).bind fun v27 =>
if v27 ≤ v25 then
(k81 m26)
else
((f_X6_ofLink v25 (0 : Int32) m26).bind fun v29 =>
if v29 = v5 then
((f_X6_ofLink v25 (1 : Int32) m26).bind fun v49 =>
f_X6_reaches_J130 v5 r81 v25 m26 v49)
else
((f_X6_ofLink v25 (1 : Int32) m26).bind fun v46 =>
if v46 = v5 then
((f_X6_ofLink v25 (0 : Int32) m26).bind fun v48 =>
f_X6_reaches_J130 v5 r81 v25 m26 v48)
else
(f_X6_reaches_J130 v5 r81 v25 m26 v5)))
def f_X6_reaches_L81 (v5 : Int32) (k81 : iw_M → Option (iw_M)) (nn : Nat) : Int32 → iw_M → Option (iw_M) :=
iw_it (fun r81 => f_X6_reaches_B81 v5 k81 r81) (fun _ _ => none) nn
def f_X6_reaches_B65 (n : Nat) (k65 : iw_M → Option (iw_M)) (r65 : Int32 → iw_M → Option (iw_M)) (v5 : Int32) (m6 : iw_M) : Option (iw_M) :=
if v5 = (-1000 : Int32) then
(k65 m6)
else
((iw_wr m6 88 v5 ((1 : Int32) &&& 1)).bind fun m8 =>
f_X6_reaches_L81 v5 (f_X6_reaches_X213_81 n r65) n (0 : Int32) m8)
def f_X6_reaches_L65 (n : Nat) (k65 : iw_M → Option (iw_M)) (nn : Nat) : Int32 → iw_M → Option (iw_M) :=
iw_it (fun r65 => f_X6_reaches_B65 n k65 r65) (fun _ _ => none) nn
def f_X6_reaches_J64 (n : Nat) (m1 : iw_M) (v3 : Int32) : Option (iw_M) :=
f_X6_reaches_L65 n (f_X6_reaches_X287_65) n v3 m1
def f_X6_reaches_X48_2 (n : Nat) (p1 : Int32) (m1 : iw_M) : Option (iw_M) :=
(iw_rd m1 87 p1).bind fun v2 =>
if v2 = (0 : Int32) then
(f_X6_reaches_J64 n m1 (-1000 : Int32))
else
(f_X6_reaches_J64 n m1 p1)
def f_X6_reaches_J34 (r2 : Int32 → iw_M → Option (iw_M)) (v51 : Int32) (m52 : iw_M) (v54 : Int32) : Option (iw_M) :=
(iw_wr m52 86 v51 v54).bind fun m55 =>
(iw_wr m55 88 v51 ((0 : Int32) &&& 1)).bind fun m56 =>
iw_let (v51 + (1 : Int32)) fun v57 =>
r2 v57 m56
def f_X6_reaches_J31 (r2 : Int32 → iw_M → Option (iw_M)) (v51 : Int32) (m52 : iw_M) : Option (iw_M) :=
f_X6_reaches_J34 r2 v51 m52 (-1000 : Int32)
def f_X6_reaches_B2 (p1 : Int32) (k2 : iw_M → Option (iw_M)) (r2 : Int32 → iw_M → Option (iw_M)) (v51 : Int32) (m52 : iw_M) : Option (iw_M) :=
if (10 : Int32) ≤ v51 then
(k2 m52)
else
(if v51 = p1 then
((iw_rd m52 87 v51).bind fun v59 =>
if v59 = (0 : Int32) then
(f_X6_reaches_J31 r2 v51 m52)
else
(f_X6_reaches_J34 r2 v51 m52 (0 : Int32)))
else
(f_X6_reaches_J31 r2 v51 m52))
def f_X6_reaches_L2 (p1 : Int32) (k2 : iw_M → Option (iw_M)) (nn : Nat) : Int32 → iw_M → Option (iw_M) :=
iw_it (fun r2 => f_X6_reaches_B2 p1 k2 r2) (fun _ _ => none) nn
def f_X6_reaches (n : Nat) (p1 : Int32) (σ : iw_M) : Option (iw_M) :=
f_X6_reaches_L2 p1 (f_X6_reaches_X48_2 n p1) n (0 : Int32) σ
def f_X6_isWholeWay_X93_18 (v3 : Int32) : Option (Int32) :=
some (v3 &&& 1)
def f_X6_isWholeWay_J86 (r18 : Int32 → Int32 → Option (Int32)) (v5 : Int32) (v8 : Int32) : Option (Int32) :=
iw_let (v5 + (1 : Int32)) fun v9 =>
r18 v8 v9
def f_X6_isWholeWay_J85 (r18 : Int32 → Int32 → Option (Int32)) (v5 : Int32) : Option (Int32) :=
f_X6_isWholeWay_J86 r18 v5 (0 : Int32)
def f_X6_isWholeWay_J81 (r18 : Int32 → Int32 → Option (Int32)) (v5 : Int32) : Option (Int32) :=
f_X6_isWholeWay_J86 r18 v5 (1 : Int32)
def f_X6_isWholeWay_B18 (n : Nat) (p1 : Int32) (p2 : Int32) (σ : iw_M) (k18 : Int32 → Option (Int32)) (r18 : Int32 → Int32 → Option (Int32)) (v4 : Int32) (v5 : Int32) : Option (Int32) :=
(f_X6_lengthOf p1 p2 σ).bind fun v6 =>
if v6 ≤ v5 then
(k18 v4)
else
(if v4 = (0 : Int32) then
(f_X6_isWholeWay_J85 r18 v5)
else
((f_X6_nodeOf p1 p2 v5 σ).bind fun v11 =>
(f_X6_isAlive v11 σ).bind fun v12 =>
if v12 = (0 : Int32) then
(f_X6_isWholeWay_J85 r18 v5)
else
(if v5 = (0 : Int32) then
(f_X6_isWholeWay_J81 r18 v5)
else
((f_X6_nodeOf p1 p2 (v5 - (1 : Int32)) σ).bind fun v15 =>
(f_X6_nodeOf p1 p2 v5 σ).bind fun v16 =>
(f_X6_linkOf n v15 v16 σ).bind fun v17 =>
if v17 = (-1000 : Int32) then
(f_X6_isWholeWay_J85 r18 v5)
else
(f_X6_isWholeWay_J81 r18 v5)))))
def f_X6_isWholeWay_L18 (n : Nat) (p1 : Int32) (p2 : Int32) (σ : iw_M) (k18 : Int32 → Option (Int32)) (nn : Nat) : Int32 → Int32 → Option (Int32) :=
iw_it (fun r18 => f_X6_isWholeWay_B18 n p1 p2 σ k18 r18) (fun _ _ => none) nn
def f_X6_isWholeWay_J14 (n : Nat) (p1 : Int32) (p2 : Int32) (σ : iw_M) (v2 : Int32) : Option (Int32) :=
f_X6_isWholeWay_L18 n p1 p2 σ (f_X6_isWholeWay_X93_18) n v2 (0 : Int32)
def f_X6_isWholeWay (n : Nat) (p1 : Int32) (p2 : Int32) (σ : iw_M) : Option (Int32) :=
(f_X6_lengthOf p1 p2 σ).bind fun v1 =>
if v1 ≤ (0 : Int32) then
(f_X6_isWholeWay_J14 n p1 p2 σ (0 : Int32))
else
(f_X6_isWholeWay_J14 n p1 p2 σ (1 : Int32))
def f_X6_spends_J26 (p1 : Int32) (σ : iw_M) (v2 : Int32) : Option (iw_M) :=
(iw_rd σ 85 ((12 : Int32) + p1)).bind fun v3 =>
(iw_wr σ 85 ((12 : Int32) + p1) (v3 - v2)).bind fun m4 =>
(iw_rd m4 85 (10 : Int32)).bind fun v5 =>
(iw_wr m4 85 (10 : Int32) (v5 + v2)).bind fun m6 =>
some m6
def f_X6_spends (p1 : Int32) (p2 : Int32) (σ : iw_M) : Option (iw_M) :=
(iw_rd σ 85 ((12 : Int32) + p1)).bind fun v1 =>
if p2 ≤ v1 then
(f_X6_spends_J26 p1 σ p2)
else
((iw_rd σ 85 ((12 : Int32) + p1)).bind fun v8 =>
f_X6_spends_J26 p1 σ v8)
def f_X6_traces_X143_25 (m4 : iw_M) : Option (iw_M) :=
some m4
def f_X6_traces_X138_66 (r25 : Int32 → iw_M → Option (iw_M)) (m9 : iw_M) (v12 : Int32) : Option (iw_M) :=
r25 v12 m9
def f_X6_traces_J131 (r66 : Int32 → Int32 → Option (iw_M)) (v14 : Int32) (v17 : Int32) : Option (iw_M) :=
iw_let (v14 + (-1 : Int32)) fun v18 =>
r66 v17 v18
def f_X6_traces_J130 (r66 : Int32 → Int32 → Option (iw_M)) (v13 : Int32) (v14 : Int32) : Option (iw_M) :=
f_X6_traces_J131 r66 v14 v13
def f_X6_traces_B66 (n : Nat) (v5 : Int32) (m9 : iw_M) (k66 : Int32 → Option (iw_M)) (r66 : Int32 → Int32 → Option (iw_M)) (v13 : Int32) (v14 : Int32) : Option (iw_M) :=
if v14 < (0 : Int32) then
(k66 v13)
else
((f_X6_linkOf n v14 v5 m9).bind fun v16 =>
if v16 = (-1000 : Int32) then
(f_X6_traces_J130 r66 v13 v14)
else
((iw_rd m9 86 v14).bind fun v20 =>
if v20 = (-1000 : Int32) then
(f_X6_traces_J130 r66 v13 v14)
else
((iw_rd m9 86 v14).bind fun v22 =>
(f_X6_ofLink v16 (2 : Int32) m9).bind fun v23 =>
(iw_rd m9 86 v5).bind fun v24 =>
if (v22 + v23) = v24 then
(f_X6_traces_J131 r66 v14 v14)
else
(f_X6_traces_J130 r66 v13 v14))))
def f_X6_traces_L66 (n : Nat) (v5 : Int32) (m9 : iw_M) (k66 : Int32 → Option (iw_M)) (nn : Nat) : Int32 → Int32 → Option (iw_M) :=
iw_it (fun r66 => f_X6_traces_B66 n v5 m9 k66 r66) (fun _ _ => none) nn
def f_X6_traces_B25 (n : Nat) (k25 : iw_M → Option (iw_M)) (r25 : Int32 → iw_M → Option (iw_M)) (v5 : Int32) (m6 : iw_M) : Option (iw_M) :=
if v5 = (-1000 : Int32) then
(k25 m6)
else
((iw_wr m6 89 (m6 84 6) v5).bind fun m8 =>
iw_let (iw_up m8 84 6 ((m8 84 6) + (1 : Int32))) fun m9 =>
(iw_rd m9 85 (0 : Int32)).bind fun v10 =>
iw_let (v10 - (1 : Int32)) fun v11 =>
f_X6_traces_L66 n v5 m9 (f_X6_traces_X138_66 r25 m9) n (-1000 : Int32) v11)
def f_X6_traces_L25 (n : Nat) (k25 : iw_M → Option (iw_M)) (nn : Nat) : Int32 → iw_M → Option (iw_M) :=
iw_it (fun r25 => f_X6_traces_B25 n k25 r25) (fun _ _ => none) nn
def f_X6_traces_J24 (n : Nat) (m1 : iw_M) (v3 : Int32) : Option (iw_M) :=
f_X6_traces_L25 n (f_X6_traces_X143_25) n v3 m1
def f_X6_traces (n : Nat) (p1 : Int32) (σ : iw_M) : Option (iw_M) :=
iw_let (iw_up σ 84 6 (0 : Int32)) fun m1 =>
(iw_rd m1 86 p1).bind fun v2 =>
if v2 = (-1000 : Int32) then
(f_X6_traces_J24 n m1 (-1000 : Int32))
else
(f_X6_traces_J24 n m1 p1)
def f_X6_goesOver_X66_6 (v1 : Int32) : Option (Int32) :=
some (v1 &&& 1)
def f_X6_goesOver_J58 (r6 : Int32 → Int32 → Option (Int32)) (v3 : Int32) (v5 : Int32) : Option (Int32) :=
iw_let (v3 + (1 : Int32)) fun v6 =>
r6 v5 v6
def f_X6_goesOver_J53 (r6 : Int32 → Int32 → Option (Int32)) (v3 : Int32) : Option (Int32) :=
f_X6_goesOver_J58 r6 v3 (1 : Int32)
def f_X6_goesOver_J57 (r6 : Int32 → Int32 → Option (Int32)) (v3 : Int32) : Option (Int32) :=
f_X6_goesOver_J58 r6 v3 (0 : Int32)
def f_X6_goesOver_J35 (a1 : Nat) (p3 : Int32) (p4 : Int32) (σ : iw_M) (r6 : Int32 → Int32 → Option (Int32)) (v3 : Int32) : Option (Int32) :=
(iw_rd σ a1 (v3 - (1 : Int32))).bind fun v9 =>
if v9 = p4 then
((iw_rd σ a1 v3).bind fun v11 =>
if v11 = p3 then
(f_X6_goesOver_J53 r6 v3)
else
(f_X6_goesOver_J57 r6 v3))
else
(f_X6_goesOver_J57 r6 v3)
def f_X6_goesOver_B6 (a1 : Nat) (p2 : Int32) (p3 : Int32) (p4 : Int32) (σ : iw_M) (k6 : Int32 → Option (Int32)) (r6 : Int32 → Int32 → Option (Int32)) (v2 : Int32) (v3 : Int32) : Option (Int32) :=
if p2 ≤ v3 then
(k6 v2)
else
(if v2 = (0 : Int32) then
((iw_rd σ a1 (v3 - (1 : Int32))).bind fun v8 =>
if v8 = p3 then
((iw_rd σ a1 v3).bind fun v14 =>
if v14 = p4 then
(f_X6_goesOver_J53 r6 v3)
else
(f_X6_goesOver_J35 a1 p3 p4 σ r6 v3))
else
(f_X6_goesOver_J35 a1 p3 p4 σ r6 v3))
else
(f_X6_goesOver_J53 r6 v3))
def f_X6_goesOver_L6 (a1 : Nat) (p2 : Int32) (p3 : Int32) (p4 : Int32) (σ : iw_M) (k6 : Int32 → Option (Int32)) (nn : Nat) : Int32 → Int32 → Option (Int32) :=
iw_it (fun r6 => f_X6_goesOver_B6 a1 p2 p3 p4 σ k6 r6) (fun _ _ => none) nn
def f_X6_goesOver (n : Nat) (a1 : Nat) (p2 : Int32) (p3 : Int32) (p4 : Int32) (σ : iw_M) : Option (Int32) :=
f_X6_goesOver_L6 a1 p2 p3 p4 σ (f_X6_goesOver_X66_6) n (0 : Int32) (1 : Int32)
def f_X6_explores_X283_241 (m14 : iw_M) : Option (iw_M) :=
some m14
def f_X6_explores_B241 (p1 : Int32) (p2 : Int32) (k241 : iw_M → Option (iw_M)) (r241 : Int32 → iw_M → Option (iw_M)) (v15 : Int32) (m16 : iw_M) : Option (iw_M) :=
if (m16 84 6) ≤ v15 then
(k241 m16)
else
((iw_rd m16 89 (((m16 84 6) - (1 : Int32)) - v15)).bind fun v18 =>
(iw_wr m16 85 (((f_X6_wayAt p1 p2) + (1 : Int32)) + v15) v18).bind fun m19 =>
iw_let (v15 + (1 : Int32)) fun v20 =>
r241 v20 m19)
def f_X6_explores_L241 (p1 : Int32) (p2 : Int32) (k241 : iw_M → Option (iw_M)) (nn : Nat) : Int32 → iw_M → Option (iw_M) :=
iw_it (fun r241 => f_X6_explores_B241 p1 p2 k241 r241) (fun _ _ => none) nn
def f_X6_explores_X224_167 (n : Nat) (p1 : Int32) (p2 : Int32) (m12 : iw_M) : Option (iw_M) :=
(iw_wr m12 85 (f_X6_wayAt p1 p2) (m12 84 6)).bind fun m13 =>
f_X6_explores_L241 p1 p2 (f_X6_explores_X283_241) n (0 : Int32) m13
def f_X6_explores_J216 (r167 : Int32 → iw_M → Option (iw_M)) (v21 : Int32) (m22 : iw_M) (v24 : Int32) (v28 : Int32) : Option (iw_M) :=
(iw_wr m22 85 (9 : Int32) (v24 + v28)).bind fun m29 =>
iw_let (v21 + (1 : Int32)) fun v30 =>
r167 v30 m29
def f_X6_explores_B167 (n : Nat) (k167 : iw_M → Option (iw_M)) (r167 : Int32 → iw_M → Option (iw_M)) (v21 : Int32) (m22 : iw_M) : Option (iw_M) :=
if (m22 84 8) ≤ v21 then
(k167 m22)
else
((iw_rd m22 85 (9 : Int32)).bind fun v24 =>
(iw_rd m22 90 (v21 - (1 : Int32))).bind fun v25 =>
(iw_rd m22 90 v21).bind fun v26 =>
(f_X6_goesOver n 89 (m22 84 6) v25 v26 m22).bind fun v27 =>
if v27 = (0 : Int32) then
(f_X6_explores_J216 r167 v21 m22 v24 (1 : Int32))
else
(f_X6_explores_J216 r167 v21 m22 v24 (0 : Int32)))
def f_X6_explores_L167 (n : Nat) (k167 : iw_M → Option (iw_M)) (nn : Nat) : Int32 → iw_M → Option (iw_M) :=
iw_it (fun r167 => f_X6_explores_B167 n k167 r167) (fun _ _ => none) nn
def f_X6_explores_X165_108 (n : Nat) (p1 : Int32) (p2 : Int32) (m11 : iw_M) : Option (iw_M) :=
f_X6_explores_L167 n (f_X6_explores_X224_167 n p1 p2) n (1 : Int32) m11
def f_X6_explores_J157 (r108 : Int32 → iw_M → Option (iw_M)) (v32 : Int32) (m33 : iw_M) (v35 : Int32) (v39 : Int32) : Option (iw_M) :=
(iw_wr m33 85 (8 : Int32) (v35 + v39)).bind fun m40 =>
iw_let (v32 + (1 : Int32)) fun v41 =>
r108 v41 m40
def f_X6_explores_B108 (n : Nat) (k108 : iw_M → Option (iw_M)) (r108 : Int32 → iw_M → Option (iw_M)) (v32 : Int32) (m33 : iw_M) : Option (iw_M) :=
if (m33 84 6) ≤ v32 then
(k108 m33)
else
((iw_rd m33 85 (8 : Int32)).bind fun v35 =>
(iw_rd m33 89 (v32 - (1 : Int32))).bind fun v36 =>
(iw_rd m33 89 v32).bind fun v37 =>
(f_X6_goesOver n 90 (m33 84 8) v36 v37 m33).bind fun v38 =>
if v38 = (0 : Int32) then
(f_X6_explores_J157 r108 v32 m33 v35 (1 : Int32))
else
(f_X6_explores_J157 r108 v32 m33 v35 (0 : Int32)))
def f_X6_explores_L108 (n : Nat) (k108 : iw_M → Option (iw_M)) (nn : Nat) : Int32 → iw_M → Option (iw_M) :=
iw_it (fun r108 => f_X6_explores_B108 n k108 r108) (fun _ _ => none) nn
def f_X6_explores_X106_79 (n : Nat) (p1 : Int32) (p2 : Int32) (m10 : iw_M) : Option (iw_M) :=
f_X6_explores_L108 n (f_X6_explores_X165_108 n p1 p2) n (1 : Int32) m10
def f_X6_explores_B79 (p1 : Int32) (p2 : Int32) (k79 : iw_M → Option (iw_M)) (r79 : Int32 → iw_M → Option (iw_M)) (v43 : Int32) (m44 : iw_M) : Option (iw_M) :=
if (m44 84 8) ≤ v43 then
(k79 m44)
else
((f_X6_nodeOf p1 p2 v43 m44).bind fun v46 =>
(iw_wr m44 90 v43 v46).bind fun m47 =>
iw_let (v43 + (1 : Int32)) fun v48 =>
r79 v48 m47)
def f_X6_explores_L79 (p1 : Int32) (p2 : Int32) (k79 : iw_M → Option (iw_M)) (nn : Nat) : Int32 → iw_M → Option (iw_M) :=
iw_it (fun r79 => f_X6_explores_B79 p1 p2 k79 r79) (fun _ _ => none) nn
def f_X6_explores_X67_33 (n : Nat) (p1 : Int32) (p2 : Int32) (m7 : iw_M) : Option (iw_M) :=
(f_X6_lengthOf p1 p2 m7).bind fun v8 =>
iw_let (iw_up m7 84 8 v8) fun m9 =>
f_X6_explores_L79 p1 p2 (f_X6_explores_X106_79 n p1 p2) n (0 : Int32) m9
def f_X6_explores_J61 (r33 : Int32 → iw_M → Option (iw_M)) (v49 : Int32) (m54 : iw_M) : Option (iw_M) :=
iw_let (v49 + (1 : Int32)) fun v55 =>
r33 v55 m54
def f_X6_explores_B33 (k33 : iw_M → Option (iw_M)) (r33 : Int32 → iw_M → Option (iw_M)) (v49 : Int32) (m50 : iw_M) : Option (iw_M) :=
(iw_rd m50 85 (0 : Int32)).bind fun v51 =>
if v51 ≤ v49 then
(k33 m50)
else
((iw_rd m50 86 v49).bind fun v53 =>
if v53 = (-1000 : Int32) then
(f_X6_explores_J61 r33 v49 m50)
else
((f_X6_spends v49 (1 : Int32) m50).bind fun m57 =>
f_X6_explores_J61 r33 v49 m57))
def f_X6_explores_L33 (k33 : iw_M → Option (iw_M)) (nn : Nat) : Int32 → iw_M → Option (iw_M) :=
iw_it (fun r33 => f_X6_explores_B33 k33 r33) (fun _ _ => none) nn
def f_X6_explores (n : Nat) (p1 : Int32) (p2 : Int32) (σ : iw_M) : Option (iw_M) :=
(iw_rd σ 85 (7 : Int32)).bind fun v1 =>
(iw_wr σ 85 (7 : Int32) (v1 + (1 : Int32))).bind fun m2 =>
(f_X6_ofSensor p2 (0 : Int32) m2).bind fun v3 =>
(f_X6_reaches n v3 m2).bind fun m4 =>
(f_X6_ofInterest p1 (0 : Int32) m4).bind fun v5 =>
(f_X6_traces n v5 m4).bind fun m6 =>
f_X6_explores_L33 (f_X6_explores_X67_33 n p1 p2) n (0 : Int32) m6
def f_X6_sends_X114_5 (p1 : Int32) (v1 : Int32) (m2 : iw_M) : Option (iw_M) :=
(iw_rd m2 85 (((100 : Int32) + ((7 : Int32) * p1)) + (5 : Int32))).bind fun v3 =>
(iw_wr m2 85 (((100 : Int32) + ((7 : Int32) * p1)) + (5 : Int32)) (v3 + (1 : Int32))).bind fun m4 =>
(iw_rd m4 85 (((100 : Int32) + ((7 : Int32) * p1)) + (6 : Int32))).bind fun v5 =>
(iw_wr m4 85 (((100 : Int32) + ((7 : Int32) * p1)) + (6 : Int32)) (v5 + v1)).bind fun m6 =>
some m6
def f_X6_sends_J108 (r5 : Int32 → Int32 → iw_M → Option (iw_M)) (v8 : Int32) (v16 : Int32) (m18 : iw_M) : Option (iw_M) :=
iw_let (v8 + (1 : Int32)) fun v19 =>
r5 v16 v19 m18
def f_X6_sends_B5 (n : Nat) (p1 : Int32) (p2 : Int32) (k5 : Int32 → iw_M → Option (iw_M)) (r5 : Int32 → Int32 → iw_M → Option (iw_M)) (v7 : Int32) (v8 : Int32) (m9 : iw_M) : Option (iw_M) :=
(f_X6_lengthOf p1 p2 m9).bind fun v10 =>
if v10 ≤ v8 then
(k5 v7 m9)
else
((f_X6_nodeOf p1 p2 (v8 - (1 : Int32)) m9).bind fun v12 =>
(f_X6_nodeOf p1 p2 v8 m9).bind fun v13 =>
(f_X6_linkOf n v12 v13 m9).bind fun v14 =>
(f_X6_ofLink v14 (2 : Int32) m9).bind fun v15 =>
iw_let (v7 + v15) fun v16 =>
(iw_rd m9 91 ((((100 : Int32) * p2) + ((10 : Int32) * v12)) + v13)).bind fun v17 =>
if v17 = (0 : Int32) then
((iw_wr m9 91 ((((100 : Int32) * p2) + ((10 : Int32) * v12)) + v13) ((1 : Int32) &&& 1)).bind fun m21 =>
(f_X6_spends v12 (2 : Int32) m21).bind fun m22 =>
(f_X6_spends v13 (1 : Int32) m22).bind fun m23 =>
f_X6_sends_J108 r5 v8 v16 m23)
else
(f_X6_sends_J108 r5 v8 v16 m9))
def f_X6_sends_L5 (n : Nat) (p1 : Int32) (p2 : Int32) (k5 : Int32 → iw_M → Option (iw_M)) (nn : Nat) : Int32 → Int32 → iw_M → Option (iw_M) :=
iw_it (fun r5 => f_X6_sends_B5 n p1 p2 k5 r5) (fun _ _ _ => none) nn
def f_X6_sends (n : Nat) (p1 : Int32) (p2 : Int32) (σ : iw_M) : Option (iw_M) :=
f_X6_sends_L5 n p1 p2 (f_X6_sends_X114_5 p1) n (0 : Int32) (1 : Int32) σ
def f_X6_matches (p1 : Int32) (p2 : Int32) (σ : iw_M) : Option (Int32) :=
(f_X6_ofInterest p1 (1 : Int32) σ).bind fun v1 =>
(f_X6_ofSensor p2 (1 : Int32) σ).bind fun v2 =>
if v1 = v2 then
((f_X6_ofSensor p2 (2 : Int32) σ).bind fun v4 =>
(f_X6_ofInterest p1 (2 : Int32) σ).bind fun v5 =>
(f_X6_ofInterest p1 (3 : Int32) σ).bind fun v6 =>
if (f_X6_in v4 v5 v6) = (0 : Int32) then
(some (0 : Int32))
else
(some (1 : Int32)))
else
(some (0 : Int32))
def f_X6_turns_J41 (p1 : Int32) (p2 : Int32) (m1 : iw_M) : Option (Int32 × iw_M) :=
(iw_wr m1 85 (f_X6_wayAt p1 p2) (0 : Int32)).bind fun m3 =>
some ((0 : Int32), m3)
def f_X6_turns_J86 (n : Nat) (p1 : Int32) (p2 : Int32) (m14 : iw_M) : Option (Int32 × iw_M) :=
(f_X6_lengthOf p1 p2 m14).bind fun v15 =>
if v15 = (0 : Int32) then
(some ((0 : Int32), m14))
else
((f_X6_sends n p1 p2 m14).bind fun m17 =>
some ((1 : Int32), m17))
def f_X6_turns_J80 (n : Nat) (p1 : Int32) (p2 : Int32) (m1 : iw_M) : Option (Int32 × iw_M) :=
(f_X6_explores n p1 p2 m1).bind fun m18 =>
f_X6_turns_J86 n p1 p2 m18
def f_X6_turns (n : Nat) (p1 : Int32) (p2 : Int32) (σ : iw_M) : Option (Int32 × iw_M) :=
(f_X6_looksAlive n σ).bind fun m1 =>
(f_X6_matches p1 p2 m1).bind fun v2 =>
if v2 = (0 : Int32) then
(f_X6_turns_J41 p1 p2 m1)
else
((f_X6_ofSensor p2 (0 : Int32) m1).bind fun v5 =>
(iw_rd m1 87 v5).bind fun v6 =>
if v6 = (0 : Int32) then
(f_X6_turns_J41 p1 p2 m1)
else
((f_X6_ofInterest p1 (0 : Int32) m1).bind fun v8 =>
(iw_rd m1 87 v8).bind fun v9 =>
if v9 = (0 : Int32) then
(f_X6_turns_J41 p1 p2 m1)
else
((iw_rd m1 85 (5 : Int32)).bind fun v11 =>
(iw_rd m1 85 (4 : Int32)).bind fun v12 =>
(iw_rem v11 v12).bind fun v13 =>
if v13 = (0 : Int32) then
(f_X6_turns_J80 n p1 p2 m1)
else
((f_X6_isWholeWay n p1 p2 m1).bind fun v20 =>
if v20 = (0 : Int32) then
(f_X6_turns_J80 n p1 p2 m1)
else
(f_X6_turns_J86 n p1 p2 m1)))))
def f_X6_goesOn_X127_76 (v5 : Int32) (m6 : iw_M) : Option (Int32 × iw_M) :=
(iw_rd m6 85 (5 : Int32)).bind fun v7 =>
(iw_wr m6 85 (5 : Int32) (v7 + (1 : Int32))).bind fun m8 =>
some (v5, m8)
def f_X6_goesOn_X121_88 (r76 : Int32 → Int32 → iw_M → Option (Int32 × iw_M)) (v10 : Int32) (v14 : Int32) (m15 : iw_M) : Option (Int32 × iw_M) :=
iw_let (v10 + (1 : Int32)) fun v16 =>
r76 v14 v16 m15
def f_X6_goesOn_J113 (r88 : Int32 → Int32 → iw_M → Option (Int32 × iw_M)) (v17 : Int32) (v18 : Int32) (m23 : iw_M) (v24 : Int32) : Option (Int32 × iw_M) :=
iw_let (v17 + v24) fun v25 =>
iw_let (v18 + (1 : Int32)) fun v26 =>
r88 v25 v26 m23
def f_X6_goesOn_B88 (n : Nat) (v10 : Int32) (k88 : Int32 → iw_M → Option (Int32 × iw_M)) (r88 : Int32 → Int32 → iw_M → Option (Int32 × iw_M)) (v17 : Int32) (v18 : Int32) (m19 : iw_M) : Option (Int32 × iw_M) :=
(iw_rd m19 85 (2 : Int32)).bind fun v20 =>
if v20 ≤ v18 then
(k88 v17 m19)
else
(iw_b2 (f_X6_turns n v10 v18 m19) fun v22 m23 =>
if v22 = (0 : Int32) then
(f_X6_goesOn_J113 r88 v17 v18 m23 (0 : Int32))
else
(f_X6_goesOn_J113 r88 v17 v18 m23 (1 : Int32)))
def f_X6_goesOn_L88 (n : Nat) (v10 : Int32) (k88 : Int32 → iw_M → Option (Int32 × iw_M)) (nn : Nat) : Int32 → Int32 → iw_M → Option (Int32 × iw_M) :=
iw_it (fun r88 => f_X6_goesOn_B88 n v10 k88 r88) (fun _ _ _ => none) nn
def f_X6_goesOn_B76 (n : Nat) (k76 : Int32 → iw_M → Option (Int32 × iw_M)) (r76 : Int32 → Int32 → iw_M → Option (Int32 × iw_M)) (v9 : Int32) (v10 : Int32) (m11 : iw_M) : Option (Int32 × iw_M) :=
(iw_rd m11 85 (3 : Int32)).bind fun v12 =>
if v12 ≤ v10 then
(k76 v9 m11)
else
(f_X6_goesOn_L88 n v10 (f_X6_goesOn_X121_88 r76 v10) n v9 (0 : Int32) m11)
def f_X6_goesOn_L76 (n : Nat) (k76 : Int32 → iw_M → Option (Int32 × iw_M)) (nn : Nat) : Int32 → Int32 → iw_M → Option (Int32 × iw_M) :=
iw_it (fun r76 => f_X6_goesOn_B76 n k76 r76) (fun _ _ _ => none) nn
def f_X6_goesOn_X72_52 (n : Nat) (m4 : iw_M) : Option (Int32 × iw_M) :=
f_X6_goesOn_L76 n (f_X6_goesOn_X127_76) n (0 : Int32) (0 : Int32) m4
def f_X6_goesOn_B52 (k52 : iw_M → Option (Int32 × iw_M)) (r52 : Int32 → iw_M → Option (Int32 × iw_M)) (v28 : Int32) (m29 : iw_M) : Option (Int32 × iw_M) :=
if (600 : Int32) ≤ v28 then
(k52 m29)
else
((iw_wr m29 91 v28 ((0 : Int32) &&& 1)).bind fun m31 =>
iw_let (v28 + (1 : Int32)) fun v32 =>
r52 v32 m31)
def f_X6_goesOn_L52 (k52 : iw_M → Option (Int32 × iw_M)) (nn : Nat) : Int32 → iw_M → Option (Int32 × iw_M) :=
iw_it (fun r52 => f_X6_goesOn_B52 k52 r52) (fun _ _ => none) nn
def f_X6_goesOn_X50_9 (n : Nat) (m3 : iw_M) : Option (Int32 × iw_M) :=
f_X6_goesOn_L52 (f_X6_goesOn_X72_52 n) n (0 : Int32) m3
def f_X6_goesOn_J44 (r9 : Int32 → iw_M → Option (Int32 × iw_M)) (v33 : Int32) (m38 : iw_M) : Option (Int32 × iw_M) :=
iw_let (v33 + (-1 : Int32)) fun v39 =>
r9 v39 m38
def f_X6_goesOn_B9 (n : Nat) (k9 : iw_M → Option (Int32 × iw_M)) (r9 : Int32 → iw_M → Option (Int32 × iw_M)) (v33 : Int32) (m34 : iw_M) : Option (Int32 × iw_M) :=
if v33 < (0 : Int32) then
(k9 m34)
else
((f_X6_ofInterest v33 (4 : Int32) m34).bind fun v36 =>
(iw_rd m34 85 (5 : Int32)).bind fun v37 =>
if v37 ≤ v36 then
(f_X6_goesOn_J44 r9 v33 m34)
else
((f_X6_removes n v33 m34).bind fun m41 =>
(iw_rd m41 85 (11 : Int32)).bind fun v42 =>
(iw_wr m41 85 (11 : Int32) (v42 + (1 : Int32))).bind fun m43 =>
f_X6_goesOn_J44 r9 v33 m43))
def f_X6_goesOn_L9 (n : Nat) (k9 : iw_M → Option (Int32 × iw_M)) (nn : Nat) : Int32 → iw_M → Option (Int32 × iw_M) :=
iw_it (fun r9 => f_X6_goesOn_B9 n k9 r9) (fun _ _ => none) nn
def f_X6_goesOn (n : Nat) (σ : iw_M) : Option (Int32 × iw_M) :=
(iw_rd σ 85 (3 : Int32)).bind fun v1 =>
iw_let (v1 - (1 : Int32)) fun v2 =>
f_X6_goesOn_L9 n (f_X6_goesOn_X50_9 n) n v2 σ
def f_X6_goesFor_X22_4 (v1 : Int32) (m2 : iw_M) : Option (Int32 × iw_M) :=
some (v1, m2)
def f_X6_goesFor_B4 (n : Nat) (p1 : Int32) (k4 : Int32 → iw_M → Option (Int32 × iw_M)) (r4 : Int32 → Int32 → iw_M → Option (Int32 × iw_M)) (v3 : Int32) (v4 : Int32) (m5 : iw_M) : Option (Int32 × iw_M) :=
if p1 ≤ v4 then
(k4 v3 m5)
else
(iw_b2 (f_X6_goesOn n m5) fun v7 m8 =>
iw_let (v3 + v7) fun v9 =>
iw_let (v4 + (1 : Int32)) fun v10 =>
r4 v9 v10 m8)
def f_X6_goesFor_L4 (n : Nat) (p1 : Int32) (k4 : Int32 → iw_M → Option (Int32 × iw_M)) (nn : Nat) : Int32 → Int32 → iw_M → Option (Int32 × iw_M) :=
iw_it (fun r4 => f_X6_goesFor_B4 n p1 k4 r4) (fun _ _ _ => none) nn
def f_X6_goesFor (n : Nat) (p1 : Int32) (σ : iw_M) : Option (Int32 × iw_M) :=
f_X6_goesFor_L4 n p1 (f_X6_goesFor_X22_4) n (0 : Int32) (0 : Int32) σ
def f_X6_rounds (n : Nat) (p1 : Int32) (σ : iw_M) : Option (Int32 × iw_M) :=
if (f_X6_in p1 (1 : Int32) (100 : Int32)) = (0 : Int32) then
(some ((-1002 : Int32), σ))
else
((iw_rd σ 85 (5 : Int32)).bind fun v2 =>
if (v2 + p1) ≤ (100000 : Int32) then
((f_X6_saves n σ).bind fun m4 =>
iw_b2 (f_X6_goesFor n p1 m4) fun v5 m6 =>
some (v5, m6))
else
(some ((-1004 : Int32), σ)))
def f_X6_wayLength (p1 : Int32) (p2 : Int32) (σ : iw_M) : Option (Int32) :=
(f_X6_isInterest p1 σ).bind fun v1 =>
if v1 = (0 : Int32) then
(some (-1001 : Int32))
else
((f_X6_isSensor p2 σ).bind fun v3 =>
if v3 = (0 : Int32) then
(some (-1001 : Int32))
else
((f_X6_lengthOf p1 p2 σ).bind fun v5 =>
some v5))
def f_X6_wayNode (p1 : Int32) (p2 : Int32) (p3 : Int32) (σ : iw_M) : Option (Int32) :=
(f_X6_isInterest p1 σ).bind fun v1 =>
if v1 = (0 : Int32) then
(some (-1001 : Int32))
else
((f_X6_isSensor p2 σ).bind fun v3 =>
if v3 = (0 : Int32) then
(some (-1001 : Int32))
else
(if (0 : Int32) ≤ p3 then
((f_X6_lengthOf p1 p2 σ).bind fun v6 =>
if v6 ≤ p3 then
(some (-1000 : Int32))
else
((f_X6_nodeOf p1 p2 p3 σ).bind fun v8 =>
some v8))
else
(some (-1002 : Int32))))
def f_X6_isWhole (n : Nat) (p1 : Int32) (p2 : Int32) (σ : iw_M) : Option (Int32) :=
(f_X6_isInterest p1 σ).bind fun v1 =>
if v1 = (0 : Int32) then
(some (-1001 : Int32))
else
((f_X6_isSensor p2 σ).bind fun v3 =>
if v3 = (0 : Int32) then
(some (-1001 : Int32))
else
((f_X6_isWholeWay n p1 p2 σ).bind fun v5 =>
if v5 = (0 : Int32) then
(some (0 : Int32))
else
(some (1 : Int32))))
def f_X6_quickest (n : Nat) (p1 : Int32) (p2 : Int32) (σ : iw_M) : Option (Int32 × iw_M) :=
(f_X6_isNode p1 σ).bind fun v1 =>
if v1 = (0 : Int32) then
(some ((-1001 : Int32), σ))
else
((f_X6_isNode p2 σ).bind fun v3 =>
if v3 = (0 : Int32) then
(some ((-1001 : Int32), σ))
else
((f_X6_looksAlive n σ).bind fun m5 =>
(f_X6_reaches n p1 m5).bind fun m6 =>
(iw_rd m6 86 p2).bind fun v7 =>
some (v7, m6)))
def f_X6_load_X109_16 (v3 : Int32) : Option (Int32) :=
some v3
def f_X6_load_X103_29 (r16 : Int32 → Int32 → Option (Int32)) (v5 : Int32) (v8 : Int32) : Option (Int32) :=
iw_let (v5 + (1 : Int32)) fun v9 =>
r16 v8 v9
def f_X6_load_X97_43 (r29 : Int32 → Int32 → Option (Int32)) (v11 : Int32) (v14 : Int32) : Option (Int32) :=
iw_let (v11 + (1 : Int32)) fun v15 =>
r29 v14 v15
def f_X6_load_J89 (r43 : Int32 → Int32 → Option (Int32)) (v16 : Int32) (v17 : Int32) (v23 : Int32) : Option (Int32) :=
iw_let (v16 + v23) fun v24 =>
iw_let (v17 + (1 : Int32)) fun v25 =>
r43 v24 v25
def f_X6_load_B43 (n : Nat) (p1 : Int32) (σ : iw_M) (v5 : Int32) (v11 : Int32) (k43 : Int32 → Option (Int32)) (r43 : Int32 → Int32 → Option (Int32)) (v16 : Int32) (v17 : Int32) : Option (Int32) :=
(f_X6_lengthOf v5 v11 σ).bind fun v18 =>
if v18 ≤ v17 then
(k43 v16)
else
((f_X6_nodeOf v5 v11 (v17 - (1 : Int32)) σ).bind fun v20 =>
(f_X6_nodeOf v5 v11 v17 σ).bind fun v21 =>
(f_X6_linkOf n v20 v21 σ).bind fun v22 =>
if v22 = p1 then
(f_X6_load_J89 r43 v16 v17 (1 : Int32))
else
(f_X6_load_J89 r43 v16 v17 (0 : Int32)))
def f_X6_load_L43 (n : Nat) (p1 : Int32) (σ : iw_M) (v5 : Int32) (v11 : Int32) (k43 : Int32 → Option (Int32)) (nn : Nat) : Int32 → Int32 → Option (Int32) :=
iw_it (fun r43 => f_X6_load_B43 n p1 σ v5 v11 k43 r43) (fun _ _ => none) nn
def f_X6_load_B29 (n : Nat) (p1 : Int32) (σ : iw_M) (v5 : Int32) (k29 : Int32 → Option (Int32)) (r29 : Int32 → Int32 → Option (Int32)) (v10 : Int32) (v11 : Int32) : Option (Int32) :=
(iw_rd σ 85 (2 : Int32)).bind fun v12 =>
if v12 ≤ v11 then
(k29 v10)
else
(f_X6_load_L43 n p1 σ v5 v11 (f_X6_load_X97_43 r29 v11) n v10 (1 : Int32))
def f_X6_load_L29 (n : Nat) (p1 : Int32) (σ : iw_M) (v5 : Int32) (k29 : Int32 → Option (Int32)) (nn : Nat) : Int32 → Int32 → Option (Int32) :=
iw_it (fun r29 => f_X6_load_B29 n p1 σ v5 k29 r29) (fun _ _ => none) nn
def f_X6_load_B16 (n : Nat) (p1 : Int32) (σ : iw_M) (k16 : Int32 → Option (Int32)) (r16 : Int32 → Int32 → Option (Int32)) (v4 : Int32) (v5 : Int32) : Option (Int32) :=
(iw_rd σ 85 (3 : Int32)).bind fun v6 =>
if v6 ≤ v5 then
(k16 v4)
else
(f_X6_load_L29 n p1 σ v5 (f_X6_load_X103_29 r16 v5) n v4 (0 : Int32))
def f_X6_load_L16 (n : Nat) (p1 : Int32) (σ : iw_M) (k16 : Int32 → Option (Int32)) (nn : Nat) : Int32 → Int32 → Option (Int32) :=
iw_it (fun r16 => f_X6_load_B16 n p1 σ k16 r16) (fun _ _ => none) nn
def f_X6_load (n : Nat) (p1 : Int32) (σ : iw_M) : Option (Int32) :=
(f_X6_isLink p1 σ).bind fun v1 =>
if v1 = (0 : Int32) then
(some (-1001 : Int32))
else
(f_X6_load_L16 n p1 σ (f_X6_load_X109_16) n (0 : Int32) (0 : Int32))
def f_X6_firstDeath_X60_18 (n : Nat) (v3 : Int32) (m4 : iw_M) : Option (Int32 × iw_M) :=
(f_X6_copies n (6 : Int32) (0 : Int32) m4).bind fun m5 =>
some (v3, m5)
def f_X6_firstDeath_J56 (r18 : Int32 → Int32 → iw_M → Option (Int32 × iw_M)) (m12 : iw_M) (v13 : Int32) (v15 : Int32) : Option (Int32 × iw_M) :=
r18 v13 v15 m12
def f_X6_firstDeath_B18 (n : Nat) (v2 : Int32) (k18 : Int32 → iw_M → Option (Int32 × iw_M)) (r18 : Int32 → Int32 → iw_M → Option (Int32 × iw_M)) (v6 : Int32) (v7 : Int32) (m8 : iw_M) : Option (Int32 × iw_M) :=
if (500 : Int32) ≤ v6 then
(k18 v7 m8)
else
(if v7 = (-1000 : Int32) then
(iw_b2 (f_X6_goesOn n m8) fun v11 m12 =>
iw_let (v6 + (1 : Int32)) fun v13 =>
(f_X6_living n m12).bind fun v14 =>
if v2 ≤ v14 then
(f_X6_firstDeath_J56 r18 m12 v13 (-1000 : Int32))
else
(f_X6_firstDeath_J56 r18 m12 v13 v13))
else
(k18 v7 m8))
def f_X6_firstDeath_L18 (n : Nat) (v2 : Int32) (k18 : Int32 → iw_M → Option (Int32 × iw_M)) (nn : Nat) : Int32 → Int32 → iw_M → Option (Int32 × iw_M) :=
iw_it (fun r18 => f_X6_firstDeath_B18 n v2 k18 r18) (fun _ _ _ => none) nn
def f_X6_firstDeath (n : Nat) (σ : iw_M) : Option (Int32 × iw_M) :=
(f_X6_copies n (0 : Int32) (6 : Int32) σ).bind fun m1 =>
(f_X6_living n m1).bind fun v2 =>
f_X6_firstDeath_L18 n v2 (f_X6_firstDeath_X60_18 n) n (0 : Int32) (-1000 : Int32) m1
def f_X6_willDeliver (n : Nat) (p1 : Int32) (σ : iw_M) : Option (Int32 × iw_M) :=
if (f_X6_in p1 (1 : Int32) (500 : Int32)) = (0 : Int32) then
(some ((-1002 : Int32), σ))
else
((f_X6_copies n (0 : Int32) (6 : Int32) σ).bind fun m2 =>
iw_b2 (f_X6_goesFor n p1 m2) fun v3 m4 =>
(f_X6_copies n (6 : Int32) (0 : Int32) m4).bind fun m5 =>
some (v3, m5))
def f_X6_bestPeriod_X92_31 (n : Nat) (v3 : Int32) (m4 : iw_M) : Option (Int32 × iw_M) :=
(f_X6_copies n (6 : Int32) (0 : Int32) m4).bind fun m5 =>
some (v3, m5)
def f_X6_bestPeriod_J85 (r31 : Int32 → Int32 → Int32 → iw_M → Option (Int32 × iw_M)) (v8 : Int32) (m14 : iw_M) (v15 : Int32) (v16 : Int32) : Option (Int32 × iw_M) :=
iw_let (v8 + (1 : Int32)) fun v17 =>
r31 v15 v16 v17 m14
def f_X6_bestPeriod_J72 (r31 : Int32 → Int32 → Int32 → iw_M → Option (Int32 × iw_M)) (v7 : Int32) (v8 : Int32) (v13 : Int32) (m14 : iw_M) (v15 : Int32) : Option (Int32 × iw_M) :=
if v13 ≤ v7 then
(f_X6_bestPeriod_J85 r31 v8 m14 v15 v7)
else
(f_X6_bestPeriod_J85 r31 v8 m14 v15 v13)
def f_X6_bestPeriod_B31 (n : Nat) (p1 : Int32) (k31 : Int32 → iw_M → Option (Int32 × iw_M)) (r31 : Int32 → Int32 → Int32 → iw_M → Option (Int32 × iw_M)) (v6 : Int32) (v7 : Int32) (v8 : Int32) (m9 : iw_M) : Option (Int32 × iw_M) :=
if (50 : Int32) < v8 then
(k31 v6 m9)
else
((f_X6_copies n (6 : Int32) (0 : Int32) m9).bind fun m11 =>
(iw_wr m11 85 (4 : Int32) v8).bind fun m12 =>
iw_b2 (f_X6_goesFor n p1 m12) fun v13 m14 =>
if v13 ≤ v7 then
(f_X6_bestPeriod_J72 r31 v7 v8 v13 m14 v6)
else
(f_X6_bestPeriod_J72 r31 v7 v8 v13 m14 v8))
def f_X6_bestPeriod_L31 (n : Nat) (p1 : Int32) (k31 : Int32 → iw_M → Option (Int32 × iw_M)) (nn : Nat) : Int32 → Int32 → Int32 → iw_M → Option (Int32 × iw_M) :=
iw_it (fun r31 => f_X6_bestPeriod_B31 n p1 k31 r31) (fun _ _ _ _ => none) nn
def f_X6_bestPeriod (n : Nat) (p1 : Int32) (σ : iw_M) : Option (Int32 × iw_M) :=
if (f_X6_in p1 (1 : Int32) (200 : Int32)) = (0 : Int32) then
(some ((-1002 : Int32), σ))
else
((f_X6_copies n (0 : Int32) (6 : Int32) σ).bind fun m2 =>
f_X6_bestPeriod_L31 n p1 (f_X6_bestPeriod_X92_31 n) n (1 : Int32) (-1000 : Int32) (1 : Int32) m2)
def f_X6_undo (n : Nat) (σ : iw_M) : Option (Int32 × iw_M) :=
if (σ 84 1) = (0 : Int32) then
(some ((-1003 : Int32), σ))
else
((f_X6_copies n (σ 84 1) (0 : Int32) σ).bind fun m2 =>
iw_let (iw_up m2 84 1 ((m2 84 1) - (1 : Int32))) fun m3 =>
some ((m3 84 1), m3))
def f_X6_type (p1 : Int32) (σ : iw_M) : Option (Int32 × iw_M) :=
if (f_X6_in p1 (0 : Int32) (255 : Int32)) = (0 : Int32) then
(some ((-1002 : Int32), σ))
else
(if (σ 84 11) = (120 : Int32) then
(some ((-1004 : Int32), σ))
else
((iw_wr σ 92 (σ 84 11) p1).bind fun m3 =>
iw_let (iw_up m3 84 11 ((m3 84 11) + (1 : Int32))) fun m4 =>
some ((m4 84 11), m4)))
def f_X6_clearText (σ : iw_M) : Int32 × iw_M :=
iw_let (σ 84 11) fun v1 =>
iw_let (iw_up σ 84 11 (0 : Int32)) fun m2 =>
(v1, m2)
def f_X6_here_X38_0 (m1 : iw_M) : Option (Int32 × iw_M) :=
if (m1 84 11) ≤ (m1 84 12) then
(some ((-1 : Int32), m1))
else
((iw_rd m1 92 (m1 84 12)).bind fun v3 =>
some (v3, m1))
def f_X6_here_B0 (k0 : iw_M → Option (Int32 × iw_M)) (r0 : iw_M → Option (Int32 × iw_M)) (m4 : iw_M) : Option (Int32 × iw_M) :=
if (m4 84 11) ≤ (m4 84 12) then
(k0 m4)
else
((iw_rd m4 92 (m4 84 12)).bind fun v6 =>
if v6 = (32 : Int32) then
(iw_let (iw_up m4 84 12 ((m4 84 12) + (1 : Int32))) fun m8 =>
r0 m8)
else
(k0 m4))
def f_X6_here_L0 (k0 : iw_M → Option (Int32 × iw_M)) (nn : Nat) : iw_M → Option (Int32 × iw_M) :=
iw_it (fun r0 => f_X6_here_B0 k0 r0) (fun _ => none) nn
def f_X6_here (n : Nat) (σ : iw_M) : Option (Int32 × iw_M) :=
f_X6_here_L0 (f_X6_here_X38_0) n σ
def f_X6_sign_J28 (m2 : iw_M) (v3 : Int32) (v4 : Int32) : Option (Int32 × iw_M) :=
iw_let (iw_up m2 84 12 ((m2 84 12) + v4)) fun m5 =>
some ((v3 &&& 1), m5)
def f_X6_sign_J13 (m2 : iw_M) (v3 : Int32) : Option (Int32 × iw_M) :=
if v3 = (0 : Int32) then
(f_X6_sign_J28 m2 v3 (0 : Int32))
else
(f_X6_sign_J28 m2 v3 (1 : Int32))
def f_X6_sign (n : Nat) (p1 : Int32) (σ : iw_M) : Option (Int32 × iw_M) :=
iw_b2 (f_X6_here n σ) fun v1 m2 =>
if v1 = p1 then
(f_X6_sign_J13 m2 (1 : Int32))
else
(f_X6_sign_J13 m2 (0 : Int32))
def f_X6_finds_J100 (p1 : Int32) (p2 : Int32) (m2 : iw_M) (v4 : Int32) (v6 : Int32) : Option (Int32 × iw_M) :=
iw_let (iw_up m2 84 13 v6) fun m7 =>
if v4 ≤ (m7 84 12) then
(some ((-1000 : Int32), m7))
else
(if (6 : Int32) ≤ (v4 - (m7 84 12)) then
(some ((-1000 : Int32), m7))
else
(if (f_X6_in (m7 84 13) p1 p2) = (0 : Int32) then
(some ((-1000 : Int32), m7))
else
(some (v4, m7))))
def f_X6_finds_X87_15 (p1 : Int32) (p2 : Int32) (p3 : Int32) (m2 : iw_M) (v4 : Int32) (v5 : Int32) : Option (Int32 × iw_M) :=
if p3 = (0 : Int32) then
(f_X6_finds_J100 p1 p2 m2 v4 v5)
else
(f_X6_finds_J100 p1 p2 m2 v4 (-v5))
def f_X6_finds_J79 (r15 : Int32 → Int32 → Option (Int32 × iw_M)) (v12 : Int32) (v18 : Int32) : Option (Int32 × iw_M) :=
iw_let (v12 + (1 : Int32)) fun v19 =>
r15 v19 v18
def f_X6_finds_B15 (v1 : Int32) (m2 : iw_M) (k15 : Int32 → Int32 → Option (Int32 × iw_M)) (r15 : Int32 → Int32 → Option (Int32 × iw_M)) (v12 : Int32) (v13 : Int32) : Option (Int32 × iw_M) :=
if v1 < (0 : Int32) then
(k15 v12 v13)
else
(if (m2 84 11) ≤ v12 then
(k15 v12 v13)
else
((iw_rd m2 92 v12).bind fun v16 =>
if (f_X6_in v16 (48 : Int32) (57 : Int32)) = (0 : Int32) then
(k15 v12 v13)
else
(if (6 : Int32) ≤ (v12 - (m2 84 12)) then
(f_X6_finds_J79 r15 v12 v13)
else
((iw_rd m2 92 v12).bind fun v21 =>
f_X6_finds_J79 r15 v12 ((((10 : Int32) * v13) + v21) - (48 : Int32))))))
def f_X6_finds_L15 (v1 : Int32) (m2 : iw_M) (k15 : Int32 → Int32 → Option (Int32 × iw_M)) (nn : Nat) : Int32 → Int32 → Option (Int32 × iw_M) :=
iw_it (fun r15 => f_X6_finds_B15 v1 m2 k15 r15) (fun _ _ => none) nn
def f_X6_finds (n : Nat) (p1 : Int32) (p2 : Int32) (p3 : Int32) (σ : iw_M) : Option (Int32 × iw_M) :=
iw_b2 (f_X6_here n σ) fun v1 m2 =>
iw_let (m2 84 12) fun v3 =>
f_X6_finds_L15 v1 m2 (f_X6_finds_X87_15 p1 p2 p3 m2) n v3 (0 : Int32)
def f_X6_reads_J24 (v1 : Int32) (m2 : iw_M) (v3 : Int32) : Option (Int32 × iw_M) :=
iw_let (iw_up m2 84 12 v3) fun m4 =>
if v1 = (-1000 : Int32) then
(some ((0 : Int32), m4))
else
(some ((1 : Int32), m4))
def f_X6_reads (n : Nat) (p1 : Int32) (p2 : Int32) (σ : iw_M) : Option (Int32 × iw_M) :=
iw_b2 (f_X6_finds n p1 p2 (0 : Int32) σ) fun v1 m2 =>
if v1 = (-1000 : Int32) then
(f_X6_reads_J24 v1 m2 (m2 84 12))
else
(f_X6_reads_J24 v1 m2 v1)
def f_X6_readsNode (n : Nat) (σ : iw_M) : Option (Int32 × iw_M) :=
(iw_rd σ 85 (0 : Int32)).bind fun v1 =>
if v1 = (10 : Int32) then
(some ((0 : Int32), σ))
else
(iw_let (iw_up σ 84 12 ((σ 84 12) + (1 : Int32))) fun m3 =>
iw_b2 (f_X6_reads n (1 : Int32) (10000 : Int32) m3) fun v4 m5 =>
if v4 = (0 : Int32) then
(some ((0 : Int32), m5))
else
((f_X6_laysNode (m5 84 13) m5).bind fun m7 =>
some ((1 : Int32), m7)))
def f_X6_readsLink (n : Nat) (σ : iw_M) : Option (Int32 × iw_M) :=
(iw_rd σ 85 (1 : Int32)).bind fun v1 =>
if v1 = (20 : Int32) then
(some ((0 : Int32), σ))
else
((iw_rd σ 85 (0 : Int32)).bind fun v3 =>
iw_b2 (f_X6_reads n (0 : Int32) (v3 - (1 : Int32)) σ) fun v4 m5 =>
if v4 = (0 : Int32) then
(some ((0 : Int32), m5))
else
(iw_let (m5 84 13) fun v7 =>
iw_b2 (f_X6_sign n (45 : Int32) m5) fun v8 m9 =>
if v8 = (0 : Int32) then
(some ((0 : Int32), m9))
else
((iw_rd m9 85 (0 : Int32)).bind fun v11 =>
iw_b2 (f_X6_finds n (0 : Int32) (v11 - (1 : Int32)) (0 : Int32) m9) fun v12 m13 =>
if v12 = (-1000 : Int32) then
(some ((0 : Int32), m13))
else
(if (m13 84 13) = v7 then
(some ((0 : Int32), m13))
else
((f_X6_linkOf n v7 (m13 84 13) m13).bind fun v16 =>
if v16 = (-1000 : Int32) then
(iw_let (m13 84 13) fun v18 =>
iw_let (iw_up m13 84 12 v12) fun m19 =>
iw_b2 (f_X6_sign n (58 : Int32) m19) fun v20 m21 =>
if v20 = (0 : Int32) then
(some ((0 : Int32), m21))
else
(iw_b2 (f_X6_reads n (1 : Int32) (20 : Int32) m21) fun v23 m24 =>
if v23 = (0 : Int32) then
(some ((0 : Int32), m24))
else
((f_X6_laysLink v7 v18 (m24 84 13) m24).bind fun m26 =>
some ((1 : Int32), m26))))
else
(some ((0 : Int32), m13)))))))
def f_X6_readsSensor_J140 (v21 : Int32) (m25 : iw_M) : Option (Int32 × iw_M) :=
if v21 = (-1000 : Int32) then
(some ((0 : Int32), m25))
else
(some ((1 : Int32), m25))
def f_X6_readsSensor_J119 (n : Nat) (v8 : Int32) (v15 : Int32) (v21 : Int32) (m22 : iw_M) (v23 : Int32) : Option (Int32 × iw_M) :=
iw_let (iw_up m22 84 12 v23) fun m24 =>
if v21 = (-1000 : Int32) then
(f_X6_readsSensor_J140 v21 m24)
else
((f_X6_laysSensor n v8 v15 (m24 84 13) m24).bind fun m28 =>
f_X6_readsSensor_J140 v21 m28)
def f_X6_readsSensor (n : Nat) (σ : iw_M) : Option (Int32 × iw_M) :=
(iw_rd σ 85 (2 : Int32)).bind fun v1 =>
if v1 = (6 : Int32) then
(some ((0 : Int32), σ))
else
(iw_let (iw_up σ 84 12 ((σ 84 12) + (1 : Int32))) fun m3 =>
(iw_rd m3 85 (0 : Int32)).bind fun v4 =>
iw_b2 (f_X6_reads n (0 : Int32) (v4 - (1 : Int32)) m3) fun v5 m6 =>
if v5 = (0 : Int32) then
(some ((0 : Int32), m6))
else
(iw_let (m6 84 13) fun v8 =>
iw_b2 (f_X6_sign n (44 : Int32) m6) fun v9 m10 =>
if v9 = (0 : Int32) then
(some ((0 : Int32), m10))
else
(iw_b2 (f_X6_reads n (0 : Int32) (7 : Int32) m10) fun v12 m13 =>
if v12 = (0 : Int32) then
(some ((0 : Int32), m13))
else
(iw_let (m13 84 13) fun v15 =>
iw_b2 (f_X6_sign n (61 : Int32) m13) fun v16 m17 =>
if v16 = (0 : Int32) then
(some ((0 : Int32), m17))
else
(iw_b2 (f_X6_sign n (45 : Int32) m17) fun v19 m20 =>
iw_b2 (f_X6_finds n (-100 : Int32) (100 : Int32) v19 m20) fun v21 m22 =>
if v21 = (-1000 : Int32) then
(f_X6_readsSensor_J119 n v8 v15 v21 m22 (m22 84 12))
else
(f_X6_readsSensor_J119 n v8 v15 v21 m22 v21))))))
def f_X6_readsItem (n : Nat) (σ : iw_M) : Option (Int32 × iw_M) :=
iw_b2 (f_X6_here n σ) fun v1 m2 =>
iw_let (iw_up m2 84 14 ((m2 84 14) + (1 : Int32))) fun m3 =>
if v1 = (110 : Int32) then
(iw_b2 (f_X6_readsNode n m3) fun v10 m11 =>
some ((v10 &&& 1), m11))
else
(if v1 = (115 : Int32) then
(iw_b2 (f_X6_readsSensor n m3) fun v8 m9 =>
some ((v8 &&& 1), m9))
else
(iw_b2 (f_X6_readsLink n m3) fun v6 m7 =>
some ((v6 &&& 1), m7)))
def f_X6_readsText_X59_20 (v7 : Int32) (m8 : iw_M) : Option (Int32 × iw_M) :=
some ((v7 &&& 1), m8)
def f_X6_readsText_J50 (n : Nat) (r20 : Int32 → Int32 → iw_M → Option (Int32 × iw_M)) (v16 : Int32) (m17 : iw_M) : Option (Int32 × iw_M) :=
iw_b2 (f_X6_here n m17) fun v18 m19 =>
r20 v16 v18 m19
def f_X6_readsText_J49 (n : Nat) (r20 : Int32 → Int32 → iw_M → Option (Int32 × iw_M)) (m20 : iw_M) : Option (Int32 × iw_M) :=
f_X6_readsText_J50 n r20 (0 : Int32) m20
def f_X6_readsText_B20 (n : Nat) (k20 : Int32 → iw_M → Option (Int32 × iw_M)) (r20 : Int32 → Int32 → iw_M → Option (Int32 × iw_M)) (v9 : Int32) (v10 : Int32) (m11 : iw_M) : Option (Int32 × iw_M) :=
if v9 = (0 : Int32) then
(k20 v9 m11)
else
(if v10 = (-1 : Int32) then
(k20 v9 m11)
else
(iw_b2 (f_X6_sign n (59 : Int32) m11) fun v14 m15 =>
if v14 = (0 : Int32) then
(f_X6_readsText_J49 n r20 m15)
else
(iw_b2 (f_X6_readsItem n m15) fun v22 m23 =>
if v22 = (0 : Int32) then
(f_X6_readsText_J49 n r20 m23)
else
(f_X6_readsText_J50 n r20 (1 : Int32) m23))))
def f_X6_readsText_L20 (n : Nat) (k20 : Int32 → iw_M → Option (Int32 × iw_M)) (nn : Nat) : Int32 → Int32 → iw_M → Option (Int32 × iw_M) :=
iw_it (fun r20 => f_X6_readsText_B20 n k20 r20) (fun _ _ _ => none) nn
def f_X6_readsText (n : Nat) (σ : iw_M) : Option (Int32 × iw_M) :=
iw_let (iw_up σ 84 12 (0 : Int32)) fun m1 =>
iw_let (iw_up m1 84 14 (0 : Int32)) fun m2 =>
iw_b2 (f_X6_readsItem n m2) fun v3 m4 =>
iw_b2 (f_X6_here n m4) fun v5 m6 =>
f_X6_readsText_L20 n (f_X6_readsText_X59_20) n v3 v5 m6
def f_X6_textFault (n : Nat) (σ : iw_M) : Option (Int32 × iw_M) :=
(f_X6_copies n (0 : Int32) (6 : Int32) σ).bind fun m1 =>
iw_b2 (f_X6_readsText n m1) fun v2 m3 =>
(f_X6_copies n (6 : Int32) (0 : Int32) m3).bind fun m4 =>
if v2 = (0 : Int32) then
(some ((m4 84 12), m4))
else
(some ((-1000 : Int32), m4))
def f_X6_build (n : Nat) (σ : iw_M) : Option (Int32 × iw_M) :=
iw_b2 (f_X6_textFault n σ) fun v1 m2 =>
if v1 = (-1000 : Int32) then
((f_X6_saves n m2).bind fun m4 =>
iw_b2 (f_X6_readsText n m4) fun v5 m6 =>
some ((m6 84 14), m6))
else
(some ((-1003 : Int32), m2))
def f_X6_note (p1 : Int32) (σ : iw_M) : iw_M :=
iw_let (iw_puth σ (((31 : Int64) * (iw_geth σ)) + (Int32.toInt64 p1))) fun m1 =>
m1
def f_X6_digest_X240_143 (m6 : iw_M) : Option (Int64 × iw_M) :=
some ((iw_geth m6), m6)
def f_X6_digest_X234_179 (r143 : Int32 → iw_M → Option (Int64 × iw_M)) (v7 : Int32) (m12 : iw_M) : Option (Int64 × iw_M) :=
iw_let (v7 + (1 : Int32)) fun v13 =>
r143 v13 m12
def f_X6_digest_X228_201 (r179 : Int32 → iw_M → Option (Int64 × iw_M)) (v14 : Int32) (m20 : iw_M) : Option (Int64 × iw_M) :=
iw_let (v14 + (1 : Int32)) fun v21 =>
r179 v21 m20
def f_X6_digest_B201 (v7 : Int32) (v14 : Int32) (k201 : iw_M → Option (Int64 × iw_M)) (r201 : Int32 → iw_M → Option (Int64 × iw_M)) (v22 : Int32) (m23 : iw_M) : Option (Int64 × iw_M) :=
(f_X6_lengthOf v7 v14 m23).bind fun v24 =>
if v24 ≤ v22 then
(k201 m23)
else
((f_X6_nodeOf v7 v14 v22 m23).bind fun v26 =>
iw_let (f_X6_note v26 m23) fun m27 =>
iw_let (v22 + (1 : Int32)) fun v28 =>
r201 v28 m27)
def f_X6_digest_L201 (v7 : Int32) (v14 : Int32) (k201 : iw_M → Option (Int64 × iw_M)) (nn : Nat) : Int32 → iw_M → Option (Int64 × iw_M) :=
iw_it (fun r201 => f_X6_digest_B201 v7 v14 k201 r201) (fun _ _ => none) nn
def f_X6_digest_B179 (n : Nat) (v7 : Int32) (k179 : iw_M → Option (Int64 × iw_M)) (r179 : Int32 → iw_M → Option (Int64 × iw_M)) (v14 : Int32) (m15 : iw_M) : Option (Int64 × iw_M) :=
(iw_rd m15 85 (2 : Int32)).bind fun v16 =>
if v16 ≤ v14 then
(k179 m15)
else
((f_X6_lengthOf v7 v14 m15).bind fun v18 =>
iw_let (f_X6_note v18 m15) fun m19 =>
f_X6_digest_L201 v7 v14 (f_X6_digest_X228_201 r179 v14) n (0 : Int32) m19)
def f_X6_digest_L179 (n : Nat) (v7 : Int32) (k179 : iw_M → Option (Int64 × iw_M)) (nn : Nat) : Int32 → iw_M → Option (Int64 × iw_M) :=
iw_it (fun r179 => f_X6_digest_B179 n v7 k179 r179) (fun _ _ => none) nn
def f_X6_digest_X177_155 (n : Nat) (r143 : Int32 → iw_M → Option (Int64 × iw_M)) (v7 : Int32) (m11 : iw_M) : Option (Int64 × iw_M) :=
f_X6_digest_L179 n v7 (f_X6_digest_X234_179 r143 v7) n (0 : Int32) m11
def f_X6_digest_B155 (n : Nat) (v7 : Int32) (k155 : iw_M → Option (Int64 × iw_M)) (r155 : Int32 → iw_M → Option (Int64 × iw_M)) (v29 : Int32) (m30 : iw_M) : Option (Int64 × iw_M) :=
if (8 : Int32) ≤ v29 then
(k155 m30)
else
((f_X6_part n v7 v29 m30).bind fun v32 =>
iw_let (f_X6_note v32 m30) fun m33 =>
iw_let (v29 + (1 : Int32)) fun v34 =>
r155 v34 m33)
def f_X6_digest_L155 (n : Nat) (v7 : Int32) (k155 : iw_M → Option (Int64 × iw_M)) (nn : Nat) : Int32 → iw_M → Option (Int64 × iw_M) :=
iw_it (fun r155 => f_X6_digest_B155 n v7 k155 r155) (fun _ _ => none) nn
def f_X6_digest_B143 (n : Nat) (k143 : iw_M → Option (Int64 × iw_M)) (r143 : Int32 → iw_M → Option (Int64 × iw_M)) (v7 : Int32) (m8 : iw_M) : Option (Int64 × iw_M) :=
(iw_rd m8 85 (3 : Int32)).bind fun v9 =>
if v9 ≤ v7 then
(k143 m8)
else
(f_X6_digest_L155 n v7 (f_X6_digest_X177_155 n r143 v7) n (0 : Int32) m8)
def f_X6_digest_L143 (n : Nat) (k143 : iw_M → Option (Int64 × iw_M)) (nn : Nat) : Int32 → iw_M → Option (Int64 × iw_M) :=
iw_it (fun r143 => f_X6_digest_B143 n k143 r143) (fun _ _ => none) nn
def f_X6_digest_X141_110 (n : Nat) (m5 : iw_M) : Option (Int64 × iw_M) :=
f_X6_digest_L143 n (f_X6_digest_X240_143) n (0 : Int32) m5
def f_X6_digest_B110 (k110 : iw_M → Option (Int64 × iw_M)) (r110 : Int32 → iw_M → Option (Int64 × iw_M)) (v35 : Int32) (m36 : iw_M) : Option (Int64 × iw_M) :=
(iw_rd m36 85 (2 : Int32)).bind fun v37 =>
if ((3 : Int32) * v37) ≤ v35 then
(k110 m36)
else
((iw_rd m36 85 ((82 : Int32) + v35)).bind fun v39 =>
iw_let (f_X6_note v39 m36) fun m40 =>
iw_let (v35 + (1 : Int32)) fun v41 =>
r110 v41 m40)
def f_X6_digest_L110 (k110 : iw_M → Option (Int64 × iw_M)) (nn : Nat) : Int32 → iw_M → Option (Int64 × iw_M) :=
iw_it (fun r110 => f_X6_digest_B110 k110 r110) (fun _ _ => none) nn
def f_X6_digest_X108_77 (n : Nat) (m4 : iw_M) : Option (Int64 × iw_M) :=
f_X6_digest_L110 (f_X6_digest_X141_110 n) n (0 : Int32) m4
def f_X6_digest_B77 (k77 : iw_M → Option (Int64 × iw_M)) (r77 : Int32 → iw_M → Option (Int64 × iw_M)) (v42 : Int32) (m43 : iw_M) : Option (Int64 × iw_M) :=
(iw_rd m43 85 (1 : Int32)).bind fun v44 =>
if ((3 : Int32) * v44) ≤ v42 then
(k77 m43)
else
((iw_rd m43 85 ((22 : Int32) + v42)).bind fun v46 =>
iw_let (f_X6_note v46 m43) fun m47 =>
iw_let (v42 + (1 : Int32)) fun v48 =>
r77 v48 m47)
def f_X6_digest_L77 (k77 : iw_M → Option (Int64 × iw_M)) (nn : Nat) : Int32 → iw_M → Option (Int64 × iw_M) :=
iw_it (fun r77 => f_X6_digest_B77 k77 r77) (fun _ _ => none) nn
def f_X6_digest_X75_46 (n : Nat) (m3 : iw_M) : Option (Int64 × iw_M) :=
f_X6_digest_L77 (f_X6_digest_X108_77 n) n (0 : Int32) m3
def f_X6_digest_B46 (k46 : iw_M → Option (Int64 × iw_M)) (r46 : Int32 → iw_M → Option (Int64 × iw_M)) (v49 : Int32) (m50 : iw_M) : Option (Int64 × iw_M) :=
(iw_rd m50 85 (0 : Int32)).bind fun v51 =>
if v51 ≤ v49 then
(k46 m50)
else
((iw_rd m50 85 ((12 : Int32) + v49)).bind fun v53 =>
iw_let (f_X6_note v53 m50) fun m54 =>
iw_let (v49 + (1 : Int32)) fun v55 =>
r46 v55 m54)
def f_X6_digest_L46 (k46 : iw_M → Option (Int64 × iw_M)) (nn : Nat) : Int32 → iw_M → Option (Int64 × iw_M) :=
iw_it (fun r46 => f_X6_digest_B46 k46 r46) (fun _ _ => none) nn
def f_X6_digest_X44_9 (n : Nat) (m2 : iw_M) : Option (Int64 × iw_M) :=
f_X6_digest_L46 (f_X6_digest_X75_46 n) n (0 : Int32) m2
def f_X6_digest_J35 (r9 : Int32 → iw_M → Option (Int64 × iw_M)) (v56 : Int32) (m57 : iw_M) (v59 : Int32) : Option (Int64 × iw_M) :=
iw_let (f_X6_note v59 m57) fun m60 =>
iw_let (v56 + (1 : Int32)) fun v61 =>
r9 v61 m60
def f_X6_digest_B9 (n : Nat) (k9 : iw_M → Option (Int64 × iw_M)) (r9 : Int32 → iw_M → Option (Int64 × iw_M)) (v56 : Int32) (m57 : iw_M) : Option (Int64 × iw_M) :=
if (12 : Int32) ≤ v56 then
(k9 m57)
else
(if v56 = (6 : Int32) then
((f_X6_living n m57).bind fun v64 =>
f_X6_digest_J35 r9 v56 m57 v64)
else
((iw_rd m57 85 v56).bind fun v63 =>
f_X6_digest_J35 r9 v56 m57 v63))
def f_X6_digest_L9 (n : Nat) (k9 : iw_M → Option (Int64 × iw_M)) (nn : Nat) : Int32 → iw_M → Option (Int64 × iw_M) :=
iw_it (fun r9 => f_X6_digest_B9 n k9 r9) (fun _ _ => none) nn
def f_X6_digest (n : Nat) (σ : iw_M) : Option (Int64 × iw_M) :=
iw_let (iw_puth σ (17 : Int64)) fun m1 =>
f_X6_digest_L9 n (f_X6_digest_X44_9 n) n (0 : Int32) m1
def sim_addNode (n : Nat) (RR : iw_M → iw_M → Prop) : Prop := ∀ (p1 : Int32) (σx σm : iw_M), RR σx σm → ∃ (r : Int32) (σx' σm' : iw_M), (f_X5_addNode n p1 σx = some (r, σx')) ∧ (f_X6_addNode n p1 σm = some (r, σm')) ∧ RR σx' σm'
def sim_charge (n : Nat) (RR : iw_M → iw_M → Prop) : Prop := ∀ (p1 : Int32) (p2 : Int32) (σx σm : iw_M), RR σx σm → ∃ (r : Int32) (σx' σm' : iw_M), (f_X5_charge p1 p2 σx = (r, σx')) ∧ (f_X6_charge n p1 p2 σm = some (r, σm')) ∧ RR σx' σm'
def sim_link (n : Nat) (RR : iw_M → iw_M → Prop) : Prop := ∀ (p1 : Int32) (p2 : Int32) (p3 : Int32) (σx σm : iw_M), RR σx σm → ∃ (r : Int32) (σx' σm' : iw_M), (f_X5_link n p1 p2 p3 σx = some (r, σx')) ∧ (f_X6_link n p1 p2 p3 σm = some (r, σm')) ∧ RR σx' σm'
def sim_cut (n : Nat) (RR : iw_M → iw_M → Prop) : Prop := ∀ (p1 : Int32) (σx σm : iw_M), RR σx σm → ∃ (r : Int32) (σx' σm' : iw_M), (f_X5_cut n p1 σx = some (r, σx')) ∧ (f_X6_cut n p1 σm = some (r, σm')) ∧ RR σx' σm'
def sim_addSensor (n : Nat) (RR : iw_M → iw_M → Prop) : Prop := ∀ (p1 : Int32) (p2 : Int32) (p3 : Int32) (σx σm : iw_M), RR σx σm → ∃ (r : Int32) (σx' σm' : iw_M), (f_X5_addSensor n p1 p2 p3 σx = some (r, σx')) ∧ (f_X6_addSensor n p1 p2 p3 σm = some (r, σm')) ∧ RR σx' σm'
def sim_measure (n : Nat) (RR : iw_M → iw_M → Prop) : Prop := ∀ (p1 : Int32) (p2 : Int32) (σx σm : iw_M), RR σx σm → ∃ (r : Int32) (σx' σm' : iw_M), (f_X5_measure p1 p2 σx = (r, σx')) ∧ (f_X6_measure n p1 p2 σm = some (r, σm')) ∧ RR σx' σm'
def sim_ask (n : Nat) (RR : iw_M → iw_M → Prop) : Prop := ∀ (p1 : Int32) (p2 : Int32) (p3 : Int32) (p4 : Int32) (p5 : Int32) (σx σm : iw_M), RR σx σm → ∃ (r : Int32) (σx' σm' : iw_M), (f_X5_ask n p1 p2 p3 p4 p5 σx = some (r, σx')) ∧ (f_X6_ask n p1 p2 p3 p4 p5 σm = some (r, σm')) ∧ RR σx' σm'
def sim_withdraw (n : Nat) (RR : iw_M → iw_M → Prop) : Prop := ∀ (p1 : Int32) (σx σm : iw_M), RR σx σm → ∃ (r : Int32) (σx' σm' : iw_M), (f_X5_withdraw n p1 σx = some (r, σx')) ∧ (f_X6_withdraw n p1 σm = some (r, σm')) ∧ RR σx' σm'
def sim_setPeriod (n : Nat) (RR : iw_M → iw_M → Prop) : Prop := ∀ (p1 : Int32) (σx σm : iw_M), RR σx σm → ∃ (r : Int32) (σx' σm' : iw_M), (f_X5_setPeriod n p1 σx = some (r, σx')) ∧ (f_X6_setPeriod n p1 σm = some (r, σm')) ∧ RR σx' σm'
def sim_count (n : Nat) (RR : iw_M → iw_M → Prop) : Prop := ∀ (p1 : Int32) (σx σm : iw_M), RR σx σm → ∃ (r : Int32) (σx' σm' : iw_M), (f_X5_count n p1 σx = some r ∧ σx' = σx) ∧ (f_X6_count n p1 σm = some r ∧ σm' = σm) ∧ RR σx' σm'
def sim_energy (n : Nat) (RR : iw_M → iw_M → Prop) : Prop := ∀ (p1 : Int32) (σx σm : iw_M), RR σx σm → ∃ (r : Int32) (σx' σm' : iw_M), (f_X5_energy p1 σx = r ∧ σx' = σx) ∧ (f_X6_energy p1 σm = some r ∧ σm' = σm) ∧ RR σx' σm'
def sim_linkPart (n : Nat) (RR : iw_M → iw_M → Prop) : Prop := ∀ (p1 : Int32) (p2 : Int32) (σx σm : iw_M), RR σx σm → ∃ (r : Int32) (σx' σm' : iw_M), (f_X5_linkPart p1 p2 σx = r ∧ σx' = σx) ∧ (f_X6_linkPart p1 p2 σm = some r ∧ σm' = σm) ∧ RR σx' σm'
def sim_sensor (n : Nat) (RR : iw_M → iw_M → Prop) : Prop := ∀ (p1 : Int32) (p2 : Int32) (σx σm : iw_M), RR σx σm → ∃ (r : Int32) (σx' σm' : iw_M), (f_X5_sensor p1 p2 σx = r ∧ σx' = σx) ∧ (f_X6_sensor p1 p2 σm = some r ∧ σm' = σm) ∧ RR σx' σm'
def sim_interest (n : Nat) (RR : iw_M → iw_M → Prop) : Prop := ∀ (p1 : Int32) (p2 : Int32) (σx σm : iw_M), RR σx σm → ∃ (r : Int32) (σx' σm' : iw_M), (f_X5_interest n p1 p2 σx = some r ∧ σx' = σx) ∧ (f_X6_interest n p1 p2 σm = some r ∧ σm' = σm) ∧ RR σx' σm'
def sim_rounds (n : Nat) (RR : iw_M → iw_M → Prop) : Prop := ∀ (p1 : Int32) (σx σm : iw_M), RR σx σm → ∃ (r : Int32) (σx' σm' : iw_M), (f_X5_rounds n p1 σx = some (r, σx')) ∧ (f_X6_rounds n p1 σm = some (r, σm')) ∧ RR σx' σm'
def sim_wayLength (n : Nat) (RR : iw_M → iw_M → Prop) : Prop := ∀ (p1 : Int32) (p2 : Int32) (σx σm : iw_M), RR σx σm → ∃ (r : Int32) (σx' σm' : iw_M), (f_X5_wayLength p1 p2 σx = r ∧ σx' = σx) ∧ (f_X6_wayLength p1 p2 σm = some r ∧ σm' = σm) ∧ RR σx' σm'
def sim_wayNode (n : Nat) (RR : iw_M → iw_M → Prop) : Prop := ∀ (p1 : Int32) (p2 : Int32) (p3 : Int32) (σx σm : iw_M), RR σx σm → ∃ (r : Int32) (σx' σm' : iw_M), (f_X5_wayNode p1 p2 p3 σx = r ∧ σx' = σx) ∧ (f_X6_wayNode p1 p2 p3 σm = some r ∧ σm' = σm) ∧ RR σx' σm'
def sim_isWhole (n : Nat) (RR : iw_M → iw_M → Prop) : Prop := ∀ (p1 : Int32) (p2 : Int32) (σx σm : iw_M), RR σx σm → ∃ (r : Int32) (σx' σm' : iw_M), (f_X5_isWhole n p1 p2 σx = some (r, σx')) ∧ (f_X6_isWhole n p1 p2 σm = some r ∧ σm' = σm) ∧ RR σx' σm'
def sim_quickest (n : Nat) (RR : iw_M → iw_M → Prop) : Prop := ∀ (p1 : Int32) (p2 : Int32) (σx σm : iw_M), RR σx σm → ∃ (r : Int32) (σx' σm' : iw_M), (f_X5_quickest n p1 p2 σx = some (r, σx')) ∧ (f_X6_quickest n p1 p2 σm = some (r, σm')) ∧ RR σx' σm'
def sim_load (n : Nat) (RR : iw_M → iw_M → Prop) : Prop := ∀ (p1 : Int32) (σx σm : iw_M), RR σx σm → ∃ (r : Int32) (σx' σm' : iw_M), (f_X5_load n p1 σx = some r ∧ σx' = σx) ∧ (f_X6_load n p1 σm = some r ∧ σm' = σm) ∧ RR σx' σm'
def sim_firstDeath (n : Nat) (RR : iw_M → iw_M → Prop) : Prop := ∀ (σx σm : iw_M), RR σx σm → ∃ (r : Int32) (σx' σm' : iw_M), (f_X5_firstDeath n σx = some (r, σx')) ∧ (f_X6_firstDeath n σm = some (r, σm')) ∧ RR σx' σm'
def sim_willDeliver (n : Nat) (RR : iw_M → iw_M → Prop) : Prop := ∀ (p1 : Int32) (σx σm : iw_M), RR σx σm → ∃ (r : Int32) (σx' σm' : iw_M), (f_X5_willDeliver n p1 σx = some (r, σx')) ∧ (f_X6_willDeliver n p1 σm = some (r, σm')) ∧ RR σx' σm'
def sim_bestPeriod (n : Nat) (RR : iw_M → iw_M → Prop) : Prop := ∀ (p1 : Int32) (σx σm : iw_M), RR σx σm → ∃ (r : Int32) (σx' σm' : iw_M), (f_X5_bestPeriod n p1 σx = some (r, σx')) ∧ (f_X6_bestPeriod n p1 σm = some (r, σm')) ∧ RR σx' σm'
def sim_undo (n : Nat) (RR : iw_M → iw_M → Prop) : Prop := ∀ (σx σm : iw_M), RR σx σm → ∃ (r : Int32) (σx' σm' : iw_M), (f_X5_undo σx = (r, σx')) ∧ (f_X6_undo n σm = some (r, σm')) ∧ RR σx' σm'
def sim_digest (n : Nat) (RR : iw_M → iw_M → Prop) : Prop := ∀ (σx σm : iw_M), RR σx σm → ∃ (r : Int64) (σx' σm' : iw_M), (f_X5_digest n σx = some r ∧ σx' = σx) ∧ (f_X6_digest n σm = some (r, σm')) ∧ RR σx' σm'
def is_m0 : iw_M := fun a => if a = 85 then upd (fun _ => 0) 4 10 else fun _ => 0
