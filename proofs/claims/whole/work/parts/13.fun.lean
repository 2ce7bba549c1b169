def f_X8_has (u : xS) (v1 : Int32) : Int32 :=
  if v1 < 0 then ((0 : Int32)) else (if (rd u 1 2) ≤ v1 then ((0 : Int32)) else ((1 : Int32)))
def f_X8_priceIn_67 (k8 : Int32 → Int32 → Int32 → Int32 → Int32 → Option Int32) (u : xS) (v1 : Int32) (v2 : Int32) (v3 : Int32) (v4 : Int32) (v5 : Int32) : Option Int32 :=
  (k8 v1 v2 v3 v4 (v5 + (1 : Int32)))
def f_X8_priceIn_8 (u : xS) : Nat → Int32 → Int32 → Int32 → Int32 → Int32 → Option Int32
  | 0, _, _, _, _, _ => none
  | n + 1, v1, v2, v3, v4, v5 => if (rd u 1 6) ≤ v5 then (some v4) else (gd (xin v5 60) (if (rd u 10 v5.toNatClampNeg) = v1 then (if v2 < (rd u 11 v5.toNatClampNeg) then ((f_X8_priceIn_67 (f_X8_priceIn_8 u n) u v1 v2 v3 v4 v5)) else (if (rd u 11 v5.toNatClampNeg) < v3 then ((f_X8_priceIn_67 (f_X8_priceIn_8 u n) u v1 v2 v3 v4 v5)) else ((f_X8_priceIn_67 (f_X8_priceIn_8 u n) u v1 v2 (rd u 11 v5.toNatClampNeg) (rd u 12 v5.toNatClampNeg) v5)))) else ((f_X8_priceIn_67 (f_X8_priceIn_8 u n) u v1 v2 v3 v4 v5))))
def f_X8_priceIn (u : xS) (v1 : Int32) (v2 : Int32) : Option Int32 :=
  (f_X8_priceIn_8 u xN v1 v2 (-1 : Int32) (0 : Int32) (0 : Int32))
def f_X8_isPart_5 (u : xS) : Nat → Int32 → Int32 → Int32 → Option Int32
  | 0, _, _, _ => none
  | n + 1, v2, v3, v4 => if (16 : Int32) ≤ v4 then (some (0 : Int32)) else (if (f_X8_has u v3) = 0 then (some (0 : Int32)) else (if v3 = v2 then (some (1 : Int32)) else (gd (xin v3 16) (((f_X8_isPart_5 u n) v2 (rd u 9 v3.toNatClampNeg) (v4 + (1 : Int32)))))))
def f_X8_isPart (u : xS) (v1 : Int32) (v2 : Int32) : Option Int32 :=
  (f_X8_isPart_5 u xN v2 v1 (0 : Int32))
def f_X8_addPrice (v1 : Int32) (v2 : Int32) (v3 : Int32) (u : xS) : Option (Int32 × xS) :=
  if (rd u 1 6) < (60 : Int32) then (gd (xin (rd u 1 6) 60) (some (((rd u 1 6) + (1 : Int32)), (wr (wr (wr (wr u 10 (rd u 1 6).toNatClampNeg v1) 11 (rd u 1 6).toNatClampNeg v2) 12 (rd u 1 6).toNatClampNeg v3) 1 6 ((rd u 1 6) + (1 : Int32)))))) else (some ((-1 : Int32), u))
def f_J9_min_7cf53 (v0 : Int32) (v1 : Int32) : Int32 :=
  if v1 < v0 then (v1) else (v0)
def f_X6_lessen (v1 : Int32) (v2 : Int32) (v3 : Nat) (u : xS) : Option xS :=
  gd (xin v1 384) (gd (xin (rd u 75 v1.toNatClampNeg) 16) (gd (xisI v3) (gd (xin (rd u 76 v1.toNatClampNeg) (xlen v3)) (gd (xisI v3) (gd (xin (rd u 76 v1.toNatClampNeg) (xlen v3)) (some (wr (wr (wr u 77 v1.toNatClampNeg ((rd u 77 v1.toNatClampNeg) - v2)) 78 (rd u 75 v1.toNatClampNeg).toNatClampNeg ((rd u 78 (rd u 75 v1.toNatClampNeg).toNatClampNeg) - v2)) v3 (rd u 76 v1.toNatClampNeg).toNatClampNeg ((rd (wr (wr u 77 v1.toNatClampNeg ((rd u 77 v1.toNatClampNeg) - v2)) 78 (rd u 75 v1.toNatClampNeg).toNatClampNeg ((rd u 78 (rd u 75 v1.toNatClampNeg).toNatClampNeg) - v2)) v3 (rd u 76 v1.toNatClampNeg).toNatClampNeg) + v2))))))))
def f_X6_takeOut_61 (k6 : Int32 → Nat → Int32 → Int32 → xS → Option xS) (v1 : Int32) (v3 : Nat) (v4 : Int32) (v5 : Int32) (u : xS) : Option xS :=
  (k6 v1 v3 v4 (v5 + (1 : Int32)) u)
def f_X6_takeOut_6 : Nat → Int32 → Nat → Int32 → Int32 → xS → Option xS
  | 0, _, _, _, _, _ => none
  | n + 1, v1, v3, v4, v5, u => if (rd u 74 4) ≤ v5 then (some u) else (if v4 ≤ 0 then (some u) else (gd (xin v5 384) (if (rd u 75 v5.toNatClampNeg) = v1 then ((f_X6_lessen v5 (f_J9_min_7cf53 v4 (rd u 77 v5.toNatClampNeg)) v3 u).bind fun u6 => (f_X6_takeOut_61 (f_X6_takeOut_6 n) v1 v3 (v4 - (f_J9_min_7cf53 v4 (rd u 77 v5.toNatClampNeg))) v5 u6)) else ((f_X6_takeOut_61 (f_X6_takeOut_6 n) v1 v3 v4 v5 u)))))
def f_X6_takeOut (v1 : Int32) (v2 : Int32) (v3 : Nat) (u : xS) : Option xS :=
  (f_X6_takeOut_6 xN v1 v3 v2 (0 : Int32) u)
def f_X0_everOf_4 (u : xS) : Nat → Int32 → Int32 → Int32 → Option Int32
  | 0, _, _, _ => none
  | n + 1, v1, v2, v3 => if (rd u 13 8) ≤ v3 then (some v2) else (gd (xin v3 24) (gd (xin v1 16) (((f_X0_everOf_4 u n) v1 (v2 + (rd u (22 + v3.toNatClampNeg) v1.toNatClampNeg)) (v3 + (1 : Int32))))))
def f_X0_everOf (u : xS) (v1 : Int32) : Option Int32 :=
  (f_X0_everOf_4 u xN v1 (0 : Int32) (0 : Int32))
def f_X7_level (v0 : Int32) : Int32 :=
  if v0 = (33 : Int32) then ((5 : Int32)) else if v0 = (37 : Int32) then ((4 : Int32)) else if v0 = (38 : Int32) then ((1 : Int32)) else if v0 = (42 : Int32) then ((4 : Int32)) else if v0 = (43 : Int32) then ((3 : Int32)) else if v0 = (45 : Int32) then ((3 : Int32)) else if v0 = (47 : Int32) then ((4 : Int32)) else if v0 = (60 : Int32) then ((2 : Int32)) else if v0 = (61 : Int32) then ((2 : Int32)) else if v0 = (62 : Int32) then ((2 : Int32)) else if v0 = (124 : Int32) then ((1 : Int32)) else if v0 = (126 : Int32) then ((5 : Int32)) else ((0 : Int32))
def f_X12_truth (v0 : Int32) : Int32 :=
  if v0 = 0 then ((0 : Int32)) else ((1 : Int32))
def f_X12_lots_28 (k4 : Int32 → Int32 → Option Int32) (u : xS) (v2 : Int32) (s0 : Int32) (s1 : Int32) : Option Int32 :=
  (k4 (s0 + (f_X12_truth s1)) (v2 + (1 : Int32)))
def f_X12_lots_4 (u : xS) : Nat → Int32 → Int32 → Option Int32
  | 0, _, _ => none
  | n + 1, v1, v2 => if (384 : Int32) ≤ v2 then (some v1) else (gd (xin v2 384) (if (rd u 147 v2.toNatClampNeg) ≤ 0 then ((f_X12_lots_28 (f_X12_lots_4 u n) u v2 v1 (0 : Int32))) else ((f_X12_lots_28 (f_X12_lots_4 u n) u v2 v1 (1 : Int32)))))
def f_X12_lots (u : xS) : Option Int32 :=
  (f_X12_lots_4 u xN (0 : Int32) (0 : Int32))
def f_X12_partsInAll_4 (u : xS) : Nat → Int32 → Int32 → Option Int32
  | 0, _, _ => none
  | n + 1, v1, v2 => if (rd u 135 1) ≤ v2 then (some v1) else (gd (xin v2 16) (((f_X12_partsInAll_4 u n) (v1 + (rd u 160 v2.toNatClampNeg)) (v2 + (1 : Int32)))))
def f_X12_partsInAll (u : xS) : Option Int32 :=
  (f_X12_partsInAll_4 u xN (0 : Int32) (0 : Int32))
def f_X12_count (v1 : Int32) (u : xS) : Option (Int32 × xS) :=
  if v1 = (0 : Int32) then (some ((rd u 135 1), (wr u 135 0 (0 : Int32)))) else if v1 = (1 : Int32) then (some ((rd u 135 3), (wr u 135 0 (0 : Int32)))) else if v1 = (2 : Int32) then (some ((rd u 135 7), (wr u 135 0 (0 : Int32)))) else if v1 = (3 : Int32) then (some ((rd u 135 18), (wr u 135 0 (0 : Int32)))) else if v1 = (4 : Int32) then (some ((rd u 135 28), (wr u 135 0 (0 : Int32)))) else if v1 = (5 : Int32) then ((f_X12_lots (wr u 135 0 (0 : Int32))).bind fun x8 => some (x8, (wr u 135 0 (0 : Int32)))) else if v1 = (6 : Int32) then (some ((rd u 135 37), (wr u 135 0 (0 : Int32)))) else if v1 = (7 : Int32) then (some ((rd u 135 46), (wr u 135 0 (0 : Int32)))) else if v1 = (8 : Int32) then (some ((rd u 135 54), (wr u 135 0 (0 : Int32)))) else if v1 = (9 : Int32) then (some ((rd u 135 43), (wr u 135 0 (0 : Int32)))) else if v1 = (10 : Int32) then (some ((rd u 135 32), (wr u 135 0 (0 : Int32)))) else if v1 = (11 : Int32) then (some ((rd u 135 24), (wr u 135 0 (0 : Int32)))) else if v1 = (12 : Int32) then ((f_X12_partsInAll (wr u 135 0 (0 : Int32))).bind fun x17 => some (x17, (wr u 135 0 (0 : Int32)))) else (some ((-1 : Int32), (wr u 135 0 (0 : Int32))))
def f_X12_enters (v1 : Int32) (u : xS) : Option xS :=
  gd (xin (rd u 135 43) 48) (some (wr (wr u 165 (rd u 135 43).toNatClampNeg v1) 135 43 ((rd u 135 43) + (1 : Int32))))
def f_X12_in (v0 : Int64) (v2 : Int64) (v4 : Int64) : Int32 :=
  if (lg_cmp v0 v2) < 0 then ((0 : Int32)) else (if 0 < (lg_cmp v0 v4) then ((0 : Int32)) else ((1 : Int32)))
def f_X12_isSorter (v0 : Int32) : Int32 :=
  (f_X12_in ((v0).toInt64) (0 : Int64) (5 : Int64))
def f_X12_ring_149 (k129 : Int32 → xS → Option (Int32 × xS)) (v3 : Int32) (u : xS) : Option (Int32 × xS) :=
  (k129 (v3 + (1 : Int32)) u)
def f_X12_ring_129 : Nat → Int32 → xS → Option (Int32 × xS)
  | 0, _, _ => none
  | n + 1, v3, u => if (6 : Int32) ≤ v3 then (some ((rd u 135 43), u)) else (gd (xin v3 6) (if (rd u 171 v3.toNatClampNeg) = 0 then ((f_X12_ring_149 (f_X12_ring_129 n) v3 u)) else ((f_X12_enters v3 u).bind fun u5 => (f_X12_ring_149 (f_X12_ring_129 n) v3 u5))))
def f_X12_ring_113 (k54 : Int32 → Int32 → xS → Option (Int32 × xS)) (k46 : Int32 → xS → Option (Int32 × xS)) (v2 : Int32) (v3 : Int32) (u : xS) : Option (Int32 × xS) :=
  (k54 v2 (v3 + (1 : Int32)) u)
def f_X12_ring_54 (k46 : Int32 → xS → Option (Int32 × xS)) : Nat → Int32 → Int32 → xS → Option (Int32 × xS)
  | 0, _, _, _ => none
  | n + 1, v2, v3, u => if (rd u 135 46) ≤ v3 then ((k46 v2 u)) else (gd (xin v3 99) (gd (xin (rd u 167 v3.toNatClampNeg) 6) (gd (xin (rd u 168 v3.toNatClampNeg) 6) (if (rd u 171 (rd u 167 v3.toNatClampNeg).toNatClampNeg) = (rd u 171 (rd u 168 v3.toNatClampNeg).toNatClampNeg) then ((f_X12_ring_113 (f_X12_ring_54 k46 n) k46 v2 v3 u)) else ((f_X12_ring_113 (f_X12_ring_54 k46 n) k46 (1 : Int32) v3 (wr (wr u 171 (rd u 167 v3.toNatClampNeg).toNatClampNeg (1 : Int32)) 171 (rd u 168 v3.toNatClampNeg).toNatClampNeg (1 : Int32))))))))
def f_X12_ring_46 : Nat → Int32 → xS → Option (Int32 × xS)
  | 0, _, _ => none
  | n + 1, v2, u => if v2 = 0 then ((f_X12_ring_129 xN (0 : Int32) (wr u 135 43 (0 : Int32)))) else ((f_X12_ring_54 (f_X12_ring_46 n) xN (0 : Int32) (0 : Int32) u))
def f_X12_ring_37 (k16 : Int32 → Int32 → xS → Option (Int32 × xS)) (v1 : Int32) (v2 : Int32) (s1 : Int32) (s2 : Int32) (u : xS) : Option (Int32 × xS) :=
  gd (xin s1 6) (gd (xb s2) ((k16 v1 (v2 + (1 : Int32)) (wr u 171 s1.toNatClampNeg s2))))
def f_X12_ring_16 : Nat → Int32 → Int32 → xS → Option (Int32 × xS)
  | 0, _, _, _ => none
  | n + 1, v1, v2, u => if (6 : Int32) ≤ v2 then ((f_X12_ring_46 xN (1 : Int32) u)) else (if v2 = v1 then ((f_X12_ring_37 (f_X12_ring_16 n) v1 v2 v2 (1 : Int32) u)) else ((f_X12_ring_37 (f_X12_ring_16 n) v1 v2 v2 (0 : Int32) u)))
def f_X12_ring (v1 : Int32) (u : xS) : Option (Int32 × xS) :=
  if (f_X12_isSorter v1) = 0 then (some ((-1 : Int32), (wr u 135 0 (0 : Int32)))) else ((f_X12_ring_16 xN v1 (0 : Int32) (wr u 135 0 (0 : Int32))))
def f_X1_keepTrial (u : xS) : Option xS :=
  gd (xcok (0 : Int32) (0 : Int32) (16 : Int32) 16 16) (some (xcpy u 85 (0 : Int32).toNatClampNeg 86 (0 : Int32).toNatClampNeg (16 : Int32).toNatClampNeg))
def f_X6_withPounds_24 (k4 : Int32 → Int32 → Option Int32) (u : xS) (v1 : Int32) (v2 : Int32) : Option Int32 :=
  (k4 v1 (v2 + (1 : Int32)))
def f_X6_withPounds_4 (u : xS) : Nat → Int32 → Int32 → Option Int32
  | 0, _, _ => none
  | n + 1, v1, v2 => if (rd u 74 4) ≤ v2 then (some v1) else (gd (xin v2 384) (if (rd u 77 v2.toNatClampNeg) ≤ 0 then ((f_X6_withPounds_24 (f_X6_withPounds_4 u n) u v1 v2)) else ((f_X6_withPounds_24 (f_X6_withPounds_4 u n) u (v1 + (1 : Int32)) v2))))
def f_X6_withPounds (u : xS) : Option Int32 :=
  (f_X6_withPounds_4 u xN (0 : Int32) (0 : Int32))
def f_X1_inAll_4 (u : xS) : Nat → Int32 → Int32 → Option Int32
  | 0, _, _ => none
  | n + 1, v1, v2 => if (16 : Int32) ≤ v2 then (some v1) else (gd (xin v2 16) (((f_X1_inAll_4 u n) (v1 + (rd u 80 v2.toNatClampNeg)) (v2 + (1 : Int32)))))
def f_X1_inAll (u : xS) : Option Int32 :=
  (f_X1_inAll_4 u xN (0 : Int32) (0 : Int32))
def f_X11_count (u : xS) (v1 : Int32) : Option Int32 :=
  if v1 = (0 : Int32) then (some (rd u 1 2)) else if v1 = (1 : Int32) then (some (rd u 1 6)) else if v1 = (2 : Int32) then (some (rd u 13 8)) else if v1 = (3 : Int32) then (some (rd u 46 5)) else if v1 = (4 : Int32) then (some (rd u 58 5)) else if v1 = (5 : Int32) then ((f_X6_withPounds u).bind fun x8 => some x8) else if v1 = (6 : Int32) then (some (rd u 87 2)) else if v1 = (7 : Int32) then (some (rd u 113 3)) else if v1 = (8 : Int32) then (some (rd u 121 6)) else if v1 = (9 : Int32) then (some (rd u 0 12)) else if v1 = (10 : Int32) then (some (rd u 52 1)) else if v1 = (11 : Int32) then (some (rd u 46 6)) else if v1 = (12 : Int32) then ((f_X1_inAll u).bind fun x17 => some x17) else (some (-1 : Int32))
def f_J9_max_7cf53 (v0 : Int32) (v1 : Int32) : Int32 :=
  if v0 < v1 then (v1) else (v0)
def f_X11_poundsWithin_45 (k5 : Int32 → Int32 → Int32 → Int32 → Option Int32) (u : xS) (v1 : Int32) (v2 : Int32) (v3 : Int32) (v4 : Int32) : Option Int32 :=
  (k5 v1 v2 v3 (v4 + (1 : Int32)))
def f_X11_poundsWithin_5 (u : xS) : Nat → Int32 → Int32 → Int32 → Int32 → Option Int32
  | 0, _, _, _, _ => none
  | n + 1, v1, v2, v3, v4 => if (rd u 1 2) ≤ v4 then (some v3) else ((f_X8_isPart u v4 v2).bind fun x3 => if x3 = 0 then ((f_X11_poundsWithin_45 (f_X11_poundsWithin_5 u n) u v1 v2 v3 v4)) else (gd (xin v1 24) (gd (xin v4 16) ((f_X11_poundsWithin_45 (f_X11_poundsWithin_5 u n) u v1 v2 (v3 + (rd u (22 + v1.toNatClampNeg) v4.toNatClampNeg)) v4)))))
def f_X11_poundsWithin (u : xS) (v1 : Int32) (v2 : Int32) : Option Int32 :=
  (f_X11_poundsWithin_5 u xN v1 v2 (0 : Int32) (0 : Int32))
def f_X11_inThousand (v0 : Int32) (v1 : Int32) : Option Int32 :=
  if v1 ≤ 0 then (some (0 : Int32)) else (gd (xnzJ ((v1).toInt64)) (some (((((v0).toInt64) * (1000 : Int64)) / ((v1).toInt64)).toInt32)))
def f_X11_tell (v1 : Int32) (u : xS) : Option xS :=
  if (48 : Int32) ≤ (rd u 0 12) then (some u) else (gd (xin (rd u 0 12) 48) (some (wr (wr u 134 (rd u 0 12).toNatClampNeg v1) 0 12 ((rd u 0 12) + (1 : Int32)))))
def f_X0_has (u : xS) (v1 : Int32) : Int32 :=
  if v1 < 0 then ((0 : Int32)) else (if (rd u 13 8) ≤ v1 then ((0 : Int32)) else ((1 : Int32)))
def f_X0_isSorted (u : xS) (v1 : Int32) : Option Int32 :=
  if (f_X0_has u v1) = 0 then (some (0 : Int32)) else (gd (xin v1 24) (if (rd u 18 v1.toNatClampNeg) = (-1 : Int32) then (some (0 : Int32)) else (some (1 : Int32))))
def f_X11_lies (v0 : Int32) (v1 : Int32) (v2 : Int32) : Int32 :=
  if v0 < v1 then ((0 : Int32)) else (if v2 < v0 then ((0 : Int32)) else ((1 : Int32)))
def f_X11_isSeller (v0 : Int32) : Int32 :=
  (f_X11_lies v0 (0 : Int32) (3 : Int32))
def f_X11_isMark (v0 : Int32) : Int32 :=
  (f_X11_lies v0 (0 : Int32) (7 : Int32))
def f_X11_foretell_154 (k44 : Int32 → Int32 → Int32 → Int32 → Int32 → Int32 → Int32 → xS → Option (Int32 × xS)) (v1 : Int32) (v2 : Int32) (v3 : Int32) (v4 : Int32) (v5 : Int32) (v6 : Int32) (v7 : Int32) (u : xS) : Option (Int32 × xS) :=
  (k44 v1 v2 v3 v4 v5 v6 (v7 + (1 : Int32)) u)
def f_X11_foretell_140 (k44 : Int32 → Int32 → Int32 → Int32 → Int32 → Int32 → Int32 → xS → Option (Int32 × xS)) (v1 : Int32) (v2 : Int32) (v3 : Int32) (v5 : Int32) (v6 : Int32) (v7 : Int32) (v8 : Int32) (s0 : Int32) (u : xS) : Option (Int32 × xS) :=
  (f_X11_foretell_154 k44 v1 v2 v3 s0 (f_J9_max_7cf53 v5 v8) (v6 + (1 : Int32)) v7 u)
def f_X11_foretell_101 (k44 : Int32 → Int32 → Int32 → Int32 → Int32 → Int32 → Int32 → xS → Option (Int32 × xS)) (v1 : Int32) (v2 : Int32) (v3 : Int32) (v4 : Int32) (v5 : Int32) (v6 : Int32) (v7 : Int32) (u : xS) : Option (Int32 × xS) :=
  (f_X11_poundsWithin u v7 v3).bind fun x2 => gd (xin v7 24) ((f_X11_inThousand x2 (rd u 16 v7.toNatClampNeg)).bind fun x5 => if v6 = 0 then ((f_X11_foretell_140 k44 v1 v2 v3 v5 v6 v7 x5 x5 u)) else ((f_X11_foretell_140 k44 v1 v2 v3 v5 v6 v7 x5 (f_J9_min_7cf53 v4 x5) u)))
def f_X11_foretell_44 : Nat → Int32 → Int32 → Int32 → Int32 → Int32 → Int32 → Int32 → xS → Option (Int32 × xS)
  | 0, _, _, _, _, _, _, _, _ => none
  | n + 1, v1, v2, v3, v4, v5, v6, v7, u => if (rd u 13 8) ≤ v7 then (if v6 = 0 then (some ((-1 : Int32), u)) else ((f_X11_tell v4 (wr u 0 12 (0 : Int32))).bind fun u4 => (f_X11_tell v5 u4).bind fun u6 => (f_X11_tell v6 u6).bind fun u8 => some (v4, u8))) else ((f_X0_isSorted u v7).bind fun x10 => if x10 = 0 then ((f_X11_foretell_154 (f_X11_foretell_44 n) v1 v2 v3 v4 v5 v6 v7 u)) else (gd (xin v7 24) (if (rd u 14 v7.toNatClampNeg) = v1 then (if v2 = (-1 : Int32) then ((f_X11_foretell_101 (f_X11_foretell_44 n) v1 v2 v3 v4 v5 v6 v7 u)) else (if (rd u 15 v7.toNatClampNeg) = v2 then ((f_X11_foretell_101 (f_X11_foretell_44 n) v1 v2 v3 v4 v5 v6 v7 u)) else ((f_X11_foretell_154 (f_X11_foretell_44 n) v1 v2 v3 v4 v5 v6 v7 u)))) else ((f_X11_foretell_154 (f_X11_foretell_44 n) v1 v2 v3 v4 v5 v6 v7 u)))))
def f_X11_foretell_19 (v1 : Int32) (v2 : Int32) (v3 : Int32) (u : xS) : Option (Int32 × xS) :=
  if (f_X8_has u v3) = 0 then (some ((-1 : Int32), u)) else ((f_X11_foretell_44 xN v1 v2 v3 (-1 : Int32) (-1 : Int32) (0 : Int32) (0 : Int32) u))
def f_X11_foretell (v1 : Int32) (v2 : Int32) (v3 : Int32) (u : xS) : Option (Int32 × xS) :=
  if (f_X11_isSeller v1) = 0 then (some ((-1 : Int32), u)) else (if v2 = (-1 : Int32) then ((f_X11_foretell_19 v1 v2 v3 u)) else (if (f_X11_isMark v2) = 0 then (some ((-1 : Int32), u)) else ((f_X11_foretell_19 v1 v2 v3 u))))
def f_J6_bitCount_0f7a4 (v0 : Int32) : Int32 :=
  ((((((((v0 - (((v0.toUInt32 >>> ((1 : Int32).toUInt32 &&& Int32.toUInt32 31)).toInt32) &&& (1431655765 : Int32))) &&& (858993459 : Int32)) + ((((v0 - (((v0.toUInt32 >>> ((1 : Int32).toUInt32 &&& Int32.toUInt32 31)).toInt32) &&& (1431655765 : Int32))).toUInt32 >>> ((2 : Int32).toUInt32 &&& Int32.toUInt32 31)).toInt32) &&& (858993459 : Int32))) + (((((v0 - (((v0.toUInt32 >>> ((1 : Int32).toUInt32 &&& Int32.toUInt32 31)).toInt32) &&& (1431655765 : Int32))) &&& (858993459 : Int32)) + ((((v0 - (((v0.toUInt32 >>> ((1 : Int32).toUInt32 &&& Int32.toUInt32 31)).toInt32) &&& (1431655765 : Int32))).toUInt32 >>> ((2 : Int32).toUInt32 &&& Int32.toUInt32 31)).toInt32) &&& (858993459 : Int32))).toUInt32 >>> ((4 : Int32).toUInt32 &&& Int32.toUInt32 31)).toInt32)) &&& (252645135 : Int32)) + (((((((v0 - (((v0.toUInt32 >>> ((1 : Int32).toUInt32 &&& Int32.toUInt32 31)).toInt32) &&& (1431655765 : Int32))) &&& (858993459 : Int32)) + ((((v0 - (((v0.toUInt32 >>> ((1 : Int32).toUInt32 &&& Int32.toUInt32 31)).toInt32) &&& (1431655765 : Int32))).toUInt32 >>> ((2 : Int32).toUInt32 &&& Int32.toUInt32 31)).toInt32) &&& (858993459 : Int32))) + (((((v0 - (((v0.toUInt32 >>> ((1 : Int32).toUInt32 &&& Int32.toUInt32 31)).toInt32) &&& (1431655765 : Int32))) &&& (858993459 : Int32)) + ((((v0 - (((v0.toUInt32 >>> ((1 : Int32).toUInt32 &&& Int32.toUInt32 31)).toInt32) &&& (1431655765 : Int32))).toUInt32 >>> ((2 : Int32).toUInt32 &&& Int32.toUInt32 31)).toInt32) &&& (858993459 : Int32))).toUInt32 >>> ((4 : Int32).toUInt32 &&& Int32.toUInt32 31)).toInt32)) &&& (252645135 : Int32)).toUInt32 >>> ((8 : Int32).toUInt32 &&& Int32.toUInt32 31)).toInt32)) + ((((((((v0 - (((v0.toUInt32 >>> ((1 : Int32).toUInt32 &&& Int32.toUInt32 31)).toInt32) &&& (1431655765 : Int32))) &&& (858993459 : Int32)) + ((((v0 - (((v0.toUInt32 >>> ((1 : Int32).toUInt32 &&& Int32.toUInt32 31)).toInt32) &&& (1431655765 : Int32))).toUInt32 >>> ((2 : Int32).toUInt32 &&& Int32.toUInt32 31)).toInt32) &&& (858993459 : Int32))) + (((((v0 - (((v0.toUInt32 >>> ((1 : Int32).toUInt32 &&& Int32.toUInt32 31)).toInt32) &&& (1431655765 : Int32))) &&& (858993459 : Int32)) + ((((v0 - (((v0.toUInt32 >>> ((1 : Int32).toUInt32 &&& Int32.toUInt32 31)).toInt32) &&& (1431655765 : Int32))).toUInt32 >>> ((2 : Int32).toUInt32 &&& Int32.toUInt32 31)).toInt32) &&& (858993459 : Int32))).toUInt32 >>> ((4 : Int32).toUInt32 &&& Int32.toUInt32 31)).toInt32)) &&& (252645135 : Int32)) + (((((((v0 - (((v0.toUInt32 >>> ((1 : Int32).toUInt32 &&& Int32.toUInt32 31)).toInt32) &&& (1431655765 : Int32))) &&& (858993459 : Int32)) + ((((v0 - (((v0.toUInt32 >>> ((1 : Int32).toUInt32 &&& Int32.toUInt32 31)).toInt32) &&& (1431655765 : Int32))).toUInt32 >>> ((2 : Int32).toUInt32 &&& Int32.toUInt32 31)).toInt32) &&& (858993459 : Int32))) + (((((v0 - (((v0.toUInt32 >>> ((1 : Int32).toUInt32 &&& Int32.toUInt32 31)).toInt32) &&& (1431655765 : Int32))) &&& (858993459 : Int32)) + ((((v0 - (((v0.toUInt32 >>> ((1 : Int32).toUInt32 &&& Int32.toUInt32 31)).toInt32) &&& (1431655765 : Int32))).toUInt32 >>> ((2 : Int32).toUInt32 &&& Int32.toUInt32 31)).toInt32) &&& (858993459 : Int32))).toUInt32 >>> ((4 : Int32).toUInt32 &&& Int32.toUInt32 31)).toInt32)) &&& (252645135 : Int32)).toUInt32 >>> ((8 : Int32).toUInt32 &&& Int32.toUInt32 31)).toInt32)).toUInt32 >>> ((16 : Int32).toUInt32 &&& Int32.toUInt32 31)).toInt32)) &&& (63 : Int32))
def f_X4_given_53 (u : xS) : Option Int32 :=
  some (-2 : Int32)
def f_X4_given_40 (u : xS) (v2 : Int32) (v3 : Int32) (s0 : Int32) : Option Int32 :=
  if v3 = (-1 : Int32) then ((f_X4_given_53 u)) else (if s0 = (-1 : Int32) then ((f_X4_given_53 u)) else (gd (xin v2 8) (some ((v3 * (rd u 129 v2.toNatClampNeg)) + (s0 * (rd u 131 v2.toNatClampNeg))))))
def f_X4_given (u : xS) (v1 : Int32) (v2 : Int32) : Option Int32 :=
  gd (xin v1 4) (gd (xin v2 8) (gd (xin (rd u 128 v2.toNatClampNeg) 16) (if (rd u 131 v2.toNatClampNeg) = 0 then ((f_X4_given_40 u v2 (rd u (123 + v1.toNatClampNeg) (rd u 128 v2.toNatClampNeg).toNatClampNeg) (0 : Int32))) else (gd (xin (rd u 130 v2.toNatClampNeg) 16) ((f_X4_given_40 u v2 (rd u (123 + v1.toNatClampNeg) (rd u 128 v2.toNatClampNeg).toNatClampNeg) (rd u (123 + v1.toNatClampNeg) (rd u 130 v2.toNatClampNeg).toNatClampNeg)))))))
def f_X4_weigh_126 (k45 : Int32 → Int32 → Int32 → Int64 → Int32 → Int32 → xS → Option xS) (k9 : Int32 → Int32 → xS → Option xS) (v1 : Int32) (v2 : Int32) (v3 : Int32) (v4 : Int64) (v6 : Int32) (v7 : Int32) (s1 : Int32) (s2 : Int64) (u : xS) : Option xS :=
  gd (xin s1 256) ((k45 v1 v2 v3 v4 v6 (v7 + (1 : Int32)) (wl u 132 s1.toNatClampNeg s2)))
def f_X4_weigh_87 (k45 : Int32 → Int32 → Int32 → Int64 → Int32 → Int32 → xS → Option xS) (k9 : Int32 → Int32 → xS → Option xS) (v1 : Int32) (v2 : Int32) (v3 : Int32) (v4 : Int64) (v6 : Int32) (v7 : Int32) (s0 : Int32) (u : xS) : Option xS :=
  if s0 = 0 then ((f_X4_weigh_126 k45 k9 v1 v2 v3 v4 v6 v7 (v6 + v7) (-1 : Int64) u)) else (gd (xin v7 256) ((f_X4_weigh_126 k45 k9 v1 v2 v3 v4 v6 v7 (v6 + v7) (((rl u 132 v7.toNatClampNeg) + (((v3).toInt64) * (390625 : Int64))) + v4) u)))
def f_X4_weigh_86 (k45 : Int32 → Int32 → Int32 → Int64 → Int32 → Int32 → xS → Option xS) (k9 : Int32 → Int32 → xS → Option xS) (v1 : Int32) (v2 : Int32) (v3 : Int32) (v4 : Int64) (v6 : Int32) (v7 : Int32) (u : xS) : Option xS :=
  (f_X4_weigh_87 k45 k9 v1 v2 v3 v4 v6 v7 (0 : Int32) u)
def f_X4_weigh_45 (k9 : Int32 → Int32 → xS → Option xS) : Nat → Int32 → Int32 → Int32 → Int64 → Int32 → Int32 → xS → Option xS
  | 0, _, _, _, _, _, _, _ => none
  | n + 1, v1, v2, v3, v4, v6, v7, u => if v6 ≤ v7 then ((k9 v1 (v2 + (1 : Int32)) u)) else (if v3 < 0 then ((f_X4_weigh_86 (f_X4_weigh_45 k9 n) k9 v1 v2 v3 v4 v6 v7 u)) else (gd (xin v7 256) (if (lg_cmp (rl u 132 v7.toNatClampNeg) (0 : Int64)) < 0 then ((f_X4_weigh_86 (f_X4_weigh_45 k9 n) k9 v1 v2 v3 v4 v6 v7 u)) else (gd (xin v1 4) (if (rd u 127 v1.toNatClampNeg) ≤ (f_J6_bitCount_0f7a4 v7) then ((f_X4_weigh_86 (f_X4_weigh_45 k9 n) k9 v1 v2 v3 v4 v6 v7 u)) else ((f_X4_weigh_87 (f_X4_weigh_45 k9 n) k9 v1 v2 v3 v4 v6 v7 (1 : Int32) u)))))))
def f_X4_weigh_9 : Nat → Int32 → Int32 → xS → Option xS
  | 0, _, _, _ => none
  | n + 1, v1, v2, u => if (rd u 121 6) ≤ v2 then (some u) else ((f_X4_given u v1 v2).bind fun x3 => gd (xin v2 8) ((f_X4_weigh_45 (f_X4_weigh_9 n) xN v1 v2 x3 ((((4 : Int32) - v1).toInt64) * ((xWt (v2).toNatClampNeg).toInt64)) ((1 : Int32) <<< (v2 &&& 31)) (0 : Int32) u)))
def f_X4_weigh (v1 : Int32) (u : xS) : Option xS :=
  (f_X4_weigh_9 xN v1 (0 : Int32) (wl u 132 0 (0 : Int64)))
