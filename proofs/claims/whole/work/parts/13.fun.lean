theorem x_ite {c : Prop} {i : Decidable c} {a b : Int32} (ha : a = 0 ∨ a = 1) (hb : b = 0 ∨ b = 1) : (@ite _ c i a b) = 0 ∨ (@ite _ c i a b) = 1 := by
  cases i with
  | isTrue h => exact ha
  | isFalse h => exact hb
def f_X12_act (v0 : Int32) : Int32 :=
  (v0 - (200 : Int32))
def f_X12_truth (v0 : Int32) : Int32 :=
  if v0 = 0 then ((0 : Int32)) else ((1 : Int32))
def f_X12_acted_211 (s0 : Int32) : Option Int32 :=
  some (f_X12_truth s0)
def f_X12_acted_210 : Option Int32 :=
  (f_X12_acted_211 (0 : Int32))
def f_X12_acted_228 (s0 : Int32) : Option Int32 :=
  some (f_X12_truth s0)
def f_X12_acted_223 : Option Int32 :=
  (f_X12_acted_228 (1 : Int32))
def f_X12_acted_166 (s0 : Int32) : Option Int32 :=
  some (f_X12_truth s0)
def f_X12_acted_194 (s0 : Int32) : Option Int32 :=
  some (f_X12_truth s0)
def f_X12_acted_180 (s0 : Int32) : Option Int32 :=
  some (f_X12_truth s0)
def f_X12_acted (v0 : Int32) (v1 : Int32) (v2 : Int32) : Option Int32 :=
  if v0 = (37 : Int32) then (if v2 = 0 then (some (0 : Int32)) else (gd (xnz v2) (some (irem v1 v2)))) else if v0 = (38 : Int32) then (if v1 = 0 then ((f_X12_acted_210)) else (if v2 = 0 then ((f_X12_acted_210)) else ((f_X12_acted_211 (1 : Int32))))) else if v0 = (39 : Int32) then (if v1 = 0 then (if v2 = 0 then ((f_X12_acted_228 (0 : Int32))) else ((f_X12_acted_223))) else ((f_X12_acted_223))) else if v0 = (40 : Int32) then (if v1 = 0 then (if v2 = 0 then ((f_X12_acted_228 (0 : Int32))) else ((f_X12_acted_223))) else ((f_X12_acted_223))) else if v0 = (41 : Int32) then (if v1 = 0 then (if v2 = 0 then ((f_X12_acted_228 (0 : Int32))) else ((f_X12_acted_223))) else ((f_X12_acted_223))) else if v0 = (42 : Int32) then (some (v1 * v2)) else if v0 = (43 : Int32) then (some (v1 + v2)) else if v0 = (44 : Int32) then (if v1 = 0 then (if v2 = 0 then ((f_X12_acted_228 (0 : Int32))) else ((f_X12_acted_223))) else ((f_X12_acted_223))) else if v0 = (45 : Int32) then (some (v1 - v2)) else if v0 = (46 : Int32) then (if v1 = 0 then (if v2 = 0 then ((f_X12_acted_228 (0 : Int32))) else ((f_X12_acted_223))) else ((f_X12_acted_223))) else if v0 = (47 : Int32) then (if v2 = 0 then (some (0 : Int32)) else (gd (xnz v2) (some (v1 / v2)))) else if v0 = (48 : Int32) then (if v1 = 0 then (if v2 = 0 then ((f_X12_acted_228 (0 : Int32))) else ((f_X12_acted_223))) else ((f_X12_acted_223))) else if v0 = (49 : Int32) then (if v1 = 0 then (if v2 = 0 then ((f_X12_acted_228 (0 : Int32))) else ((f_X12_acted_223))) else ((f_X12_acted_223))) else if v0 = (50 : Int32) then (if v1 = 0 then (if v2 = 0 then ((f_X12_acted_228 (0 : Int32))) else ((f_X12_acted_223))) else ((f_X12_acted_223))) else if v0 = (51 : Int32) then (if v1 = 0 then (if v2 = 0 then ((f_X12_acted_228 (0 : Int32))) else ((f_X12_acted_223))) else ((f_X12_acted_223))) else if v0 = (52 : Int32) then (if v1 = 0 then (if v2 = 0 then ((f_X12_acted_228 (0 : Int32))) else ((f_X12_acted_223))) else ((f_X12_acted_223))) else if v0 = (53 : Int32) then (if v1 = 0 then (if v2 = 0 then ((f_X12_acted_228 (0 : Int32))) else ((f_X12_acted_223))) else ((f_X12_acted_223))) else if v0 = (54 : Int32) then (if v1 = 0 then (if v2 = 0 then ((f_X12_acted_228 (0 : Int32))) else ((f_X12_acted_223))) else ((f_X12_acted_223))) else if v0 = (55 : Int32) then (if v1 = 0 then (if v2 = 0 then ((f_X12_acted_228 (0 : Int32))) else ((f_X12_acted_223))) else ((f_X12_acted_223))) else if v0 = (56 : Int32) then (if v1 = 0 then (if v2 = 0 then ((f_X12_acted_228 (0 : Int32))) else ((f_X12_acted_223))) else ((f_X12_acted_223))) else if v0 = (57 : Int32) then (if v1 = 0 then (if v2 = 0 then ((f_X12_acted_228 (0 : Int32))) else ((f_X12_acted_223))) else ((f_X12_acted_223))) else if v0 = (58 : Int32) then (if v1 = 0 then (if v2 = 0 then ((f_X12_acted_228 (0 : Int32))) else ((f_X12_acted_223))) else ((f_X12_acted_223))) else if v0 = (59 : Int32) then (if v1 = 0 then (if v2 = 0 then ((f_X12_acted_228 (0 : Int32))) else ((f_X12_acted_223))) else ((f_X12_acted_223))) else if v0 = (60 : Int32) then (if v2 ≤ v1 then ((f_X12_acted_166 (0 : Int32))) else ((f_X12_acted_166 (1 : Int32)))) else if v0 = (61 : Int32) then (if v1 = v2 then ((f_X12_acted_194 (1 : Int32))) else ((f_X12_acted_194 (0 : Int32)))) else if v0 = (62 : Int32) then (if v1 ≤ v2 then ((f_X12_acted_180 (0 : Int32))) else ((f_X12_acted_180 (1 : Int32)))) else (if v1 = 0 then (if v2 = 0 then ((f_X12_acted_228 (0 : Int32))) else ((f_X12_acted_223))) else ((f_X12_acted_223)))
def f_X12_alike_115 (k8 : Int32 → Int32 → Int32 → Int32 → Int32 → Option Int32) (u : xS) (v1 : Int32) (v2 : Int32) (v3 : Int32) (v5 : Int32) (s0 : Int32) (s1 : Int32) : Option Int32 :=
  (k8 v1 v2 v3 (s0 + (f_X12_truth s1)) (v5 + (1 : Int32)))
def f_X12_alike_114 (k8 : Int32 → Int32 → Int32 → Int32 → Int32 → Option Int32) (u : xS) (v1 : Int32) (v2 : Int32) (v3 : Int32) (v5 : Int32) (s0 : Int32) : Option Int32 :=
  (f_X12_alike_115 k8 u v1 v2 v3 v5 s0 (0 : Int32))
def f_X12_alike_76 (k8 : Int32 → Int32 → Int32 → Int32 → Int32 → Option Int32) (u : xS) (v1 : Int32) (v2 : Int32) (v3 : Int32) (v4 : Int32) (v5 : Int32) (s0 : Int32) : Option Int32 :=
  if s0 = 0 then ((f_X12_alike_114 k8 u v1 v2 (v3 + (f_X12_truth s0)) v5 v4)) else (gd (xin v5 99) (if (rd u 169 v5.toNatClampNeg) = (rd u 170 v5.toNatClampNeg) then ((f_X12_alike_115 k8 u v1 v2 (v3 + (f_X12_truth s0)) v5 v4 (1 : Int32))) else ((f_X12_alike_114 k8 u v1 v2 (v3 + (f_X12_truth s0)) v5 v4))))
def f_X12_alike_75 (k8 : Int32 → Int32 → Int32 → Int32 → Int32 → Option Int32) (u : xS) (v1 : Int32) (v2 : Int32) (v3 : Int32) (v4 : Int32) (v5 : Int32) : Option Int32 :=
  (f_X12_alike_76 k8 u v1 v2 v3 v4 v5 (0 : Int32))
def f_X12_alike_71 (k8 : Int32 → Int32 → Int32 → Int32 → Int32 → Option Int32) (u : xS) (v1 : Int32) (v2 : Int32) (v3 : Int32) (v4 : Int32) (v5 : Int32) : Option Int32 :=
  (f_X12_alike_76 k8 u v1 v2 v3 v4 v5 (1 : Int32))
def f_X12_alike_44 (k8 : Int32 → Int32 → Int32 → Int32 → Int32 → Option Int32) (u : xS) (v1 : Int32) (v2 : Int32) (v3 : Int32) (v4 : Int32) (v5 : Int32) : Option Int32 :=
  gd (xin v5 99) (if (rd u 168 v5.toNatClampNeg) = v1 then (if v2 = (-1 : Int32) then ((f_X12_alike_71 k8 u v1 v2 v3 v4 v5)) else (if (rd u 167 v5.toNatClampNeg) = v2 then ((f_X12_alike_71 k8 u v1 v2 v3 v4 v5)) else ((f_X12_alike_75 k8 u v1 v2 v3 v4 v5)))) else ((f_X12_alike_75 k8 u v1 v2 v3 v4 v5)))
def f_X12_alike_8 (u : xS) : Nat → Int32 → Int32 → Int32 → Int32 → Int32 → Option Int32
  | 0, _, _, _, _, _ => none
  | n + 1, v1, v2, v3, v4, v5 => if (rd u 135 46) ≤ v5 then (if v3 = 0 then (some (-1 : Int32)) else (gd (xnz v3) (some ((v4 * (1000 : Int32)) / v3)))) else (gd (xin v5 99) (if (rd u 167 v5.toNatClampNeg) = v1 then (if v2 = (-1 : Int32) then ((f_X12_alike_71 (f_X12_alike_8 u n) u v1 v2 v3 v4 v5)) else (if (rd u 168 v5.toNatClampNeg) = v2 then ((f_X12_alike_71 (f_X12_alike_8 u n) u v1 v2 v3 v4 v5)) else ((f_X12_alike_44 (f_X12_alike_8 u n) u v1 v2 v3 v4 v5)))) else ((f_X12_alike_44 (f_X12_alike_8 u n) u v1 v2 v3 v4 v5))))
def f_X12_alike (u : xS) (v1 : Int32) (v2 : Int32) : Option Int32 :=
  (f_X12_alike_8 u xN v1 v2 (0 : Int32) (0 : Int32) (0 : Int32))
def f_X12_isSign (u : xS) (v1 : Int32) (v2 : Int32) : Option Int32 :=
  if v1 ≤ (rd u 135 33) then (some (0 : Int32)) else (gd (xin (rd u 135 33) 100) (if (rd u 159 (rd u 135 33).toNatClampNeg) = v2 then (some (1 : Int32)) else (some (0 : Int32))))
def f_X12_marks (v1 : Int32) (u : xS) : Option xS :=
  gd (xin (rd u 135 34) 12) (gd (xin (((64 : Int32) * (rd u 135 34)) + (rd u 156 (rd u 135 34).toNatClampNeg)) 768) (some (wr (wr u 155 (((64 : Int32) * (rd u 135 34)) + (rd u 156 (rd u 135 34).toNatClampNeg)).toNatClampNeg v1) 156 (rd u 135 34).toNatClampNeg ((rd u 156 (rd u 135 34).toNatClampNeg) + (1 : Int32)))))
def f_J0_isLatin1_aae02_t1 : Int32 :=
  (1 : Int32)
def f_J0_coder_7d493_t1 : Int32 :=
  (0 : Int32)
def f_J0_length_8abf5_t1 : Int32 :=
  ((10 : Int32) >>> ((0 : Int32) &&& 31))
def f_J1_canEncode_9a6ad (v0 : Int32) : Int32 :=
  if v0 < 0 then ((0 : Int32)) else (if (255 : Int32) < v0 then ((0 : Int32)) else ((1 : Int32)))
def f_J1_indexOfChar_4cfef_t1_7 : Nat → Int32 → Int32 → Int32 → Option Int32
  | 0, _, _, _ => none
  | n + 1, v3, v4, v5 => if v3 ≤ v5 then (some (-1 : Int32)) else (gd (xin v5 (xLen.getD 1 0)) (if (xbyte 1 v5.toNatClampNeg) = v4 then (some v5) else (((f_J1_indexOfChar_4cfef_t1_7 n) v3 v4 (v5 + (1 : Int32))))))
def f_J1_indexOfChar_4cfef_t1 (v1 : Int32) (v2 : Int32) (v3 : Int32) : Option Int32 :=
  (f_J1_indexOfChar_4cfef_t1_7 xN v3 (v1.toInt8.toInt32) v2)
def f_J1_indexOf_4cfef_t1 (v1 : Int32) (v2 : Int32) (v3 : Int32) : Option Int32 :=
  if (f_J1_canEncode_9a6ad v1) = 0 then (some (-1 : Int32)) else (if (imax v2 (0 : Int32)) < (imin v3 (10 : Int32)) then ((f_J1_indexOfChar_4cfef_t1 v1 (imax v2 (0 : Int32)) (imin v3 (10 : Int32))).bind fun x4 => some x4) else (some (-1 : Int32)))
def f_J0_indexOf_7cf53_t1 (v1 : Int32) (v2 : Int32) : Option Int32 :=
  (f_J1_indexOf_4cfef_t1 v1 v2 (f_J0_length_8abf5_t1)).bind fun x3 => some x3
def f_J0_indexOf_0f7a4_t1 (v1 : Int32) : Option Int32 :=
  (f_J0_indexOf_7cf53_t1 v1 (0 : Int32)).bind fun x2 => some x2
def f_X12_isOf_t1 (u : xS) (v1 : Int32) : Option Int32 :=
  if v1 ≤ (rd u 135 33) then (some (0 : Int32)) else (gd (xin (rd u 135 33) 100) (if (rd u 159 (rd u 135 33).toNatClampNeg) ≤ 0 then (some (0 : Int32)) else ((f_J0_indexOf_0f7a4_t1 (rd u 159 (rd u 135 33).toNatClampNeg)).bind fun x5 => if x5 < 0 then (some (0 : Int32)) else (some (1 : Int32)))))
def f_J0_isLatin1_aae02_t0 : Int32 :=
  (1 : Int32)
def f_J0_coder_7d493_t0 : Int32 :=
  (0 : Int32)
def f_J0_length_8abf5_t0 : Int32 :=
  ((16 : Int32) >>> ((0 : Int32) &&& 31))
def f_J1_indexOfChar_4cfef_t0_7 : Nat → Int32 → Int32 → Int32 → Option Int32
  | 0, _, _, _ => none
  | n + 1, v3, v4, v5 => if v3 ≤ v5 then (some (-1 : Int32)) else (gd (xin v5 (xLen.getD 0 0)) (if (xbyte 0 v5.toNatClampNeg) = v4 then (some v5) else (((f_J1_indexOfChar_4cfef_t0_7 n) v3 v4 (v5 + (1 : Int32))))))
def f_J1_indexOfChar_4cfef_t0 (v1 : Int32) (v2 : Int32) (v3 : Int32) : Option Int32 :=
  (f_J1_indexOfChar_4cfef_t0_7 xN v3 (v1.toInt8.toInt32) v2)
def f_J1_indexOf_4cfef_t0 (v1 : Int32) (v2 : Int32) (v3 : Int32) : Option Int32 :=
  if (f_J1_canEncode_9a6ad v1) = 0 then (some (-1 : Int32)) else (if (imax v2 (0 : Int32)) < (imin v3 (16 : Int32)) then ((f_J1_indexOfChar_4cfef_t0 v1 (imax v2 (0 : Int32)) (imin v3 (16 : Int32))).bind fun x4 => some x4) else (some (-1 : Int32)))
def f_J0_indexOf_7cf53_t0 (v1 : Int32) (v2 : Int32) : Option Int32 :=
  (f_J1_indexOf_4cfef_t0 v1 v2 (f_J0_length_8abf5_t0)).bind fun x3 => some x3
def f_J0_indexOf_0f7a4_t0 (v1 : Int32) : Option Int32 :=
  (f_J0_indexOf_7cf53_t0 v1 (0 : Int32)).bind fun x2 => some x2
def f_X12_isOf_t0 (u : xS) (v1 : Int32) : Option Int32 :=
  if v1 ≤ (rd u 135 33) then (some (0 : Int32)) else (gd (xin (rd u 135 33) 100) (if (rd u 159 (rd u 135 33).toNatClampNeg) ≤ 0 then (some (0 : Int32)) else ((f_J0_indexOf_0f7a4_t0 (rd u 159 (rd u 135 33).toNatClampNeg)).bind fun x5 => if x5 < 0 then (some (0 : Int32)) else (some (1 : Int32)))))
def f_X12_thing_109 (k_X12_some : Int32 → xS → Option (Int32 × xS)) (v2 : Int32) (u : xS) : Option (Int32 × xS) :=
  (f_X12_marks v2 u).bind fun u2 => some ((1 : Int32), u2)
def f_X12_thing_59 (k_X12_some : Int32 → xS → Option (Int32 × xS)) : Nat → Int32 → Int32 → Int32 → xS → Option (Int32 × xS)
  | 0, _, _, _, _ => none
  | n + 1, v1, v2, v3, u => if (4 : Int32) ≤ v3 then ((f_X12_thing_109 k_X12_some v2 u)) else ((f_X12_isOf_t1 u v1).bind fun x3 => if x3 = 0 then ((f_X12_thing_109 k_X12_some v2 u)) else (gd (xin (rd u 135 33) 100) (((f_X12_thing_59 k_X12_some n) v1 ((((10 : Int32) * v2) + (rd u 159 (rd u 135 33).toNatClampNeg)) - (48 : Int32)) (v3 + (1 : Int32)) (wr u 135 33 ((rd u 135 33) + (1 : Int32)))))))
def f_X12_thing (k_X12_some : Int32 → xS → Option (Int32 × xS)) (v1 : Int32) (u : xS) : Option (Int32 × xS) :=
  (f_X12_isOf_t0 u v1).bind fun x2 => if x2 = 0 then ((f_X12_isOf_t1 u v1).bind fun x5 => if x5 = 0 then ((f_X12_isSign u v1 (40 : Int32)).bind fun x8 => if x8 = 0 then (some ((0 : Int32), u)) else ((k_X12_some v1 (wr u 135 33 ((rd u 135 33) + (1 : Int32)))).bind fun q17 => if q17.1 = 0 then (some ((0 : Int32), q17.2)) else ((f_X12_isSign q17.2 v1 (41 : Int32)).bind fun x15 => if x15 = 0 then (some ((0 : Int32), q17.2)) else (some ((1 : Int32), (wr q17.2 135 33 ((rd q17.2 135 33) + (1 : Int32)))))))) else ((f_X12_thing_59 k_X12_some xN v1 (0 : Int32) (0 : Int32) u))) else (gd (xin (rd u 135 33) 100) ((f_J0_indexOf_0f7a4_t0 (rd u 159 (rd u 135 33).toNatClampNeg)).bind fun x20 => (f_X12_marks ((-1 : Int32) - x20) u).bind fun u22 => some ((1 : Int32), (wr u22 135 33 ((rd u22 135 33) + (1 : Int32))))))
def f_J0_isLatin1_aae02_t2 : Int32 :=
  (1 : Int32)
def f_J0_coder_7d493_t2 : Int32 :=
  (0 : Int32)
def f_J0_length_8abf5_t2 : Int32 :=
  ((2 : Int32) >>> ((0 : Int32) &&& 31))
def f_J1_indexOfChar_4cfef_t2_7 : Nat → Int32 → Int32 → Int32 → Option Int32
  | 0, _, _, _ => none
  | n + 1, v3, v4, v5 => if v3 ≤ v5 then (some (-1 : Int32)) else (gd (xin v5 (xLen.getD 2 0)) (if (xbyte 2 v5.toNatClampNeg) = v4 then (some v5) else (((f_J1_indexOfChar_4cfef_t2_7 n) v3 v4 (v5 + (1 : Int32))))))
def f_J1_indexOfChar_4cfef_t2 (v1 : Int32) (v2 : Int32) (v3 : Int32) : Option Int32 :=
  (f_J1_indexOfChar_4cfef_t2_7 xN v3 (v1.toInt8.toInt32) v2)
def f_J1_indexOf_4cfef_t2 (v1 : Int32) (v2 : Int32) (v3 : Int32) : Option Int32 :=
  if (f_J1_canEncode_9a6ad v1) = 0 then (some (-1 : Int32)) else (if (imax v2 (0 : Int32)) < (imin v3 (2 : Int32)) then ((f_J1_indexOfChar_4cfef_t2 v1 (imax v2 (0 : Int32)) (imin v3 (2 : Int32))).bind fun x4 => some x4) else (some (-1 : Int32)))
def f_J0_indexOf_7cf53_t2 (v1 : Int32) (v2 : Int32) : Option Int32 :=
  (f_J1_indexOf_4cfef_t2 v1 v2 (f_J0_length_8abf5_t2)).bind fun x3 => some x3
def f_J0_indexOf_0f7a4_t2 (v1 : Int32) : Option Int32 :=
  (f_J0_indexOf_7cf53_t2 v1 (0 : Int32)).bind fun x2 => some x2
def f_X12_isOf_t2 (u : xS) (v1 : Int32) : Option Int32 :=
  if v1 ≤ (rd u 135 33) then (some (0 : Int32)) else (gd (xin (rd u 135 33) 100) (if (rd u 159 (rd u 135 33).toNatClampNeg) ≤ 0 then (some (0 : Int32)) else ((f_J0_indexOf_0f7a4_t2 (rd u 159 (rd u 135 33).toNatClampNeg)).bind fun x5 => if x5 < 0 then (some (0 : Int32)) else (some (1 : Int32)))))
def f_X12_unary_61 (k_X12_unary : Int32 → xS → Option (Int32 × xS)) (k_X12_thing : Int32 → xS → Option (Int32 × xS)) (v3 : Int32) (s1 : Int32) (u : xS) : Option (Int32 × xS) :=
  (f_X12_marks (f_X12_act s1) u).bind fun u2 => gd (xb v3) (some (v3, u2))
def f_X12_unary (k_X12_unary : Int32 → xS → Option (Int32 × xS)) (k_X12_thing : Int32 → xS → Option (Int32 × xS)) (v1 : Int32) (u : xS) : Option (Int32 × xS) :=
  (f_X12_isOf_t2 u v1).bind fun x2 => if x2 = 0 then ((k_X12_thing v1 u).bind fun q16 => gd (xb q16.1) (some (q16.1, q16.2))) else (gd (xin (rd u 135 33) 100) ((k_X12_unary v1 (wr u 135 33 ((rd u 135 33) + (1 : Int32)))).bind fun q11 => if q11.1 = 0 then (gd (xb q11.1) (some (q11.1, q11.2))) else (if (rd u 159 (rd u 135 33).toNatClampNeg) = (33 : Int32) then ((f_X12_unary_61 k_X12_unary k_X12_thing q11.1 (33 : Int32) q11.2)) else ((f_X12_unary_61 k_X12_unary k_X12_thing q11.1 (126 : Int32) q11.2)))))
def f_J0_isLatin1_aae02_t3 : Int32 :=
  (1 : Int32)
def f_J0_coder_7d493_t3 : Int32 :=
  (0 : Int32)
def f_J0_length_8abf5_t3 : Int32 :=
  ((3 : Int32) >>> ((0 : Int32) &&& 31))
def f_J1_indexOfChar_4cfef_t3_7 : Nat → Int32 → Int32 → Int32 → Option Int32
  | 0, _, _, _ => none
  | n + 1, v3, v4, v5 => if v3 ≤ v5 then (some (-1 : Int32)) else (gd (xin v5 (xLen.getD 3 0)) (if (xbyte 3 v5.toNatClampNeg) = v4 then (some v5) else (((f_J1_indexOfChar_4cfef_t3_7 n) v3 v4 (v5 + (1 : Int32))))))
def f_J1_indexOfChar_4cfef_t3 (v1 : Int32) (v2 : Int32) (v3 : Int32) : Option Int32 :=
  (f_J1_indexOfChar_4cfef_t3_7 xN v3 (v1.toInt8.toInt32) v2)
def f_J1_indexOf_4cfef_t3 (v1 : Int32) (v2 : Int32) (v3 : Int32) : Option Int32 :=
  if (f_J1_canEncode_9a6ad v1) = 0 then (some (-1 : Int32)) else (if (imax v2 (0 : Int32)) < (imin v3 (3 : Int32)) then ((f_J1_indexOfChar_4cfef_t3 v1 (imax v2 (0 : Int32)) (imin v3 (3 : Int32))).bind fun x4 => some x4) else (some (-1 : Int32)))
def f_J0_indexOf_7cf53_t3 (v1 : Int32) (v2 : Int32) : Option Int32 :=
  (f_J1_indexOf_4cfef_t3 v1 v2 (f_J0_length_8abf5_t3)).bind fun x3 => some x3
def f_J0_indexOf_0f7a4_t3 (v1 : Int32) : Option Int32 :=
  (f_J0_indexOf_7cf53_t3 v1 (0 : Int32)).bind fun x2 => some x2
def f_X12_isOf_t3 (u : xS) (v1 : Int32) : Option Int32 :=
  if v1 ≤ (rd u 135 33) then (some (0 : Int32)) else (gd (xin (rd u 135 33) 100) (if (rd u 159 (rd u 135 33).toNatClampNeg) ≤ 0 then (some (0 : Int32)) else ((f_J0_indexOf_0f7a4_t3 (rd u 159 (rd u 135 33).toNatClampNeg)).bind fun x5 => if x5 < 0 then (some (0 : Int32)) else (some (1 : Int32)))))
def f_X12_product_59 (k_X12_unary : Int32 → xS → Option (Int32 × xS)) (k6 : Int32 → Int32 → xS → Option (Int32 × xS)) (v1 : Int32) (v2 : Int32) (u : xS) : Option (Int32 × xS) :=
  (k6 v1 v2 u)
def f_X12_product_6 (k_X12_unary : Int32 → xS → Option (Int32 × xS)) : Nat → Int32 → Int32 → xS → Option (Int32 × xS)
  | 0, _, _, _ => none
  | n + 1, v1, v2, u => if v2 = 0 then (gd (xb v2) (some (v2, u))) else ((f_X12_isOf_t3 u v1).bind fun x4 => if x4 = 0 then (gd (xb v2) (some (v2, u))) else (gd (xin (rd u 135 33) 100) ((k_X12_unary v1 (wr u 135 33 ((rd u 135 33) + (1 : Int32)))).bind fun q14 => if q14.1 = 0 then ((f_X12_product_59 k_X12_unary (f_X12_product_6 k_X12_unary n) v1 q14.1 q14.2)) else ((f_X12_marks (f_X12_act (rd u 159 (rd u 135 33).toNatClampNeg)) q14.2).bind fun u13 => (f_X12_product_59 k_X12_unary (f_X12_product_6 k_X12_unary n) v1 q14.1 u13)))))
def f_X12_product (k_X12_unary : Int32 → xS → Option (Int32 × xS)) (v1 : Int32) (u : xS) : Option (Int32 × xS) :=
  (k_X12_unary v1 u).bind fun q4 => (f_X12_product_6 k_X12_unary xN v1 q4.1 q4.2)
def f_J0_isLatin1_aae02_t4 : Int32 :=
  (1 : Int32)
def f_J0_coder_7d493_t4 : Int32 :=
  (0 : Int32)
def f_J0_length_8abf5_t4 : Int32 :=
  ((2 : Int32) >>> ((0 : Int32) &&& 31))
def f_J1_indexOfChar_4cfef_t4_7 : Nat → Int32 → Int32 → Int32 → Option Int32
  | 0, _, _, _ => none
  | n + 1, v3, v4, v5 => if v3 ≤ v5 then (some (-1 : Int32)) else (gd (xin v5 (xLen.getD 4 0)) (if (xbyte 4 v5.toNatClampNeg) = v4 then (some v5) else (((f_J1_indexOfChar_4cfef_t4_7 n) v3 v4 (v5 + (1 : Int32))))))
def f_J1_indexOfChar_4cfef_t4 (v1 : Int32) (v2 : Int32) (v3 : Int32) : Option Int32 :=
  (f_J1_indexOfChar_4cfef_t4_7 xN v3 (v1.toInt8.toInt32) v2)
def f_J1_indexOf_4cfef_t4 (v1 : Int32) (v2 : Int32) (v3 : Int32) : Option Int32 :=
  if (f_J1_canEncode_9a6ad v1) = 0 then (some (-1 : Int32)) else (if (imax v2 (0 : Int32)) < (imin v3 (2 : Int32)) then ((f_J1_indexOfChar_4cfef_t4 v1 (imax v2 (0 : Int32)) (imin v3 (2 : Int32))).bind fun x4 => some x4) else (some (-1 : Int32)))
def f_J0_indexOf_7cf53_t4 (v1 : Int32) (v2 : Int32) : Option Int32 :=
  (f_J1_indexOf_4cfef_t4 v1 v2 (f_J0_length_8abf5_t4)).bind fun x3 => some x3
def f_J0_indexOf_0f7a4_t4 (v1 : Int32) : Option Int32 :=
  (f_J0_indexOf_7cf53_t4 v1 (0 : Int32)).bind fun x2 => some x2
def f_X12_isOf_t4 (u : xS) (v1 : Int32) : Option Int32 :=
  if v1 ≤ (rd u 135 33) then (some (0 : Int32)) else (gd (xin (rd u 135 33) 100) (if (rd u 159 (rd u 135 33).toNatClampNeg) ≤ 0 then (some (0 : Int32)) else ((f_J0_indexOf_0f7a4_t4 (rd u 159 (rd u 135 33).toNatClampNeg)).bind fun x5 => if x5 < 0 then (some (0 : Int32)) else (some (1 : Int32)))))
def f_X12_total_59 (k_X12_product : Int32 → xS → Option (Int32 × xS)) (k6 : Int32 → Int32 → xS → Option (Int32 × xS)) (v1 : Int32) (v2 : Int32) (u : xS) : Option (Int32 × xS) :=
  (k6 v1 v2 u)
def f_X12_total_6 (k_X12_product : Int32 → xS → Option (Int32 × xS)) : Nat → Int32 → Int32 → xS → Option (Int32 × xS)
  | 0, _, _, _ => none
  | n + 1, v1, v2, u => if v2 = 0 then (gd (xb v2) (some (v2, u))) else ((f_X12_isOf_t4 u v1).bind fun x4 => if x4 = 0 then (gd (xb v2) (some (v2, u))) else (gd (xin (rd u 135 33) 100) ((k_X12_product v1 (wr u 135 33 ((rd u 135 33) + (1 : Int32)))).bind fun q14 => if q14.1 = 0 then ((f_X12_total_59 k_X12_product (f_X12_total_6 k_X12_product n) v1 q14.1 q14.2)) else ((f_X12_marks (f_X12_act (rd u 159 (rd u 135 33).toNatClampNeg)) q14.2).bind fun u13 => (f_X12_total_59 k_X12_product (f_X12_total_6 k_X12_product n) v1 q14.1 u13)))))
def f_X12_total (k_X12_product : Int32 → xS → Option (Int32 × xS)) (v1 : Int32) (u : xS) : Option (Int32 × xS) :=
  (k_X12_product v1 u).bind fun q4 => (f_X12_total_6 k_X12_product xN v1 q4.1 q4.2)
def f_J0_isLatin1_aae02_t5 : Int32 :=
  (1 : Int32)
def f_J0_coder_7d493_t5 : Int32 :=
  (0 : Int32)
def f_J0_length_8abf5_t5 : Int32 :=
  ((3 : Int32) >>> ((0 : Int32) &&& 31))
def f_J1_indexOfChar_4cfef_t5_7 : Nat → Int32 → Int32 → Int32 → Option Int32
  | 0, _, _, _ => none
  | n + 1, v3, v4, v5 => if v3 ≤ v5 then (some (-1 : Int32)) else (gd (xin v5 (xLen.getD 5 0)) (if (xbyte 5 v5.toNatClampNeg) = v4 then (some v5) else (((f_J1_indexOfChar_4cfef_t5_7 n) v3 v4 (v5 + (1 : Int32))))))
def f_J1_indexOfChar_4cfef_t5 (v1 : Int32) (v2 : Int32) (v3 : Int32) : Option Int32 :=
  (f_J1_indexOfChar_4cfef_t5_7 xN v3 (v1.toInt8.toInt32) v2)
def f_J1_indexOf_4cfef_t5 (v1 : Int32) (v2 : Int32) (v3 : Int32) : Option Int32 :=
  if (f_J1_canEncode_9a6ad v1) = 0 then (some (-1 : Int32)) else (if (imax v2 (0 : Int32)) < (imin v3 (3 : Int32)) then ((f_J1_indexOfChar_4cfef_t5 v1 (imax v2 (0 : Int32)) (imin v3 (3 : Int32))).bind fun x4 => some x4) else (some (-1 : Int32)))
def f_J0_indexOf_7cf53_t5 (v1 : Int32) (v2 : Int32) : Option Int32 :=
  (f_J1_indexOf_4cfef_t5 v1 v2 (f_J0_length_8abf5_t5)).bind fun x3 => some x3
def f_J0_indexOf_0f7a4_t5 (v1 : Int32) : Option Int32 :=
  (f_J0_indexOf_7cf53_t5 v1 (0 : Int32)).bind fun x2 => some x2
def f_X12_isOf_t5 (u : xS) (v1 : Int32) : Option Int32 :=
  if v1 ≤ (rd u 135 33) then (some (0 : Int32)) else (gd (xin (rd u 135 33) 100) (if (rd u 159 (rd u 135 33).toNatClampNeg) ≤ 0 then (some (0 : Int32)) else ((f_J0_indexOf_0f7a4_t5 (rd u 159 (rd u 135 33).toNatClampNeg)).bind fun x5 => if x5 < 0 then (some (0 : Int32)) else (some (1 : Int32)))))
def f_X12_compared (k_X12_total : Int32 → xS → Option (Int32 × xS)) (v1 : Int32) (u : xS) : Option (Int32 × xS) :=
  (k_X12_total v1 u).bind fun q20 => if q20.1 = 0 then (gd (xb q20.1) (some (q20.1, q20.2))) else ((f_X12_isOf_t5 q20.2 v1).bind fun x7 => if x7 = 0 then (gd (xb q20.1) (some (q20.1, q20.2))) else (gd (xin (rd q20.2 135 33) 100) ((k_X12_total v1 (wr q20.2 135 33 ((rd q20.2 135 33) + (1 : Int32)))).bind fun q19 => if q19.1 = 0 then (gd (xb q19.1) (some (q19.1, q19.2))) else ((f_X12_marks (f_X12_act (rd q20.2 159 (rd q20.2 135 33).toNatClampNeg)) q19.2).bind fun u17 => gd (xb q19.1) (some (q19.1, u17))))))
def f_X12_every_6 (k_X12_compared : Int32 → xS → Option (Int32 × xS)) : Nat → Int32 → Int32 → xS → Option (Int32 × xS)
  | 0, _, _, _ => none
  | n + 1, v1, v2, u => if v2 = 0 then (gd (xb v2) (some (v2, u))) else ((f_X12_isSign u v1 (38 : Int32)).bind fun x4 => if x4 = 0 then (gd (xb v2) (some (v2, u))) else ((k_X12_compared v1 (wr u 135 33 ((rd u 135 33) + (1 : Int32)))).bind fun q13 => if q13.1 = 0 then (((f_X12_every_6 k_X12_compared n) v1 q13.1 q13.2)) else ((f_X12_marks (f_X12_act (38 : Int32)) q13.2).bind fun u12 => ((f_X12_every_6 k_X12_compared n) v1 q13.1 u12))))
def f_X12_every (k_X12_compared : Int32 → xS → Option (Int32 × xS)) (v1 : Int32) (u : xS) : Option (Int32 × xS) :=
  (k_X12_compared v1 u).bind fun q4 => (f_X12_every_6 k_X12_compared xN v1 q4.1 q4.2)
def f_X12_some_6 (k_X12_every : Int32 → xS → Option (Int32 × xS)) : Nat → Int32 → Int32 → xS → Option (Int32 × xS)
  | 0, _, _, _ => none
  | n + 1, v1, v2, u => if v2 = 0 then (gd (xb v2) (some (v2, u))) else ((f_X12_isSign u v1 (124 : Int32)).bind fun x4 => if x4 = 0 then (gd (xb v2) (some (v2, u))) else ((k_X12_every v1 (wr u 135 33 ((rd u 135 33) + (1 : Int32)))).bind fun q13 => if q13.1 = 0 then (((f_X12_some_6 k_X12_every n) v1 q13.1 q13.2)) else ((f_X12_marks (f_X12_act (124 : Int32)) q13.2).bind fun u12 => ((f_X12_some_6 k_X12_every n) v1 q13.1 u12))))
def f_X12_some (k_X12_every : Int32 → xS → Option (Int32 × xS)) (v1 : Int32) (u : xS) : Option (Int32 × xS) :=
  (k_X12_every v1 u).bind fun q4 => (f_X12_some_6 k_X12_every xN v1 q4.1 q4.2)
def fr_parse : Nat → Nat → Int32 → xS → Option (Int32 × xS)
  | 0, _ => fun _ _ => none
  | n + 1, 0 => f_X12_thing (fr_parse n 6)
  | n + 1, 1 => f_X12_unary (fr_parse n 1) (fr_parse n 0)
  | n + 1, 2 => f_X12_product (fr_parse n 1)
  | n + 1, 3 => f_X12_total (fr_parse n 2)
  | n + 1, 4 => f_X12_compared (fr_parse n 3)
  | n + 1, 5 => f_X12_every (fr_parse n 4)
  | n + 1, _ => f_X12_some (fr_parse n 5)
def f_r_X12_thing : Int32 → xS → Option (Int32 × xS) := fr_parse 600 0
def f_r_X12_unary : Int32 → xS → Option (Int32 × xS) := fr_parse 600 1
def f_r_X12_product : Int32 → xS → Option (Int32 × xS) := fr_parse 600 2
def f_r_X12_total : Int32 → xS → Option (Int32 × xS) := fr_parse 600 3
def f_r_X12_compared : Int32 → xS → Option (Int32 × xS) := fr_parse 600 4
def f_r_X12_every : Int32 → xS → Option (Int32 × xS) := fr_parse 600 5
def f_r_X12_some : Int32 → xS → Option (Int32 × xS) := fr_parse 600 6
def f_X12_all_50 (v1 : Int32) (v3 : Int32) (u : xS) : Option (Int32 × xS) :=
  if v3 = 0 then (some ((0 : Int32), u)) else (if (rd u 135 33) = v1 then (some ((1 : Int32), u)) else (some ((0 : Int32), u)))
def f_X12_all_6 : Nat → Int32 → Int32 → Int32 → xS → Option (Int32 × xS)
  | 0, _, _, _, _ => none
  | n + 1, v1, v2, v3, u => if v3 = 0 then ((f_X12_all_50 v1 v3 u)) else (if v2 = 0 then ((f_X12_all_50 v1 v3 u)) else ((f_X12_isSign u v1 (59 : Int32)).bind fun x4 => if x4 = 0 then ((f_X12_all_50 v1 v3 u)) else ((f_X12_marks (-300 : Int32) (wr u 135 33 ((rd u 135 33) + (1 : Int32)))).bind fun u7 => (f_r_X12_some v1 u7).bind fun q11 => ((f_X12_all_6 n) v1 v2 q11.1 q11.2))))
def f_X12_all (v1 : Int32) (v2 : Int32) (u : xS) : Option (Int32 × xS) :=
  (f_r_X12_some v1 u).bind fun q4 => (f_X12_all_6 xN v1 v2 q4.1 q4.2)
def f_X12_areAll_90 (k4 : Int32 → Int32 → Int32 → Option Int32) (u : xS) (v1 : Int32) (v3 : Int32) (s0 : Int32) : Option Int32 :=
  (k4 v1 s0 (v3 + (1 : Int32)))
def f_X12_areAll_89 (k4 : Int32 → Int32 → Int32 → Option Int32) (u : xS) (v1 : Int32) (v3 : Int32) : Option Int32 :=
  (f_X12_areAll_90 k4 u v1 v3 (0 : Int32))
def f_X12_areAll_68 (k32 : Int32 → Int32 → Int32 → Int32 → Int32 → Option Int32) (k4 : Int32 → Int32 → Int32 → Option Int32) (u : xS) (v1 : Int32) (v2 : Int32) (v3 : Int32) (v5 : Int32) (s0 : Int32) : Option Int32 :=
  (k32 v1 v2 v3 s0 (v5 + (1 : Int32)))
def f_X12_areAll_63 (k32 : Int32 → Int32 → Int32 → Int32 → Int32 → Option Int32) (k4 : Int32 → Int32 → Int32 → Option Int32) (u : xS) (v1 : Int32) (v2 : Int32) (v3 : Int32) (v5 : Int32) : Option Int32 :=
  (f_X12_areAll_68 k32 k4 u v1 v2 v3 v5 (1 : Int32))
def f_X12_areAll_32 (k4 : Int32 → Int32 → Int32 → Option Int32) (u : xS) : Nat → Int32 → Int32 → Int32 → Int32 → Int32 → Option Int32
  | 0, _, _, _, _, _ => none
  | n + 1, v1, v2, v3, v4, v5 => if v1 ≤ v5 then (if v2 = 0 then ((f_X12_areAll_89 k4 u v1 v3)) else (if v4 = 0 then ((f_X12_areAll_89 k4 u v1 v3)) else ((f_X12_areAll_90 k4 u v1 v3 (1 : Int32))))) else (if v4 = 0 then (gd (xin v5 4) (gd (xin (((24 : Int32) * v3) + (rd u 166 v5.toNatClampNeg)) 480) (if (rd u 161 (((24 : Int32) * v3) + (rd u 166 v5.toNatClampNeg)).toNatClampNeg) ≤ 0 then ((f_X12_areAll_68 (f_X12_areAll_32 k4 u n) k4 u v1 v2 v3 v5 (0 : Int32))) else ((f_X12_areAll_63 (f_X12_areAll_32 k4 u n) k4 u v1 v2 v3 v5))))) else ((f_X12_areAll_63 (f_X12_areAll_32 k4 u n) k4 u v1 v2 v3 v5)))
def f_X12_areAll_27 (k4 : Int32 → Int32 → Int32 → Option Int32) (u : xS) (v1 : Int32) (v2 : Int32) (v3 : Int32) (s0 : Int32) : Option Int32 :=
  (f_X12_areAll_32 k4 u xN v1 v2 v3 s0 (0 : Int32))
def f_X12_areAll_4 (u : xS) : Nat → Int32 → Int32 → Int32 → Option Int32
  | 0, _, _, _ => none
  | n + 1, v1, v2, v3 => if (rd u 135 37) ≤ v3 then (gd (xb v2) (some v2)) else (gd (xin v3 20) (if (rd u 162 v3.toNatClampNeg) = (1 : Int32) then ((f_X12_areAll_27 (f_X12_areAll_4 u n) u v1 v2 v3 (0 : Int32))) else ((f_X12_areAll_27 (f_X12_areAll_4 u n) u v1 v2 v3 (1 : Int32)))))
def f_X12_areAll (u : xS) (v1 : Int32) : Option Int32 :=
  (f_X12_areAll_4 u xN v1 (1 : Int32) (0 : Int32))
def f_X12_in (v0 : Int64) (v2 : Int64) (v4 : Int64) : Int32 :=
  if (lg_cmp v0 v2) < 0 then ((0 : Int32)) else (if 0 < (lg_cmp v0 v4) then ((0 : Int32)) else ((1 : Int32)))
def f_X12_isDay (v0 : Int32) : Int32 :=
  (f_X12_in ((v0).toInt64) (0 : Int64) (99 : Int64))
def f_X12_as (v1 : Int32) (u : xS) : Option (Int32 × xS) :=
  if (f_X12_isDay v1) = 0 then (some ((-1 : Int32), (wr u 135 0 (0 : Int32)))) else (some ((rd u 135 24), (wr (wr u 135 0 (0 : Int32)) 135 24 v1)))
def f_X12_isSort (u : xS) (v1 : Int32) : Int32 :=
  (f_X12_in ((v1).toInt64) (0 : Int64) (((rd u 135 1) - (1 : Int32)).toInt64))
def f_X12_isWeek (v0 : Int32) : Int32 :=
  (f_X12_in ((v0).toInt64) (0 : Int64) (99 : Int64))
def f_X12_priceOf_59 (k5 : Int32 → Int32 → Int32 → Int32 → Option Int32) (u : xS) (v1 : Int32) (v2 : Int32) (v3 : Int32) (v4 : Int32) : Option Int32 :=
  (k5 v1 v2 v3 (v4 + (1 : Int32)))
def f_X12_priceOf_56 (k5 : Int32 → Int32 → Int32 → Int32 → Option Int32) (u : xS) (v1 : Int32) (v2 : Int32) (v4 : Int32) : Option Int32 :=
  (f_X12_priceOf_59 k5 u v1 v2 v4 v4)
def f_X12_priceOf_5 (u : xS) : Nat → Int32 → Int32 → Int32 → Int32 → Option Int32
  | 0, _, _, _, _ => none
  | n + 1, v1, v2, v3, v4 => if (rd u 135 3) ≤ v4 then (if 0 ≤ v3 then (gd (xin v3 60) (some (rd u 139 v3.toNatClampNeg))) else (some (0 : Int32))) else (gd (xin v4 60) (if (rd u 137 v4.toNatClampNeg) = v1 then (if v2 < (rd u 138 v4.toNatClampNeg) then ((f_X12_priceOf_59 (f_X12_priceOf_5 u n) u v1 v2 v3 v4)) else (if v3 < 0 then ((f_X12_priceOf_56 (f_X12_priceOf_5 u n) u v1 v2 v4)) else (gd (xin v3 60) (if (rd u 138 v4.toNatClampNeg) < (rd u 138 v3.toNatClampNeg) then ((f_X12_priceOf_59 (f_X12_priceOf_5 u n) u v1 v2 v3 v4)) else ((f_X12_priceOf_56 (f_X12_priceOf_5 u n) u v1 v2 v4)))))) else ((f_X12_priceOf_59 (f_X12_priceOf_5 u n) u v1 v2 v3 v4))))
def f_X12_priceOf (u : xS) (v1 : Int32) (v2 : Int32) : Option Int32 :=
  (f_X12_priceOf_5 u xN v1 v2 (-1 : Int32) (0 : Int32))
def f_X12_at (v1 : Int32) (v2 : Int32) (u : xS) : Option (Int32 × xS) :=
  if (f_X12_isSort (wr u 135 0 (0 : Int32)) v1) = 0 then (some ((-1 : Int32), (wr u 135 0 (0 : Int32)))) else (if (f_X12_isWeek v2) = 0 then (some ((-1 : Int32), (wr u 135 0 (0 : Int32)))) else ((f_X12_priceOf (wr u 135 0 (0 : Int32)) v1 v2).bind fun x4 => some (x4, (wr u 135 0 (0 : Int32)))))
def f_X12_bale (v1 : Int32) (v2 : Int32) (v3 : Int32) (v4 : Int32) (u : xS) : Option (Int32 × xS) :=
  if (f_X12_in ((v1).toInt64) (0 : Int64) (3 : Int64)) = 0 then (some ((-1 : Int32), (wr u 135 0 (0 : Int32)))) else (if (f_X12_in ((v2).toInt64) (0 : Int64) (7 : Int64)) = 0 then (some ((-1 : Int32), (wr u 135 0 (0 : Int32)))) else (if (f_X12_in ((v3).toInt64) (1 : Int64) (9999 : Int64)) = 0 then (some ((-1 : Int32), (wr u 135 0 (0 : Int32)))) else (if (f_X12_in ((v4).toInt64) (0 : Int64) (999 : Int64)) = 0 then (some ((-1 : Int32), (wr u 135 0 (0 : Int32)))) else (if (rd u 135 7) = (24 : Int32) then (some ((-1 : Int32), (wr u 135 0 (0 : Int32)))) else (gd (xin (rd u 135 7) 24) (some ((((rd u 135 7) + (1 : Int32)) - (1 : Int32)), (wr (wr (wr (wr (wr (wr (wr u 135 0 (0 : Int32)) 140 (rd u 135 7).toNatClampNeg v1) 141 (rd u 135 7).toNatClampNeg v2) 142 (rd u 135 7).toNatClampNeg v3) 143 (rd u 135 7).toNatClampNeg v4) 144 (rd u 135 7).toNatClampNeg (-1 : Int32)) 135 7 ((rd u 135 7) + (1 : Int32))))))))))
def f_X12_blended_4 (u : xS) : Nat → Int32 → Int32 → Int32 → Option Int32
  | 0, _, _, _ => none
  | n + 1, v1, v2, v3 => if (rd u 135 1) ≤ v3 then (some (v2 / (12 : Int32))) else (gd (xin v3 16) (gd (xin (((7 : Int32) * v3) + v1) 112) (((f_X12_blended_4 u n) v1 (v2 + ((rd u 160 v3.toNatClampNeg) * (rd u 136 (((7 : Int32) * v3) + v1).toNatClampNeg))) (v3 + (1 : Int32))))))
def f_X12_blended (u : xS) (v1 : Int32) : Option Int32 :=
  (f_X12_blended_4 u xN v1 (0 : Int32) (0 : Int32))
def f_X12_isSorter (v0 : Int32) : Int32 :=
  (f_X12_in ((v0).toInt64) (0 : Int64) (5 : Int64))
def f_X12_called_164 (k30 : Int32 → Int32 → Int32 → Int32 → Int32 → xS → Option (Int32 × xS)) (v1 : Int32) (v2 : Int32) (v3 : Int32) (v4 : Int32) (v5 : Int32) (u : xS) : Option (Int32 × xS) :=
  (k30 v1 v2 v3 v4 (v5 + (1 : Int32)) u)
def f_X12_called_137 (k45 : Int32 → Int32 → Int32 → Int32 → Int32 → Int32 → Int32 → xS → Option (Int32 × xS)) (k30 : Int32 → Int32 → Int32 → Int32 → Int32 → xS → Option (Int32 × xS)) (v1 : Int32) (v2 : Int32) (v3 : Int32) (v4 : Int32) (v5 : Int32) (v7 : Int32) (s0 : Int32) (s1 : Int32) (s2 : Int32) (u : xS) : Option (Int32 × xS) :=
  (k45 v1 v2 v3 v4 v5 (s0 + (s1 + (f_X12_truth s2))) (v7 + (1 : Int32)) u)
def f_X12_called_136 (k45 : Int32 → Int32 → Int32 → Int32 → Int32 → Int32 → Int32 → xS → Option (Int32 × xS)) (k30 : Int32 → Int32 → Int32 → Int32 → Int32 → xS → Option (Int32 × xS)) (v1 : Int32) (v2 : Int32) (v3 : Int32) (v4 : Int32) (v5 : Int32) (v7 : Int32) (s0 : Int32) (s1 : Int32) (u : xS) : Option (Int32 × xS) :=
  (f_X12_called_137 k45 k30 v1 v2 v3 v4 v5 v7 s0 s1 (0 : Int32) u)
def f_X12_called_95 (k45 : Int32 → Int32 → Int32 → Int32 → Int32 → Int32 → Int32 → xS → Option (Int32 × xS)) (k30 : Int32 → Int32 → Int32 → Int32 → Int32 → xS → Option (Int32 × xS)) (v1 : Int32) (v2 : Int32) (v3 : Int32) (v4 : Int32) (v5 : Int32) (v7 : Int32) (s0 : Int32) (s1 : Int32) (u : xS) : Option (Int32 × xS) :=
  gd (xin v7 99) (if (rd u 168 v7.toNatClampNeg) = v1 then (if (rd u 170 v7.toNatClampNeg) = v2 then (if (rd u 169 v7.toNatClampNeg) = v5 then ((f_X12_called_137 k45 k30 v1 v2 v3 v4 v5 v7 s0 (f_X12_truth s1) (1 : Int32) u)) else ((f_X12_called_136 k45 k30 v1 v2 v3 v4 v5 v7 s0 (f_X12_truth s1) u))) else ((f_X12_called_136 k45 k30 v1 v2 v3 v4 v5 v7 s0 (f_X12_truth s1) u))) else ((f_X12_called_136 k45 k30 v1 v2 v3 v4 v5 v7 s0 (f_X12_truth s1) u)))
def f_X12_called_94 (k45 : Int32 → Int32 → Int32 → Int32 → Int32 → Int32 → Int32 → xS → Option (Int32 × xS)) (k30 : Int32 → Int32 → Int32 → Int32 → Int32 → xS → Option (Int32 × xS)) (v1 : Int32) (v2 : Int32) (v3 : Int32) (v4 : Int32) (v5 : Int32) (v7 : Int32) (s0 : Int32) (u : xS) : Option (Int32 × xS) :=
  (f_X12_called_95 k45 k30 v1 v2 v3 v4 v5 v7 s0 (0 : Int32) u)
def f_X12_called_45 (k30 : Int32 → Int32 → Int32 → Int32 → Int32 → xS → Option (Int32 × xS)) : Nat → Int32 → Int32 → Int32 → Int32 → Int32 → Int32 → Int32 → xS → Option (Int32 × xS)
  | 0, _, _, _, _, _, _, _, _ => none
  | n + 1, v1, v2, v3, v4, v5, v6, v7, u => if (rd u 135 46) ≤ v7 then (if v6 ≤ v4 then ((f_X12_called_164 k30 v1 v2 v3 v4 v5 u)) else ((f_X12_called_164 k30 v1 v2 v5 v6 v5 u))) else (gd (xin v7 99) (if (rd u 167 v7.toNatClampNeg) = v1 then (if (rd u 169 v7.toNatClampNeg) = v2 then (if (rd u 170 v7.toNatClampNeg) = v5 then ((f_X12_called_95 (f_X12_called_45 k30 n) k30 v1 v2 v3 v4 v5 v7 v6 (1 : Int32) u)) else ((f_X12_called_94 (f_X12_called_45 k30 n) k30 v1 v2 v3 v4 v5 v7 v6 u))) else ((f_X12_called_94 (f_X12_called_45 k30 n) k30 v1 v2 v3 v4 v5 v7 v6 u))) else ((f_X12_called_94 (f_X12_called_45 k30 n) k30 v1 v2 v3 v4 v5 v7 v6 u))))
def f_X12_called_30 : Nat → Int32 → Int32 → Int32 → Int32 → Int32 → xS → Option (Int32 × xS)
  | 0, _, _, _, _, _, _ => none
  | n + 1, v1, v2, v3, v4, v5, u => if (rd u 135 1) ≤ v5 then (some (v3, u)) else ((f_X12_called_45 (f_X12_called_30 n) xN v1 v2 v3 v4 v5 (0 : Int32) (0 : Int32) u))
def f_X12_called (v1 : Int32) (v2 : Int32) (u : xS) : Option (Int32 × xS) :=
  if (f_X12_isSorter v1) = 0 then (some ((-1 : Int32), (wr u 135 0 (0 : Int32)))) else (if (f_X12_isSort (wr u 135 0 (0 : Int32)) v2) = 0 then (some ((-1 : Int32), (wr u 135 0 (0 : Int32)))) else ((f_X12_called_30 xN v1 v2 (-1 : Int32) (0 : Int32) (0 : Int32) (wr u 135 0 (0 : Int32)))))
def f_X12_partsInAll_4 (u : xS) : Nat → Int32 → Int32 → Option Int32
  | 0, _, _ => none
  | n + 1, v1, v2 => if (rd u 135 1) ≤ v2 then (some v1) else (gd (xin v2 16) (((f_X12_partsInAll_4 u n) (v1 + (rd u 160 v2.toNatClampNeg)) (v2 + (1 : Int32)))))
def f_X12_partsInAll (u : xS) : Option Int32 :=
  (f_X12_partsInAll_4 u xN (0 : Int32) (0 : Int32))
def f_X12_costOf_4 (u : xS) : Nat → Int32 → Int32 → Int32 → Option Int32
  | 0, _, _, _ => none
  | n + 1, v1, v2, v3 => if (rd u 135 1) ≤ v3 then (some v2) else (gd (xin v3 16) ((f_X12_priceOf u v3 v1).bind fun x4 => ((f_X12_costOf_4 u n) v1 (v2 + ((rd u 160 v3.toNatClampNeg) * x4)) (v3 + (1 : Int32)))))
def f_X12_costOf (u : xS) (v1 : Int32) : Option Int32 :=
  (f_X12_costOf_4 u xN v1 (0 : Int32) (0 : Int32))
def f_X12_cost (v1 : Int32) (u : xS) : Option (Int32 × xS) :=
  if (f_X12_isWeek v1) = 0 then (some ((-1 : Int32), (wr u 135 0 (0 : Int32)))) else ((f_X12_partsInAll (wr u 135 0 (0 : Int32))).bind fun x3 => if x3 = (12 : Int32) then ((f_X12_costOf (wr u 135 0 (0 : Int32)) v1).bind fun x6 => some (x6, (wr u 135 0 (0 : Int32)))) else (some ((-1 : Int32), (wr u 135 0 (0 : Int32)))))
def f_X12_lots_28 (k4 : Int32 → Int32 → Option Int32) (u : xS) (v2 : Int32) (s0 : Int32) (s1 : Int32) : Option Int32 :=
  (k4 (s0 + (f_X12_truth s1)) (v2 + (1 : Int32)))
def f_X12_lots_4 (u : xS) : Nat → Int32 → Int32 → Option Int32
  | 0, _, _ => none
  | n + 1, v1, v2 => if (384 : Int32) ≤ v2 then (some v1) else (gd (xin v2 384) (if (rd u 147 v2.toNatClampNeg) ≤ 0 then ((f_X12_lots_28 (f_X12_lots_4 u n) u v2 v1 (0 : Int32))) else ((f_X12_lots_28 (f_X12_lots_4 u n) u v2 v1 (1 : Int32)))))
def f_X12_lots (u : xS) : Option Int32 :=
  (f_X12_lots_4 u xN (0 : Int32) (0 : Int32))
def f_X12_count (v1 : Int32) (u : xS) : Option (Int32 × xS) :=
  if v1 = (0 : Int32) then (some ((rd u 135 1), (wr u 135 0 (0 : Int32)))) else if v1 = (1 : Int32) then (some ((rd u 135 3), (wr u 135 0 (0 : Int32)))) else if v1 = (2 : Int32) then (some ((rd u 135 7), (wr u 135 0 (0 : Int32)))) else if v1 = (3 : Int32) then (some ((rd u 135 18), (wr u 135 0 (0 : Int32)))) else if v1 = (4 : Int32) then (some ((rd u 135 28), (wr u 135 0 (0 : Int32)))) else if v1 = (5 : Int32) then ((f_X12_lots (wr u 135 0 (0 : Int32))).bind fun x8 => some (x8, (wr u 135 0 (0 : Int32)))) else if v1 = (6 : Int32) then (some ((rd u 135 37), (wr u 135 0 (0 : Int32)))) else if v1 = (7 : Int32) then (some ((rd u 135 46), (wr u 135 0 (0 : Int32)))) else if v1 = (8 : Int32) then (some ((rd u 135 54), (wr u 135 0 (0 : Int32)))) else if v1 = (9 : Int32) then (some ((rd u 135 43), (wr u 135 0 (0 : Int32)))) else if v1 = (10 : Int32) then (some ((rd u 135 32), (wr u 135 0 (0 : Int32)))) else if v1 = (11 : Int32) then (some ((rd u 135 24), (wr u 135 0 (0 : Int32)))) else if v1 = (12 : Int32) then ((f_X12_partsInAll (wr u 135 0 (0 : Int32))).bind fun x17 => some (x17, (wr u 135 0 (0 : Int32)))) else (some ((-1 : Int32), (wr u 135 0 (0 : Int32))))
def f_X12_isBale (u : xS) (v1 : Int32) : Int32 :=
  (f_X12_in ((v1).toInt64) (0 : Int64) (((rd u 135 7) - (1 : Int32)).toInt64))
def f_X12_says (v1 : Int32) (v2 : Int32) (u : xS) : Option xS :=
  (f_J0_indexOf_0f7a4_t0 v1).bind fun x2 => gd (xin x2 16) (some (wr u 158 x2.toNatClampNeg v2))
def f_X12_worked_190 (v4 : Int32) (u : xS) : Option (Int32 × xS) :=
  some ((rd u 157 0), (wr u 135 35 v4))
def f_X12_worked_184 (k5 : Int32 → Int32 → Int32 → xS → Option (Int32 × xS)) (v2 : Int32) (v3 : Int32) (v4 : Int32) (u : xS) : Option (Int32 × xS) :=
  (k5 v2 v3 (v4 + (1 : Int32)) u)
def f_X12_worked_113 (k5 : Int32 → Int32 → Int32 → xS → Option (Int32 × xS)) (v2 : Int32) (v3 : Int32) (v4 : Int32) (s1 : Int32) (s2 : Int32) (u : xS) : Option (Int32 × xS) :=
  gd (xin s1 64) ((f_X12_worked_184 k5 v2 v3 v4 (wr u 157 s1.toNatClampNeg (f_X12_truth s2))))
def f_X12_worked_5 : Nat → Int32 → Int32 → Int32 → xS → Option (Int32 × xS)
  | 0, _, _, _, _ => none
  | n + 1, v2, v3, v4, u => if v2 ≤ v4 then ((f_X12_worked_190 v4 u)) else (gd (xin v4 768) (if (rd u 155 v4.toNatClampNeg) = (-300 : Int32) then ((f_X12_worked_190 v4 u)) else (if (rd u 155 v4.toNatClampNeg) < 0 then (if (rd u 155 v4.toNatClampNeg) < (-16 : Int32) then (if (rd u 155 v4.toNatClampNeg) = (f_X12_act (33 : Int32)) then (gd (xin (v3 - (1 : Int32)) 64) (if (rd u 157 (v3 - (1 : Int32)).toNatClampNeg) = 0 then ((f_X12_worked_113 (f_X12_worked_5 n) v2 v3 v4 (v3 - (1 : Int32)) (1 : Int32) u)) else ((f_X12_worked_113 (f_X12_worked_5 n) v2 v3 v4 (v3 - (1 : Int32)) (0 : Int32) u)))) else (if (rd u 155 v4.toNatClampNeg) = (f_X12_act (126 : Int32)) then (gd (xin (v3 - (1 : Int32)) 64) ((f_X12_worked_184 (f_X12_worked_5 n) v2 v3 v4 (wr u 157 (v3 - (1 : Int32)).toNatClampNeg (-(rd u 157 (v3 - (1 : Int32)).toNatClampNeg)))))) else (gd (xin ((v3 + (-1 : Int32)) - (1 : Int32)) 64) (gd (xin (v3 + (-1 : Int32)) 64) ((f_X12_acted ((rd u 155 v4.toNatClampNeg) + (200 : Int32)) (rd u 157 ((v3 + (-1 : Int32)) - (1 : Int32)).toNatClampNeg) (rd u 157 (v3 + (-1 : Int32)).toNatClampNeg)).bind fun x11 => (f_X12_worked_184 (f_X12_worked_5 n) v2 (v3 + (-1 : Int32)) v4 (wr u 157 ((v3 + (-1 : Int32)) - (1 : Int32)).toNatClampNeg x11))))))) else (gd (xin ((-1 : Int32) - (rd u 155 v4.toNatClampNeg)) 16) (gd (xin v3 64) ((f_X12_worked_184 (f_X12_worked_5 n) v2 (v3 + (1 : Int32)) v4 (wr u 157 v3.toNatClampNeg (rd u 158 ((-1 : Int32) - (rd u 155 v4.toNatClampNeg)).toNatClampNeg))))))) else (gd (xin v3 64) ((f_X12_worked_184 (f_X12_worked_5 n) v2 (v3 + (1 : Int32)) v4 (wr u 157 v3.toNatClampNeg (rd u 155 v4.toNatClampNeg))))))))
def f_X12_worked (v1 : Int32) (v2 : Int32) (u : xS) : Option (Int32 × xS) :=
  (f_X12_worked_5 xN v2 (0 : Int32) v1 u)
def f_X12_value (v1 : Int32) (u : xS) : Option (Int32 × xS) :=
  gd (xin v1 12) ((f_X12_worked ((64 : Int32) * v1) (((64 : Int32) * v1) + (rd u 156 v1.toNatClampNeg)) u).bind fun q5 => some (q5.1, q5.2))
def f_X12_hush_2 : Nat → Int32 → xS → Option xS
  | 0, _, _ => none
  | n + 1, v1, u => if (16 : Int32) ≤ v1 then (some u) else (gd (xin v1 16) (((f_X12_hush_2 n) (v1 + (1 : Int32)) (wr u 158 v1.toNatClampNeg (0 : Int32)))))
def f_X12_hush (u : xS) : Option xS :=
  (f_X12_hush_2 xN (0 : Int32) u)
def f_X12_found_4 (u : xS) : Nat → Int32 → Int32 → Int32 → Option Int32
  | 0, _, _, _ => none
  | n + 1, v1, v2, v3 => if (rd u 135 1) ≤ v3 then (some v2) else (gd (xin (((24 : Int32) * v3) + v1) 384) (((f_X12_found_4 u n) v1 (v2 + (rd u 146 (((24 : Int32) * v3) + v1).toNatClampNeg)) (v3 + (1 : Int32)))))
def f_X12_found (u : xS) (v1 : Int32) : Option Int32 :=
  (f_X12_found_4 u xN v1 (0 : Int32) (0 : Int32))
def f_X12_dust (u : xS) (v1 : Int32) : Option Int32 :=
  gd (xin v1 24) ((f_X12_found u v1).bind fun x3 => some ((rd u 142 v1.toNatClampNeg) - x3))
def f_X12_lookOf_73 (k5 : Int32 → Int32 → Int32 → Int32 → Option Int32) (u : xS) (v1 : Int32) (v2 : Int32) (v3 : Int32) (v4 : Int32) : Option Int32 :=
  (k5 v1 v2 v3 (v4 + (1 : Int32)))
def f_X12_lookOf_70 (k5 : Int32 → Int32 → Int32 → Int32 → Option Int32) (u : xS) (v1 : Int32) (v2 : Int32) (v4 : Int32) : Option Int32 :=
  (f_X12_lookOf_73 k5 u v1 v2 v4 v4)
def f_X12_lookOf_5 (u : xS) : Nat → Int32 → Int32 → Int32 → Int32 → Option Int32
  | 0, _, _, _, _ => none
  | n + 1, v1, v2, v3, v4 => if (rd u 135 18) ≤ v4 then (some v3) else (gd (xin v4 60) (if (rd u 149 v4.toNatClampNeg) = v1 then (if (rd u 150 v4.toNatClampNeg) = v2 then (if (rd u 135 24) < (rd u 151 v4.toNatClampNeg) then ((f_X12_lookOf_73 (f_X12_lookOf_5 u n) u v1 v2 v3 v4)) else (if v3 < 0 then ((f_X12_lookOf_70 (f_X12_lookOf_5 u n) u v1 v2 v4)) else (gd (xin v3 60) (if (rd u 151 v4.toNatClampNeg) < (rd u 151 v3.toNatClampNeg) then ((f_X12_lookOf_73 (f_X12_lookOf_5 u n) u v1 v2 v3 v4)) else ((f_X12_lookOf_70 (f_X12_lookOf_5 u n) u v1 v2 v4)))))) else ((f_X12_lookOf_73 (f_X12_lookOf_5 u n) u v1 v2 v3 v4))) else ((f_X12_lookOf_73 (f_X12_lookOf_5 u n) u v1 v2 v3 v4))))
def f_X12_lookOf (u : xS) (v1 : Int32) (v2 : Int32) : Option Int32 :=
  (f_X12_lookOf_5 u xN v1 v2 (-1 : Int32) (0 : Int32))
def f_X12_offOf_219 (v1 : Int32) (s1 : Int32) (s2 : Int32) (u : xS) : Option (Int32 × xS) :=
  (f_X12_says s1 s2 u).bind fun u2 => gd (xin v1 24) ((f_X12_says (113 : Int32) (rd u2 141 v1.toNatClampNeg) u2).bind fun u5 => (f_X12_value (rd u5 140 v1.toNatClampNeg) u5).bind fun q9 => some ((imax (0 : Int32) (imin (1000 : Int32) q9.1)), q9.2))
def f_X12_offOf_187 (v1 : Int32) (v4 : Int32) (s1 : Int32) (s2 : Int32) (u : xS) : Option (Int32 × xS) :=
  (f_X12_says s1 s2 u).bind fun u2 => gd (xin v1 24) (if 0 ≤ (rd u2 144 v1.toNatClampNeg) then (gd (xnz (rd u2 142 v1.toNatClampNeg)) ((f_X12_offOf_219 v1 (111 : Int32) ((v4 * (1000 : Int32)) / (rd u2 142 v1.toNatClampNeg)) u2))) else ((f_X12_offOf_219 v1 (111 : Int32) (0 : Int32) u2)))
def f_X12_offOf_77 (k35 : Int32 → Int32 → Int32 → Int32 → xS → Option (Int32 × xS)) (v1 : Int32) (v3 : Int32) (v5 : Int32) (s0 : Int32) (s1 : Int32) (u : xS) : Option (Int32 × xS) :=
  (k35 v1 v3 (s0 + s1) (v5 + (1 : Int32)) u)
def f_X12_offOf_35 : Nat → Int32 → Int32 → Int32 → Int32 → xS → Option (Int32 × xS)
  | 0, _, _, _, _, _ => none
  | n + 1, v1, v3, v4, v5, u => if (rd u 135 1) ≤ v5 then (gd (xin v3 60) ((f_X12_hush u).bind fun u4 => gd (xin v1 24) (gd (xnz (rd u4 142 v1.toNatClampNeg)) ((f_X12_says (108 : Int32) (imax (0 : Int32) ((((rd u4 142 v1.toNatClampNeg) - (((rd u 152 v3.toNatClampNeg) * ((1000 : Int32) - (rd u 153 v3.toNatClampNeg))) / (1000 : Int32))) * (1000 : Int32)) / (rd u4 142 v1.toNatClampNeg))) u4).bind fun u8 => (f_X12_says (100 : Int32) (rd u8 153 v3.toNatClampNeg) u8).bind fun u10 => if 0 ≤ (rd u10 144 v1.toNatClampNeg) then ((f_X12_dust u10 v1).bind fun x13 => gd (xnz (rd u10 142 v1.toNatClampNeg)) ((f_X12_offOf_187 v1 v4 (107 : Int32) ((x13 * (1000 : Int32)) / (rd u10 142 v1.toNatClampNeg)) u10))) else ((f_X12_offOf_187 v1 v4 (107 : Int32) (0 : Int32) u10)))))) else (gd (xin (((7 : Int32) * v5) + (5 : Int32)) 112) (if (rd u 136 (((7 : Int32) * v5) + (5 : Int32)).toNatClampNeg) = 0 then (gd (xin (((24 : Int32) * v5) + v1) 384) ((f_X12_offOf_77 (f_X12_offOf_35 n) v1 v3 v5 v4 (rd u 146 (((24 : Int32) * v5) + v1).toNatClampNeg) u))) else ((f_X12_offOf_77 (f_X12_offOf_35 n) v1 v3 v5 v4 (0 : Int32) u))))
def f_X12_offOf (v1 : Int32) (v2 : Int32) (u : xS) : Option (Int32 × xS) :=
  (f_X12_lookOf u v1 v2).bind fun x2 => if 0 ≤ x2 then (gd (xin v1 24) (gd (xin (rd u 140 v1.toNatClampNeg) 12) (if (rd u 154 (rd u 140 v1.toNatClampNeg).toNatClampNeg) = 0 then (some ((0 : Int32), u)) else ((f_X12_offOf_35 xN v1 x2 (0 : Int32) (0 : Int32) u))))) else (some ((-1 : Int32), u))
def f_X12_due_54 (v1 : Int32) (s0 : Int32) (u : xS) : Option (Int32 × xS) :=
  gd (xin v1 24) (some (((((((rd u 142 v1.toNatClampNeg).toInt64) * ((rd u 143 v1.toNatClampNeg).toInt64)) * (((1000 : Int32) - s0).toInt64)) / (1000 : Int64)).toInt32), u))
def f_X12_due_45 (v1 : Int32) (v2 : Int32) (v3 : Int32) (u : xS) : Option (Int32 × xS) :=
  (f_X12_due_54 v1 (imax (0 : Int32) (imax v2 v3)) u)
def f_X12_due (v1 : Int32) (u : xS) : Option (Int32 × xS) :=
  if (f_X12_isBale (wr u 135 0 (0 : Int32)) v1) = 0 then (some ((-1 : Int32), (wr u 135 0 (0 : Int32)))) else ((f_X12_offOf v1 (0 : Int32) (wr u 135 0 (0 : Int32))).bind fun q11 => (f_X12_offOf v1 (1 : Int32) q11.2).bind fun q10 => if q11.1 < 0 then ((f_X12_due_45 v1 q11.1 q10.1 q10.2)) else (if q10.1 < 0 then ((f_X12_due_45 v1 q11.1 q10.1 q10.2)) else ((f_X12_due_54 v1 ((q11.1 + q10.1) / (2 : Int32)) q10.2))))
def f_X12_end (v1 : Int32) (u : xS) : Option (Int32 × xS) :=
  if (f_X12_in ((v1).toInt64) (0 : Int64) ((rd u 135 32).toInt64)) = 0 then (some ((0 : Int32), (wr u 135 0 (0 : Int32)))) else (some ((1 : Int32), (wr (wr u 135 0 (0 : Int32)) 135 32 v1)))
def f_X12_enters (v1 : Int32) (u : xS) : Option xS :=
  gd (xin (rd u 135 43) 48) (some (wr (wr u 165 (rd u 135 43).toNatClampNeg v1) 135 43 ((rd u 135 43) + (1 : Int32))))
def f_X12_entry (v0 : Int32) (v1 : Int32) : Int32 :=
  if v0 = 0 then ((v1.toInt8.toInt32)) else (if v0 = (1 : Int32) then ((v1.toInt16.toInt32)) else (v1))
def f_X12_eyeOf (u : xS) (v1 : Int32) : Option Int32 :=
  (f_X12_alike u v1 (-1 : Int32)).bind fun x2 => some x2
def f_X12_eye (v1 : Int32) (u : xS) : Option (Int32 × xS) :=
  if (f_X12_isSorter v1) = 0 then (some ((-1 : Int32), (wr u 135 0 (0 : Int32)))) else ((f_X12_eyeOf (wr u 135 0 (0 : Int32)) v1).bind fun x3 => some (x3, (wr u 135 0 (0 : Int32))))
def f_X12_isCloth (u : xS) (v1 : Int32) : Int32 :=
  (f_X12_in ((v1).toInt64) (0 : Int64) (((rd u 135 37) - (1 : Int32)).toInt64))
def f_X12_fault (v1 : Int32) (v2 : Int32) (u : xS) : Option (Int32 × xS) :=
  if (f_X12_isCloth (wr u 135 0 (0 : Int32)) v1) = 0 then (some ((-1 : Int32), (wr u 135 0 (0 : Int32)))) else (if (f_X12_in ((v2).toInt64) (0 : Int64) (2 : Int64)) = 0 then (some ((-1 : Int32), (wr u 135 0 (0 : Int32)))) else (gd (xin v1 20) (some ((rd u 162 v1.toNatClampNeg), (wr (wr u 135 0 (0 : Int32)) 162 v1.toNatClampNeg v2)))))
def f_X12_fire_34 (k23 : Int32 → Int32 → Int32 → xS → Option (Int32 × xS)) : Nat → Int32 → Int32 → Int32 → Int32 → xS → Option (Int32 × xS)
  | 0, _, _, _, _, _ => none
  | n + 1, v1, v2, v3, v4, u => if (rd u 135 7) ≤ v4 then ((k23 v1 v2 (v3 + (1 : Int32)) u)) else (gd (xin (((24 : Int32) * v3) + v4) 384) (gd (xin v4 24) (((f_X12_fire_34 k23 n) v1 (v2 + (((((rd u 147 (((24 : Int32) * v3) + v4).toNatClampNeg) * v1) + (1000 : Int32)) - (1 : Int32)) / (1000 : Int32))) v3 (v4 + (1 : Int32)) (wr (wr u 147 (((24 : Int32) * v3) + v4).toNatClampNeg ((rd u 147 (((24 : Int32) * v3) + v4).toNatClampNeg) - (((((rd u 147 (((24 : Int32) * v3) + v4).toNatClampNeg) * v1) + (1000 : Int32)) - (1 : Int32)) / (1000 : Int32)))) 145 v4.toNatClampNeg ((rd u 145 v4.toNatClampNeg) + (((((rd u 147 (((24 : Int32) * v3) + v4).toNatClampNeg) * v1) + (1000 : Int32)) - (1 : Int32)) / (1000 : Int32))))))))
def f_X12_fire_23 : Nat → Int32 → Int32 → Int32 → xS → Option (Int32 × xS)
  | 0, _, _, _, _ => none
  | n + 1, v1, v2, v3, u => if (rd u 135 1) ≤ v3 then (some (v2, u)) else ((f_X12_fire_34 (f_X12_fire_23 n) xN v1 v2 v3 (0 : Int32) u))
def f_X12_fire (v1 : Int32) (u : xS) : Option (Int32 × xS) :=
  if (f_X12_in ((v1).toInt64) (0 : Int64) (1000 : Int64)) = 0 then (some ((-1 : Int32), (wr u 135 0 (0 : Int32)))) else ((f_X12_fire_23 xN v1 (0 : Int32) (0 : Int32) (wr u 135 0 (0 : Int32))))
def f_X12_parent (u : xS) (v1 : Int32) : Option Int32 :=
  gd (xin (((7 : Int32) * v1) + (6 : Int32)) 112) (some (rd u 136 (((7 : Int32) * v1) + (6 : Int32)).toNatClampNeg))
def f_X12_isWithin_20 (u : xS) (v2 : Int32) (v3 : Int32) : Option Int32 :=
  if v3 = v2 then (some (1 : Int32)) else (some (0 : Int32))
def f_X12_isWithin_2 (u : xS) : Nat → Int32 → Int32 → Option Int32
  | 0, _, _ => none
  | n + 1, v2, v3 => if v3 < 0 then ((f_X12_isWithin_20 u v2 v3)) else (if v3 = v2 then ((f_X12_isWithin_20 u v2 v3)) else ((f_X12_parent u v3).bind fun x4 => ((f_X12_isWithin_2 u n) v2 x4)))
def f_X12_isWithin (u : xS) (v1 : Int32) (v2 : Int32) : Option Int32 :=
  (f_X12_isWithin_2 u xN v2 v1)
def f_X12_foretell_212 (k53 : Int32 → Int32 → Int32 → Int32 → Int32 → Int32 → Int32 → xS → Option (Int32 × xS)) (v1 : Int32) (v2 : Int32) (v3 : Int32) (v4 : Int32) (v5 : Int32) (v6 : Int32) (v7 : Int32) (u : xS) : Option (Int32 × xS) :=
  (k53 v1 v2 v3 v4 v5 v6 (v7 + (1 : Int32)) u)
def f_X12_foretell_207 (k53 : Int32 → Int32 → Int32 → Int32 → Int32 → Int32 → Int32 → xS → Option (Int32 × xS)) (v1 : Int32) (v2 : Int32) (v3 : Int32) (v4 : Int32) (v6 : Int32) (v7 : Int32) (s0 : Int32) (u : xS) : Option (Int32 × xS) :=
  (f_X12_foretell_212 k53 v1 v2 v3 v4 s0 (v6 + (1 : Int32)) v7 u)
def f_X12_foretell_188 (k53 : Int32 → Int32 → Int32 → Int32 → Int32 → Int32 → Int32 → xS → Option (Int32 × xS)) (v1 : Int32) (v2 : Int32) (v3 : Int32) (v5 : Int32) (v6 : Int32) (v7 : Int32) (v9 : Int32) (s0 : Int32) (u : xS) : Option (Int32 × xS) :=
  if v6 = 0 then ((f_X12_foretell_207 k53 v1 v2 v3 s0 v6 v7 v9 u)) else ((f_X12_foretell_207 k53 v1 v2 v3 s0 v6 v7 (imax v5 v9) u))
def f_X12_foretell_146 (k108 : Int32 → Int32 → Int32 → Int32 → Int32 → Int32 → Int32 → Int32 → Int32 → xS → Option (Int32 × xS)) (k53 : Int32 → Int32 → Int32 → Int32 → Int32 → Int32 → Int32 → xS → Option (Int32 × xS)) (v1 : Int32) (v2 : Int32) (v3 : Int32) (v4 : Int32) (v5 : Int32) (v6 : Int32) (v7 : Int32) (v9 : Int32) (s0 : Int32) (s1 : Int32) (u : xS) : Option (Int32 × xS) :=
  (k108 v1 v2 v3 v4 v5 v6 v7 (s0 + s1) (v9 + (1 : Int32)) u)
def f_X12_foretell_108 (k53 : Int32 → Int32 → Int32 → Int32 → Int32 → Int32 → Int32 → xS → Option (Int32 × xS)) : Nat → Int32 → Int32 → Int32 → Int32 → Int32 → Int32 → Int32 → Int32 → Int32 → xS → Option (Int32 × xS)
  | 0, _, _, _, _, _, _, _, _, _, _ => none
  | n + 1, v1, v2, v3, v4, v5, v6, v7, v8, v9, u => if (rd u 135 1) ≤ v9 then (gd (xin v7 24) (gd (xnz (rd u 142 v7.toNatClampNeg)) (if v6 = 0 then ((f_X12_foretell_188 k53 v1 v2 v3 v5 v6 v7 ((v8 * (1000 : Int32)) / (rd u 142 v7.toNatClampNeg)) ((v8 * (1000 : Int32)) / (rd u 142 v7.toNatClampNeg)) u)) else ((f_X12_foretell_188 k53 v1 v2 v3 v5 v6 v7 ((v8 * (1000 : Int32)) / (rd u 142 v7.toNatClampNeg)) (imin v4 ((v8 * (1000 : Int32)) / (rd u 142 v7.toNatClampNeg))) u))))) else ((f_X12_isWithin u v9 v3).bind fun x6 => if x6 = 0 then ((f_X12_foretell_146 (f_X12_foretell_108 k53 n) k53 v1 v2 v3 v4 v5 v6 v7 v9 v8 (0 : Int32) u)) else (gd (xin (((24 : Int32) * v9) + v7) 384) ((f_X12_foretell_146 (f_X12_foretell_108 k53 n) k53 v1 v2 v3 v4 v5 v6 v7 v9 v8 (rd u 146 (((24 : Int32) * v9) + v7).toNatClampNeg) u))))
def f_X12_foretell_102 (k53 : Int32 → Int32 → Int32 → Int32 → Int32 → Int32 → Int32 → xS → Option (Int32 × xS)) (v1 : Int32) (v2 : Int32) (v3 : Int32) (v4 : Int32) (v5 : Int32) (v6 : Int32) (v7 : Int32) (u : xS) : Option (Int32 × xS) :=
  (f_X12_foretell_108 k53 xN v1 v2 v3 v4 v5 v6 v7 (0 : Int32) (0 : Int32) u)
def f_X12_foretell_53 : Nat → Int32 → Int32 → Int32 → Int32 → Int32 → Int32 → Int32 → xS → Option (Int32 × xS)
  | 0, _, _, _, _, _, _, _, _ => none
  | n + 1, v1, v2, v3, v4, v5, v6, v7, u => if (rd u 135 7) ≤ v7 then (if v6 = 0 then (some ((-1 : Int32), u)) else ((f_X12_enters v4 (wr u 135 43 (0 : Int32))).bind fun u4 => (f_X12_enters v5 u4).bind fun u6 => (f_X12_enters v6 u6).bind fun u8 => some (v4, u8))) else (gd (xin v7 24) (if (rd u 144 v7.toNatClampNeg) < 0 then ((f_X12_foretell_212 (f_X12_foretell_53 n) v1 v2 v3 v4 v5 v6 v7 u)) else (if (rd u 140 v7.toNatClampNeg) = v1 then (if v2 = (-1 : Int32) then ((f_X12_foretell_102 (f_X12_foretell_53 n) v1 v2 v3 v4 v5 v6 v7 u)) else (if (rd u 141 v7.toNatClampNeg) = v2 then ((f_X12_foretell_102 (f_X12_foretell_53 n) v1 v2 v3 v4 v5 v6 v7 u)) else ((f_X12_foretell_212 (f_X12_foretell_53 n) v1 v2 v3 v4 v5 v6 v7 u)))) else ((f_X12_foretell_212 (f_X12_foretell_53 n) v1 v2 v3 v4 v5 v6 v7 u)))))
def f_X12_foretell (v1 : Int32) (v2 : Int32) (v3 : Int32) (u : xS) : Option (Int32 × xS) :=
  if (f_X12_in ((v1).toInt64) (0 : Int64) (3 : Int64)) = 0 then (some ((-1 : Int32), (wr u 135 0 (0 : Int32)))) else (if (f_X12_in ((v2).toInt64) (-1 : Int64) (7 : Int64)) = 0 then (some ((-1 : Int32), (wr u 135 0 (0 : Int32)))) else (if (f_X12_isSort (wr u 135 0 (0 : Int32)) v3) = 0 then (some ((-1 : Int32), (wr u 135 0 (0 : Int32)))) else ((f_X12_foretell_53 xN v1 v2 v3 (0 : Int32) (0 : Int32) (0 : Int32) (0 : Int32) (wr u 135 0 (0 : Int32))))))
def f_X12_given_44 (u : xS) : Option Int32 :=
  some (-2 : Int32)
def f_X12_given (u : xS) (v1 : Int32) (v2 : Int32) : Option Int32 :=
  gd (xin v2 8) (gd (xin (((16 : Int32) * v1) + (rd u 174 v2.toNatClampNeg)) 64) (gd (xin (((16 : Int32) * v1) + (rd u 176 v2.toNatClampNeg)) 64) (if (rd u 172 (((16 : Int32) * v1) + (rd u 174 v2.toNatClampNeg)).toNatClampNeg) < 0 then ((f_X12_given_44 u)) else (if 0 ≤ (rd u 172 (((16 : Int32) * v1) + (rd u 176 v2.toNatClampNeg)).toNatClampNeg) then (some (((rd u 172 (((16 : Int32) * v1) + (rd u 174 v2.toNatClampNeg)).toNatClampNeg) * (rd u 175 v2.toNatClampNeg)) + ((rd u 172 (((16 : Int32) * v1) + (rd u 176 v2.toNatClampNeg)).toNatClampNeg) * (rd u 177 v2.toNatClampNeg)))) else ((f_X12_given_44 u))))))
def f_X12_isLand (v0 : Int32) : Int32 :=
  (f_X12_in ((v0).toInt64) (0 : Int64) (3 : Int64))
def f_X12_gives (v1 : Int32) (v2 : Int32) (u : xS) : Option (Int32 × xS) :=
  if (f_X12_isLand v1) = 0 then (some ((-1 : Int32), (wr u 135 0 (0 : Int32)))) else (if (f_X12_in ((v2).toInt64) (0 : Int64) (((rd u 135 54) - (1 : Int32)).toInt64)) = 0 then (some ((-1 : Int32), (wr u 135 0 (0 : Int32)))) else ((f_X12_given (wr u 135 0 (0 : Int32)) v1 v2).bind fun x4 => some (x4, (wr u 135 0 (0 : Int32)))))
def f_X12_hadOf_4 (u : xS) : Nat → Int32 → Int32 → Int32 → Option Int32
  | 0, _, _, _ => none
  | n + 1, v1, v2, v3 => if (rd u 135 7) ≤ v3 then (some v2) else (gd (xin (((24 : Int32) * v1) + v3) 384) (((f_X12_hadOf_4 u n) v1 (v2 + (rd u 146 (((24 : Int32) * v1) + v3).toNatClampNeg)) (v3 + (1 : Int32)))))
def f_X12_hadOf (u : xS) (v1 : Int32) : Option Int32 :=
  (f_X12_hadOf_4 u xN v1 (0 : Int32) (0 : Int32))
def f_X12_isClean_44 (k4 : Int32 → Int32 → Int32 → Option Int32) (u : xS) (v1 : Int32) (v3 : Int32) (s0 : Int32) : Option Int32 :=
  (k4 v1 s0 (v3 + (1 : Int32)))
def f_X12_isClean_43 (k4 : Int32 → Int32 → Int32 → Option Int32) (u : xS) (v1 : Int32) (v3 : Int32) : Option Int32 :=
  (f_X12_isClean_44 k4 u v1 v3 (0 : Int32))
def f_X12_isClean_39 (k4 : Int32 → Int32 → Int32 → Option Int32) (u : xS) (v1 : Int32) (v3 : Int32) : Option Int32 :=
  (f_X12_isClean_44 k4 u v1 v3 (1 : Int32))
def f_X12_isClean_4 (u : xS) : Nat → Int32 → Int32 → Int32 → Option Int32
  | 0, _, _, _ => none
  | n + 1, v1, v2, v3 => if (rd u 135 37) ≤ v3 then (gd (xb v2) (some v2)) else (if v2 = 0 then ((f_X12_isClean_43 (f_X12_isClean_4 u n) u v1 v3)) else (gd (xin v3 20) (if (rd u 162 v3.toNatClampNeg) = 0 then (gd (xin (((24 : Int32) * v3) + v1) 480) (if (rd u 161 (((24 : Int32) * v3) + v1).toNatClampNeg) = 0 then ((f_X12_isClean_39 (f_X12_isClean_4 u n) u v1 v3)) else ((f_X12_isClean_43 (f_X12_isClean_4 u n) u v1 v3)))) else ((f_X12_isClean_39 (f_X12_isClean_4 u n) u v1 v3)))))
def f_X12_isClean (u : xS) (v1 : Int32) : Option Int32 :=
  (f_X12_isClean_4 u xN v1 (1 : Int32) (0 : Int32))
def f_X12_stored_4 (u : xS) : Nat → Int32 → Int32 → Int32 → Option Int32
  | 0, _, _, _ => none
  | n + 1, v1, v2, v3 => if (rd u 135 7) ≤ v3 then (some v2) else (gd (xin (((24 : Int32) * v1) + v3) 384) (((f_X12_stored_4 u n) v1 (v2 + (rd u 147 (((24 : Int32) * v1) + v3).toNatClampNeg)) (v3 + (1 : Int32)))))
def f_X12_stored (u : xS) (v1 : Int32) : Option Int32 :=
  (f_X12_stored_4 u xN v1 (0 : Int32) (0 : Int32))
def f_X12_isEnough_40 (k4 : Int32 → Int32 → Int32 → Option Int32) (u : xS) (v1 : Int32) (v3 : Int32) (s0 : Int32) : Option Int32 :=
  (k4 v1 s0 (v3 + (1 : Int32)))
def f_X12_isEnough_39 (k4 : Int32 → Int32 → Int32 → Option Int32) (u : xS) (v1 : Int32) (v3 : Int32) : Option Int32 :=
  (f_X12_isEnough_40 k4 u v1 v3 (0 : Int32))
def f_X12_isEnough_4 (u : xS) : Nat → Int32 → Int32 → Int32 → Option Int32
  | 0, _, _, _ => none
  | n + 1, v1, v2, v3 => if (rd u 135 1) ≤ v3 then (gd (xb v2) (some v2)) else (if v2 = 0 then ((f_X12_isEnough_39 (f_X12_isEnough_4 u n) u v1 v3)) else ((f_X12_stored u v3).bind fun x5 => gd (xin v3 16) (if x5 < ((rd u 160 v3.toNatClampNeg) * (v1 / (12 : Int32))) then ((f_X12_isEnough_39 (f_X12_isEnough_4 u n) u v1 v3)) else ((f_X12_isEnough_40 (f_X12_isEnough_4 u n) u v1 v3 (1 : Int32))))))
def f_X12_isEnough (u : xS) (v1 : Int32) : Option Int32 :=
  (f_X12_isEnough_4 u xN v1 (1 : Int32) (0 : Int32))
def f_X12_isRecipe (u : xS) (v1 : Int32) : Int32 :=
  (f_X12_in ((v1).toInt64) (0 : Int64) (((rd u 135 28) - (1 : Int32)).toInt64))
def f_X12_judged_163 : Nat → Int32 → Int32 → Int32 → xS → Option (Int32 × xS)
  | 0, _, _, _, _ => none
  | n + 1, v4, v5, v6, u => if v5 ≤ v4 then (some ((-1 : Int32), u)) else ((f_X12_worked v4 v5 u).bind fun q6 => if q6.1 = 0 then (some (v6, q6.2)) else (((f_X12_judged_163 n) ((rd q6.2 135 35) + (1 : Int32)) v5 (v6 + (1 : Int32)) q6.2)))
def f_X12_judged_32 (k7 : Int32 → Int32 → Int32 → Int32 → xS → Option (Int32 × xS)) (v1 : Int32) (v3 : Int32) (v4 : Int32) (s0 : Int32) (s1 : Int32) (u : xS) : Option (Int32 × xS) :=
  gd (xin v4 16) ((k7 v1 (s0 + (f_X12_truth s1)) (imax v3 (rd u 160 v4.toNatClampNeg)) (v4 + (1 : Int32)) u))
def f_X12_judged_7 : Nat → Int32 → Int32 → Int32 → Int32 → xS → Option (Int32 × xS)
  | 0, _, _, _, _, _ => none
  | n + 1, v1, v2, v3, v4, u => if (rd u 135 1) ≤ v4 then ((f_X12_hush u).bind fun u3 => (f_X12_blended u3 (0 : Int32)).bind fun x5 => (f_X12_says (114 : Int32) x5 u3).bind fun u7 => (f_X12_blended u7 (1 : Int32)).bind fun x9 => (f_X12_says (103 : Int32) x9 u7).bind fun u11 => (f_X12_blended u11 (2 : Int32)).bind fun x13 => (f_X12_says (98 : Int32) x13 u11).bind fun u15 => (f_X12_blended u15 (3 : Int32)).bind fun x17 => (f_X12_says (115 : Int32) x17 u15).bind fun u19 => (f_X12_blended u19 (4 : Int32)).bind fun x21 => (f_X12_says (119 : Int32) x21 u19).bind fun u23 => (f_X12_blended u23 (5 : Int32)).bind fun x25 => (f_X12_says (118 : Int32) x25 u23).bind fun u27 => (f_X12_says (110 : Int32) v2 u27).bind fun u29 => (f_X12_says (109 : Int32) v3 u29).bind fun u31 => gd (xin ((4 : Int32) + v1) 12) ((f_X12_judged_163 xN ((64 : Int32) * ((4 : Int32) + v1)) (((64 : Int32) * ((4 : Int32) + v1)) + (rd u31 156 ((4 : Int32) + v1).toNatClampNeg)) (0 : Int32) u31))) else (gd (xin v4 16) (if (rd u 160 v4.toNatClampNeg) ≤ 0 then ((f_X12_judged_32 (f_X12_judged_7 n) v1 v3 v4 v2 (0 : Int32) u)) else ((f_X12_judged_32 (f_X12_judged_7 n) v1 v3 v4 v2 (1 : Int32) u))))
def f_X12_judged (v1 : Int32) (u : xS) : Option (Int32 × xS) :=
  (f_X12_judged_7 xN v1 (0 : Int32) (0 : Int32) (0 : Int32) u)
def f_X12_judge (v1 : Int32) (u : xS) : Option (Int32 × xS) :=
  if (f_X12_isRecipe (wr u 135 0 (0 : Int32)) v1) = 0 then (some ((-1 : Int32), (wr u 135 0 (0 : Int32)))) else ((f_X12_partsInAll (wr u 135 0 (0 : Int32))).bind fun x3 => if x3 = (12 : Int32) then ((f_X12_judged v1 (wr u 135 0 (0 : Int32))).bind fun q9 => if 0 ≤ q9.1 then (some (q9.1, q9.2)) else (some ((-2 : Int32), q9.2))) else (some ((-1 : Int32), (wr u 135 0 (0 : Int32)))))
def f_X12_led_64 (k22 : Int32 → Int32 → xS → Option (Int32 × xS)) (v1 : Int32) (v2 : Int32) (u : xS) : Option (Int32 × xS) :=
  (k22 v1 (v2 + (1 : Int32)) u)
def f_X12_led_22 : Nat → Int32 → Int32 → xS → Option (Int32 × xS)
  | 0, _, _, _ => none
  | n + 1, v1, v2, u => if (rd u 135 7) ≤ v2 then (some (((rd u 135 43) / (2 : Int32)), u)) else (gd (xin (((24 : Int32) * v1) + v2) 480) (if (rd u 161 (((24 : Int32) * v1) + v2).toNatClampNeg) ≤ 0 then ((f_X12_led_64 (f_X12_led_22 n) v1 v2 u)) else ((f_X12_enters v2 u).bind fun u5 => (f_X12_enters (rd u5 161 (((24 : Int32) * v1) + v2).toNatClampNeg) u5).bind fun u7 => (f_X12_led_64 (f_X12_led_22 n) v1 v2 u7))))
def f_X12_led (v1 : Int32) (u : xS) : Option (Int32 × xS) :=
  if (f_X12_isCloth (wr u 135 0 (0 : Int32)) v1) = 0 then (some ((-1 : Int32), (wr u 135 0 (0 : Int32)))) else ((f_X12_led_22 xN v1 (0 : Int32) (wr (wr u 135 0 (0 : Int32)) 135 43 (0 : Int32))))
def f_X12_look (v1 : Int32) (v2 : Int32) (v3 : Int32) (v4 : Int32) (v5 : Int32) (u : xS) : Option (Int32 × xS) :=
  if (f_X12_isBale (wr u 135 0 (0 : Int32)) v1) = 0 then (some ((-1 : Int32), (wr u 135 0 (0 : Int32)))) else (if (f_X12_in ((v2).toInt64) (0 : Int64) (1 : Int64)) = 0 then (some ((-1 : Int32), (wr u 135 0 (0 : Int32)))) else (if (f_X12_isDay v3) = 0 then (some ((-1 : Int32), (wr u 135 0 (0 : Int32)))) else (if (f_X12_in ((v4).toInt64) (0 : Int64) (9999 : Int64)) = 0 then (some ((-1 : Int32), (wr u 135 0 (0 : Int32)))) else (if (f_X12_in ((v5).toInt64) (0 : Int64) (1000 : Int64)) = 0 then (some ((-1 : Int32), (wr u 135 0 (0 : Int32)))) else (if (rd u 135 18) = (60 : Int32) then (some ((-1 : Int32), (wr u 135 0 (0 : Int32)))) else (gd (xin (rd u 135 18) 60) (some (((rd u 135 18) + (1 : Int32)), (wr (wr (wr (wr (wr (wr (wr u 135 0 (0 : Int32)) 149 (rd u 135 18).toNatClampNeg v1) 150 (rd u 135 18).toNatClampNeg v2) 151 (rd u 135 18).toNatClampNeg v3) 152 (rd u 135 18).toNatClampNeg v4) 153 (rd u 135 18).toNatClampNeg v5) 135 18 ((rd u 135 18) + (1 : Int32)))))))))))
def f_X12_takesOf_102 (k6 : Int32 → Int32 → Int32 → Int32 → xS → Option xS) (v1 : Int32) (v3 : Int32) (v4 : Int32) (v5 : Int32) (u : xS) : Option xS :=
  (k6 v1 v3 v4 (v5 + (1 : Int32)) u)
def f_X12_takesOf_6 : Nat → Int32 → Int32 → Int32 → Int32 → xS → Option xS
  | 0, _, _, _, _, _ => none
  | n + 1, v1, v3, v4, v5, u => if (rd u 135 16) ≤ v5 then (some u) else (gd (xin v5 24) (gd (xin (((24 : Int32) * v1) + (rd u 148 v5.toNatClampNeg)) 384) (if 0 ≤ v3 then (gd (xin (((24 : Int32) * v3) + (rd u 148 v5.toNatClampNeg)) 480) ((f_X12_takesOf_102 (f_X12_takesOf_6 n) v1 v3 (v4 - (imin v4 (rd u 147 (((24 : Int32) * v1) + (rd u 148 v5.toNatClampNeg)).toNatClampNeg))) v5 (wr (wr u 147 (((24 : Int32) * v1) + (rd u 148 v5.toNatClampNeg)).toNatClampNeg ((rd u 147 (((24 : Int32) * v1) + (rd u 148 v5.toNatClampNeg)).toNatClampNeg) - (imin v4 (rd u 147 (((24 : Int32) * v1) + (rd u 148 v5.toNatClampNeg)).toNatClampNeg)))) 161 (((24 : Int32) * v3) + (rd u 148 v5.toNatClampNeg)).toNatClampNeg ((rd u 161 (((24 : Int32) * v3) + (rd u 148 v5.toNatClampNeg)).toNatClampNeg) + (imin v4 (rd u 147 (((24 : Int32) * v1) + (rd u 148 v5.toNatClampNeg)).toNatClampNeg))))))) else (gd (xin (rd u 148 v5.toNatClampNeg) 24) ((f_X12_takesOf_102 (f_X12_takesOf_6 n) v1 v3 (v4 - (imin v4 (rd u 147 (((24 : Int32) * v1) + (rd u 148 v5.toNatClampNeg)).toNatClampNeg))) v5 (wr (wr u 147 (((24 : Int32) * v1) + (rd u 148 v5.toNatClampNeg)).toNatClampNeg ((rd u 147 (((24 : Int32) * v1) + (rd u 148 v5.toNatClampNeg)).toNatClampNeg) - (imin v4 (rd u 147 (((24 : Int32) * v1) + (rd u 148 v5.toNatClampNeg)).toNatClampNeg)))) 145 (rd u 148 v5.toNatClampNeg).toNatClampNeg ((rd u 145 (rd u 148 v5.toNatClampNeg).toNatClampNeg) + (imin v4 (rd u 147 (((24 : Int32) * v1) + (rd u 148 v5.toNatClampNeg)).toNatClampNeg))))))))))
def f_X12_takesOf (v1 : Int32) (v2 : Int32) (v3 : Int32) (u : xS) : Option xS :=
  (f_X12_takesOf_6 xN v1 v3 v2 (0 : Int32) u)
def f_X12_make_76 : Nat → Int32 → Int32 → xS → Option (Int32 × xS)
  | 0, _, _, _ => none
  | n + 1, v1, v2, u => if (rd u 135 1) ≤ v2 then (some (((rd u 135 37) - (1 : Int32)), u)) else (gd (xin v2 16) ((f_X12_takesOf v2 ((rd u 160 v2.toNatClampNeg) * (v1 / (12 : Int32))) ((rd u 135 37) - (1 : Int32)) u).bind fun u4 => ((f_X12_make_76 n) v1 (v2 + (1 : Int32)) u4)))
def f_X12_make (v1 : Int32) (u : xS) : Option (Int32 × xS) :=
  (f_X12_partsInAll (wr u 135 0 (0 : Int32))).bind fun x2 => if x2 = (12 : Int32) then (if (f_X12_in ((v1).toInt64) (12 : Int64) (9996 : Int64)) = 0 then (some ((-1 : Int32), (wr u 135 0 (0 : Int32)))) else (if (irem v1 (12 : Int32)) = 0 then (if (rd u 135 37) = (20 : Int32) then (some ((-1 : Int32), (wr u 135 0 (0 : Int32)))) else ((f_X12_isEnough (wr u 135 0 (0 : Int32)) v1).bind fun x8 => if x8 = 0 then (some ((-1 : Int32), (wr u 135 0 (0 : Int32)))) else (gd (xin (rd u 135 37) 20) ((f_X12_make_76 xN v1 (0 : Int32) (wr (wr (wr u 135 0 (0 : Int32)) 162 (rd u 135 37).toNatClampNeg (2 : Int32)) 135 37 ((rd u 135 37) + (1 : Int32)))))))) else (some ((-1 : Int32), (wr u 135 0 (0 : Int32)))))) else (some ((-1 : Int32), (wr u 135 0 (0 : Int32))))
def f_X12_met (v1 : Int32) (v2 : Int32) (u : xS) : Option (Int32 × xS) :=
  if (f_X12_isSorter v1) = 0 then (some ((-1 : Int32), (wr u 135 0 (0 : Int32)))) else (if (f_X12_isSorter v2) = 0 then (some ((-1 : Int32), (wr u 135 0 (0 : Int32)))) else (if v1 = v2 then (some ((-1 : Int32), (wr u 135 0 (0 : Int32)))) else ((f_X12_alike (wr u 135 0 (0 : Int32)) v1 v2).bind fun x5 => some (x5, (wr u 135 0 (0 : Int32))))))
def f_X12_mixes_114 (k_X12_mixes : Int32 → Int32 → Int32 → Int32 → Int32 → Int32 → xS → Option xS) (k96 : Int32 → Int32 → Int32 → Int32 → Int32 → Int32 → Int32 → xS → Option xS) (v1 : Int32) (v2 : Int32) (v3 : Int32) (v4 : Int32) (v5 : Int32) (v6 : Int32) (v7 : Int32) (s0 : Int32) (s1 : Int32) (u : xS) : Option xS :=
  if s1 < s0 then (gd (xin v5 16) (some (wr u 160 v5.toNatClampNeg (0 : Int32)))) else (gd (xin v5 16) ((k_X12_mixes v1 v2 v3 v4 (v5 + (1 : Int32)) (v6 - v7) (wr u 160 v5.toNatClampNeg v7)).bind fun u5 => (k96 v1 v2 v3 v4 v5 v6 (v7 + (1 : Int32)) u5)))
def f_X12_mixes_96 (k_X12_mixes : Int32 → Int32 → Int32 → Int32 → Int32 → Int32 → xS → Option xS) : Nat → Int32 → Int32 → Int32 → Int32 → Int32 → Int32 → Int32 → xS → Option xS
  | 0, _, _, _, _, _, _, _, _ => none
  | n + 1, v1, v2, v3, v4, v5, v6, v7, u => if ((v2 >>> (v5 &&& 31)) &&& (1 : Int32)) = (1 : Int32) then ((f_X12_mixes_114 k_X12_mixes (f_X12_mixes_96 k_X12_mixes n) v1 v2 v3 v4 v5 v6 v7 v7 v6 u)) else ((f_X12_mixes_114 k_X12_mixes (f_X12_mixes_96 k_X12_mixes n) v1 v2 v3 v4 v5 v6 v7 v7 (0 : Int32) u))
def f_X12_mixes_63 (k_X12_mixes : Int32 → Int32 → Int32 → Int32 → Int32 → Int32 → xS → Option xS) : Nat → Int32 → xS → Option xS
  | 0, _, _ => none
  | n + 1, v7, u => if (rd u 135 1) ≤ v7 then (some u) else (gd (xin v7 16) (((f_X12_mixes_63 k_X12_mixes n) (v7 + (1 : Int32)) (wr u 164 v7.toNatClampNeg (rd u 160 v7.toNatClampNeg)))))
def f_X12_mixes_50 (k_X12_mixes : Int32 → Int32 → Int32 → Int32 → Int32 → Int32 → xS → Option xS) (v4 : Int32) (u : xS) : Option xS :=
  (f_X12_costOf u v4).bind fun x2 => (f_X12_mixes_63 k_X12_mixes xN (0 : Int32) (wr u 135 42 x2))
def f_X12_mixes (k_X12_mixes : Int32 → Int32 → Int32 → Int32 → Int32 → Int32 → xS → Option xS) (v1 : Int32) (v2 : Int32) (v3 : Int32) (v4 : Int32) (v5 : Int32) (v6 : Int32) (u : xS) : Option xS :=
  if v5 = (rd u 135 1) then (if v6 = 0 then ((f_X12_isEnough u v3).bind fun x4 => if x4 = 0 then (some u) else ((f_X12_judged v1 u).bind fun q14 => if 0 ≤ q14.1 then (some q14.2) else (if (rd q14.2 135 42) < 0 then ((f_X12_mixes_50 k_X12_mixes v4 q14.2)) else ((f_X12_costOf q14.2 v4).bind fun x12 => if (rd q14.2 135 42) ≤ x12 then (some q14.2) else ((f_X12_mixes_50 k_X12_mixes v4 q14.2)))))) else (some u)) else ((f_X12_mixes_96 k_X12_mixes xN v1 v2 v3 v4 v5 v6 (0 : Int32) u))
def fr_mixes : Nat → Int32 → Int32 → Int32 → Int32 → Int32 → Int32 → xS → Option xS
  | 0 => fun _ _ _ _ _ _ _ => none
  | n + 1 => f_X12_mixes (fr_mixes n)
def f_r_X12_mixes : Int32 → Int32 → Int32 → Int32 → Int32 → Int32 → xS → Option xS := fr_mixes 20
def f_J6_bitCount_0f7a4 (v0 : Int32) : Int32 :=
  ((((((((v0 - (((v0.toUInt32 >>> ((1 : Int32).toUInt32 &&& Int32.toUInt32 31)).toInt32) &&& (1431655765 : Int32))) &&& (858993459 : Int32)) + ((((v0 - (((v0.toUInt32 >>> ((1 : Int32).toUInt32 &&& Int32.toUInt32 31)).toInt32) &&& (1431655765 : Int32))).toUInt32 >>> ((2 : Int32).toUInt32 &&& Int32.toUInt32 31)).toInt32) &&& (858993459 : Int32))) + (((((v0 - (((v0.toUInt32 >>> ((1 : Int32).toUInt32 &&& Int32.toUInt32 31)).toInt32) &&& (1431655765 : Int32))) &&& (858993459 : Int32)) + ((((v0 - (((v0.toUInt32 >>> ((1 : Int32).toUInt32 &&& Int32.toUInt32 31)).toInt32) &&& (1431655765 : Int32))).toUInt32 >>> ((2 : Int32).toUInt32 &&& Int32.toUInt32 31)).toInt32) &&& (858993459 : Int32))).toUInt32 >>> ((4 : Int32).toUInt32 &&& Int32.toUInt32 31)).toInt32)) &&& (252645135 : Int32)) + (((((((v0 - (((v0.toUInt32 >>> ((1 : Int32).toUInt32 &&& Int32.toUInt32 31)).toInt32) &&& (1431655765 : Int32))) &&& (858993459 : Int32)) + ((((v0 - (((v0.toUInt32 >>> ((1 : Int32).toUInt32 &&& Int32.toUInt32 31)).toInt32) &&& (1431655765 : Int32))).toUInt32 >>> ((2 : Int32).toUInt32 &&& Int32.toUInt32 31)).toInt32) &&& (858993459 : Int32))) + (((((v0 - (((v0.toUInt32 >>> ((1 : Int32).toUInt32 &&& Int32.toUInt32 31)).toInt32) &&& (1431655765 : Int32))) &&& (858993459 : Int32)) + ((((v0 - (((v0.toUInt32 >>> ((1 : Int32).toUInt32 &&& Int32.toUInt32 31)).toInt32) &&& (1431655765 : Int32))).toUInt32 >>> ((2 : Int32).toUInt32 &&& Int32.toUInt32 31)).toInt32) &&& (858993459 : Int32))).toUInt32 >>> ((4 : Int32).toUInt32 &&& Int32.toUInt32 31)).toInt32)) &&& (252645135 : Int32)).toUInt32 >>> ((8 : Int32).toUInt32 &&& Int32.toUInt32 31)).toInt32)) + ((((((((v0 - (((v0.toUInt32 >>> ((1 : Int32).toUInt32 &&& Int32.toUInt32 31)).toInt32) &&& (1431655765 : Int32))) &&& (858993459 : Int32)) + ((((v0 - (((v0.toUInt32 >>> ((1 : Int32).toUInt32 &&& Int32.toUInt32 31)).toInt32) &&& (1431655765 : Int32))).toUInt32 >>> ((2 : Int32).toUInt32 &&& Int32.toUInt32 31)).toInt32) &&& (858993459 : Int32))) + (((((v0 - (((v0.toUInt32 >>> ((1 : Int32).toUInt32 &&& Int32.toUInt32 31)).toInt32) &&& (1431655765 : Int32))) &&& (858993459 : Int32)) + ((((v0 - (((v0.toUInt32 >>> ((1 : Int32).toUInt32 &&& Int32.toUInt32 31)).toInt32) &&& (1431655765 : Int32))).toUInt32 >>> ((2 : Int32).toUInt32 &&& Int32.toUInt32 31)).toInt32) &&& (858993459 : Int32))).toUInt32 >>> ((4 : Int32).toUInt32 &&& Int32.toUInt32 31)).toInt32)) &&& (252645135 : Int32)) + (((((((v0 - (((v0.toUInt32 >>> ((1 : Int32).toUInt32 &&& Int32.toUInt32 31)).toInt32) &&& (1431655765 : Int32))) &&& (858993459 : Int32)) + ((((v0 - (((v0.toUInt32 >>> ((1 : Int32).toUInt32 &&& Int32.toUInt32 31)).toInt32) &&& (1431655765 : Int32))).toUInt32 >>> ((2 : Int32).toUInt32 &&& Int32.toUInt32 31)).toInt32) &&& (858993459 : Int32))) + (((((v0 - (((v0.toUInt32 >>> ((1 : Int32).toUInt32 &&& Int32.toUInt32 31)).toInt32) &&& (1431655765 : Int32))) &&& (858993459 : Int32)) + ((((v0 - (((v0.toUInt32 >>> ((1 : Int32).toUInt32 &&& Int32.toUInt32 31)).toInt32) &&& (1431655765 : Int32))).toUInt32 >>> ((2 : Int32).toUInt32 &&& Int32.toUInt32 31)).toInt32) &&& (858993459 : Int32))).toUInt32 >>> ((4 : Int32).toUInt32 &&& Int32.toUInt32 31)).toInt32)) &&& (252645135 : Int32)).toUInt32 >>> ((8 : Int32).toUInt32 &&& Int32.toUInt32 31)).toInt32)).toUInt32 >>> ((16 : Int32).toUInt32 &&& Int32.toUInt32 31)).toInt32)) &&& (63 : Int32))
def f_X12_mix_180 (k141 : Int32 → xS → Option (Int32 × xS)) (v6 : Int32) (s1 : Int32) (s2 : Int32) (u : xS) : Option (Int32 × xS) :=
  gd (xin s1 16) ((k141 (v6 + (1 : Int32)) (wr u 160 s1.toNatClampNeg s2)))
def f_X12_mix_141 : Nat → Int32 → xS → Option (Int32 × xS)
  | 0, _, _ => none
  | n + 1, v6, u => if (rd u 135 1) ≤ v6 then (if 0 ≤ (rd u 135 42) then (some ((rd u 135 42), u)) else (some ((-2 : Int32), u))) else (if 0 ≤ (rd u 135 42) then (gd (xin v6 16) ((f_X12_mix_180 (f_X12_mix_141 n) v6 v6 (rd u 164 v6.toNatClampNeg) u))) else (gd (xin v6 16) ((f_X12_mix_180 (f_X12_mix_141 n) v6 v6 (rd u 163 v6.toNatClampNeg) u))))
def f_X12_mix_84 : Nat → Int32 → Int32 → Int32 → Int32 → Int32 → xS → Option (Int32 × xS)
  | 0, _, _, _, _, _, _ => none
  | n + 1, v1, v2, v3, v4, v6, u => if (rd u 135 1) ≤ v6 then ((f_r_X12_mixes v1 v2 v3 v4 (0 : Int32) (12 : Int32) (wr u 135 42 (-1 : Int32))).bind fun u3 => (f_X12_mix_141 xN (0 : Int32) u3)) else (gd (xin v6 16) (((f_X12_mix_84 n) v1 v2 v3 v4 (v6 + (1 : Int32)) (wr (wr u 163 v6.toNatClampNeg (rd u 160 v6.toNatClampNeg)) 160 v6.toNatClampNeg (0 : Int32)))))
def f_X12_mix_72 (v1 : Int32) (v2 : Int32) (v3 : Int32) (v4 : Int32) (s0 : Int32) (u : xS) : Option (Int32 × xS) :=
  if s0 = 0 then (some ((-1 : Int32), u)) else ((f_X12_mix_84 xN v1 v2 v3 v4 (0 : Int32) u))
def f_X12_mix_71 (v1 : Int32) (v2 : Int32) (v3 : Int32) (v4 : Int32) (u : xS) : Option (Int32 × xS) :=
  (f_X12_mix_72 v1 v2 v3 v4 (0 : Int32) u)
def f_X12_mix (v1 : Int32) (v2 : Int32) (v3 : Int32) (v4 : Int32) (u : xS) : Option (Int32 × xS) :=
  if (f_X12_isRecipe (wr u 135 0 (0 : Int32)) v1) = 0 then ((f_X12_mix_71 v1 v2 v3 v4 (wr u 135 0 (0 : Int32)))) else (if (f_X12_in ((v2).toInt64) (1 : Int64) ((((1 : Int32) <<< ((rd u 135 1) &&& 31)) - (1 : Int32)).toInt64)) = 0 then ((f_X12_mix_71 v1 v2 v3 v4 (wr u 135 0 (0 : Int32)))) else (if (6 : Int32) < (f_J6_bitCount_0f7a4 v2) then ((f_X12_mix_71 v1 v2 v3 v4 (wr u 135 0 (0 : Int32)))) else (if (f_X12_in ((v3).toInt64) (0 : Int64) (9996 : Int64)) = 0 then ((f_X12_mix_71 v1 v2 v3 v4 (wr u 135 0 (0 : Int32)))) else (if (irem v3 (12 : Int32)) = 0 then (if (f_X12_isWeek v4) = 0 then ((f_X12_mix_71 v1 v2 v3 v4 (wr u 135 0 (0 : Int32)))) else ((f_X12_mix_72 v1 v2 v3 v4 (1 : Int32) (wr u 135 0 (0 : Int32))))) else ((f_X12_mix_71 v1 v2 v3 v4 (wr u 135 0 (0 : Int32))))))))
def f_X12_moth_19 : Nat → Int32 → Int32 → Int32 → xS → Option (Int32 × xS)
  | 0, _, _, _, _ => none
  | n + 1, v1, v2, v3, u => if (rd u 135 1) ≤ v3 then (gd (xin v1 24) (some (v2, (wr u 145 v1.toNatClampNeg ((rd u 145 v1.toNatClampNeg) + v2))))) else (gd (xin (((24 : Int32) * v3) + v1) 384) (((f_X12_moth_19 n) v1 (v2 + (rd u 147 (((24 : Int32) * v3) + v1).toNatClampNeg)) (v3 + (1 : Int32)) (wr u 147 (((24 : Int32) * v3) + v1).toNatClampNeg (0 : Int32)))))
def f_X12_moth (v1 : Int32) (u : xS) : Option (Int32 × xS) :=
  if (f_X12_isBale (wr u 135 0 (0 : Int32)) v1) = 0 then (some ((-1 : Int32), (wr u 135 0 (0 : Int32)))) else ((f_X12_moth_19 xN v1 (0 : Int32) (0 : Int32) (wr u 135 0 (0 : Int32))))
def f_X12_of_93 (v1 : Int32) (v2 : Int32) (v3 : Int32) (u : xS) : Option (Int32 × xS) :=
  if v2 = (0 : Int32) then (gd (xin v1 24) (some ((rd u 142 v1.toNatClampNeg), u))) else if v2 = (1 : Int32) then (gd (xin v1 24) (if 0 ≤ (rd u 144 v1.toNatClampNeg) then ((f_X12_dust u v1).bind fun x7 => some (x7, u)) else (some ((-1 : Int32), u)))) else if v2 = (2 : Int32) then (gd (xin v1 24) (some ((rd u 144 v1.toNatClampNeg), u))) else if v2 = (3 : Int32) then (some (v3, u)) else if v2 = (4 : Int32) then (some (v3, u)) else if v2 = (5 : Int32) then (gd (xin v1 24) (some ((rd u 145 v1.toNatClampNeg), u))) else (some ((-1 : Int32), u))
def f_X12_of_58 : Nat → Int32 → Int32 → Int32 → Int32 → xS → Option (Int32 × xS)
  | 0, _, _, _, _, _ => none
  | n + 1, v1, v2, v3, v4, u => if (rd u 135 37) ≤ v4 then ((f_X12_of_93 v1 v2 v3 u)) else (if v2 = (4 : Int32) then (gd (xin (((24 : Int32) * v4) + v1) 480) (((f_X12_of_58 n) v1 v2 (v3 + (rd u 161 (((24 : Int32) * v4) + v1).toNatClampNeg)) (v4 + (1 : Int32)) u))) else ((f_X12_of_93 v1 v2 v3 u)))
def f_X12_of_55 (v1 : Int32) (v2 : Int32) (v3 : Int32) (u : xS) : Option (Int32 × xS) :=
  (f_X12_of_58 xN v1 v2 v3 (0 : Int32) u)
def f_X12_of_20 : Nat → Int32 → Int32 → Int32 → Int32 → xS → Option (Int32 × xS)
  | 0, _, _, _, _, _ => none
  | n + 1, v1, v2, v3, v4, u => if (rd u 135 1) ≤ v4 then ((f_X12_of_55 v1 v2 v3 u)) else (if v2 = (3 : Int32) then (gd (xin (((24 : Int32) * v4) + v1) 384) (((f_X12_of_20 n) v1 v2 (v3 + (rd u 147 (((24 : Int32) * v4) + v1).toNatClampNeg)) (v4 + (1 : Int32)) u))) else ((f_X12_of_55 v1 v2 v3 u)))
def f_X12_of (v1 : Int32) (v2 : Int32) (u : xS) : Option (Int32 × xS) :=
  if (f_X12_isBale (wr u 135 0 (0 : Int32)) v1) = 0 then (some ((-1 : Int32), (wr u 135 0 (0 : Int32)))) else ((f_X12_of_20 xN v1 v2 (0 : Int32) (0 : Int32) (wr u 135 0 (0 : Int32))))
def f_X12_off (v1 : Int32) (v2 : Int32) (u : xS) : Option (Int32 × xS) :=
  if (f_X12_isBale (wr u 135 0 (0 : Int32)) v1) = 0 then (some ((-1 : Int32), (wr u 135 0 (0 : Int32)))) else (if (f_X12_in ((v2).toInt64) (0 : Int64) (1 : Int64)) = 0 then (some ((-1 : Int32), (wr u 135 0 (0 : Int32)))) else ((f_X12_offOf v1 v2 (wr u 135 0 (0 : Int32))).bind fun q6 => some (q6.1, q6.2)))
def f_X12_open_162 : Nat → Int32 → Int32 → Int32 → Int32 → Int32 → Int32 → Int32 → xS → Option (Int32 × xS)
  | 0, _, _, _, _, _, _, _, _ => none
  | n + 1, v1, v2, v3, v4, v6, v9, v11, u => if v4 ≤ v11 then (gd (xin v1 24) (gd (xin (rd u 135 16) 24) ((f_X12_dust (wr (wr (wr u 144 v1.toNatClampNeg v2) 148 (rd u 135 16).toNatClampNeg v1) 135 16 ((rd u 135 16) + (1 : Int32))) v1).bind fun x5 => some (x5, (wr (wr (wr u 144 v1.toNatClampNeg v2) 148 (rd u 135 16).toNatClampNeg v1) 135 16 ((rd u 135 16) + (1 : Int32))))))) else (gd (xin (((24 : Int32) * v11) + v1) 384) (((f_X12_open_162 n) v1 v2 v3 v4 v6 (v9 + v6) (v11 + (1 : Int32)) (wr (wr u 146 (((24 : Int32) * v11) + v1).toNatClampNeg (f_X12_entry v3 v9)) 147 (((24 : Int32) * v11) + v1).toNatClampNeg (f_X12_entry v3 v9)))))
def f_X12_open_111 (k81 : Int32 → Int32 → Int32 → Int32 → Int32 → Int32 → Int64 → Int32 → Int32 → Int32 → xS → Option (Int32 × xS)) (v1 : Int32) (v2 : Int32) (v3 : Int32) (v4 : Int32) (v5 : Int32) (v6 : Int32) (v7 : Int64) (v9 : Int32) (v11 : Int32) (v12 : Int32) (s0 : Int32) (u : xS) : Option (Int32 × xS) :=
  (k81 v1 v2 v3 v4 v5 v6 (v7 + ((v12).toInt64)) (v9 + v6) s0 (v11 + (1 : Int32)) u)
def f_X12_open_110 (k81 : Int32 → Int32 → Int32 → Int32 → Int32 → Int32 → Int64 → Int32 → Int32 → Int32 → xS → Option (Int32 × xS)) (v1 : Int32) (v2 : Int32) (v3 : Int32) (v4 : Int32) (v5 : Int32) (v6 : Int32) (v7 : Int64) (v9 : Int32) (v11 : Int32) (v12 : Int32) (u : xS) : Option (Int32 × xS) :=
  (f_X12_open_111 k81 v1 v2 v3 v4 v5 v6 v7 v9 v11 v12 (0 : Int32) u)
def f_X12_open_81 : Nat → Int32 → Int32 → Int32 → Int32 → Int32 → Int32 → Int64 → Int32 → Int32 → Int32 → xS → Option (Int32 × xS)
  | 0, _, _, _, _, _, _, _, _, _, _, _ => none
  | n + 1, v1, v2, v3, v4, v5, v6, v7, v9, v10, v11, u => if v4 ≤ v11 then (if v10 = 0 then (some ((-4 : Int32), u)) else (gd (xin v1 24) (if (lg_cmp v7 ((rd u 142 v1.toNatClampNeg).toInt64)) ≤ 0 then ((f_X12_open_162 xN v1 v2 v3 v4 v6 v5 (0 : Int32) u)) else (some ((-4 : Int32), u))))) else (if v10 = 0 then ((f_X12_open_110 (f_X12_open_81 n) v1 v2 v3 v4 v5 v6 v7 v9 v11 (f_X12_entry v3 v9) u)) else (if (f_X12_entry v3 v9) < 0 then ((f_X12_open_110 (f_X12_open_81 n) v1 v2 v3 v4 v5 v6 v7 v9 v11 (f_X12_entry v3 v9) u)) else ((f_X12_open_111 (f_X12_open_81 n) v1 v2 v3 v4 v5 v6 v7 v9 v11 (f_X12_entry v3 v9) (1 : Int32) u))))
def f_X12_open (v1 : Int32) (v2 : Int32) (v3 : Int32) (v4 : Int32) (v5 : Int32) (v6 : Int32) (u : xS) : Option (Int32 × xS) :=
  if (f_X12_isBale (wr u 135 0 (0 : Int32)) v1) = 0 then (some ((-1 : Int32), (wr u 135 0 (0 : Int32)))) else (if (f_X12_isSorter v2) = 0 then (some ((-1 : Int32), (wr u 135 0 (0 : Int32)))) else (if (f_X12_in ((v3).toInt64) (0 : Int64) (3 : Int64)) = 0 then (some ((-1 : Int32), (wr u 135 0 (0 : Int32)))) else (gd (xin v1 24) (if 0 ≤ (rd u 144 v1.toNatClampNeg) then (some ((-1 : Int32), (wr u 135 0 (0 : Int32)))) else (if v4 ≤ (rd u 135 1) then (if v3 = (3 : Int32) then (some ((-3 : Int32), (wr u 135 0 (0 : Int32)))) else (if 0 ≤ v4 then ((f_X12_open_81 xN v1 v2 v3 v4 v5 v6 (0 : Int64) v5 (1 : Int32) (0 : Int32) (wr u 135 0 (0 : Int32)))) else (some ((-2 : Int32), (wr u 135 0 (0 : Int32)))))) else (some ((-1 : Int32), (wr u 135 0 (0 : Int32)))))))))
def f_X12_pack_190 (u : xS) : Option (Int32 × xS) :=
  some (((rd u 135 54) - (1 : Int32)), u)
def f_X12_pack_148 (v1 : Int32) (v2 : Int32) (v3 : Int32) (v4 : Int32) (s1 : Int32) (s2 : Int32) (u : xS) : Option (Int32 × xS) :=
  gd (xin s1 8) (gd (xin (rd u 135 54) 8) ((f_X12_takesOf v1 v2 (-1 : Int32) (wr (wr (wr u 176 s1.toNatClampNeg s2) 177 (rd u 135 54).toNatClampNeg v4) 135 54 ((rd u 135 54) + (1 : Int32)))).bind fun u4 => if v4 ≤ 0 then ((f_X12_pack_190 u4)) else ((f_X12_takesOf v3 v4 (-1 : Int32) u4).bind fun u7 => (f_X12_pack_190 u7))))
def f_X12_pack_101 (v1 : Int32) (v2 : Int32) (v3 : Int32) (v4 : Int32) (s0 : Int32) (u : xS) : Option (Int32 × xS) :=
  if s0 = 0 then (some ((-1 : Int32), u)) else (gd (xin (rd u 135 54) 8) (if v4 = 0 then ((f_X12_pack_148 v1 v2 v3 v4 (rd u 135 54) v1 (wr (wr u 174 (rd u 135 54).toNatClampNeg v1) 175 (rd u 135 54).toNatClampNeg v2))) else ((f_X12_pack_148 v1 v2 v3 v4 (rd u 135 54) v3 (wr (wr u 174 (rd u 135 54).toNatClampNeg v1) 175 (rd u 135 54).toNatClampNeg v2)))))
def f_X12_pack_100 (v1 : Int32) (v2 : Int32) (v3 : Int32) (v4 : Int32) (u : xS) : Option (Int32 × xS) :=
  (f_X12_pack_101 v1 v2 v3 v4 (0 : Int32) u)
def f_X12_pack_96 (v1 : Int32) (v2 : Int32) (v3 : Int32) (v4 : Int32) (u : xS) : Option (Int32 × xS) :=
  (f_X12_pack_101 v1 v2 v3 v4 (1 : Int32) u)
def f_X12_pack_61 (v1 : Int32) (v2 : Int32) (v3 : Int32) (v4 : Int32) (s0 : Int32) (u : xS) : Option (Int32 × xS) :=
  if s0 = 0 then ((f_X12_pack_100 v1 v2 v3 v4 u)) else (if v4 = 0 then ((f_X12_pack_96 v1 v2 v3 v4 u)) else (if (f_X12_isSort u v3) = 0 then ((f_X12_pack_100 v1 v2 v3 v4 u)) else (if v3 = v1 then ((f_X12_pack_100 v1 v2 v3 v4 u)) else ((f_X12_stored u v3).bind fun x6 => if x6 < v4 then ((f_X12_pack_100 v1 v2 v3 v4 u)) else ((f_X12_pack_96 v1 v2 v3 v4 u))))))
def f_X12_pack_60 (v1 : Int32) (v2 : Int32) (v3 : Int32) (v4 : Int32) (u : xS) : Option (Int32 × xS) :=
  (f_X12_pack_61 v1 v2 v3 v4 (0 : Int32) u)
def f_X12_pack (v1 : Int32) (v2 : Int32) (v3 : Int32) (v4 : Int32) (u : xS) : Option (Int32 × xS) :=
  if (f_X12_isSort (wr u 135 0 (0 : Int32)) v1) = 0 then ((f_X12_pack_60 v1 v2 v3 v4 (wr u 135 0 (0 : Int32)))) else (if (f_X12_in ((v2).toInt64) (1 : Int64) (9999 : Int64)) = 0 then ((f_X12_pack_60 v1 v2 v3 v4 (wr u 135 0 (0 : Int32)))) else (if (f_X12_in ((v4).toInt64) (0 : Int64) (9999 : Int64)) = 0 then ((f_X12_pack_60 v1 v2 v3 v4 (wr u 135 0 (0 : Int32)))) else ((f_X12_stored (wr u 135 0 (0 : Int32)) v1).bind fun x5 => if x5 < v2 then ((f_X12_pack_60 v1 v2 v3 v4 (wr u 135 0 (0 : Int32)))) else (if (8 : Int32) ≤ (rd u 135 54) then ((f_X12_pack_60 v1 v2 v3 v4 (wr u 135 0 (0 : Int32)))) else ((f_X12_pack_61 v1 v2 v3 v4 (1 : Int32) (wr u 135 0 (0 : Int32))))))))
def f_X12_part (v1 : Int32) (v2 : Int32) (u : xS) : Option (Int32 × xS) :=
  if (f_X12_isSort (wr u 135 0 (0 : Int32)) v1) = 0 then (some ((-1 : Int32), (wr u 135 0 (0 : Int32)))) else (if (f_X12_in ((v2).toInt64) (0 : Int64) (12 : Int64)) = 0 then (some ((-1 : Int32), (wr u 135 0 (0 : Int32)))) else (gd (xin v1 16) ((f_X12_partsInAll (wr (wr u 135 0 (0 : Int32)) 160 v1.toNatClampNeg v2)).bind fun x5 => some (x5, (wr (wr u 135 0 (0 : Int32)) 160 v1.toNatClampNeg v2)))))
def f_X12_pay_132 (s1 : Int32) (s2 : Int32) (u : xS) : Option (Int32 × xS) :=
  (f_X12_says s1 s2 u).bind fun u2 => (f_X12_value (10 : Int32) u2).bind fun q6 => some (q6.1, q6.2)
def f_X12_pay_77 (k36 : Int32 → Int32 → Int32 → Int32 → Int32 → xS → Option (Int32 × xS)) (v1 : Int32) (v2 : Int32) (v3 : Int32) (v4 : Int32) (v5 : Int32) (u : xS) : Option (Int32 × xS) :=
  (k36 v1 v2 v3 v4 (v5 + (1 : Int32)) u)
def f_X12_pay_36 : Nat → Int32 → Int32 → Int32 → Int32 → Int32 → xS → Option (Int32 × xS)
  | 0, _, _, _, _, _, _ => none
  | n + 1, v1, v2, v3, v4, v5, u => if (rd u 135 7) ≤ v5 then ((f_X12_eyeOf u v1).bind fun x3 => (f_X12_hush u).bind fun u5 => (f_X12_says (112 : Int32) v2 u5).bind fun u7 => (f_X12_says (122 : Int32) v3 u7).bind fun u9 => (f_X12_says (110 : Int32) v4 u9).bind fun u11 => if 0 ≤ x3 then ((f_X12_pay_132 (101 : Int32) x3 u11)) else ((f_X12_pay_132 (101 : Int32) (1000 : Int32) u11))) else (gd (xin v5 24) (if (rd u 144 v5.toNatClampNeg) = v1 then ((f_X12_found u v5).bind fun x16 => (f_X12_dust u v5).bind fun x18 => (f_X12_pay_77 (f_X12_pay_36 n) v1 (v2 + x16) (v3 + x18) (v4 + (1 : Int32)) v5 u)) else ((f_X12_pay_77 (f_X12_pay_36 n) v1 v2 v3 v4 v5 u))))
def f_X12_pay (v1 : Int32) (u : xS) : Option (Int32 × xS) :=
  if (f_X12_isSorter v1) = 0 then (some ((-1 : Int32), (wr u 135 0 (0 : Int32)))) else (if (rd u 154 10) = 0 then (some ((0 : Int32), (wr u 135 0 (0 : Int32)))) else ((f_X12_pay_36 xN v1 (0 : Int32) (0 : Int32) (0 : Int32) (0 : Int32) (wr u 135 0 (0 : Int32)))))
def f_X12_price (v1 : Int32) (v2 : Int32) (v3 : Int32) (u : xS) : Option (Int32 × xS) :=
  if (f_X12_isSort (wr u 135 0 (0 : Int32)) v1) = 0 then (some ((-1 : Int32), (wr u 135 0 (0 : Int32)))) else (if (f_X12_isWeek v2) = 0 then (some ((-1 : Int32), (wr u 135 0 (0 : Int32)))) else (if (f_X12_in ((v3).toInt64) (0 : Int64) (999 : Int64)) = 0 then (some ((-1 : Int32), (wr u 135 0 (0 : Int32)))) else (if (rd u 135 3) = (60 : Int32) then (some ((-1 : Int32), (wr u 135 0 (0 : Int32)))) else (gd (xin (rd u 135 3) 60) (some (((rd u 135 3) + (1 : Int32)), (wr (wr (wr (wr (wr u 135 0 (0 : Int32)) 137 (rd u 135 3).toNatClampNeg v1) 138 (rd u 135 3).toNatClampNeg v2) 139 (rd u 135 3).toNatClampNeg v3) 135 3 ((rd u 135 3) + (1 : Int32)))))))))
def f_X12_refuse (u : xS) : Option (Int32 × xS) :=
  some ((0 : Int32), (wr u 135 0 (1 : Int32)))
def f_X12_ring_149 (k129 : Int32 → xS → Option (Int32 × xS)) (v3 : Int32) (u : xS) : Option (Int32 × xS) :=
  (k129 (v3 + (1 : Int32)) u)
def f_X12_ring_129 : Nat → Int32 → xS → Option (Int32 × xS)
  | 0, _, _ => none
  | n + 1, v3, u => if (6 : Int32) ≤ v3 then (some ((rd u 135 43), u)) else (gd (xin v3 6) (if (rd u 171 v3.toNatClampNeg) = 0 then ((f_X12_ring_149 (f_X12_ring_129 n) v3 u)) else ((f_X12_enters v3 u).bind fun u5 => (f_X12_ring_149 (f_X12_ring_129 n) v3 u5))))
def f_X12_ring_113 (k54 : Int32 → Int32 → xS → Option (Int32 × xS)) (k46 : Int32 → xS → Option (Int32 × xS)) (v2 : Int32) (v3 : Int32) (u : xS) : Option (Int32 × xS) :=
  (k54 v2 (v3 + (1 : Int32)) u)
def f_X12_ring_54 (k46 : Int32 → xS → Option (Int32 × xS)) : Nat → Int32 → Int32 → xS → Option (Int32 × xS)
  | 0, _, _, _ => none
  | n + 1, v2, v3, u => if (rd u 135 46) ≤ v3 then ((k46 v2 u)) else (gd (xin v3 99) (gd (xin (rd u 167 v3.toNatClampNeg) 6) (gd (xin (rd u 168 v3.toNatClampNeg) 6) (if (rd u 171 (rd u 167 v3.toNatClampNeg).toNatClampNeg) = (rd u 171 (rd u 168 v3.toNatClampNeg).toNatClampNeg) then ((f_X12_ring_113 (f_X12_ring_54 k46 n) k46 v2 v3 u)) else ((f_X12_ring_113 (f_X12_ring_54 k46 n) k46 (1 : Int32) v3 (wr (wr u 171 (rd u 167 v3.toNatClampNeg).toNatClampNeg (1 : Int32)) 171 (rd u 168 v3.toNatClampNeg).toNatClampNeg (1 : Int32))))))))
def f_X12_ring_46 : Nat → Int32 → xS → Option (Int32 × xS)
  | 0, _, _ => none
  | n + 1, v2, u => if v2 = 0 then ((f_X12_ring_129 xN (0 : Int32) (wr u 135 43 (0 : Int32)))) else ((f_X12_ring_54 (f_X12_ring_46 n) xN (0 : Int32) (0 : Int32) u))
def f_X12_ring_37 (k16 : Int32 → Int32 → xS → Option (Int32 × xS)) (v1 : Int32) (v2 : Int32) (s1 : Int32) (s2 : Int32) (u : xS) : Option (Int32 × xS) :=
  gd (xin s1 6) (gd (xb s2) ((k16 v1 (v2 + (1 : Int32)) (wr u 171 s1.toNatClampNeg s2))))
def f_X12_ring_16 : Nat → Int32 → Int32 → xS → Option (Int32 × xS)
  | 0, _, _, _ => none
  | n + 1, v1, v2, u => if (6 : Int32) ≤ v2 then ((f_X12_ring_46 xN (1 : Int32) u)) else (if v2 = v1 then ((f_X12_ring_37 (f_X12_ring_16 n) v1 v2 v2 (1 : Int32) u)) else ((f_X12_ring_37 (f_X12_ring_16 n) v1 v2 v2 (0 : Int32) u)))
def f_X12_ring (v1 : Int32) (u : xS) : Option (Int32 × xS) :=
  if (f_X12_isSorter v1) = 0 then (some ((-1 : Int32), (wr u 135 0 (0 : Int32)))) else ((f_X12_ring_16 xN v1 (0 : Int32) (wr u 135 0 (0 : Int32))))
def f_X12_row (v1 : Int32) (u : xS) : Option (Int32 × xS) :=
  if (f_X12_in ((v1).toInt64) (0 : Int64) (((rd u 135 43) - (1 : Int32)).toInt64)) = 0 then ((f_X12_refuse (wr u 135 0 (0 : Int32))).bind fun q5 => some (q5.1, q5.2)) else (gd (xin v1 48) (some ((rd u 165 v1.toNatClampNeg), (wr u 135 0 (0 : Int32)))))
def f_X12_shares_126 (k_X12_shares : Int32 → Int32 → xS → Option xS) (k52 : Int32 → Int32 → Int32 → xS → Option xS) (v1 : Int32) (v2 : Int32) (v3 : Int32) (u : xS) : Option xS :=
  (k52 v1 v2 (v3 + (1 : Int32)) u)
def f_X12_shares_52 (k_X12_shares : Int32 → Int32 → xS → Option xS) : Nat → Int32 → Int32 → Int32 → xS → Option xS
  | 0, _, _, _, _ => none
  | n + 1, v1, v2, v3, u => if (4 : Int32) ≤ v3 then (gd (xin v1 8) ((k_X12_shares (v1 + (1 : Int32)) v2 (wr u 178 v1.toNatClampNeg (-1 : Int32))).bind fun u4 => some u4)) else ((f_X12_given u v3 v1).bind fun x6 => if x6 < 0 then ((f_X12_shares_126 k_X12_shares (f_X12_shares_52 k_X12_shares n) v1 v2 v3 u)) else (gd (xin v3 4) (if (rd u 180 v3.toNatClampNeg) = (rd u 173 v3.toNatClampNeg) then ((f_X12_shares_126 k_X12_shares (f_X12_shares_52 k_X12_shares n) v1 v2 v3 u)) else (gd (xin v1 8) ((k_X12_shares (v1 + (1 : Int32)) (v2 + x6) (wr (wr u 180 v3.toNatClampNeg ((rd u 180 v3.toNatClampNeg) + (1 : Int32))) 178 v1.toNatClampNeg v3)).bind fun u12 => (f_X12_shares_126 k_X12_shares (f_X12_shares_52 k_X12_shares n) v1 v2 v3 (wr u12 180 v3.toNatClampNeg ((rd u12 180 v3.toNatClampNeg) - (1 : Int32)))))))))
def f_X12_shares_23 (k_X12_shares : Int32 → Int32 → xS → Option xS) : Nat → Int32 → xS → Option xS
  | 0, _, _ => none
  | n + 1, v3, u => if (rd u 135 54) ≤ v3 then (some u) else (gd (xin v3 8) (((f_X12_shares_23 k_X12_shares n) (v3 + (1 : Int32)) (wr u 179 v3.toNatClampNeg (rd u 178 v3.toNatClampNeg)))))
def f_X12_shares (k_X12_shares : Int32 → Int32 → xS → Option xS) (v1 : Int32) (v2 : Int32) (u : xS) : Option xS :=
  if v1 = (rd u 135 54) then (if v2 ≤ (rd u 135 62) then (some u) else ((f_X12_shares_23 k_X12_shares xN (0 : Int32) (wr u 135 62 v2)))) else ((f_X12_shares_52 k_X12_shares xN v1 v2 (0 : Int32) u))
def fr_shares : Nat → Int32 → Int32 → xS → Option xS
  | 0 => fun _ _ _ => none
  | n + 1 => f_X12_shares (fr_shares n)
def f_r_X12_shares : Int32 → Int32 → xS → Option xS := fr_shares 12
def f_X12_share_23 : Nat → Int32 → xS → Option (Int32 × xS)
  | 0, _, _ => none
  | n + 1, v1, u => if (rd u 135 54) ≤ v1 then (some ((rd u 135 62), u)) else (gd (xin v1 8) ((f_X12_enters (rd u 179 v1.toNatClampNeg) u).bind fun u4 => ((f_X12_share_23 n) (v1 + (1 : Int32)) u4)))
def f_X12_share (u : xS) : Option (Int32 × xS) :=
  (f_r_X12_shares (0 : Int32) (0 : Int32) (wr (wr u 135 0 (0 : Int32)) 135 62 (-1 : Int32))).bind fun u2 => (f_X12_share_23 xN (0 : Int32) (wr u2 135 43 (0 : Int32)))
def f_X12_sign_18 : Nat → Int32 → Int32 → xS → Option (Int32 × xS)
  | 0, _, _, _ => none
  | n + 1, v1, v2, u => if (4 : Int32) ≤ v2 then (some (((rd u 135 32) + (4 : Int32)), (wr u 135 32 ((rd u 135 32) + (4 : Int32))))) else (gd (xin ((rd u 135 32) + v2) 100) (((f_X12_sign_18 n) v1 (v2 + (1 : Int32)) (wr u 159 ((rd u 135 32) + v2).toNatClampNeg ((v1 >>> (((24 : Int32) - ((8 : Int32) * v2)) &&& 31)) &&& (255 : Int32))))))
def f_X12_sign (v1 : Int32) (u : xS) : Option (Int32 × xS) :=
  if (rd u 135 32) ≤ (96 : Int32) then ((f_X12_sign_18 xN v1 (0 : Int32) (wr u 135 0 (0 : Int32)))) else (some ((-1 : Int32), (wr u 135 0 (0 : Int32))))
def f_X12_sort_109 (v1 : Int32) (v2 : Int32) (v3 : Int32) (v4 : Int32) (v5 : Int32) (v6 : Int32) (v7 : Int32) (u : xS) : Option (Int32 × xS) :=
  if (rd u 135 1) = (16 : Int32) then (some ((-1 : Int32), u)) else (gd (xin ((7 : Int32) * (rd u 135 1)) 112) (gd (xin (((7 : Int32) * (rd u 135 1)) + (1 : Int32)) 112) (gd (xin (((7 : Int32) * (rd u 135 1)) + (2 : Int32)) 112) (gd (xin (((7 : Int32) * (rd u 135 1)) + (3 : Int32)) 112) (gd (xin (((7 : Int32) * (rd u 135 1)) + (4 : Int32)) 112) (gd (xin (((7 : Int32) * (rd u 135 1)) + (5 : Int32)) 112) (gd (xin (((7 : Int32) * (rd u 135 1)) + (6 : Int32)) 112) (some ((((rd u 135 1) + (1 : Int32)) - (1 : Int32)), (wr (wr (wr (wr (wr (wr (wr (wr u 136 ((7 : Int32) * (rd u 135 1)).toNatClampNeg v1) 136 (((7 : Int32) * (rd u 135 1)) + (1 : Int32)).toNatClampNeg v2) 136 (((7 : Int32) * (rd u 135 1)) + (2 : Int32)).toNatClampNeg v3) 136 (((7 : Int32) * (rd u 135 1)) + (3 : Int32)).toNatClampNeg v4) 136 (((7 : Int32) * (rd u 135 1)) + (4 : Int32)).toNatClampNeg v5) 136 (((7 : Int32) * (rd u 135 1)) + (5 : Int32)).toNatClampNeg v6) 136 (((7 : Int32) * (rd u 135 1)) + (6 : Int32)).toNatClampNeg v7) 135 1 ((rd u 135 1) + (1 : Int32))))))))))))
def f_X12_sort_87 (v1 : Int32) (v2 : Int32) (v3 : Int32) (v4 : Int32) (v5 : Int32) (v6 : Int32) (v7 : Int32) (s0 : Int32) (u : xS) : Option (Int32 × xS) :=
  if s0 = 0 then (some ((-1 : Int32), u)) else (if v7 = (-1 : Int32) then ((f_X12_sort_109 v1 v2 v3 v4 v5 v6 v7 u)) else (if (f_X12_isSort u v7) = 0 then (some ((-1 : Int32), u)) else ((f_X12_sort_109 v1 v2 v3 v4 v5 v6 v7 u))))
def f_X12_sort_86 (v1 : Int32) (v2 : Int32) (v3 : Int32) (v4 : Int32) (v5 : Int32) (v6 : Int32) (v7 : Int32) (u : xS) : Option (Int32 × xS) :=
  (f_X12_sort_87 v1 v2 v3 v4 v5 v6 v7 (0 : Int32) u)
def f_X12_sort (v1 : Int32) (v2 : Int32) (v3 : Int32) (v4 : Int32) (v5 : Int32) (v6 : Int32) (v7 : Int32) (u : xS) : Option (Int32 × xS) :=
  if (f_X12_in ((v1).toInt64) (0 : Int64) (255 : Int64)) = 0 then ((f_X12_sort_86 v1 v2 v3 v4 v5 v6 v7 (wr u 135 0 (0 : Int32)))) else (if (f_X12_in ((v2).toInt64) (0 : Int64) (255 : Int64)) = 0 then ((f_X12_sort_86 v1 v2 v3 v4 v5 v6 v7 (wr u 135 0 (0 : Int32)))) else (if (f_X12_in ((v3).toInt64) (0 : Int64) (255 : Int64)) = 0 then ((f_X12_sort_86 v1 v2 v3 v4 v5 v6 v7 (wr u 135 0 (0 : Int32)))) else (if (f_X12_in ((v4).toInt64) (1 : Int64) (99 : Int64)) = 0 then ((f_X12_sort_86 v1 v2 v3 v4 v5 v6 v7 (wr u 135 0 (0 : Int32)))) else (if (f_X12_in ((v5).toInt64) (0 : Int64) (1000 : Int64)) = 0 then ((f_X12_sort_86 v1 v2 v3 v4 v5 v6 v7 (wr u 135 0 (0 : Int32)))) else (if (f_X12_in ((v6).toInt64) ((v5).toInt64) (1000 : Int64)) = 0 then ((f_X12_sort_86 v1 v2 v3 v4 v5 v6 v7 (wr u 135 0 (0 : Int32)))) else ((f_X12_sort_87 v1 v2 v3 v4 v5 v6 v7 (1 : Int32) (wr u 135 0 (0 : Int32)))))))))
def f_X12_split_20 (u : xS) : Option (Int32 × xS) :=
  (f_X12_refuse u).bind fun q4 => some (q4.1, q4.2)
def f_X12_split_150 (k104 : Int32 → Int32 → Int64 → Int64 → Int64 → Int32 → xS → Option (Int32 × xS)) (v1 : Int32) (v2 : Int32) (v3 : Int64) (v5 : Int64) (v9 : Int32) (s0 : Int64) (s1 : Int64) (u : xS) : Option (Int32 × xS) :=
  (k104 v1 v2 v3 v5 (s0 + s1) (v9 + (1 : Int32)) u)
def f_X12_split_104 : Nat → Int32 → Int32 → Int64 → Int64 → Int64 → Int32 → xS → Option (Int32 × xS)
  | 0, _, _, _, _, _, _, _ => none
  | n + 1, v1, v2, v3, v5, v7, v9, u => if (rd u 135 1) ≤ v9 then (some ((v7.toInt32), u)) else ((f_X12_parent u v9).bind fun x3 => if x3 = v1 then ((f_X12_hadOf u v9).bind fun x6 => gd (xnzJ v3) ((f_X12_priceOf u v9 v2).bind fun x9 => (f_X12_split_150 (f_X12_split_104 n) v1 v2 v3 v5 v9 v7 (((v5 * ((x6).toInt64)) / v3) * ((x9).toInt64)) u))) else ((f_X12_split_150 (f_X12_split_104 n) v1 v2 v3 v5 v9 v7 (0 : Int64) u)))
def f_X12_split_61 (k30 : Int32 → Int32 → Int64 → Int32 → xS → Option (Int32 × xS)) (v1 : Int32) (v2 : Int32) (v5 : Int32) (s0 : Int64) (s1 : Int64) (u : xS) : Option (Int32 × xS) :=
  (k30 v1 v2 (s0 + s1) (v5 + (1 : Int32)) u)
def f_X12_split_30 : Nat → Int32 → Int32 → Int64 → Int32 → xS → Option (Int32 × xS)
  | 0, _, _, _, _, _ => none
  | n + 1, v1, v2, v3, v5, u => if (rd u 135 1) ≤ v5 then (if (lg_cmp v3 (0 : Int64)) = 0 then ((f_X12_refuse u).bind fun q10 => some (q10.1, q10.2)) else ((f_X12_stored u v1).bind fun x4 => (f_X12_priceOf u v1 v2).bind fun x6 => (f_X12_split_104 xN v1 v2 v3 ((x4).toInt64) ((-((x4).toInt64)) * ((x6).toInt64)) (0 : Int32) u))) else ((f_X12_parent u v5).bind fun x12 => if x12 = v1 then ((f_X12_hadOf u v5).bind fun x15 => (f_X12_split_61 (f_X12_split_30 n) v1 v2 v5 v3 ((x15).toInt64) u)) else ((f_X12_split_61 (f_X12_split_30 n) v1 v2 v5 v3 (0 : Int64) u)))
def f_X12_split (v1 : Int32) (v2 : Int32) (u : xS) : Option (Int32 × xS) :=
  if (f_X12_isSort (wr u 135 0 (0 : Int32)) v1) = 0 then ((f_X12_split_20 (wr u 135 0 (0 : Int32)))) else (if (f_X12_isWeek v2) = 0 then ((f_X12_split_20 (wr u 135 0 (0 : Int32)))) else ((f_X12_split_30 xN v1 v2 (0 : Int64) (0 : Int32) (wr u 135 0 (0 : Int32)))))
def f_X12_store_71 (k30 : Int32 → Int32 → Int32 → Int32 → xS → Option (Int32 × xS)) (v1 : Int32) (v2 : Int32) (v4 : Int32) (s0 : Int32) (s1 : Int32) (u : xS) : Option (Int32 × xS) :=
  (k30 v1 v2 (s0 + s1) (v4 + (1 : Int32)) u)
def f_X12_store_61 (k30 : Int32 → Int32 → Int32 → Int32 → xS → Option (Int32 × xS)) (v1 : Int32) (v2 : Int32) (v4 : Int32) (s0 : Int32) (u : xS) : Option (Int32 × xS) :=
  (f_X12_stored u v4).bind fun x2 => (f_X12_store_71 k30 v1 v2 v4 s0 x2 u)
def f_X12_store_70 (k30 : Int32 → Int32 → Int32 → Int32 → xS → Option (Int32 × xS)) (v1 : Int32) (v2 : Int32) (v4 : Int32) (s0 : Int32) (u : xS) : Option (Int32 × xS) :=
  (f_X12_store_71 k30 v1 v2 v4 s0 (0 : Int32) u)
def f_X12_store_30 : Nat → Int32 → Int32 → Int32 → Int32 → xS → Option (Int32 × xS)
  | 0, _, _, _, _, _ => none
  | n + 1, v1, v2, v3, v4, u => if (rd u 135 1) ≤ v4 then (some (v3, u)) else (if v4 = v1 then ((f_X12_store_61 (f_X12_store_30 n) v1 v2 v4 v3 u)) else (if v2 = (1 : Int32) then ((f_X12_isWithin u v4 v1).bind fun x5 => if x5 = 0 then ((f_X12_store_70 (f_X12_store_30 n) v1 v2 v4 v3 u)) else ((f_X12_store_61 (f_X12_store_30 n) v1 v2 v4 v3 u))) else ((f_X12_store_70 (f_X12_store_30 n) v1 v2 v4 v3 u))))
def f_X12_store (v1 : Int32) (v2 : Int32) (u : xS) : Option (Int32 × xS) :=
  if (f_X12_isSort (wr u 135 0 (0 : Int32)) v1) = 0 then (some ((-1 : Int32), (wr u 135 0 (0 : Int32)))) else (if (f_X12_in ((v2).toInt64) (0 : Int64) (1 : Int64)) = 0 then (some ((-1 : Int32), (wr u 135 0 (0 : Int32)))) else ((f_X12_store_30 xN v1 v2 (0 : Int32) (0 : Int32) (wr u 135 0 (0 : Int32)))))
def f_X12_isFound_58 (k_X12_isFound : Int32 → Int32 → Int32 → xS → Option (Int32 × xS)) (k13 : Int32 → Int32 → Int32 → xS → Option (Int32 × xS)) (v1 : Int32) (v2 : Int32) (v4 : Int32) (u : xS) : Option (Int32 × xS) :=
  (k13 v1 v2 (v4 + (1 : Int32)) u)
def f_X12_isFound_13 (k_X12_isFound : Int32 → Int32 → Int32 → xS → Option (Int32 × xS)) : Nat → Int32 → Int32 → Int32 → xS → Option (Int32 × xS)
  | 0, _, _, _, _ => none
  | n + 1, v1, v2, v4, u => if (rd u 135 7) ≤ v4 then (some ((0 : Int32), u)) else (gd (xin v1 4) ((f_X12_isClean (wr u 166 v1.toNatClampNeg v4) v4).bind fun x4 => if x4 = 0 then ((f_X12_isFound_58 k_X12_isFound (f_X12_isFound_13 k_X12_isFound n) v1 v2 v4 (wr u 166 v1.toNatClampNeg v4))) else ((k_X12_isFound (v1 + (1 : Int32)) (v2 - (1 : Int32)) (v4 + (1 : Int32)) (wr u 166 v1.toNatClampNeg v4)).bind fun q10 => if q10.1 = 0 then ((f_X12_isFound_58 k_X12_isFound (f_X12_isFound_13 k_X12_isFound n) v1 v2 v4 q10.2)) else (some ((1 : Int32), q10.2)))))
def f_X12_isFound (k_X12_isFound : Int32 → Int32 → Int32 → xS → Option (Int32 × xS)) (v1 : Int32) (v2 : Int32) (v3 : Int32) (u : xS) : Option (Int32 × xS) :=
  if v2 = 0 then ((f_X12_areAll u v1).bind fun x3 => gd (xb x3) (some (x3, u))) else ((f_X12_isFound_13 k_X12_isFound xN v1 v2 v3 u))
def fr_isFound : Nat → Int32 → Int32 → Int32 → xS → Option (Int32 × xS)
  | 0 => fun _ _ _ _ => none
  | n + 1 => f_X12_isFound (fr_isFound n)
def f_r_X12_isFound : Int32 → Int32 → Int32 → xS → Option (Int32 × xS) := fr_isFound 8
def f_X12_suspects_29 : Nat → Int32 → Int32 → xS → Option (Int32 × xS)
  | 0, _, _, _ => none
  | n + 1, v1, v2, u => if v1 ≤ v2 then (some (v1, u)) else (gd (xin v2 4) ((f_X12_enters (rd u 166 v2.toNatClampNeg) u).bind fun u4 => ((f_X12_suspects_29 n) v1 (v2 + (1 : Int32)) u4)))
def f_X12_suspects_7 : Nat → Int32 → xS → Option (Int32 × xS)
  | 0, _, _ => none
  | n + 1, v1, u => if (4 : Int32) < v1 then (some ((-2 : Int32), u)) else ((f_r_X12_isFound (0 : Int32) v1 (0 : Int32) u).bind fun q6 => if q6.1 = 0 then (((f_X12_suspects_7 n) (v1 + (1 : Int32)) q6.2)) else ((f_X12_suspects_29 xN v1 (0 : Int32) (wr q6.2 135 43 (0 : Int32)))))
def f_X12_suspects (u : xS) : Option (Int32 × xS) :=
  (f_X12_suspects_7 xN (0 : Int32) (wr u 135 0 (0 : Int32)))
def f_X12_takes (v1 : Int32) (v2 : Int32) (u : xS) : Option (Int32 × xS) :=
  if (f_X12_isLand v1) = 0 then (some ((-1 : Int32), (wr u 135 0 (0 : Int32)))) else (if (f_X12_in ((v2).toInt64) (0 : Int64) (8 : Int64)) = 0 then (some ((-1 : Int32), (wr u 135 0 (0 : Int32)))) else (gd (xin v1 4) (some ((rd u 173 v1.toNatClampNeg), (wr (wr u 135 0 (0 : Int32)) 173 v1.toNatClampNeg v2)))))
def f_X12_text_254 (v1 : Int32) (s1 : Int32) (s2 : Int32) (u : xS) : Option (Int32 × xS) :=
  if v1 = (1 : Int32) then (some (((s1 + (f_X12_truth s2)) - (1 : Int32)), (wr u 135 28 (s1 + (f_X12_truth s2))))) else (some ((0 : Int32), (wr u 135 28 (s1 + (f_X12_truth s2)))))
def f_X12_text_167 : Nat → Int32 → Int32 → Int32 → xS → Option (Int32 × xS)
  | 0, _, _, _, _ => none
  | n + 1, v1, v5, v6, u => gd (xin (rd u 135 34) 12) (if (rd u 156 (rd u 135 34).toNatClampNeg) ≤ v6 then (gd (xin v5 12) (if v1 = (1 : Int32) then ((f_X12_text_254 v1 (rd u 135 28) (1 : Int32) (wr (wr u 156 v5.toNatClampNeg (rd u 156 (rd u 135 34).toNatClampNeg)) 154 v5.toNatClampNeg (1 : Int32)))) else ((f_X12_text_254 v1 (rd u 135 28) (0 : Int32) (wr (wr u 156 v5.toNatClampNeg (rd u 156 (rd u 135 34).toNatClampNeg)) 154 v5.toNatClampNeg (1 : Int32)))))) else (gd (xin (((64 : Int32) * (rd u 135 34)) + v6) 768) (gd (xin (((64 : Int32) * v5) + v6) 768) (((f_X12_text_167 n) v1 v5 (v6 + (1 : Int32)) (wr u 155 (((64 : Int32) * v5) + v6).toNatClampNeg (rd u 155 (((64 : Int32) * (rd u 135 34)) + v6).toNatClampNeg)))))))
def f_X12_text_162 (v1 : Int32) (s0 : Int32) (u : xS) : Option (Int32 × xS) :=
  (f_X12_text_167 xN v1 s0 (0 : Int32) u)
def f_X12_text_126 (v1 : Int32) (v2 : Int32) (v4 : Int32) (u : xS) : Option (Int32 × xS) :=
  if v4 = 0 then (some (((-1 : Int32) - (rd u 135 33)), u)) else (if v1 = 0 then ((f_X12_text_162 v1 v2 u)) else (if v1 = (1 : Int32) then ((f_X12_text_162 v1 ((4 : Int32) + (rd u 135 28)) u)) else ((f_X12_text_162 v1 (10 : Int32) u))))
def f_X12_text_98 (v1 : Int32) (v2 : Int32) (v3 : Int32) (s1 : Int32) (s2 : Int32) (u : xS) : Option (Int32 × xS) :=
  (f_X12_all s1 s2 u).bind fun q7 => if v3 ≤ (60 : Int32) then ((f_X12_text_126 v1 v2 q7.1 q7.2)) else (if q7.1 = 0 then (if (rd q7.2 135 33) < (60 : Int32) then ((f_X12_text_126 v1 v2 q7.1 q7.2)) else (some ((-61 : Int32), q7.2))) else (some ((-61 : Int32), q7.2)))
def f_X12_text_60 (v1 : Int32) (v2 : Int32) (v3 : Int32) (u : xS) : Option (Int32 × xS) :=
  if v1 = (1 : Int32) then ((f_X12_text_98 v1 v2 v3 (imin v3 (60 : Int32)) (1 : Int32) (wr (wr (wr u 135 34 (11 : Int32)) 156 11 (0 : Int32)) 135 33 (0 : Int32)))) else ((f_X12_text_98 v1 v2 v3 (imin v3 (60 : Int32)) (0 : Int32) (wr (wr (wr u 135 34 (11 : Int32)) 156 11 (0 : Int32)) 135 33 (0 : Int32))))
def f_X12_text_43 (v1 : Int32) (v2 : Int32) (v3 : Int32) (u : xS) : Option (Int32 × xS) :=
  if v1 = (1 : Int32) then (if (rd u 135 28) = (6 : Int32) then (some ((-100 : Int32), u)) else ((f_X12_text_60 v1 v2 v3 u))) else ((f_X12_text_60 v1 v2 v3 u))
def f_X12_text (v1 : Int32) (v2 : Int32) (u : xS) : Option (Int32 × xS) :=
  if (f_X12_in ((v1).toInt64) (0 : Int64) (2 : Int64)) = 0 then (some ((-100 : Int32), (wr (wr u 135 0 (0 : Int32)) 135 32 (0 : Int32)))) else (if v1 = 0 then (if (f_X12_in ((v2).toInt64) (0 : Int64) (3 : Int64)) = 0 then (some ((-100 : Int32), (wr (wr u 135 0 (0 : Int32)) 135 32 (0 : Int32)))) else ((f_X12_text_43 v1 v2 (rd u 135 32) (wr (wr u 135 0 (0 : Int32)) 135 32 (0 : Int32))))) else ((f_X12_text_43 v1 v2 (rd u 135 32) (wr (wr u 135 0 (0 : Int32)) 135 32 (0 : Int32)))))
def f_X12_thrown (u : xS) : Int32 :=
  (rd u 135 0)
def f_X12_twice (v1 : Int32) (v2 : Int32) (v3 : Int32) (v4 : Int32) (u : xS) : Option (Int32 × xS) :=
  if (f_X12_isSorter v1) = 0 then (some ((-1 : Int32), (wr u 135 0 (0 : Int32)))) else (if (f_X12_isSorter v3) = 0 then (some ((-1 : Int32), (wr u 135 0 (0 : Int32)))) else (if v1 = v3 then (some ((-1 : Int32), (wr u 135 0 (0 : Int32)))) else (if (f_X12_isSort (wr u 135 0 (0 : Int32)) v2) = 0 then (some ((-1 : Int32), (wr u 135 0 (0 : Int32)))) else (if (f_X12_isSort (wr u 135 0 (0 : Int32)) v4) = 0 then (some ((-1 : Int32), (wr u 135 0 (0 : Int32)))) else (if (rd u 135 46) = (99 : Int32) then (some ((-1 : Int32), (wr u 135 0 (0 : Int32)))) else (gd (xin (rd u 135 46) 99) (some (((rd u 135 46) + (1 : Int32)), (wr (wr (wr (wr (wr (wr u 135 0 (0 : Int32)) 167 (rd u 135 46).toNatClampNeg v1) 169 (rd u 135 46).toNatClampNeg v2) 168 (rd u 135 46).toNatClampNeg v3) 170 (rd u 135 46).toNatClampNeg v4) 135 46 ((rd u 135 46) + (1 : Int32)))))))))))
def f_X12_wipe (v1 : Int32) (v2 : Int32) (v3 : Int32) (u : xS) : Option (Int32 × xS) :=
  if (f_X12_isSort (wr u 135 0 (0 : Int32)) v1) = 0 then (some ((-1 : Int32), (wr u 135 0 (0 : Int32)))) else (if (f_X12_in ((v2).toInt64) (1 : Int64) (9999 : Int64)) = 0 then (some ((-1 : Int32), (wr u 135 0 (0 : Int32)))) else (if (f_X12_in ((v3).toInt64) (0 : Int64) (1000 : Int64)) = 0 then (some ((-1 : Int32), (wr u 135 0 (0 : Int32)))) else ((f_X12_stored (wr u 135 0 (0 : Int32)) v1).bind fun x5 => if v2 ≤ x5 then ((f_X12_takesOf v1 v2 (-1 : Int32) (wr u 135 0 (0 : Int32))).bind fun u8 => some (((v2 * v3) / (1000 : Int32)), u8)) else (some ((-1 : Int32), (wr u 135 0 (0 : Int32)))))))
def f_X12_wish_34 (u : xS) : Option (Int32 × xS) :=
  (f_X12_refuse u).bind fun q4 => some (q4.1, q4.2)
def f_X12_wish (v1 : Int32) (v2 : Int32) (v3 : Int32) (u : xS) : Option (Int32 × xS) :=
  if (f_X12_isLand v1) = 0 then ((f_X12_wish_34 (wr u 135 0 (0 : Int32)))) else (if (f_X12_isSort (wr u 135 0 (0 : Int32)) v2) = 0 then ((f_X12_wish_34 (wr u 135 0 (0 : Int32)))) else (if (f_X12_in ((v3).toInt64) (-1 : Int64) (999 : Int64)) = 0 then ((f_X12_wish_34 (wr u 135 0 (0 : Int32)))) else (gd (xin (((16 : Int32) * v1) + v2) 64) (some ((rd u 172 (((16 : Int32) * v1) + v2).toNatClampNeg), (wr (wr u 135 0 (0 : Int32)) 172 (((16 : Int32) * v1) + v2).toNatClampNeg v3))))))
def f_X12_within (v1 : Int32) (v2 : Int32) (u : xS) : Option (Int32 × xS) :=
  if (f_X12_isSort (wr u 135 0 (0 : Int32)) v1) = 0 then (some ((-1 : Int32), (wr u 135 0 (0 : Int32)))) else (if (f_X12_isSort (wr u 135 0 (0 : Int32)) v2) = 0 then (some ((-1 : Int32), (wr u 135 0 (0 : Int32)))) else ((f_X12_isWithin (wr u 135 0 (0 : Int32)) v1 v2).bind fun x4 => some ((f_X12_truth x4), (wr u 135 0 (0 : Int32)))))
def f_X0_add (v1 : Int32) (v2 : Int32) (v3 : Int32) (v4 : Int32) (u : xS) : Option (Int32 × xS) :=
  if (rd u 13 8) < (24 : Int32) then (gd (xin (rd u 13 8) 24) (some ((rd u 13 8), (wr (wr (wr (wr (wr (wr (wr u 14 (rd u 13 8).toNatClampNeg v1) 15 (rd u 13 8).toNatClampNeg v2) 16 (rd u 13 8).toNatClampNeg v3) 17 (rd u 13 8).toNatClampNeg v4) 18 (rd u 13 8).toNatClampNeg (-1 : Int32)) 19 (rd u 13 8).toNatClampNeg (-1 : Int32)) 13 8 ((rd u 13 8) + (1 : Int32)))))) else (some ((-1 : Int32), u))
def f_X0_everOf_4 (u : xS) : Nat → Int32 → Int32 → Int32 → Option Int32
  | 0, _, _, _ => none
  | n + 1, v1, v2, v3 => if (rd u 13 8) ≤ v3 then (some v2) else (gd (xin v3 24) (gd (xin v1 16) (((f_X0_everOf_4 u n) v1 (v2 + (rd u (22 + v3.toNatClampNeg) v1.toNatClampNeg)) (v3 + (1 : Int32))))))
def f_X0_everOf (u : xS) (v1 : Int32) : Option Int32 :=
  (f_X0_everOf_4 u xN v1 (0 : Int32) (0 : Int32))
def f_X0_has (u : xS) (v1 : Int32) : Int32 :=
  if v1 < 0 then ((0 : Int32)) else (if (rd u 13 8) ≤ v1 then ((0 : Int32)) else ((1 : Int32)))
def f_X0_isSorted (u : xS) (v1 : Int32) : Option Int32 :=
  if (f_X0_has u v1) = 0 then (some (0 : Int32)) else (gd (xin v1 24) (if (rd u 18 v1.toNatClampNeg) = (-1 : Int32) then (some (0 : Int32)) else (some (1 : Int32))))
def f_X11_lies (v0 : Int32) (v1 : Int32) (v2 : Int32) : Int32 :=
  if v0 < v1 then ((0 : Int32)) else (if v2 < v0 then ((0 : Int32)) else ((1 : Int32)))
def f_X10_keep (v1 : Int32) (v2 : Nat) (v3 : Int32) (u : xS) : Option xS :=
  if (f_X11_lies v1 (0 : Int32) (10 : Int32)) = 0 then (some u) else (gd (xisI v2) (if (f_X11_lies v3 (0 : Int32) (imin (Int32.ofNat (xlen v2)) (64 : Int32))) = 0 then (some u) else (gd (xin v1 11) (gd (xisI v2) (gd (xcok (0 : Int32) (0 : Int32) v3 (xlen v2) 64) (some (wr (xcpy u v2 (0 : Int32).toNatClampNeg (60 + v1.toNatClampNeg) (0 : Int32).toNatClampNeg v3.toNatClampNeg) 71 v1.toNatClampNeg v3)))))))
def f_X10_addRecipe (v1 : Nat) (v2 : Int32) (u : xS) : Option (Int32 × xS) :=
  if (rd u 58 5) < (6 : Int32) then ((f_X10_keep ((4 : Int32) + (rd u 58 5)) v1 v2 u).bind fun u3 => some ((rd u3 58 5), (wr u3 58 5 ((rd u3 58 5) + (1 : Int32))))) else (some ((-1 : Int32), u))
def f_J7_fill_53178_5 : Nat → Nat → Int32 → Int32 → Int32 → xS → Option xS
  | 0, _, _, _, _, _ => none
  | n + 1, v0, v1, v2, v3, u => if v3 ≤ v2 then (some u) else (gd (xisI v0) (gd (xin v2 (xlen v0)) (((f_J7_fill_53178_5 n) v0 v1 (v2 + (1 : Int32)) v3 (wr u v0 v2.toNatClampNeg v1)))))
def f_J7_fill_53178 (v0 : Nat) (v1 : Int32) (u : xS) : Option xS :=
  gd (xisI v0) ((f_J7_fill_53178_5 xN v0 v1 (0 : Int32) (Int32.ofNat (xlen v0)) u))
def f_X10_clearLetters (u : xS) : Option xS :=
  (f_J7_fill_53178 72 (0 : Int32) u).bind fun u2 => some u2
def f_X10_pop (u : xS) : Option (Int32 × xS) :=
  if (rd u 58 4) = 0 then (some ((0 : Int32), u)) else (gd (xin ((rd u 58 4) - (1 : Int32)) 64) (some ((rd u 73 ((rd u 58 4) - (1 : Int32)).toNatClampNeg), (wr u 58 4 ((rd u 58 4) - (1 : Int32))))))
def f_X10_push (v1 : Int32) (u : xS) : Option xS :=
  if (64 : Int32) ≤ (rd u 58 4) then (some u) else (gd (xin (rd u 58 4) 64) (some (wr (wr u 73 (rd u 58 4).toNatClampNeg v1) 58 4 ((rd u 58 4) + (1 : Int32)))))
def f_X10_joined_92 : Option Int32 :=
  some (1 : Int32)
def f_X10_joined (v0 : Int32) (v1 : Int32) (v2 : Int32) : Option Int32 :=
  if v0 = (38 : Int32) then (if v1 = 0 then (some (0 : Int32)) else (if v2 = 0 then (some (0 : Int32)) else (some (1 : Int32)))) else if v0 = (42 : Int32) then (some (v1 * v2)) else if v0 = (43 : Int32) then (some (v1 + v2)) else if v0 = (45 : Int32) then (some (v1 - v2)) else if v0 = (47 : Int32) then (if v2 = 0 then (some (0 : Int32)) else (gd (xnz v2) (some (v1 / v2)))) else if v0 = (60 : Int32) then (if v2 ≤ v1 then (some (0 : Int32)) else (some (1 : Int32))) else if v0 = (61 : Int32) then (if v1 = v2 then (some (1 : Int32)) else (some (0 : Int32))) else if v0 = (62 : Int32) then (if v1 ≤ v2 then (some (0 : Int32)) else (some (1 : Int32))) else if v0 = (124 : Int32) then (if v1 = 0 then (if v2 = 0 then (some (0 : Int32)) else ((f_X10_joined_92))) else ((f_X10_joined_92))) else (if v2 = 0 then (some (0 : Int32)) else (gd (xnz v2) (some (irem v1 v2))))
def f_X10_work_60 (s1 : Int32) (u : xS) : Option xS :=
  (f_X10_push s1 u).bind fun u2 => some u2
def f_X10_work (v1 : Int32) (u : xS) : Option xS :=
  if v1 < 0 then (if (f_X11_lies (-v1) (97 : Int32) (122 : Int32)) = 0 then (if v1 = (-33 : Int32) then ((f_X10_pop u).bind fun q27 => if q27.1 = 0 then ((f_X10_work_60 (1 : Int32) q27.2)) else ((f_X10_work_60 (0 : Int32) q27.2))) else (if v1 = (-126 : Int32) then ((f_X10_pop u).bind fun q22 => (f_X10_push (-q22.1) q22.2).bind fun u21 => some u21) else ((f_X10_pop u).bind fun q16 => (f_X10_pop q16.2).bind fun q15 => (f_X10_joined (-v1) q15.1 q16.1).bind fun x12 => (f_X10_push x12 q15.2).bind fun u14 => some u14))) else (gd (xin ((-v1) - (97 : Int32)) 26) ((f_X10_push (rd u 72 ((-v1) - (97 : Int32)).toNatClampNeg) u).bind fun u30 => some u30))) else ((f_X10_push v1 u).bind fun u32 => some u32)
def f_X10_hasRecipe (u : xS) (v1 : Int32) : Int32 :=
  if v1 < 0 then ((0 : Int32)) else (if (rd u 58 5) ≤ v1 then ((0 : Int32)) else ((1 : Int32)))
def f_X10_firstBroken_74 (k29 : Int32 → Nat → Int32 → Int32 → xS → Option (Int32 × xS)) (v1 : Int32) (v2 : Nat) (v3 : Int32) (v4 : Int32) (u : xS) : Option (Int32 × xS) :=
  (k29 v1 v2 v3 (v4 + (1 : Int32)) u)
def f_X10_firstBroken_29 : Nat → Int32 → Nat → Int32 → Int32 → xS → Option (Int32 × xS)
  | 0, _, _, _, _, _ => none
  | n + 1, v1, v2, v3, v4, u => gd (xin ((4 : Int32) + v1) 11) (if (rd u 71 ((4 : Int32) + v1).toNatClampNeg) ≤ v4 then (some ((-2 : Int32), u)) else (gd (xisI v2) (gd (xin v4 (xlen v2)) (if (rd u v2 v4.toNatClampNeg) = (-59 : Int32) then ((f_X10_pop u).bind fun q12 => if q12.1 = 0 then (some (v3, q12.2)) else ((f_X10_firstBroken_74 (f_X10_firstBroken_29 n) v1 v2 (v3 + (1 : Int32)) v4 q12.2))) else (gd (xisI v2) (gd (xin v4 (xlen v2)) ((f_X10_work (rd u v2 v4.toNatClampNeg) u).bind fun u18 => (f_X10_firstBroken_74 (f_X10_firstBroken_29 n) v1 v2 v3 v4 u18))))))))
def f_X10_firstBroken (v1 : Int32) (u : xS) : Option (Int32 × xS) :=
  if (f_X10_hasRecipe u v1) = 0 then (some ((-1 : Int32), u)) else (gd (xin ((4 : Int32) + v1) 11) ((f_X10_firstBroken_29 xN v1 (60 + ((4 : Int32) + v1).toNatClampNeg) (0 : Int32) (0 : Int32) (wr u 58 4 (0 : Int32)))))
def f_X10_tell (v1 : Int32) (v2 : Int32) (u : xS) : Option xS :=
  if (f_X11_lies v1 (97 : Int32) (122 : Int32)) = 0 then (some u) else (gd (xin (v1 - (97 : Int32)) 26) (some (wr u 72 (v1 - (97 : Int32)).toNatClampNeg v2)))
def f_X10_valueOf_19 : Nat → Int32 → Int32 → xS → Option (Int32 × xS)
  | 0, _, _, _ => none
  | n + 1, v1, v2, u => gd (xin v1 11) (if (rd u 71 v1.toNatClampNeg) ≤ v2 then ((f_X10_pop u).bind fun q6 => some (q6.1, q6.2)) else (gd (xin v2 64) ((f_X10_work (rd u (60 + v1.toNatClampNeg) v2.toNatClampNeg) u).bind fun u9 => ((f_X10_valueOf_19 n) v1 (v2 + (1 : Int32)) u9))))
def f_X10_valueOf (v1 : Int32) (u : xS) : Option (Int32 × xS) :=
  if (f_X11_lies v1 (0 : Int32) (10 : Int32)) = 0 then (some ((0 : Int32), u)) else ((f_X10_valueOf_19 xN v1 (0 : Int32) (wr u 58 4 (0 : Int32))))
def f_X11_isDay (v0 : Int32) : Int32 :=
  (f_X11_lies v0 (0 : Int32) (99 : Int32))
def f_X11_as (v1 : Int32) (u : xS) : Option (Int32 × xS) :=
  if (f_X11_isDay v1) = 0 then (some ((-1 : Int32), u)) else (some ((rd u 46 6), (wr u 46 6 v1)))
def f_X8_has (u : xS) (v1 : Int32) : Int32 :=
  if v1 < 0 then ((0 : Int32)) else (if (rd u 1 2) ≤ v1 then ((0 : Int32)) else ((1 : Int32)))
def f_X8_priceIn_67 (k8 : Int32 → Int32 → Int32 → Int32 → Int32 → Option Int32) (u : xS) (v1 : Int32) (v2 : Int32) (v3 : Int32) (v4 : Int32) (v5 : Int32) : Option Int32 :=
  (k8 v1 v2 v3 v4 (v5 + (1 : Int32)))
def f_X8_priceIn_8 (u : xS) : Nat → Int32 → Int32 → Int32 → Int32 → Int32 → Option Int32
  | 0, _, _, _, _, _ => none
  | n + 1, v1, v2, v3, v4, v5 => if (rd u 1 6) ≤ v5 then (some v4) else (gd (xin v5 60) (if (rd u 10 v5.toNatClampNeg) = v1 then (if v2 < (rd u 11 v5.toNatClampNeg) then ((f_X8_priceIn_67 (f_X8_priceIn_8 u n) u v1 v2 v3 v4 v5)) else (if (rd u 11 v5.toNatClampNeg) < v3 then ((f_X8_priceIn_67 (f_X8_priceIn_8 u n) u v1 v2 v3 v4 v5)) else ((f_X8_priceIn_67 (f_X8_priceIn_8 u n) u v1 v2 (rd u 11 v5.toNatClampNeg) (rd u 12 v5.toNatClampNeg) v5)))) else ((f_X8_priceIn_67 (f_X8_priceIn_8 u n) u v1 v2 v3 v4 v5))))
def f_X8_priceIn (u : xS) (v1 : Int32) (v2 : Int32) : Option Int32 :=
  (f_X8_priceIn_8 u xN v1 v2 (-1 : Int32) (0 : Int32) (0 : Int32))
def f_X11_at (u : xS) (v1 : Int32) (v2 : Int32) : Option Int32 :=
  if (f_X8_has u v1) = 0 then (some (-1 : Int32)) else (if (f_X11_isDay v2) = 0 then (some (-1 : Int32)) else ((f_X8_priceIn u v1 v2).bind fun x4 => some x4))
def f_X11_isSeller (v0 : Int32) : Int32 :=
  (f_X11_lies v0 (0 : Int32) (3 : Int32))
def f_X11_isMark (v0 : Int32) : Int32 :=
  (f_X11_lies v0 (0 : Int32) (7 : Int32))
def f_X11_bale_42 (v1 : Int32) (v2 : Int32) (v3 : Int32) (v4 : Int32) (s0 : Int32) (u : xS) : Option (Int32 × xS) :=
  if s0 = 0 then (some ((-1 : Int32), u)) else (if (24 : Int32) ≤ (rd u 13 8) then (some ((-1 : Int32), u)) else ((f_X0_add v1 v2 v3 v4 u).bind fun q6 => some (q6.1, q6.2)))
def f_X11_bale_41 (v1 : Int32) (v2 : Int32) (v3 : Int32) (v4 : Int32) (u : xS) : Option (Int32 × xS) :=
  (f_X11_bale_42 v1 v2 v3 v4 (0 : Int32) u)
def f_X11_bale (v1 : Int32) (v2 : Int32) (v3 : Int32) (v4 : Int32) (u : xS) : Option (Int32 × xS) :=
  if (f_X11_isSeller v1) = 0 then ((f_X11_bale_41 v1 v2 v3 v4 u)) else (if (f_X11_isMark v2) = 0 then ((f_X11_bale_41 v1 v2 v3 v4 u)) else (if (f_X11_lies v3 (1 : Int32) (9999 : Int32)) = 0 then ((f_X11_bale_41 v1 v2 v3 v4 u)) else (if (f_X11_lies v4 (0 : Int32) (999 : Int32)) = 0 then ((f_X11_bale_41 v1 v2 v3 v4 u)) else ((f_X11_bale_42 v1 v2 v3 v4 (1 : Int32) u)))))
def f_X11_isSorter (v0 : Int32) : Int32 :=
  (f_X11_lies v0 (0 : Int32) (5 : Int32))
def f_X3_mostOften_124 (k93 : Int32 → Int32 → Int32 → xS → Option (Int32 × xS)) (v3 : Int32) (v4 : Int32) (v5 : Int32) (u : xS) : Option (Int32 × xS) :=
  (k93 v3 v4 (v5 + (1 : Int32)) u)
def f_X3_mostOften_93 : Nat → Int32 → Int32 → Int32 → xS → Option (Int32 × xS)
  | 0, _, _, _, _ => none
  | n + 1, v3, v4, v5, u => if (16 : Int32) ≤ v5 then (some (v3, u)) else (gd (xin v5 16) (if (rd u 120 v5.toNatClampNeg) ≤ v4 then ((f_X3_mostOften_124 (f_X3_mostOften_93 n) v3 v4 v5 u)) else ((f_X3_mostOften_124 (f_X3_mostOften_93 n) v5 (rd u 120 v5.toNatClampNeg) v5 u))))
def f_X3_mostOften_73 (k21 : Int32 → Int32 → Int32 → Int32 → xS → Option (Int32 × xS)) (k10 : Int32 → Int32 → Int32 → xS → Option (Int32 × xS)) (v1 : Int32) (v2 : Int32) (v3 : Int32) (v4 : Int32) (u : xS) : Option (Int32 × xS) :=
  (k21 v1 v2 v3 (v4 + (1 : Int32)) u)
def f_X3_mostOften_21 (k10 : Int32 → Int32 → Int32 → xS → Option (Int32 × xS)) : Nat → Int32 → Int32 → Int32 → Int32 → xS → Option (Int32 × xS)
  | 0, _, _, _, _, _ => none
  | n + 1, v1, v2, v3, v4, u => if (2 : Int32) ≤ v4 then ((k10 v1 v2 (v3 + (1 : Int32)) u)) else (gd (xin v4 2) (gd (xin v3 99) (if (rd u (115 + v4.toNatClampNeg) v3.toNatClampNeg) = v1 then (if (rd u (118 + v4.toNatClampNeg) v3.toNatClampNeg) = v2 then (gd (xin ((1 : Int32) - v4) 2) (gd (xin (rd u (118 + ((1 : Int32) - v4).toNatClampNeg) v3.toNatClampNeg) 16) ((f_X3_mostOften_73 (f_X3_mostOften_21 k10 n) k10 v1 v2 v3 v4 (wr u 120 (rd u (118 + ((1 : Int32) - v4).toNatClampNeg) v3.toNatClampNeg).toNatClampNeg ((rd u 120 (rd u (118 + ((1 : Int32) - v4).toNatClampNeg) v3.toNatClampNeg).toNatClampNeg) + (1 : Int32))))))) else ((f_X3_mostOften_73 (f_X3_mostOften_21 k10 n) k10 v1 v2 v3 v4 u))) else ((f_X3_mostOften_73 (f_X3_mostOften_21 k10 n) k10 v1 v2 v3 v4 u)))))
def f_X3_mostOften_10 : Nat → Int32 → Int32 → Int32 → xS → Option (Int32 × xS)
  | 0, _, _, _, _ => none
  | n + 1, v1, v2, v3, u => if (rd u 113 3) ≤ v3 then ((f_X3_mostOften_93 xN (-1 : Int32) (0 : Int32) (0 : Int32) u)) else ((f_X3_mostOften_21 (f_X3_mostOften_10 n) xN v1 v2 v3 (0 : Int32) u))
def f_X3_mostOften (v1 : Int32) (v2 : Int32) (u : xS) : Option (Int32 × xS) :=
  (f_J7_fill_53178 120 (0 : Int32) u).bind fun u2 => (f_X3_mostOften_10 xN v1 v2 (0 : Int32) u2)
def f_X11_called (v1 : Int32) (v2 : Int32) (u : xS) : Option (Int32 × xS) :=
  if (f_X11_isSorter v1) = 0 then (some ((-1 : Int32), u)) else (if (f_X8_has u v2) = 0 then (some ((-1 : Int32), u)) else ((f_X3_mostOften v1 v2 u).bind fun q6 => some (q6.1, q6.2)))
def f_X1_nextTrial_7 : Nat → Int32 → xS → Option (Int32 × xS)
  | 0, _, _ => none
  | n + 1, v1, u => if v1 ≤ 0 then (some ((0 : Int32), u)) else (gd (xin v1 6) (gd (xin (rd u 82 v1.toNatClampNeg) 16) (if (rd u 85 (rd u 82 v1.toNatClampNeg).toNatClampNeg) ≤ 0 then (((f_X1_nextTrial_7 n) (v1 + (-1 : Int32)) u)) else (gd (xin (v1 - (1 : Int32)) 6) (gd (xin (rd u 82 (v1 - (1 : Int32)).toNatClampNeg) 16) (gd (xin ((rd u 79 5) - (1 : Int32)) 6) (gd (xin (rd u 82 ((rd u 79 5) - (1 : Int32)).toNatClampNeg) 16) (some ((1 : Int32), (wr (wr (wr u 85 (rd u 82 v1.toNatClampNeg).toNatClampNeg (0 : Int32)) 85 (rd u 82 (v1 - (1 : Int32)).toNatClampNeg).toNatClampNeg ((rd (wr u 85 (rd u 82 v1.toNatClampNeg).toNatClampNeg (0 : Int32)) 85 (rd u 82 (v1 - (1 : Int32)).toNatClampNeg).toNatClampNeg) + (1 : Int32))) 85 (rd u 82 ((rd u 79 5) - (1 : Int32)).toNatClampNeg).toNatClampNeg ((rd u 85 (rd u 82 v1.toNatClampNeg).toNatClampNeg) - (1 : Int32))))))))))))
def f_X1_nextTrial (u : xS) : Option (Int32 × xS) :=
  (f_X1_nextTrial_7 xN ((rd u 79 5) - (1 : Int32)) u)
def f_X8_addFeatures_3 : Nat → Int32 → Int32 → Nat → Int32 → xS → Option xS
  | 0, _, _, _, _, _ => none
  | n + 1, v1, v2, v3, v4, u => if (6 : Int32) ≤ v4 then (some u) else (gd (xisI v3) (if (Int32.ofNat (xlen v3)) ≤ v4 then (some u) else (gd (xisI v3) (gd (xin v4 (xlen v3)) (gd (xin v4 6) (gd (xin v1 16) (gd (xisI v3) (gd (xin v4 (xlen v3)) (((f_X8_addFeatures_3 n) v1 v2 v3 (v4 + (1 : Int32)) (wr u v3 v4.toNatClampNeg ((rd u v3 v4.toNatClampNeg) + ((rd u (3 + v4.toNatClampNeg) v1.toNatClampNeg) * v2)))))))))))))
def f_X8_addFeatures (v1 : Int32) (v2 : Int32) (v3 : Nat) (u : xS) : Option xS :=
  (f_X8_addFeatures_3 xN v1 v2 v3 (0 : Int32) u)
def f_X11_tellBlend_81 (v3 : Int32) (v4 : Int32) (u : xS) : Option xS :=
  (f_X10_clearLetters u).bind fun u2 => (f_X10_tell (114 : Int32) ((rd u2 81 0) / (12 : Int32)) u2).bind fun u4 => (f_X10_tell (103 : Int32) ((rd u4 81 1) / (12 : Int32)) u4).bind fun u6 => (f_X10_tell (98 : Int32) ((rd u6 81 2) / (12 : Int32)) u6).bind fun u8 => (f_X10_tell (115 : Int32) ((rd u8 81 3) / (12 : Int32)) u8).bind fun u10 => (f_X10_tell (119 : Int32) ((rd u10 81 4) / (12 : Int32)) u10).bind fun u12 => (f_X10_tell (118 : Int32) ((rd u12 81 5) / (12 : Int32)) u12).bind fun u14 => (f_X10_tell (110 : Int32) v3 u14).bind fun u16 => (f_X10_tell (109 : Int32) v4 u16).bind fun u18 => some u18
def f_X11_tellBlend_75 (k21 : Nat → Int32 → Int32 → Int32 → xS → Option xS) (v1 : Nat) (v3 : Int32) (v4 : Int32) (v5 : Int32) (u : xS) : Option xS :=
  (k21 v1 v3 v4 (v5 + (1 : Int32)) u)
def f_X11_tellBlend_21 : Nat → Nat → Int32 → Int32 → Int32 → xS → Option xS
  | 0, _, _, _, _, _ => none
  | n + 1, v1, v3, v4, v5, u => if (rd u 1 2) ≤ v5 then ((f_X11_tellBlend_81 v3 v4 u)) else (gd (xisI v1) (if (Int32.ofNat (xlen v1)) ≤ v5 then ((f_X11_tellBlend_81 v3 v4 u)) else (gd (xisI v1) (gd (xin v5 (xlen v1)) (if (rd u v1 v5.toNatClampNeg) ≤ 0 then ((f_X11_tellBlend_75 (f_X11_tellBlend_21 n) v1 v3 v4 v5 u)) else (gd (xisI v1) (gd (xin v5 (xlen v1)) (gd (xisI v1) (gd (xin v5 (xlen v1)) ((f_X8_addFeatures v5 (rd u v1 v5.toNatClampNeg) 81 u).bind fun u20 => (f_X11_tellBlend_75 (f_X11_tellBlend_21 n) v1 (v3 + (1 : Int32)) (imax v4 (rd u v1 v5.toNatClampNeg)) v5 u20)))))))))))
def f_X11_tellBlend (v1 : Nat) (u : xS) : Option xS :=
  (f_J7_fill_53178 81 (0 : Int32) u).bind fun u2 => (f_X11_tellBlend_21 xN v1 (0 : Int32) (0 : Int32) (0 : Int32) u2)
def f_X11_holdsTrial (v1 : Int32) (u : xS) : Option (Int32 × xS) :=
  (f_X11_tellBlend 85 u).bind fun u2 => (f_X10_firstBroken v1 u2).bind fun q7 => if q7.1 = (-2 : Int32) then (some ((1 : Int32), q7.2)) else (some ((0 : Int32), q7.2))
def f_X1_keepTrial (u : xS) : Option xS :=
  gd (xcok (0 : Int32) (0 : Int32) (16 : Int32) 16 16) (some (xcpy u 85 (0 : Int32).toNatClampNeg 86 (0 : Int32).toNatClampNeg (16 : Int32).toNatClampNeg))
def f_X1_trialPence_4 (u : xS) : Nat → Int32 → Int32 → Option Int32
  | 0, _, _ => none
  | n + 1, v1, v2 => if (rd u 79 5) ≤ v2 then (some v1) else (gd (xin v2 6) (gd (xin (rd u 82 v2.toNatClampNeg) 16) (if (rd u 85 (rd u 82 v2.toNatClampNeg).toNatClampNeg) ≤ (rd u 84 v2.toNatClampNeg) then (((f_X1_trialPence_4 u n) (v1 + ((rd u 85 (rd u 82 v2.toNatClampNeg).toNatClampNeg) * (rd u 83 v2.toNatClampNeg))) (v2 + (1 : Int32)))) else (some (-1 : Int32)))))
def f_X1_trialPence (u : xS) : Option Int32 :=
  (f_X1_trialPence_4 u xN (0 : Int32) (0 : Int32))
def f_X1_startTrial (u : xS) : Option (Int32 × xS) :=
  (f_J7_fill_53178 85 (0 : Int32) u).bind fun u2 => if (rd u2 79 5) = 0 then (some ((0 : Int32), u2)) else (gd (xin ((rd u2 79 5) - (1 : Int32)) 6) (gd (xin (rd u2 82 ((rd u2 79 5) - (1 : Int32)).toNatClampNeg) 16) (some ((1 : Int32), (wr u2 85 (rd u2 82 ((rd u2 79 5) - (1 : Int32)).toNatClampNeg).toNatClampNeg (12 : Int32))))))
def f_X11_cheapest_80 (k14 : Int32 → Int32 → Int32 → Int32 → xS → Option (Int32 × xS)) (v1 : Int32) (v2 : Int32) (v4 : Int32) (u : xS) : Option (Int32 × xS) :=
  (f_X1_nextTrial u).bind fun q4 => (k14 v1 v2 q4.1 (v4 + (1 : Int32)) q4.2)
def f_X11_cheapest_55 (k14 : Int32 → Int32 → Int32 → Int32 → xS → Option (Int32 × xS)) (v1 : Int32) (v2 : Int32) (v4 : Int32) (v5 : Int32) (s0 : Int32) (u : xS) : Option (Int32 × xS) :=
  if s0 = 0 then ((f_X11_cheapest_80 k14 v1 v2 v4 u)) else ((f_X11_holdsTrial v1 u).bind fun q8 => if q8.1 = 0 then ((f_X11_cheapest_80 k14 v1 v2 v4 q8.2)) else ((f_X1_keepTrial q8.2).bind fun u7 => (f_X11_cheapest_80 k14 v1 v5 v4 u7)))
def f_X11_cheapest_54 (k14 : Int32 → Int32 → Int32 → Int32 → xS → Option (Int32 × xS)) (v1 : Int32) (v2 : Int32) (v4 : Int32) (v5 : Int32) (u : xS) : Option (Int32 × xS) :=
  (f_X11_cheapest_55 k14 v1 v2 v4 v5 (0 : Int32) u)
def f_X11_cheapest_50 (k14 : Int32 → Int32 → Int32 → Int32 → xS → Option (Int32 × xS)) (v1 : Int32) (v2 : Int32) (v4 : Int32) (v5 : Int32) (u : xS) : Option (Int32 × xS) :=
  (f_X11_cheapest_55 k14 v1 v2 v4 v5 (1 : Int32) u)
def f_X11_cheapest_14 : Nat → Int32 → Int32 → Int32 → Int32 → xS → Option (Int32 × xS)
  | 0, _, _, _, _, _ => none
  | n + 1, v1, v2, v3, v4, u => if v3 = 0 then (some (v2, u)) else (if (6188 : Int32) ≤ v4 then (some (v2, u)) else ((f_X1_trialPence u).bind fun x4 => if x4 < 0 then ((f_X11_cheapest_54 (f_X11_cheapest_14 n) v1 v2 v4 x4 u)) else (if v2 < 0 then ((f_X11_cheapest_50 (f_X11_cheapest_14 n) v1 v2 v4 x4 u)) else (if v2 ≤ x4 then ((f_X11_cheapest_54 (f_X11_cheapest_14 n) v1 v2 v4 x4 u)) else ((f_X11_cheapest_50 (f_X11_cheapest_14 n) v1 v2 v4 x4 u))))))
def f_X11_cheapest (v1 : Int32) (u : xS) : Option (Int32 × xS) :=
  (f_X1_startTrial u).bind fun q4 => (f_X11_cheapest_14 xN v1 (-2 : Int32) q4.1 (0 : Int32) q4.2)
def f_X1_inAll_4 (u : xS) : Nat → Int32 → Int32 → Option Int32
  | 0, _, _ => none
  | n + 1, v1, v2 => if (16 : Int32) ≤ v2 then (some v1) else (gd (xin v2 16) (((f_X1_inAll_4 u n) (v1 + (rd u 80 v2.toNatClampNeg)) (v2 + (1 : Int32)))))
def f_X1_inAll (u : xS) : Option Int32 :=
  (f_X1_inAll_4 u xN (0 : Int32) (0 : Int32))
def f_X11_cost_25 (u : xS) : Nat → Int32 → Int32 → Int32 → Option Int32
  | 0, _, _, _ => none
  | n + 1, v1, v2, v3 => if (rd u 1 2) ≤ v3 then (some v2) else (gd (xin v3 16) ((f_X8_priceIn u v3 v1).bind fun x4 => ((f_X11_cost_25 u n) v1 (v2 + ((rd u 80 v3.toNatClampNeg) * x4)) (v3 + (1 : Int32)))))
def f_X11_cost (u : xS) (v1 : Int32) : Option Int32 :=
  if (f_X11_isDay v1) = 0 then (some (-1 : Int32)) else ((f_X1_inAll u).bind fun x3 => if x3 = (12 : Int32) then ((f_X11_cost_25 u xN v1 (0 : Int32) (0 : Int32))) else (some (-1 : Int32)))
def f_X6_withPounds_24 (k4 : Int32 → Int32 → Option Int32) (u : xS) (v1 : Int32) (v2 : Int32) : Option Int32 :=
  (k4 v1 (v2 + (1 : Int32)))
def f_X6_withPounds_4 (u : xS) : Nat → Int32 → Int32 → Option Int32
  | 0, _, _ => none
  | n + 1, v1, v2 => if (rd u 74 4) ≤ v2 then (some v1) else (gd (xin v2 384) (if (rd u 77 v2.toNatClampNeg) ≤ 0 then ((f_X6_withPounds_24 (f_X6_withPounds_4 u n) u v1 v2)) else ((f_X6_withPounds_24 (f_X6_withPounds_4 u n) u (v1 + (1 : Int32)) v2))))
def f_X6_withPounds (u : xS) : Option Int32 :=
  (f_X6_withPounds_4 u xN (0 : Int32) (0 : Int32))
def f_X11_count (u : xS) (v1 : Int32) : Option Int32 :=
  if v1 = (0 : Int32) then (some (rd u 1 2)) else if v1 = (1 : Int32) then (some (rd u 1 6)) else if v1 = (2 : Int32) then (some (rd u 13 8)) else if v1 = (3 : Int32) then (some (rd u 46 5)) else if v1 = (4 : Int32) then (some (rd u 58 5)) else if v1 = (5 : Int32) then ((f_X6_withPounds u).bind fun x8 => some x8) else if v1 = (6 : Int32) then (some (rd u 87 2)) else if v1 = (7 : Int32) then (some (rd u 113 3)) else if v1 = (8 : Int32) then (some (rd u 121 6)) else if v1 = (9 : Int32) then (some (rd u 0 12)) else if v1 = (10 : Int32) then (some (rd u 52 1)) else if v1 = (11 : Int32) then (some (rd u 46 6)) else if v1 = (12 : Int32) then ((f_X1_inAll u).bind fun x17 => some x17) else (some (-1 : Int32))
def f_X5_held_77 (k8 : Int32 → Int32 → Int32 → Int32 → Int32 → Option Int32) (u : xS) (v1 : Int32) (v2 : Int32) (v3 : Int32) (v4 : Int32) (v5 : Int32) : Option Int32 :=
  (k8 v1 v2 v3 v4 (v5 + (1 : Int32)))
def f_X5_held_8 (u : xS) : Nat → Int32 → Int32 → Int32 → Int32 → Int32 → Option Int32
  | 0, _, _, _, _, _ => none
  | n + 1, v1, v2, v3, v4, v5 => if (rd u 46 5) ≤ v5 then (some v3) else (gd (xin v5 60) (if (rd u 47 v5.toNatClampNeg) = v1 then (if (rd u 48 v5.toNatClampNeg) = v2 then (if (rd u 46 6) < (rd u 49 v5.toNatClampNeg) then ((f_X5_held_77 (f_X5_held_8 u n) u v1 v2 v3 v4 v5)) else (if (rd u 49 v5.toNatClampNeg) < v4 then ((f_X5_held_77 (f_X5_held_8 u n) u v1 v2 v3 v4 v5)) else ((f_X5_held_77 (f_X5_held_8 u n) u v1 v2 v5 (rd u 49 v5.toNatClampNeg) v5)))) else ((f_X5_held_77 (f_X5_held_8 u n) u v1 v2 v3 v4 v5))) else ((f_X5_held_77 (f_X5_held_8 u n) u v1 v2 v3 v4 v5))))
def f_X5_held (u : xS) (v1 : Int32) (v2 : Int32) : Option Int32 :=
  (f_X5_held_8 u xN v1 v2 (-1 : Int32) (-1 : Int32) (0 : Int32))
def f_X11_inThousand (v0 : Int32) (v1 : Int32) : Option Int32 :=
  if v1 ≤ 0 then (some (0 : Int32)) else (gd (xnzJ ((v1).toInt64)) (some (((((v0).toInt64) * (1000 : Int64)) / ((v1).toInt64)).toInt32)))
def f_X11_woolless_43 (k4 : Int32 → Int32 → Int32 → Option Int32) (u : xS) (v1 : Int32) (v2 : Int32) (v3 : Int32) : Option Int32 :=
  (k4 v1 v2 (v3 + (1 : Int32)))
def f_X11_woolless_4 (u : xS) : Nat → Int32 → Int32 → Int32 → Option Int32
  | 0, _, _, _ => none
  | n + 1, v1, v2, v3 => if (rd u 1 2) ≤ v3 then (some v2) else (gd (xin v3 16) (if (rd u 8 v3.toNatClampNeg) = 0 then (gd (xin v1 24) ((f_X11_woolless_43 (f_X11_woolless_4 u n) u v1 (v2 + (rd u (22 + v1.toNatClampNeg) v3.toNatClampNeg)) v3))) else ((f_X11_woolless_43 (f_X11_woolless_4 u n) u v1 v2 v3))))
def f_X11_woolless (u : xS) (v1 : Int32) : Option Int32 :=
  (f_X11_woolless_4 u xN v1 (0 : Int32) (0 : Int32))
def f_X11_offOf_181 (v1 : Int32) (u : xS) : Option (Int32 × xS) :=
  gd (xin v1 24) ((f_X10_valueOf (rd u 14 v1.toNatClampNeg) u).bind fun q5 => some ((imax (0 : Int32) (imin (1000 : Int32) q5.1)), q5.2))
def f_X11_offOf (v1 : Int32) (v2 : Int32) (u : xS) : Option (Int32 × xS) :=
  (f_X5_held u v1 v2).bind fun x2 => if (f_X11_lies x2 (0 : Int32) (59 : Int32)) = 0 then (some ((-1 : Int32), u)) else (gd (xin v1 24) (gd (xin x2 60) ((f_X10_clearLetters u).bind fun u7 => (f_X11_inThousand (imax (0 : Int32) ((rd u 16 v1.toNatClampNeg) - (((rd u 50 x2.toNatClampNeg) * ((1000 : Int32) - (rd u 51 x2.toNatClampNeg))) / (1000 : Int32)))) (rd u 16 v1.toNatClampNeg)).bind fun x9 => (f_X10_tell (108 : Int32) x9 u7).bind fun u11 => (f_X10_tell (100 : Int32) (rd u11 51 x2.toNatClampNeg) u11).bind fun u13 => (f_X10_tell (113 : Int32) (rd u13 15 v1.toNatClampNeg) u13).bind fun u15 => (f_X0_isSorted u15 v1).bind fun x17 => if x17 = 0 then ((f_X11_offOf_181 v1 u15)) else ((f_X11_inThousand (rd u15 19 v1.toNatClampNeg) (rd u 16 v1.toNatClampNeg)).bind fun x20 => (f_X10_tell (107 : Int32) x20 u15).bind fun u22 => (f_X11_woolless u22 v1).bind fun x24 => (f_X11_inThousand x24 (rd u 16 v1.toNatClampNeg)).bind fun x26 => (f_X10_tell (111 : Int32) x26 u22).bind fun u28 => (f_X11_offOf_181 v1 u28)))))
def f_X11_due_58 (v1 : Int32) (v4 : Int32) (u : xS) : Option (Int32 × xS) :=
  gd (xin v1 24) (some (((((((rd u 16 v1.toNatClampNeg).toInt64) * ((rd u 17 v1.toNatClampNeg).toInt64)) * (((1000 : Int32) - v4).toInt64)) / (1000 : Int64)).toInt32), u))
def f_X11_due_47 (v1 : Int32) (v2 : Int32) (v3 : Int32) (u : xS) : Option (Int32 × xS) :=
  (f_X11_due_58 v1 (imax (0 : Int32) (imax v2 v3)) u)
def f_X11_due (v1 : Int32) (u : xS) : Option (Int32 × xS) :=
  if (f_X0_has u v1) = 0 then (some ((-1 : Int32), u)) else ((f_X11_offOf v1 (0 : Int32) u).bind fun q11 => (f_X11_offOf v1 (1 : Int32) q11.2).bind fun q10 => if q11.1 = (-1 : Int32) then ((f_X11_due_47 v1 q11.1 q10.1 q10.2)) else (if q10.1 = (-1 : Int32) then ((f_X11_due_47 v1 q11.1 q10.1 q10.2)) else ((f_X11_due_58 v1 ((q11.1 + q10.1) / (2 : Int32)) q10.2))))
def f_X11_end (v1 : Int32) (u : xS) : Option (Int32 × xS) :=
  if (f_X11_lies v1 (0 : Int32) (rd u 52 1)) = 0 then (some ((0 : Int32), u)) else (some ((1 : Int32), (wr u 52 1 v1)))
def f_X11_entry (v0 : Int32) (v1 : Int32) : Int32 :=
  if v0 = (0 : Int32) then ((v1.toInt8.toInt32)) else if v0 = (1 : Int32) then ((v1.toInt16.toInt32)) else (v1)
def f_X3_isOf_33 (u : xS) : Option Int32 :=
  some (1 : Int32)
def f_X3_isOf (u : xS) (v1 : Int32) (v2 : Int32) (v3 : Int32) (v4 : Int32) : Option Int32 :=
  gd (xin v2 2) (gd (xin v1 99) (if (rd u (115 + v2.toNatClampNeg) v1.toNatClampNeg) = v3 then (if v4 = (-1 : Int32) then ((f_X3_isOf_33 u)) else (gd (xin ((1 : Int32) - v2) 2) (if (rd u (115 + ((1 : Int32) - v2).toNatClampNeg) v1.toNatClampNeg) = v4 then ((f_X3_isOf_33 u)) else (some (0 : Int32))))) else (some (0 : Int32))))
def f_X3_alike_75 (k8 : Int32 → Int32 → Int32 → Int32 → Int32 → Option Int32) (u : xS) (v1 : Int32) (v2 : Int32) (v3 : Int32) (v4 : Int32) (v5 : Int32) : Option Int32 :=
  (k8 v1 v2 v3 v4 (v5 + (1 : Int32)))
def f_X3_alike_72 (k8 : Int32 → Int32 → Int32 → Int32 → Int32 → Option Int32) (u : xS) (v1 : Int32) (v2 : Int32) (v3 : Int32) (v5 : Int32) (s0 : Int32) (s1 : Int32) : Option Int32 :=
  (f_X3_alike_75 k8 u v1 v2 v3 (s0 + s1) v5)
def f_X3_alike_41 (k8 : Int32 → Int32 → Int32 → Int32 → Int32 → Option Int32) (u : xS) (v1 : Int32) (v2 : Int32) (v3 : Int32) (v4 : Int32) (v5 : Int32) : Option Int32 :=
  gd (xin v5 99) (if (rd u 118 v5.toNatClampNeg) = (rd u 119 v5.toNatClampNeg) then ((f_X3_alike_72 k8 u v1 v2 (v3 + (1 : Int32)) v5 v4 (1 : Int32))) else ((f_X3_alike_72 k8 u v1 v2 (v3 + (1 : Int32)) v5 v4 (0 : Int32))))
def f_X3_alike_8 (u : xS) : Nat → Int32 → Int32 → Int32 → Int32 → Int32 → Option Int32
  | 0, _, _, _, _, _ => none
  | n + 1, v1, v2, v3, v4, v5 => if (rd u 113 3) ≤ v5 then (if v3 = 0 then (some (-1 : Int32)) else ((f_X11_inThousand v4 v3).bind fun x4 => some x4)) else ((f_X3_isOf u v5 (0 : Int32) v1 v2).bind fun x6 => if x6 = 0 then ((f_X3_isOf u v5 (1 : Int32) v1 v2).bind fun x9 => if x9 = 0 then ((f_X3_alike_75 (f_X3_alike_8 u n) u v1 v2 v3 v4 v5)) else ((f_X3_alike_41 (f_X3_alike_8 u n) u v1 v2 v3 v4 v5))) else ((f_X3_alike_41 (f_X3_alike_8 u n) u v1 v2 v3 v4 v5)))
def f_X3_alike (u : xS) (v1 : Int32) (v2 : Int32) : Option Int32 :=
  (f_X3_alike_8 u xN v1 v2 (0 : Int32) (0 : Int32) (0 : Int32))
def f_X11_eye (u : xS) (v1 : Int32) : Option Int32 :=
  if (f_X11_isSorter v1) = 0 then (some (-1 : Int32)) else ((f_X3_alike u v1 (-1 : Int32)).bind fun x3 => some x3)
def f_X2_has (u : xS) (v1 : Int32) : Int32 :=
  if v1 < 0 then ((0 : Int32)) else (if (rd u 87 2) ≤ v1 then ((0 : Int32)) else ((1 : Int32)))
def f_X11_fault (v1 : Int32) (v2 : Int32) (u : xS) : Option (Int32 × xS) :=
  if (f_X2_has u v1) = 0 then (some ((-1 : Int32), u)) else (if (f_X11_lies v2 (0 : Int32) (2 : Int32)) = 0 then (some ((-1 : Int32), u)) else (gd (xin v1 20) (some ((rd u 109 v1.toNatClampNeg), (wr u 109 v1.toNatClampNeg v2)))))
def f_X6_lessen (v1 : Int32) (v2 : Int32) (v3 : Nat) (u : xS) : Option xS :=
  gd (xin v1 384) (gd (xin (rd u 75 v1.toNatClampNeg) 16) (gd (xisI v3) (gd (xin (rd u 76 v1.toNatClampNeg) (xlen v3)) (gd (xisI v3) (gd (xin (rd u 76 v1.toNatClampNeg) (xlen v3)) (some (wr (wr (wr u 77 v1.toNatClampNeg ((rd u 77 v1.toNatClampNeg) - v2)) 78 (rd u 75 v1.toNatClampNeg).toNatClampNeg ((rd u 78 (rd u 75 v1.toNatClampNeg).toNatClampNeg) - v2)) v3 (rd u 76 v1.toNatClampNeg).toNatClampNeg ((rd (wr (wr u 77 v1.toNatClampNeg ((rd u 77 v1.toNatClampNeg) - v2)) 78 (rd u 75 v1.toNatClampNeg).toNatClampNeg ((rd u 78 (rd u 75 v1.toNatClampNeg).toNatClampNeg) - v2)) v3 (rd u 76 v1.toNatClampNeg).toNatClampNeg) + v2))))))))
def f_X6_burn_5 : Nat → Int32 → Nat → Int32 → Int32 → xS → Option (Int32 × xS)
  | 0, _, _, _, _, _ => none
  | n + 1, v1, v2, v3, v4, u => if (rd u 74 4) ≤ v4 then (some (v3, u)) else (gd (xin v4 384) ((f_X6_lessen v4 ((((rd u 77 v4.toNatClampNeg) * v1) + (999 : Int32)) / (1000 : Int32)) v2 u).bind fun u4 => ((f_X6_burn_5 n) v1 v2 (v3 + ((((rd u 77 v4.toNatClampNeg) * v1) + (999 : Int32)) / (1000 : Int32))) (v4 + (1 : Int32)) u4)))
def f_X6_burn (v1 : Int32) (v2 : Nat) (u : xS) : Option (Int32 × xS) :=
  (f_X6_burn_5 xN v1 v2 (0 : Int32) (0 : Int32) u)
def f_X11_fire (v1 : Int32) (u : xS) : Option (Int32 × xS) :=
  if (f_X11_lies v1 (0 : Int32) (1000 : Int32)) = 0 then (some ((-1 : Int32), u)) else ((f_X6_burn v1 20 u).bind fun q5 => some (q5.1, q5.2))
def f_X8_isPart_5 (u : xS) : Nat → Int32 → Int32 → Int32 → Option Int32
  | 0, _, _, _ => none
  | n + 1, v2, v3, v4 => if (16 : Int32) ≤ v4 then (some (0 : Int32)) else (if (f_X8_has u v3) = 0 then (some (0 : Int32)) else (if v3 = v2 then (some (1 : Int32)) else (gd (xin v3 16) (((f_X8_isPart_5 u n) v2 (rd u 9 v3.toNatClampNeg) (v4 + (1 : Int32)))))))
def f_X8_isPart (u : xS) (v1 : Int32) (v2 : Int32) : Option Int32 :=
  (f_X8_isPart_5 u xN v2 v1 (0 : Int32))
def f_X11_poundsWithin_45 (k5 : Int32 → Int32 → Int32 → Int32 → Option Int32) (u : xS) (v1 : Int32) (v2 : Int32) (v3 : Int32) (v4 : Int32) : Option Int32 :=
  (k5 v1 v2 v3 (v4 + (1 : Int32)))
def f_X11_poundsWithin_5 (u : xS) : Nat → Int32 → Int32 → Int32 → Int32 → Option Int32
  | 0, _, _, _, _ => none
  | n + 1, v1, v2, v3, v4 => if (rd u 1 2) ≤ v4 then (some v3) else ((f_X8_isPart u v4 v2).bind fun x3 => if x3 = 0 then ((f_X11_poundsWithin_45 (f_X11_poundsWithin_5 u n) u v1 v2 v3 v4)) else (gd (xin v1 24) (gd (xin v4 16) ((f_X11_poundsWithin_45 (f_X11_poundsWithin_5 u n) u v1 v2 (v3 + (rd u (22 + v1.toNatClampNeg) v4.toNatClampNeg)) v4)))))
def f_X11_poundsWithin (u : xS) (v1 : Int32) (v2 : Int32) : Option Int32 :=
  (f_X11_poundsWithin_5 u xN v1 v2 (0 : Int32) (0 : Int32))
def f_X11_tell (v1 : Int32) (u : xS) : Option xS :=
  if (48 : Int32) ≤ (rd u 0 12) then (some u) else (gd (xin (rd u 0 12) 48) (some (wr (wr u 134 (rd u 0 12).toNatClampNeg v1) 0 12 ((rd u 0 12) + (1 : Int32)))))
def f_X11_foretell_154 (k44 : Int32 → Int32 → Int32 → Int32 → Int32 → Int32 → Int32 → xS → Option (Int32 × xS)) (v1 : Int32) (v2 : Int32) (v3 : Int32) (v4 : Int32) (v5 : Int32) (v6 : Int32) (v7 : Int32) (u : xS) : Option (Int32 × xS) :=
  (k44 v1 v2 v3 v4 v5 v6 (v7 + (1 : Int32)) u)
def f_X11_foretell_140 (k44 : Int32 → Int32 → Int32 → Int32 → Int32 → Int32 → Int32 → xS → Option (Int32 × xS)) (v1 : Int32) (v2 : Int32) (v3 : Int32) (v5 : Int32) (v6 : Int32) (v7 : Int32) (v8 : Int32) (s0 : Int32) (u : xS) : Option (Int32 × xS) :=
  (f_X11_foretell_154 k44 v1 v2 v3 s0 (imax v5 v8) (v6 + (1 : Int32)) v7 u)
def f_X11_foretell_101 (k44 : Int32 → Int32 → Int32 → Int32 → Int32 → Int32 → Int32 → xS → Option (Int32 × xS)) (v1 : Int32) (v2 : Int32) (v3 : Int32) (v4 : Int32) (v5 : Int32) (v6 : Int32) (v7 : Int32) (u : xS) : Option (Int32 × xS) :=
  (f_X11_poundsWithin u v7 v3).bind fun x2 => gd (xin v7 24) ((f_X11_inThousand x2 (rd u 16 v7.toNatClampNeg)).bind fun x5 => if v6 = 0 then ((f_X11_foretell_140 k44 v1 v2 v3 v5 v6 v7 x5 x5 u)) else ((f_X11_foretell_140 k44 v1 v2 v3 v5 v6 v7 x5 (imin v4 x5) u)))
def f_X11_foretell_44 : Nat → Int32 → Int32 → Int32 → Int32 → Int32 → Int32 → Int32 → xS → Option (Int32 × xS)
  | 0, _, _, _, _, _, _, _, _ => none
  | n + 1, v1, v2, v3, v4, v5, v6, v7, u => if (rd u 13 8) ≤ v7 then (if v6 = 0 then (some ((-1 : Int32), u)) else ((f_X11_tell v4 (wr u 0 12 (0 : Int32))).bind fun u4 => (f_X11_tell v5 u4).bind fun u6 => (f_X11_tell v6 u6).bind fun u8 => some (v4, u8))) else ((f_X0_isSorted u v7).bind fun x10 => if x10 = 0 then ((f_X11_foretell_154 (f_X11_foretell_44 n) v1 v2 v3 v4 v5 v6 v7 u)) else (gd (xin v7 24) (if (rd u 14 v7.toNatClampNeg) = v1 then (if v2 = (-1 : Int32) then ((f_X11_foretell_101 (f_X11_foretell_44 n) v1 v2 v3 v4 v5 v6 v7 u)) else (if (rd u 15 v7.toNatClampNeg) = v2 then ((f_X11_foretell_101 (f_X11_foretell_44 n) v1 v2 v3 v4 v5 v6 v7 u)) else ((f_X11_foretell_154 (f_X11_foretell_44 n) v1 v2 v3 v4 v5 v6 v7 u)))) else ((f_X11_foretell_154 (f_X11_foretell_44 n) v1 v2 v3 v4 v5 v6 v7 u)))))
def f_X11_foretell_19 (v1 : Int32) (v2 : Int32) (v3 : Int32) (u : xS) : Option (Int32 × xS) :=
  if (f_X8_has u v3) = 0 then (some ((-1 : Int32), u)) else ((f_X11_foretell_44 xN v1 v2 v3 (-1 : Int32) (-1 : Int32) (0 : Int32) (0 : Int32) u))
def f_X11_foretell (v1 : Int32) (v2 : Int32) (v3 : Int32) (u : xS) : Option (Int32 × xS) :=
  if (f_X11_isSeller v1) = 0 then (some ((-1 : Int32), u)) else (if v2 = (-1 : Int32) then ((f_X11_foretell_19 v1 v2 v3 u)) else (if (f_X11_isMark v2) = 0 then (some ((-1 : Int32), u)) else ((f_X11_foretell_19 v1 v2 v3 u))))
def f_X11_isLand (v0 : Int32) : Int32 :=
  (f_X11_lies v0 (0 : Int32) (3 : Int32))
def f_X4_hasPack (u : xS) (v1 : Int32) : Int32 :=
  if v1 < 0 then ((0 : Int32)) else (if (rd u 121 6) ≤ v1 then ((0 : Int32)) else ((1 : Int32)))
def f_X4_given_53 (u : xS) : Option Int32 :=
  some (-2 : Int32)
def f_X4_given_40 (u : xS) (v2 : Int32) (v3 : Int32) (s0 : Int32) : Option Int32 :=
  if v3 = (-1 : Int32) then ((f_X4_given_53 u)) else (if s0 = (-1 : Int32) then ((f_X4_given_53 u)) else (gd (xin v2 8) (some ((v3 * (rd u 129 v2.toNatClampNeg)) + (s0 * (rd u 131 v2.toNatClampNeg))))))
def f_X4_given (u : xS) (v1 : Int32) (v2 : Int32) : Option Int32 :=
  gd (xin v1 4) (gd (xin v2 8) (gd (xin (rd u 128 v2.toNatClampNeg) 16) (if (rd u 131 v2.toNatClampNeg) = 0 then ((f_X4_given_40 u v2 (rd u (123 + v1.toNatClampNeg) (rd u 128 v2.toNatClampNeg).toNatClampNeg) (0 : Int32))) else (gd (xin (rd u 130 v2.toNatClampNeg) 16) ((f_X4_given_40 u v2 (rd u (123 + v1.toNatClampNeg) (rd u 128 v2.toNatClampNeg).toNatClampNeg) (rd u (123 + v1.toNatClampNeg) (rd u 130 v2.toNatClampNeg).toNatClampNeg)))))))
def f_X11_gives (u : xS) (v1 : Int32) (v2 : Int32) : Option Int32 :=
  if (f_X11_isLand v1) = 0 then (some (-1 : Int32)) else (if (f_X4_hasPack u v2) = 0 then (some (-1 : Int32)) else ((f_X4_given u v1 v2).bind fun x4 => some x4))
def f_X6_ofSort (u : xS) (v1 : Int32) : Option Int32 :=
  gd (xin v1 16) (some (rd u 78 v1.toNatClampNeg))
def f_X11_hasFor_2 (u : xS) : Nat → Int32 → Int32 → Option Int32
  | 0, _, _ => none
  | n + 1, v1, v2 => if (rd u 1 2) ≤ v2 then (some (1 : Int32)) else ((f_X6_ofSort u v2).bind fun x3 => gd (xin v2 16) (if ((rd u 80 v2.toNatClampNeg) * v1) ≤ x3 then (((f_X11_hasFor_2 u n) v1 (v2 + (1 : Int32)))) else (some (0 : Int32))))
def f_X11_hasFor (u : xS) (v1 : Int32) : Option Int32 :=
  (f_X11_hasFor_2 u xN v1 (0 : Int32))
def f_X11_judge (v1 : Int32) (u : xS) : Option (Int32 × xS) :=
  if (f_X10_hasRecipe u v1) = 0 then (some ((-1 : Int32), u)) else ((f_X1_inAll u).bind fun x3 => if x3 = (12 : Int32) then ((f_X11_tellBlend 80 u).bind fun u6 => (f_X10_firstBroken v1 u6).bind fun q10 => some (q10.1, q10.2)) else (some ((-1 : Int32), u)))
def f_X11_led_70 (k22 : Int32 → Int32 → Int32 → xS → Option (Int32 × xS)) (v1 : Int32) (v2 : Int32) (v3 : Int32) (u : xS) : Option (Int32 × xS) :=
  (k22 v1 v2 (v3 + (1 : Int32)) u)
def f_X11_led_22 : Nat → Int32 → Int32 → Int32 → xS → Option (Int32 × xS)
  | 0, _, _, _, _ => none
  | n + 1, v1, v2, v3, u => if (rd u 13 8) ≤ v3 then (some (v2, u)) else (gd (xin v1 20) (gd (xin v3 24) (if (rd u (89 + v1.toNatClampNeg) v3.toNatClampNeg) ≤ 0 then ((f_X11_led_70 (f_X11_led_22 n) v1 v2 v3 u)) else ((f_X11_tell v3 u).bind fun u6 => (f_X11_tell (rd u6 (89 + v1.toNatClampNeg) v3.toNatClampNeg) u6).bind fun u8 => (f_X11_led_70 (f_X11_led_22 n) v1 (v2 + (1 : Int32)) v3 u8)))))
def f_X11_led (v1 : Int32) (u : xS) : Option (Int32 × xS) :=
  if (f_X2_has u v1) = 0 then (some ((-1 : Int32), u)) else ((f_X11_led_22 xN v1 (0 : Int32) (0 : Int32) (wr u 0 12 (0 : Int32))))
def f_X5_add (v1 : Int32) (v2 : Int32) (v3 : Int32) (v4 : Int32) (v5 : Int32) (u : xS) : Option (Int32 × xS) :=
  if (rd u 46 5) < (60 : Int32) then (gd (xin (rd u 46 5) 60) (some (((rd u 46 5) + (1 : Int32)), (wr (wr (wr (wr (wr (wr u 47 (rd u 46 5).toNatClampNeg v1) 48 (rd u 46 5).toNatClampNeg v2) 49 (rd u 46 5).toNatClampNeg v3) 50 (rd u 46 5).toNatClampNeg v4) 51 (rd u 46 5).toNatClampNeg v5) 46 5 ((rd u 46 5) + (1 : Int32)))))) else (some ((-1 : Int32), u))
def f_X11_look_32 (v1 : Int32) (v2 : Int32) (v3 : Int32) (v4 : Int32) (v5 : Int32) (s0 : Int32) (u : xS) : Option (Int32 × xS) :=
  if s0 = 0 then (some ((-1 : Int32), u)) else (if (f_X11_lies v4 (0 : Int32) (9999 : Int32)) = 0 then (some ((-1 : Int32), u)) else (if (f_X11_lies v5 (0 : Int32) (1000 : Int32)) = 0 then (some ((-1 : Int32), u)) else (if (rd u 46 5) < (60 : Int32) then ((f_X5_add v1 v2 v3 v4 v5 u).bind fun q8 => some (q8.1, q8.2)) else (some ((-1 : Int32), u)))))
def f_X11_look_31 (v1 : Int32) (v2 : Int32) (v3 : Int32) (v4 : Int32) (v5 : Int32) (u : xS) : Option (Int32 × xS) :=
  (f_X11_look_32 v1 v2 v3 v4 v5 (0 : Int32) u)
def f_X11_look (v1 : Int32) (v2 : Int32) (v3 : Int32) (v4 : Int32) (v5 : Int32) (u : xS) : Option (Int32 × xS) :=
  if (f_X0_has u v1) = 0 then ((f_X11_look_31 v1 v2 v3 v4 v5 u)) else (if (f_X11_lies v2 (0 : Int32) (1 : Int32)) = 0 then ((f_X11_look_31 v1 v2 v3 v4 v5 u)) else (if (f_X11_isDay v3) = 0 then ((f_X11_look_31 v1 v2 v3 v4 v5 u)) else ((f_X11_look_32 v1 v2 v3 v4 v5 (1 : Int32) u))))
def f_X6_takeOut_61 (k6 : Int32 → Nat → Int32 → Int32 → xS → Option xS) (v1 : Int32) (v3 : Nat) (v4 : Int32) (v5 : Int32) (u : xS) : Option xS :=
  (k6 v1 v3 v4 (v5 + (1 : Int32)) u)
def f_X6_takeOut_6 : Nat → Int32 → Nat → Int32 → Int32 → xS → Option xS
  | 0, _, _, _, _, _ => none
  | n + 1, v1, v3, v4, v5, u => if (rd u 74 4) ≤ v5 then (some u) else (if v4 ≤ 0 then (some u) else (gd (xin v5 384) (if (rd u 75 v5.toNatClampNeg) = v1 then ((f_X6_lessen v5 (imin v4 (rd u 77 v5.toNatClampNeg)) v3 u).bind fun u6 => (f_X6_takeOut_61 (f_X6_takeOut_6 n) v1 v3 (v4 - (imin v4 (rd u 77 v5.toNatClampNeg))) v5 u6)) else ((f_X6_takeOut_61 (f_X6_takeOut_6 n) v1 v3 v4 v5 u)))))
def f_X6_takeOut (v1 : Int32) (v2 : Int32) (v3 : Nat) (u : xS) : Option xS :=
  (f_X6_takeOut_6 xN v1 v3 v2 (0 : Int32) u)
def f_X2_add (u : xS) : Option (Int32 × xS) :=
  if (rd u 87 2) < (20 : Int32) then (gd (xin (rd u 87 2) 20) (some ((rd u 87 2), (wr (wr u 109 (rd u 87 2).toNatClampNeg (2 : Int32)) 87 2 ((rd u 87 2) + (1 : Int32)))))) else (some ((-1 : Int32), u))
def f_X11_make_68 : Nat → Int32 → Int32 → Int32 → xS → Option (Int32 × xS)
  | 0, _, _, _, _ => none
  | n + 1, v1, v2, v3, u => if (rd u 1 2) ≤ v3 then (some (v2, u)) else (gd (xin v3 16) (gd (xin v2 20) ((f_X6_takeOut v3 ((rd u 80 v3.toNatClampNeg) * (v1 / (12 : Int32))) (89 + v2.toNatClampNeg) u).bind fun u5 => ((f_X11_make_68 n) v1 v2 (v3 + (1 : Int32)) u5))))
def f_X11_make (v1 : Int32) (u : xS) : Option (Int32 × xS) :=
  if (f_X11_lies v1 (12 : Int32) (9996 : Int32)) = 0 then (some ((-1 : Int32), u)) else (if (irem v1 (12 : Int32)) = 0 then ((f_X1_inAll u).bind fun x4 => if x4 = (12 : Int32) then (if (20 : Int32) ≤ (rd u 87 2) then (some ((-1 : Int32), u)) else ((f_X11_hasFor u (v1 / (12 : Int32))).bind fun x8 => if x8 = 0 then (some ((-1 : Int32), u)) else ((f_X2_add u).bind fun q13 => (f_X11_make_68 xN v1 q13.1 (0 : Int32) q13.2)))) else (some ((-1 : Int32), u))) else (some ((-1 : Int32), u)))
def f_X11_met (u : xS) (v1 : Int32) (v2 : Int32) : Option Int32 :=
  if (f_X11_isSorter v1) = 0 then (some (-1 : Int32)) else (if (f_X11_isSorter v2) = 0 then (some (-1 : Int32)) else ((f_X3_alike u v1 v2).bind fun x4 => some x4))
def f_X1_choose (v1 : Int32) (v2 : Int32) (v3 : Int32) (u : xS) : Option xS :=
  if (6 : Int32) ≤ (rd u 79 5) then (some u) else (gd (xin (rd u 79 5) 6) (some (wr (wr (wr (wr u 82 (rd u 79 5).toNatClampNeg v1) 83 (rd u 79 5).toNatClampNeg v2) 84 (rd u 79 5).toNatClampNeg v3) 79 5 ((rd u 79 5) + (1 : Int32)))))
def f_X1_settle (u : xS) : Option xS :=
  gd (xcok (0 : Int32) (0 : Int32) (16 : Int32) 16 16) (some (xcpy u 86 (0 : Int32).toNatClampNeg 80 (0 : Int32).toNatClampNeg (16 : Int32).toNatClampNeg))
def f_X11_mix_176 (k102 : Int32 → Int32 → Int32 → Int32 → Int32 → xS → Option (Int32 × xS)) (v1 : Int32) (v2 : Int32) (v3 : Int32) (v4 : Int32) (v7 : Int32) (u : xS) : Option (Int32 × xS) :=
  (k102 v1 v2 v3 v4 (v7 + (1 : Int32)) u)
def f_X11_mix_152 (k102 : Int32 → Int32 → Int32 → Int32 → Int32 → xS → Option (Int32 × xS)) (v1 : Int32) (v2 : Int32) (v3 : Int32) (v4 : Int32) (v7 : Int32) (s0 : Int32) (u : xS) : Option (Int32 × xS) :=
  (f_X8_priceIn u v7 v4).bind fun x2 => (f_X1_choose v7 x2 s0 u).bind fun u4 => (f_X11_mix_176 k102 v1 v2 v3 v4 v7 u4)
def f_X11_mix_102 : Nat → Int32 → Int32 → Int32 → Int32 → Int32 → xS → Option (Int32 × xS)
  | 0, _, _, _, _, _, _ => none
  | n + 1, v1, v2, v3, v4, v7, u => if (rd u 1 2) ≤ v7 then ((f_X11_cheapest v1 u).bind fun q8 => if q8.1 < 0 then (some (q8.1, q8.2)) else ((f_X1_settle q8.2).bind fun u7 => some (q8.1, u7))) else (if ((v2 >>> (v7 &&& 31)) &&& (1 : Int32)) = (1 : Int32) then (if v3 = 0 then ((f_X11_mix_152 (f_X11_mix_102 n) v1 v2 v3 v4 v7 (12 : Int32) u)) else ((f_X6_ofSort u v7).bind fun x12 => gd (xnz (v3 / (12 : Int32))) ((f_X11_mix_152 (f_X11_mix_102 n) v1 v2 v3 v4 v7 (imin (12 : Int32) (x12 / (v3 / (12 : Int32)))) u)))) else ((f_X11_mix_176 (f_X11_mix_102 n) v1 v2 v3 v4 v7 u)))
def f_X11_mix_58 (v1 : Int32) (v2 : Int32) (v3 : Int32) (v4 : Int32) (v5 : Int32) (s0 : Int32) (u : xS) : Option (Int32 × xS) :=
  if (f_X10_hasRecipe u v1) = 0 then (some ((-1 : Int32), u)) else (if v5 = 0 then (some ((-1 : Int32), u)) else (if s0 = 0 then (some ((-1 : Int32), u)) else (if (f_X11_isDay v4) = 0 then (some ((-1 : Int32), u)) else ((f_X11_mix_102 xN v1 v2 v3 v4 (0 : Int32) (wr u 79 5 (0 : Int32)))))))
def f_X11_mix_57 (v1 : Int32) (v2 : Int32) (v3 : Int32) (v4 : Int32) (v5 : Int32) (u : xS) : Option (Int32 × xS) :=
  (f_X11_mix_58 v1 v2 v3 v4 v5 (0 : Int32) u)
def f_X11_mix_33 (v1 : Int32) (v2 : Int32) (v3 : Int32) (v4 : Int32) (s0 : Int32) (u : xS) : Option (Int32 × xS) :=
  if (f_X11_lies v3 (0 : Int32) (9996 : Int32)) = 0 then ((f_X11_mix_57 v1 v2 v3 v4 s0 u)) else (if (irem v3 (12 : Int32)) = 0 then ((f_X11_mix_58 v1 v2 v3 v4 s0 (1 : Int32) u)) else ((f_X11_mix_57 v1 v2 v3 v4 s0 u)))
def f_X11_mix_32 (v1 : Int32) (v2 : Int32) (v3 : Int32) (v4 : Int32) (u : xS) : Option (Int32 × xS) :=
  (f_X11_mix_33 v1 v2 v3 v4 (0 : Int32) u)
def f_X11_mix (v1 : Int32) (v2 : Int32) (v3 : Int32) (v4 : Int32) (u : xS) : Option (Int32 × xS) :=
  if (f_X11_lies v2 (1 : Int32) (((1 : Int32) <<< ((rd u 1 2) &&& 31)) - (1 : Int32))) = 0 then ((f_X11_mix_32 v1 v2 v3 v4 u)) else (if (6 : Int32) < (f_J6_bitCount_0f7a4 v2) then ((f_X11_mix_32 v1 v2 v3 v4 u)) else ((f_X11_mix_33 v1 v2 v3 v4 (1 : Int32) u)))
def f_X6_eat_49 (k5 : Int32 → Nat → Int32 → Int32 → xS → Option (Int32 × xS)) (v1 : Int32) (v2 : Nat) (v3 : Int32) (v4 : Int32) (u : xS) : Option (Int32 × xS) :=
  (k5 v1 v2 v3 (v4 + (1 : Int32)) u)
def f_X6_eat_5 : Nat → Int32 → Nat → Int32 → Int32 → xS → Option (Int32 × xS)
  | 0, _, _, _, _, _ => none
  | n + 1, v1, v2, v3, v4, u => if (rd u 74 4) ≤ v4 then (some (v3, u)) else (gd (xin v4 384) (if (rd u 76 v4.toNatClampNeg) = v1 then ((f_X6_lessen v4 (rd u 77 v4.toNatClampNeg) v2 u).bind fun u5 => (f_X6_eat_49 (f_X6_eat_5 n) v1 v2 (v3 + (rd u 77 v4.toNatClampNeg)) v4 u5)) else ((f_X6_eat_49 (f_X6_eat_5 n) v1 v2 v3 v4 u))))
def f_X6_eat (v1 : Int32) (v2 : Nat) (u : xS) : Option (Int32 × xS) :=
  (f_X6_eat_5 xN v1 v2 (0 : Int32) (0 : Int32) u)
def f_X11_moth (v1 : Int32) (u : xS) : Option (Int32 × xS) :=
  if (f_X0_has u v1) = 0 then (some ((-1 : Int32), u)) else ((f_X6_eat v1 20 u).bind fun q5 => some (q5.1, q5.2))
def f_X6_ofBale_31 (k4 : Int32 → Int32 → Int32 → Option Int32) (u : xS) (v1 : Int32) (v2 : Int32) (v3 : Int32) : Option Int32 :=
  (k4 v1 v2 (v3 + (1 : Int32)))
def f_X6_ofBale_4 (u : xS) : Nat → Int32 → Int32 → Int32 → Option Int32
  | 0, _, _, _ => none
  | n + 1, v1, v2, v3 => if (rd u 74 4) ≤ v3 then (some v2) else (gd (xin v3 384) (if (rd u 76 v3.toNatClampNeg) = v1 then ((f_X6_ofBale_31 (f_X6_ofBale_4 u n) u v1 (v2 + (rd u 77 v3.toNatClampNeg)) v3)) else ((f_X6_ofBale_31 (f_X6_ofBale_4 u n) u v1 v2 v3))))
def f_X6_ofBale (u : xS) (v1 : Int32) : Option Int32 :=
  (f_X6_ofBale_4 u xN v1 (0 : Int32) (0 : Int32))
def f_X2_ofBale_4 (u : xS) : Nat → Int32 → Int32 → Int32 → Option Int32
  | 0, _, _, _ => none
  | n + 1, v1, v2, v3 => if (rd u 87 2) ≤ v3 then (some v2) else (gd (xin v3 20) (gd (xin v1 24) (((f_X2_ofBale_4 u n) v1 (v2 + (rd u (89 + v3.toNatClampNeg) v1.toNatClampNeg)) (v3 + (1 : Int32))))))
def f_X2_ofBale (u : xS) (v1 : Int32) : Option Int32 :=
  (f_X2_ofBale_4 u xN v1 (0 : Int32) (0 : Int32))
def f_X11_of (u : xS) (v1 : Int32) (v2 : Int32) : Option Int32 :=
  if (f_X0_has u v1) = 0 then (some (-1 : Int32)) else (if v2 = (0 : Int32) then (gd (xin v1 24) (some (rd u 16 v1.toNatClampNeg))) else if v2 = (1 : Int32) then (gd (xin v1 24) (some (rd u 19 v1.toNatClampNeg))) else if v2 = (2 : Int32) then (gd (xin v1 24) (some (rd u 18 v1.toNatClampNeg))) else if v2 = (3 : Int32) then ((f_X6_ofBale u v1).bind fun x10 => some x10) else if v2 = (4 : Int32) then ((f_X2_ofBale u v1).bind fun x13 => some x13) else if v2 = (5 : Int32) then (gd (xin v1 24) (some (rd u 20 v1.toNatClampNeg))) else (some (-1 : Int32)))
def f_X11_off (v1 : Int32) (v2 : Int32) (u : xS) : Option (Int32 × xS) :=
  if (f_X0_has u v1) = 0 then (some ((-1 : Int32), u)) else (if (f_X11_lies v2 (0 : Int32) (1 : Int32)) = 0 then (some ((-1 : Int32), u)) else ((f_X11_offOf v1 v2 u).bind fun q6 => some (q6.1, q6.2)))
def f_X11_sheetFits_6 : Nat → Int32 → Int32 → Int32 → Int32 → Int32 → Int64 → Int32 → Option Int32
  | 0, _, _, _, _, _, _, _ => none
  | n + 1, v0, v1, v2, v3, v4, v5, v7 => if v2 ≤ v7 then (if 0 < (lg_cmp v5 ((v0).toInt64)) then (some (0 : Int32)) else (some (1 : Int32))) else (if 0 ≤ (f_X11_entry v1 (v3 + (v7 * v4))) then (((f_X11_sheetFits_6 n) v0 v1 v2 v3 v4 (v5 + ((f_X11_entry v1 (v3 + (v7 * v4))).toInt64)) (v7 + (1 : Int32)))) else (some (0 : Int32)))
def f_X11_sheetFits (v0 : Int32) (v1 : Int32) (v2 : Int32) (v3 : Int32) (v4 : Int32) : Option Int32 :=
  (f_X11_sheetFits_6 xN v0 v1 v2 v3 v4 (0 : Int64) (0 : Int32))
def f_X6_add (v1 : Int32) (v2 : Int32) (v3 : Int32) (u : xS) : Option xS :=
  if (384 : Int32) ≤ (rd u 74 4) then (some u) else (gd (xin (rd u 74 4) 384) (gd (xin v1 16) (some (wr (wr (wr (wr (wr u 75 (rd u 74 4).toNatClampNeg v1) 76 (rd u 74 4).toNatClampNeg v2) 77 (rd u 74 4).toNatClampNeg v3) 78 v1.toNatClampNeg ((rd u 78 v1.toNatClampNeg) + v3)) 74 4 ((rd u 74 4) + (1 : Int32))))))
def f_X11_unload_85 (v1 : Int32) (v6 : Int32) (u : xS) : Option (Int32 × xS) :=
  gd (xin v1 24) (some (v6, (wr u 19 v1.toNatClampNeg v6)))
def f_X11_unload_79 (k14 : Int32 → Int32 → Int32 → Int32 → Int32 → Int32 → Int32 → xS → Option (Int32 × xS)) (v1 : Int32) (v2 : Int32) (v3 : Int32) (v4 : Int32) (v5 : Int32) (v6 : Int32) (v7 : Int32) (u : xS) : Option (Int32 × xS) :=
  (k14 v1 v2 v3 v4 v5 v6 (v7 + (1 : Int32)) u)
def f_X11_unload_14 : Nat → Int32 → Int32 → Int32 → Int32 → Int32 → Int32 → Int32 → xS → Option (Int32 × xS)
  | 0, _, _, _, _, _, _, _, _ => none
  | n + 1, v1, v2, v3, v4, v5, v6, v7, u => if v3 ≤ v7 then ((f_X11_unload_85 v1 v6 u)) else (if (16 : Int32) ≤ v7 then ((f_X11_unload_85 v1 v6 u)) else (gd (xin v1 24) (gd (xin v7 16) (if (f_X11_entry v2 (v4 + (v7 * v5))) ≤ 0 then ((f_X11_unload_79 (f_X11_unload_14 n) v1 v2 v3 v4 v5 (v6 - (f_X11_entry v2 (v4 + (v7 * v5)))) v7 (wr u (22 + v1.toNatClampNeg) v7.toNatClampNeg (f_X11_entry v2 (v4 + (v7 * v5)))))) else ((f_X6_add v7 v1 (f_X11_entry v2 (v4 + (v7 * v5))) (wr u (22 + v1.toNatClampNeg) v7.toNatClampNeg (f_X11_entry v2 (v4 + (v7 * v5))))).bind fun u7 => (f_X11_unload_79 (f_X11_unload_14 n) v1 v2 v3 v4 v5 (v6 - (f_X11_entry v2 (v4 + (v7 * v5)))) v7 u7))))))
def f_X11_unload (v1 : Int32) (v2 : Int32) (v3 : Int32) (v4 : Int32) (v5 : Int32) (u : xS) : Option (Int32 × xS) :=
  gd (xin v1 24) ((f_X11_unload_14 xN v1 v2 v3 v4 v5 (rd u 16 v1.toNatClampNeg) (0 : Int32) u))
def f_X11_open (v1 : Int32) (v2 : Int32) (v3 : Int32) (v4 : Int32) (v5 : Int32) (v6 : Int32) (u : xS) : Option (Int32 × xS) :=
  if (f_X0_has u v1) = 0 then (some ((-1 : Int32), u)) else (if (f_X11_isSorter v2) = 0 then (some ((-1 : Int32), u)) else (if (f_X11_lies v3 (0 : Int32) (3 : Int32)) = 0 then (some ((-1 : Int32), u)) else ((f_X0_isSorted u v1).bind fun x5 => if x5 = 0 then (if v4 ≤ (rd u 1 2) then (if v3 = (3 : Int32) then (some ((-3 : Int32), u)) else (if 0 ≤ v4 then (gd (xin v1 24) ((f_X11_sheetFits (rd u 16 v1.toNatClampNeg) v3 v4 v5 v6).bind fun x12 => if x12 = 0 then (some ((-4 : Int32), u)) else ((f_X11_unload v1 v3 v4 v5 v6 (wr u 18 v1.toNatClampNeg v2)).bind fun q17 => some (q17.1, q17.2)))) else (some ((-2 : Int32), u)))) else (some ((-1 : Int32), u))) else (some ((-1 : Int32), u)))))
def f_X4_addPack (v1 : Int32) (v2 : Int32) (v3 : Int32) (v4 : Int32) (u : xS) : Option (Int32 × xS) :=
  if (rd u 121 6) < (8 : Int32) then (gd (xin (rd u 121 6) 8) (some ((rd u 121 6), (wr (wr (wr (wr (wr u 128 (rd u 121 6).toNatClampNeg v1) 129 (rd u 121 6).toNatClampNeg v2) 130 (rd u 121 6).toNatClampNeg v3) 131 (rd u 121 6).toNatClampNeg v4) 121 6 ((rd u 121 6) + (1 : Int32)))))) else (some ((-1 : Int32), u))
def f_X11_pack_162 (v4 : Int32) (s1 : Int32) (s2 : Int32) (s3 : Int32) (u : xS) : Option (Int32 × xS) :=
  (f_X4_addPack s1 s2 s3 v4 u).bind fun q4 => some (q4.1, q4.2)
def f_X11_pack_146 (v1 : Int32) (v2 : Int32) (v3 : Int32) (v4 : Int32) (u : xS) : Option (Int32 × xS) :=
  if v4 = 0 then ((f_X11_pack_162 v4 v1 v2 v1 u)) else ((f_X11_pack_162 v4 v1 v2 v3 u))
def f_X11_pack_87 (v1 : Int32) (v2 : Int32) (v3 : Int32) (v4 : Int32) (s0 : Int32) (u : xS) : Option (Int32 × xS) :=
  if s0 = 0 then (some ((-1 : Int32), u)) else (if (rd u 121 6) < (8 : Int32) then ((f_X6_takeOut v1 v2 20 u).bind fun u4 => if v4 ≤ 0 then ((f_X11_pack_146 v1 v2 v3 v4 u4)) else ((f_X6_takeOut v3 v4 20 u4).bind fun u7 => (f_X11_pack_146 v1 v2 v3 v4 u7))) else (some ((-1 : Int32), u)))
def f_X11_pack_82 (v1 : Int32) (v2 : Int32) (v3 : Int32) (v4 : Int32) (u : xS) : Option (Int32 × xS) :=
  (f_X11_pack_87 v1 v2 v3 v4 (1 : Int32) u)
def f_X11_pack_86 (v1 : Int32) (v2 : Int32) (v3 : Int32) (v4 : Int32) (u : xS) : Option (Int32 × xS) :=
  (f_X11_pack_87 v1 v2 v3 v4 (0 : Int32) u)
def f_X11_pack (v1 : Int32) (v2 : Int32) (v3 : Int32) (v4 : Int32) (u : xS) : Option (Int32 × xS) :=
  if (f_X8_has u v1) = 0 then (some ((-1 : Int32), u)) else (if (f_X11_lies v2 (1 : Int32) (9999 : Int32)) = 0 then (some ((-1 : Int32), u)) else (if (f_X11_lies v4 (0 : Int32) (9999 : Int32)) = 0 then (some ((-1 : Int32), u)) else ((f_X6_ofSort u v1).bind fun x5 => if v2 ≤ x5 then (if v4 = 0 then ((f_X11_pack_82 v1 v2 v3 v4 u)) else (if (f_X8_has u v3) = 0 then ((f_X11_pack_86 v1 v2 v3 v4 u)) else (if v3 = v1 then ((f_X11_pack_86 v1 v2 v3 v4 u)) else ((f_X6_ofSort u v3).bind fun x11 => if x11 < v4 then ((f_X11_pack_86 v1 v2 v3 v4 u)) else ((f_X11_pack_82 v1 v2 v3 v4 u)))))) else (some ((-1 : Int32), u)))))
def f_X11_part (v1 : Int32) (v2 : Int32) (u : xS) : Option (Int32 × xS) :=
  if (f_X8_has u v1) = 0 then (some ((-1 : Int32), u)) else (if (f_X11_lies v2 (0 : Int32) (12 : Int32)) = 0 then (some ((-1 : Int32), u)) else (gd (xin v1 16) ((f_X1_inAll (wr u 80 v1.toNatClampNeg v2)).bind fun x5 => some (x5, (wr u 80 v1.toNatClampNeg v2)))))
def f_X11_pay_160 (s1 : Int32) (s2 : Int32) (u : xS) : Option (Int32 × xS) :=
  (f_X10_tell s1 s2 u).bind fun u2 => (f_X10_valueOf (10 : Int32) u2).bind fun q6 => some (q6.1, q6.2)
def f_X11_pay_85 (k19 : Int32 → Int32 → Int32 → Int32 → Int32 → xS → Option (Int32 × xS)) (v1 : Int32) (v2 : Int32) (v3 : Int32) (v4 : Int32) (v5 : Int32) (u : xS) : Option (Int32 × xS) :=
  (k19 v1 v2 v3 v4 (v5 + (1 : Int32)) u)
def f_X11_pay_19 : Nat → Int32 → Int32 → Int32 → Int32 → Int32 → xS → Option (Int32 × xS)
  | 0, _, _, _, _, _, _ => none
  | n + 1, v1, v2, v3, v4, v5, u => if (rd u 13 8) ≤ v5 then ((f_X3_alike u v1 (-1 : Int32)).bind fun x3 => (f_X10_clearLetters u).bind fun u5 => (f_X10_tell (112 : Int32) v2 u5).bind fun u7 => (f_X10_tell (122 : Int32) v3 u7).bind fun u9 => (f_X10_tell (110 : Int32) v4 u9).bind fun u11 => if x3 = (-1 : Int32) then ((f_X11_pay_160 (101 : Int32) (1000 : Int32) u11)) else ((f_X11_pay_160 (101 : Int32) x3 u11))) else (gd (xin v5 24) (if (rd u 18 v5.toNatClampNeg) = v1 then ((f_X11_pay_85 (f_X11_pay_19 n) v1 (v2 + ((rd u 16 v5.toNatClampNeg) - (rd u 19 v5.toNatClampNeg))) (v3 + (rd u 19 v5.toNatClampNeg)) (v4 + (1 : Int32)) v5 u)) else ((f_X11_pay_85 (f_X11_pay_19 n) v1 v2 v3 v4 v5 u))))
def f_X11_pay (v1 : Int32) (u : xS) : Option (Int32 × xS) :=
  if (f_X11_isSorter v1) = 0 then (some ((-1 : Int32), u)) else ((f_X11_pay_19 xN v1 (0 : Int32) (0 : Int32) (0 : Int32) (0 : Int32) u))
def f_X8_addPrice (v1 : Int32) (v2 : Int32) (v3 : Int32) (u : xS) : Option (Int32 × xS) :=
  if (rd u 1 6) < (60 : Int32) then (gd (xin (rd u 1 6) 60) (some (((rd u 1 6) + (1 : Int32)), (wr (wr (wr (wr u 10 (rd u 1 6).toNatClampNeg v1) 11 (rd u 1 6).toNatClampNeg v2) 12 (rd u 1 6).toNatClampNeg v3) 1 6 ((rd u 1 6) + (1 : Int32)))))) else (some ((-1 : Int32), u))
def f_X11_price_34 (v1 : Int32) (v2 : Int32) (v3 : Int32) (s0 : Int32) (u : xS) : Option (Int32 × xS) :=
  if s0 = 0 then (some ((-1 : Int32), u)) else (if (60 : Int32) ≤ (rd u 1 6) then (some ((-1 : Int32), u)) else ((f_X8_addPrice v1 v2 v3 u).bind fun q6 => some (q6.1, q6.2)))
def f_X11_price_33 (v1 : Int32) (v2 : Int32) (v3 : Int32) (u : xS) : Option (Int32 × xS) :=
  (f_X11_price_34 v1 v2 v3 (0 : Int32) u)
def f_X11_price (v1 : Int32) (v2 : Int32) (v3 : Int32) (u : xS) : Option (Int32 × xS) :=
  if (f_X8_has u v1) = 0 then ((f_X11_price_33 v1 v2 v3 u)) else (if (f_X11_isDay v2) = 0 then ((f_X11_price_33 v1 v2 v3 u)) else (if (f_X11_lies v3 (0 : Int32) (999 : Int32)) = 0 then ((f_X11_price_33 v1 v2 v3 u)) else ((f_X11_price_34 v1 v2 v3 (1 : Int32) u))))
def f_X3_hangingTogether_61 (k15 : Int32 → Int32 → Int32 → Option Int32) (k6 : Int32 → Int32 → Option Int32) (u : xS) (v2 : Int32) (v3 : Int32) (v4 : Int32) : Option Int32 :=
  (k15 v2 v3 (v4 + (1 : Int32)))
def f_X3_hangingTogether_15 (k6 : Int32 → Int32 → Option Int32) (u : xS) : Nat → Int32 → Int32 → Int32 → Option Int32
  | 0, _, _, _ => none
  | n + 1, v2, v3, v4 => if (rd u 113 3) ≤ v4 then ((k6 v2 (v3 + (1 : Int32)))) else (gd (xin v4 99) (if (v2 &&& (((1 : Int32) <<< ((rd u 115 v4.toNatClampNeg) &&& 31)) ||| ((1 : Int32) <<< ((rd u 116 v4.toNatClampNeg) &&& 31)))) = 0 then ((f_X3_hangingTogether_61 (f_X3_hangingTogether_15 k6 u n) k6 u v2 v3 v4)) else ((f_X3_hangingTogether_61 (f_X3_hangingTogether_15 k6 u n) k6 u (v2 ||| (((1 : Int32) <<< ((rd u 115 v4.toNatClampNeg) &&& 31)) ||| ((1 : Int32) <<< ((rd u 116 v4.toNatClampNeg) &&& 31)))) v3 v4))))
def f_X3_hangingTogether_6 (u : xS) : Nat → Int32 → Int32 → Option Int32
  | 0, _, _ => none
  | n + 1, v2, v3 => if (6 : Int32) ≤ v3 then (some v2) else ((f_X3_hangingTogether_15 (f_X3_hangingTogether_6 u n) u xN v2 v3 (0 : Int32)))
def f_X3_hangingTogether (u : xS) (v1 : Int32) : Option Int32 :=
  (f_X3_hangingTogether_6 u xN ((1 : Int32) <<< (v1 &&& 31)) (0 : Int32))
def f_X11_ring_45 (k25 : Int32 → Int32 → xS → Option (Int32 × xS)) (v2 : Int32) (v3 : Int32) (u : xS) : Option (Int32 × xS) :=
  (k25 v2 (v3 + (1 : Int32)) u)
def f_X11_ring_25 : Nat → Int32 → Int32 → xS → Option (Int32 × xS)
  | 0, _, _, _ => none
  | n + 1, v2, v3, u => if (6 : Int32) ≤ v3 then (some ((rd u 0 12), u)) else (if ((v2 >>> (v3 &&& 31)) &&& (1 : Int32)) = (1 : Int32) then ((f_X11_tell v3 u).bind fun u4 => (f_X11_ring_45 (f_X11_ring_25 n) v2 v3 u4)) else ((f_X11_ring_45 (f_X11_ring_25 n) v2 v3 u)))
def f_X11_ring (v1 : Int32) (u : xS) : Option (Int32 × xS) :=
  if (f_X11_isSorter v1) = 0 then (some ((-1 : Int32), u)) else ((f_X3_hangingTogether u v1).bind fun x3 => (f_X11_ring_25 xN x3 (0 : Int32) (wr u 0 12 (0 : Int32))))
def f_X4_sumOf (v0 : Int64) : Int32 :=
  ((v0 / (390625 : Int64)).toInt32)
def f_X4_landOf (v0 : Int64) (v2 : Int32) : Option Int32 :=
  if (f_X11_lies v2 (0 : Int32) (7 : Int32)) = 0 then (some (-1 : Int32)) else (gd (xin v2 8) (gd (xnzJ ((xWt (v2).toNatClampNeg).toInt64)) (if ((lrem ((lrem v0 (390625 : Int64)) / ((xWt (v2).toNatClampNeg).toInt64)) (5 : Int64)).toInt32) = 0 then (some (-1 : Int32)) else (some ((4 : Int32) - ((lrem ((lrem v0 (390625 : Int64)) / ((xWt (v2).toNatClampNeg).toInt64)) (5 : Int64)).toInt32))))))
def f_X4_bestWith_49 (k10 : Int32 → Int64 → Int32 → Option Int64) (u : xS) (v1 : Int32) (v2 : Int64) (v4 : Int32) : Option Int64 :=
  (k10 v1 v2 ((v4 - (1 : Int32)) &&& v1))
def f_X4_bestWith_10 (u : xS) : Nat → Int32 → Int64 → Int32 → Option Int64
  | 0, _, _, _ => none
  | n + 1, v1, v2, v4 => if v4 ≤ 0 then (some v2) else (gd (xin v4 256) (if (lg_cmp (rl u 132 v4.toNatClampNeg) (0 : Int64)) < 0 then ((f_X4_bestWith_49 (f_X4_bestWith_10 u n) u v1 v2 v4)) else (gd (xin (v1 - v4) 256) ((f_X4_bestWith_49 (f_X4_bestWith_10 u n) u v1 (lmax v2 ((rl u 132 v4.toNatClampNeg) + (rl u 133 (v1 - v4).toNatClampNeg))) v4)))))
def f_X4_bestWith (u : xS) (v1 : Int32) : Option Int64 :=
  gd (xin v1 256) ((f_X4_bestWith_10 u xN v1 (rl u 133 v1.toNatClampNeg) v1))
def f_X4_weigh_126 (k45 : Int32 → Int32 → Int32 → Int64 → Int32 → Int32 → xS → Option xS) (k9 : Int32 → Int32 → xS → Option xS) (v1 : Int32) (v2 : Int32) (v3 : Int32) (v4 : Int64) (v6 : Int32) (v7 : Int32) (s1 : Int32) (s2 : Int64) (u : xS) : Option xS :=
  gd (xin s1 256) ((k45 v1 v2 v3 v4 v6 (v7 + (1 : Int32)) (wl u 132 s1.toNatClampNeg s2)))
def f_X4_weigh_87 (k45 : Int32 → Int32 → Int32 → Int64 → Int32 → Int32 → xS → Option xS) (k9 : Int32 → Int32 → xS → Option xS) (v1 : Int32) (v2 : Int32) (v3 : Int32) (v4 : Int64) (v6 : Int32) (v7 : Int32) (s0 : Int32) (u : xS) : Option xS :=
  if s0 = 0 then ((f_X4_weigh_126 k45 k9 v1 v2 v3 v4 v6 v7 (v6 + v7) (-1 : Int64) u)) else (gd (xin v7 256) ((f_X4_weigh_126 k45 k9 v1 v2 v3 v4 v6 v7 (v6 + v7) (((rl u 132 v7.toNatClampNeg) + (((v3).toInt64) * (390625 : Int64))) + v4) u)))
def f_X4_weigh_86 (k45 : Int32 → Int32 → Int32 → Int64 → Int32 → Int32 → xS → Option xS) (k9 : Int32 → Int32 → xS → Option xS) (v1 : Int32) (v2 : Int32) (v3 : Int32) (v4 : Int64) (v6 : Int32) (v7 : Int32) (u : xS) : Option xS :=
  (f_X4_weigh_87 k45 k9 v1 v2 v3 v4 v6 v7 (0 : Int32) u)
def f_X4_weigh_45 (k9 : Int32 → Int32 → xS → Option xS) : Nat → Int32 → Int32 → Int32 → Int64 → Int32 → Int32 → xS → Option xS
  | 0, _, _, _, _, _, _, _ => none
  | n + 1, v1, v2, v3, v4, v6, v7, u => if v6 ≤ v7 then ((k9 v1 (v2 + (1 : Int32)) u)) else (if v3 < 0 then ((f_X4_weigh_86 (f_X4_weigh_45 k9 n) k9 v1 v2 v3 v4 v6 v7 u)) else (gd (xin v7 256) (if (lg_cmp (rl u 132 v7.toNatClampNeg) (0 : Int64)) < 0 then ((f_X4_weigh_86 (f_X4_weigh_45 k9 n) k9 v1 v2 v3 v4 v6 v7 u)) else (gd (xin v1 4) (if (rd u 127 v1.toNatClampNeg) ≤ (f_J6_bitCount_0f7a4 v7) then ((f_X4_weigh_86 (f_X4_weigh_45 k9 n) k9 v1 v2 v3 v4 v6 v7 u)) else ((f_X4_weigh_87 (f_X4_weigh_45 k9 n) k9 v1 v2 v3 v4 v6 v7 (1 : Int32) u)))))))
def f_X4_weigh_9 : Nat → Int32 → Int32 → xS → Option xS
  | 0, _, _, _ => none
  | n + 1, v1, v2, u => if (rd u 121 6) ≤ v2 then (some u) else ((f_X4_given u v1 v2).bind fun x3 => gd (xin v2 8) ((f_X4_weigh_45 (f_X4_weigh_9 n) xN v1 v2 x3 ((((4 : Int32) - v1).toInt64) * ((xWt (v2).toNatClampNeg).toInt64)) ((1 : Int32) <<< (v2 &&& 31)) (0 : Int32) u)))
def f_X4_weigh (v1 : Int32) (u : xS) : Option xS :=
  (f_X4_weigh_9 xN v1 (0 : Int32) (wl u 132 0 (0 : Int64)))
def f_J7_fill_d0a16_6 : Nat → Nat → Int64 → Int32 → Int32 → xS → Option xS
  | 0, _, _, _, _, _ => none
  | n + 1, v0, v1, v3, v4, u => if v4 ≤ v3 then (some u) else (gd (xisJ v0) (gd (xin v3 (xlen v0)) (((f_J7_fill_d0a16_6 n) v0 v1 (v3 + (1 : Int32)) v4 (wl u v0 v3.toNatClampNeg v1)))))
def f_J7_fill_d0a16 (v0 : Nat) (v1 : Int64) (u : xS) : Option xS :=
  gd (xisJ v0) ((f_J7_fill_d0a16_6 xN v0 v1 (0 : Int32) (Int32.ofNat (xlen v0)) u))
def f_X4_bestShare_29 (k10 : Int32 → xS → Option (Int64 × xS)) : Nat → Int32 → Int32 → xS → Option (Int64 × xS)
  | 0, _, _, _ => none
  | n + 1, v1, v2, u => if v2 ≤ 0 then ((k10 (v1 + (1 : Int32)) u)) else ((f_X4_bestWith u v2).bind fun x3 => gd (xin v2 256) (((f_X4_bestShare_29 k10 n) v1 (v2 + (-1 : Int32)) (wl u 133 v2.toNatClampNeg x3))))
def f_X4_bestShare_10 : Nat → Int32 → xS → Option (Int64 × xS)
  | 0, _, _ => none
  | n + 1, v1, u => if (4 : Int32) ≤ v1 then (gd (xin (((1 : Int32) <<< ((rd u 121 6) &&& 31)) - (1 : Int32)) 256) (some ((rl u 133 (((1 : Int32) <<< ((rd u 121 6) &&& 31)) - (1 : Int32)).toNatClampNeg), u))) else ((f_X4_weigh v1 u).bind fun u4 => (f_X4_bestShare_29 (f_X4_bestShare_10 n) xN v1 (((1 : Int32) <<< ((rd u4 121 6) &&& 31)) - (1 : Int32)) u4))
def f_X4_bestShare (u : xS) : Option (Int64 × xS) :=
  (f_J7_fill_d0a16 133 (0 : Int64) u).bind fun u2 => (f_X4_bestShare_10 xN (0 : Int32) u2)
def f_X11_share_15 : Nat → Int64 → Int32 → xS → Option (Int32 × xS)
  | 0, _, _, _ => none
  | n + 1, v1, v3, u => if (rd u 121 6) ≤ v3 then (some ((f_X4_sumOf v1), u)) else ((f_X4_landOf v1 v3).bind fun x3 => (f_X11_tell x3 u).bind fun u5 => ((f_X11_share_15 n) v1 (v3 + (1 : Int32)) u5))
def f_X11_share (u : xS) : Option (Int32 × xS) :=
  (f_X4_bestShare u).bind fun q4 => (f_X11_share_15 xN q4.1 (0 : Int32) (wr q4.2 0 12 (0 : Int32)))
def f_X9_add_48 (u : xS) : Option (Int32 × xS) :=
  some ((rd u 52 1), u)
def f_X9_add_3 : Nat → Int32 → Int32 → xS → Option (Int32 × xS)
  | 0, _, _, _ => none
  | n + 1, v1, v2, u => if v2 < 0 then ((f_X9_add_48 u)) else (if (100 : Int32) ≤ (rd u 52 1) then ((f_X9_add_48 u)) else (gd (xin (rd u 52 1) 100) (((f_X9_add_3 n) v1 (v2 + (-8 : Int32)) (wr (wr u 53 (rd u 52 1).toNatClampNeg ((v1 >>> (v2 &&& 31)) &&& (255 : Int32))) 52 1 ((rd u 52 1) + (1 : Int32)))))))
def f_X9_add (v1 : Int32) (u : xS) : Option (Int32 × xS) :=
  (f_X9_add_3 xN v1 (24 : Int32) u)
def f_X11_sign (v1 : Int32) (u : xS) : Option (Int32 × xS) :=
  if (100 : Int32) < ((rd u 52 1) + (4 : Int32)) then (some ((-1 : Int32), u)) else ((f_X9_add v1 u).bind fun q5 => some (q5.1, q5.2))
def f_X8_add (v1 : Int32) (v2 : Int32) (v3 : Int32) (v4 : Int32) (v5 : Int32) (v6 : Int32) (v7 : Int32) (u : xS) : Option (Int32 × xS) :=
  if (rd u 1 2) < (16 : Int32) then (gd (xin (rd u 1 2) 16) (some ((rd u 1 2), (wr (wr (wr (wr (wr (wr (wr (wr u 3 (rd u 1 2).toNatClampNeg v1) 4 (rd u 1 2).toNatClampNeg v2) 5 (rd u 1 2).toNatClampNeg v3) 6 (rd u 1 2).toNatClampNeg v4) 7 (rd u 1 2).toNatClampNeg v5) 8 (rd u 1 2).toNatClampNeg v6) 9 (rd u 1 2).toNatClampNeg v7) 1 2 ((rd u 1 2) + (1 : Int32)))))) else (some ((-1 : Int32), u))
def f_X11_sort_101 (v1 : Int32) (v2 : Int32) (v3 : Int32) (v4 : Int32) (v5 : Int32) (v6 : Int32) (v7 : Int32) (v8 : Int32) (v9 : Int32) (s0 : Int32) (u : xS) : Option (Int32 × xS) :=
  if v8 = 0 then (some ((-1 : Int32), u)) else (if v9 = 0 then (some ((-1 : Int32), u)) else (if s0 = 0 then (some ((-1 : Int32), u)) else (if (f_X11_lies v4 (1 : Int32) (99 : Int32)) = 0 then (some ((-1 : Int32), u)) else (if (rd u 1 2) < (16 : Int32) then ((f_X8_add v1 v2 v3 v4 v5 v6 v7 u).bind fun q9 => some (q9.1, q9.2)) else (some ((-1 : Int32), u))))))
def f_X11_sort_96 (v1 : Int32) (v2 : Int32) (v3 : Int32) (v4 : Int32) (v5 : Int32) (v6 : Int32) (v7 : Int32) (v8 : Int32) (v9 : Int32) (u : xS) : Option (Int32 × xS) :=
  (f_X11_sort_101 v1 v2 v3 v4 v5 v6 v7 v8 v9 (1 : Int32) u)
def f_X11_sort_76 (v1 : Int32) (v2 : Int32) (v3 : Int32) (v4 : Int32) (v5 : Int32) (v6 : Int32) (v7 : Int32) (v8 : Int32) (s0 : Int32) (u : xS) : Option (Int32 × xS) :=
  if v7 = (-1 : Int32) then ((f_X11_sort_96 v1 v2 v3 v4 v5 v6 v7 v8 s0 u)) else (if (f_X8_has u v7) = 0 then ((f_X11_sort_101 v1 v2 v3 v4 v5 v6 v7 v8 s0 (0 : Int32) u)) else ((f_X11_sort_96 v1 v2 v3 v4 v5 v6 v7 v8 s0 u)))
def f_X11_sort_75 (v1 : Int32) (v2 : Int32) (v3 : Int32) (v4 : Int32) (v5 : Int32) (v6 : Int32) (v7 : Int32) (v8 : Int32) (u : xS) : Option (Int32 × xS) :=
  (f_X11_sort_76 v1 v2 v3 v4 v5 v6 v7 v8 (0 : Int32) u)
def f_X11_sort_38 (v1 : Int32) (v2 : Int32) (v3 : Int32) (v4 : Int32) (v5 : Int32) (v6 : Int32) (v7 : Int32) (s0 : Int32) (u : xS) : Option (Int32 × xS) :=
  if (f_X11_lies v5 (0 : Int32) (1000 : Int32)) = 0 then ((f_X11_sort_75 v1 v2 v3 v4 v5 v6 v7 s0 u)) else (if (f_X11_lies v6 (0 : Int32) (1000 : Int32)) = 0 then ((f_X11_sort_75 v1 v2 v3 v4 v5 v6 v7 s0 u)) else (if v6 < v5 then ((f_X11_sort_75 v1 v2 v3 v4 v5 v6 v7 s0 u)) else ((f_X11_sort_76 v1 v2 v3 v4 v5 v6 v7 s0 (1 : Int32) u))))
def f_X11_sort_37 (v1 : Int32) (v2 : Int32) (v3 : Int32) (v4 : Int32) (v5 : Int32) (v6 : Int32) (v7 : Int32) (u : xS) : Option (Int32 × xS) :=
  (f_X11_sort_38 v1 v2 v3 v4 v5 v6 v7 (0 : Int32) u)
def f_X11_sort (v1 : Int32) (v2 : Int32) (v3 : Int32) (v4 : Int32) (v5 : Int32) (v6 : Int32) (v7 : Int32) (u : xS) : Option (Int32 × xS) :=
  if (f_X11_lies v1 (0 : Int32) (255 : Int32)) = 0 then ((f_X11_sort_37 v1 v2 v3 v4 v5 v6 v7 u)) else (if (f_X11_lies v2 (0 : Int32) (255 : Int32)) = 0 then ((f_X11_sort_37 v1 v2 v3 v4 v5 v6 v7 u)) else (if (f_X11_lies v3 (0 : Int32) (255 : Int32)) = 0 then ((f_X11_sort_37 v1 v2 v3 v4 v5 v6 v7 u)) else ((f_X11_sort_38 v1 v2 v3 v4 v5 v6 v7 (1 : Int32) u))))
def f_X11_store_75 (k27 : Int32 → Int32 → Int32 → Int32 → Option Int32) (u : xS) (v1 : Int32) (v2 : Int32) (v3 : Int32) (v4 : Int32) : Option Int32 :=
  (k27 v1 v2 v3 (v4 + (1 : Int32)))
def f_X11_store_63 (k27 : Int32 → Int32 → Int32 → Int32 → Option Int32) (u : xS) (v1 : Int32) (v2 : Int32) (v3 : Int32) (v4 : Int32) : Option Int32 :=
  (f_X6_ofSort u v4).bind fun x2 => (f_X11_store_75 k27 u v1 v2 (v3 + x2) v4)
def f_X11_store_27 (u : xS) : Nat → Int32 → Int32 → Int32 → Int32 → Option Int32
  | 0, _, _, _, _ => none
  | n + 1, v1, v2, v3, v4 => if (rd u 1 2) ≤ v4 then (some v3) else (if v4 = v1 then ((f_X11_store_63 (f_X11_store_27 u n) u v1 v2 v3 v4)) else (if v2 = (1 : Int32) then ((f_X8_isPart u v4 v1).bind fun x5 => if x5 = 0 then ((f_X11_store_75 (f_X11_store_27 u n) u v1 v2 v3 v4)) else ((f_X11_store_63 (f_X11_store_27 u n) u v1 v2 v3 v4))) else ((f_X11_store_75 (f_X11_store_27 u n) u v1 v2 v3 v4))))
def f_X11_store (u : xS) (v1 : Int32) (v2 : Int32) : Option Int32 :=
  if (f_X8_has u v1) = 0 then (some (-1 : Int32)) else (if (f_X11_lies v2 (0 : Int32) (1 : Int32)) = 0 then (some (-1 : Int32)) else ((f_X11_store_27 u xN v1 v2 (0 : Int32) (0 : Int32))))
def f_X2_suspect (u : xS) (v1 : Int32) : Option Int32 :=
  if (f_X11_lies v1 (0 : Int32) (3 : Int32)) = 0 then (some (-1 : Int32)) else (gd (xin v1 4) (gd (xin (rd u 112 v1.toNatClampNeg) 24) (some (rd u 110 (rd u 112 v1.toNatClampNeg).toNatClampNeg))))
def f_X2_nextChoice_39 : Nat → Int32 → Int32 → xS → Option (Int32 × xS)
  | 0, _, _, _ => none
  | n + 1, v1, v3, u => if v1 ≤ v3 then (some ((1 : Int32), u)) else (gd (xin (v3 - (1 : Int32)) 4) (gd (xin v3 4) (((f_X2_nextChoice_39 n) v1 (v3 + (1 : Int32)) (wr u 112 v3.toNatClampNeg ((rd u 112 (v3 - (1 : Int32)).toNatClampNeg) + (1 : Int32)))))))
def f_X2_nextChoice_4 : Nat → Int32 → Int32 → xS → Option (Int32 × xS)
  | 0, _, _, _ => none
  | n + 1, v1, v2, u => if v2 < 0 then (some ((0 : Int32), u)) else (gd (xin v2 4) (if (((rd u 87 5) - v1) + v2) ≤ (rd u 112 v2.toNatClampNeg) then (((f_X2_nextChoice_4 n) v1 (v2 + (-1 : Int32)) u)) else ((f_X2_nextChoice_39 xN v1 (v2 + (1 : Int32)) (wr u 112 v2.toNatClampNeg ((rd u 112 v2.toNatClampNeg) + (1 : Int32)))))))
def f_X2_nextChoice (v1 : Int32) (u : xS) : Option (Int32 × xS) :=
  (f_X2_nextChoice_4 xN v1 (v1 - (1 : Int32)) u)
def f_X2_chooseRow_43 (k25 : Int32 → Int32 → Int32 → Int32 → xS → Option (Int32 × xS)) : Nat → Int32 → Int32 → Int32 → Int32 → Int32 → xS → Option (Int32 × xS)
  | 0, _, _, _, _, _, _ => none
  | n + 1, v1, v2, v4, v5, v6, u => if v1 ≤ v6 then (if v5 = v2 then (some ((1 : Int32), u)) else ((f_X2_nextChoice v1 u).bind fun q6 => (k25 v1 v2 q6.1 (v4 + (1 : Int32)) q6.2))) else (gd (xin v6 4) (gd (xin (rd u 112 v6.toNatClampNeg) 24) (((f_X2_chooseRow_43 k25 n) v1 v2 v4 (v5 ||| (rd u 111 (rd u 112 v6.toNatClampNeg).toNatClampNeg)) (v6 + (1 : Int32)) u))))
def f_X2_chooseRow_25 : Nat → Int32 → Int32 → Int32 → Int32 → xS → Option (Int32 × xS)
  | 0, _, _, _, _, _ => none
  | n + 1, v1, v2, v3, v4, u => if v3 = 0 then (some ((0 : Int32), u)) else (if (10626 : Int32) ≤ v4 then (some ((0 : Int32), u)) else ((f_X2_chooseRow_43 (f_X2_chooseRow_25 n) xN v1 v2 v4 (0 : Int32) (0 : Int32) u)))
def f_X2_chooseRow_2 : Nat → Int32 → Int32 → Int32 → xS → Option (Int32 × xS)
  | 0, _, _, _, _ => none
  | n + 1, v1, v2, v3, u => if v1 ≤ v3 then ((f_X2_chooseRow_25 xN v1 v2 (1 : Int32) (0 : Int32) u)) else (gd (xin v3 4) (((f_X2_chooseRow_2 n) v1 v2 (v3 + (1 : Int32)) (wr u 112 v3.toNatClampNeg v3))))
def f_X2_chooseRow (v1 : Int32) (v2 : Int32) (u : xS) : Option (Int32 × xS) :=
  (f_X2_chooseRow_2 xN v1 v2 (0 : Int32) u)
def f_X2_badWith_50 (k4 : Int32 → Int32 → Int32 → Option Int32) (u : xS) (v1 : Int32) (v2 : Int32) (v3 : Int32) : Option Int32 :=
  (k4 v1 v2 (v3 + (1 : Int32)))
def f_X2_badWith_4 (u : xS) : Nat → Int32 → Int32 → Int32 → Option Int32
  | 0, _, _, _ => none
  | n + 1, v1, v2, v3 => if (rd u 87 2) ≤ v3 then (some v2) else (gd (xin v3 20) (gd (xin v1 24) (if (rd u (89 + v3.toNatClampNeg) v1.toNatClampNeg) ≤ 0 then ((f_X2_badWith_50 (f_X2_badWith_4 u n) u v1 v2 v3)) else (if (rd u 109 v3.toNatClampNeg) = 0 then (some (0 : Int32)) else (if (rd u 109 v3.toNatClampNeg) = (1 : Int32) then ((f_X2_badWith_50 (f_X2_badWith_4 u n) u v1 (v2 ||| ((1 : Int32) <<< (v3 &&& 31))) v3)) else ((f_X2_badWith_50 (f_X2_badWith_4 u n) u v1 v2 v3)))))))
def f_X2_badWith (u : xS) (v1 : Int32) : Option Int32 :=
  (f_X2_badWith_4 u xN v1 (0 : Int32) (0 : Int32))
def f_X2_findMaybes_62 (k7 : Int32 → xS → Option xS) (v1 : Int32) (u : xS) : Option xS :=
  (k7 (v1 + (1 : Int32)) u)
def f_X2_findMaybes_7 : Nat → Int32 → xS → Option xS
  | 0, _, _ => none
  | n + 1, v1, u => if (24 : Int32) ≤ v1 then (some u) else ((f_X2_badWith u v1).bind fun x3 => if x3 = 0 then ((f_X2_findMaybes_62 (f_X2_findMaybes_7 n) v1 u)) else (if (24 : Int32) ≤ (rd u 87 5) then ((f_X2_findMaybes_62 (f_X2_findMaybes_7 n) v1 u)) else (gd (xin (rd u 87 5) 24) ((f_X2_findMaybes_62 (f_X2_findMaybes_7 n) v1 (wr (wr (wr u 110 (rd u 87 5).toNatClampNeg v1) 111 (rd u 87 5).toNatClampNeg x3) 87 5 ((rd u 87 5) + (1 : Int32))))))))
def f_X2_findMaybes (u : xS) : Option xS :=
  (f_X2_findMaybes_7 xN (0 : Int32) (wr u 87 5 (0 : Int32)))
def f_X2_findSuspects_46 : Nat → Int32 → Int32 → xS → Option (Int32 × xS)
  | 0, _, _, _ => none
  | n + 1, v1, v2, u => if (4 : Int32) < v2 then (some ((-2 : Int32), u)) else (if (rd u 87 5) < v2 then (some ((-2 : Int32), u)) else ((f_X2_chooseRow v2 v1 u).bind fun q7 => if q7.1 = 0 then (((f_X2_findSuspects_46 n) v1 (v2 + (1 : Int32)) q7.2)) else (some (v2, q7.2))))
def f_X2_findSuspects_28 (k4 : Int32 → Int32 → xS → Option (Int32 × xS)) (v1 : Int32) (v2 : Int32) (u : xS) : Option (Int32 × xS) :=
  (k4 v1 (v2 + (1 : Int32)) u)
def f_X2_findSuspects_4 : Nat → Int32 → Int32 → xS → Option (Int32 × xS)
  | 0, _, _, _ => none
  | n + 1, v1, v2, u => if (rd u 87 2) ≤ v2 then (if v1 = 0 then (some ((0 : Int32), u)) else ((f_X2_findMaybes u).bind fun u4 => (f_X2_findSuspects_46 xN v1 (1 : Int32) u4))) else (gd (xin v2 20) (if (rd u 109 v2.toNatClampNeg) = (1 : Int32) then ((f_X2_findSuspects_28 (f_X2_findSuspects_4 n) (v1 ||| ((1 : Int32) <<< (v2 &&& 31))) v2 u)) else ((f_X2_findSuspects_28 (f_X2_findSuspects_4 n) v1 v2 u))))
def f_X2_findSuspects (u : xS) : Option (Int32 × xS) :=
  (f_X2_findSuspects_4 xN (0 : Int32) (0 : Int32) u)
def f_X11_suspects_19 : Nat → Int32 → Int32 → xS → Option (Int32 × xS)
  | 0, _, _, _ => none
  | n + 1, v1, v2, u => if v1 ≤ v2 then (some (v1, u)) else ((f_X2_suspect u v2).bind fun x3 => (f_X11_tell x3 u).bind fun u5 => ((f_X11_suspects_19 n) v1 (v2 + (1 : Int32)) u5))
def f_X11_suspects (u : xS) : Option (Int32 × xS) :=
  (f_X2_findSuspects u).bind fun q5 => if q5.1 < 0 then (some (q5.1, q5.2)) else ((f_X11_suspects_19 xN q5.1 (0 : Int32) (wr q5.2 0 12 (0 : Int32))))
def f_X11_takes (v1 : Int32) (v2 : Int32) (u : xS) : Option (Int32 × xS) :=
  if (f_X11_isLand v1) = 0 then (some ((-1 : Int32), u)) else (if (f_X11_lies v2 (0 : Int32) (8 : Int32)) = 0 then (some ((-1 : Int32), u)) else (gd (xin v1 4) (some ((rd u 127 v1.toNatClampNeg), (wr u 127 v1.toNatClampNeg v2)))))
def f_X7_level (v0 : Int32) : Int32 :=
  if v0 = (33 : Int32) then ((6 : Int32)) else if v0 = (37 : Int32) then ((5 : Int32)) else if v0 = (38 : Int32) then ((2 : Int32)) else if v0 = (42 : Int32) then ((5 : Int32)) else if v0 = (43 : Int32) then ((4 : Int32)) else if v0 = (45 : Int32) then ((4 : Int32)) else if v0 = (47 : Int32) then ((5 : Int32)) else if v0 = (60 : Int32) then ((3 : Int32)) else if v0 = (61 : Int32) then ((3 : Int32)) else if v0 = (62 : Int32) then ((3 : Int32)) else if v0 = (124 : Int32) then ((1 : Int32)) else if v0 = (126 : Int32) then ((6 : Int32)) else ((0 : Int32))
def f_X7_emit (v1 : Int32) (u : xS) : Option xS :=
  if (64 : Int32) ≤ (rd u 54 1) then (some u) else (gd (xin (rd u 54 1) 64) (some (wr (wr u 55 (rd u 54 1).toNatClampNeg v1) 54 1 ((rd u 54 1) + (1 : Int32)))))
def f_X7_bringOut_0 : Nat → Int32 → xS → Option xS
  | 0, _, _ => none
  | n + 1, v1, u => if (rd u 54 3) ≤ 0 then (some u) else (gd (xin ((rd u 54 3) - (1 : Int32)) 64) (if (f_X7_level (rd u 56 ((rd u 54 3) - (1 : Int32)).toNatClampNeg)) < v1 then (some u) else ((f_X7_emit (-(rd u 56 ((rd u 54 3) - (1 : Int32)).toNatClampNeg)) (wr u 54 3 ((rd u 54 3) - (1 : Int32)))).bind fun u5 => ((f_X7_bringOut_0 n) v1 u5))))
def f_X7_isDigit (v0 : Int32) : Int32 :=
  (f_X11_lies v0 (48 : Int32) (57 : Int32))
def f_X7_joins (v0 : Int32) : Int32 :=
  (f_X11_lies (f_X7_level v0) (1 : Int32) (5 : Int32))
def f_X7_hold (v1 : Int32) (u : xS) : Option xS :=
  if (64 : Int32) ≤ (rd u 54 3) then (some u) else (gd (xin (rd u 54 3) 64) (some (wr (wr u 56 (rd u 54 3).toNatClampNeg v1) 54 3 ((rd u 54 3) + (1 : Int32)))))
def f_X7_join_57 (v1 : Int32) (v2 : Int32) (u : xS) : Option (Int32 × xS) :=
  (f_X7_bringOut_0 xN v2 u).bind fun u2 => (f_X7_hold v1 u2).bind fun u4 => some ((1 : Int32), (wr u4 54 7 (1 : Int32)))
def f_X7_join_56 (v1 : Int32) (v2 : Int32) (s1 : Int32) (s2 : Int32) (u : xS) : Option (Int32 × xS) :=
  gd (xin s1 64) (gd (xb s2) ((f_X7_join_57 v1 v2 (wr u 57 s1.toNatClampNeg s2))))
def f_X7_join_33 (v1 : Int32) (v2 : Int32) (u : xS) : Option (Int32 × xS) :=
  if (3 : Int32) < v2 then ((f_X7_join_57 v1 v2 u)) else (if v2 = (3 : Int32) then ((f_X7_join_56 v1 v2 (rd u 54 5) (1 : Int32) u)) else ((f_X7_join_56 v1 v2 (rd u 54 5) (0 : Int32) u)))
def f_X7_join (v1 : Int32) (u : xS) : Option (Int32 × xS) :=
  if (64 : Int32) ≤ (rd u 54 5) then (some ((0 : Int32), u)) else (if (f_X7_level v1) = (3 : Int32) then (gd (xin (rd u 54 5) 64) (if (rd u 57 (rd u 54 5).toNatClampNeg) = 0 then ((f_X7_join_33 v1 (f_X7_level v1) u)) else (some ((0 : Int32), u)))) else ((f_X7_join_33 v1 (f_X7_level v1) u)))
def f_X7_partHere (u : xS) : Option (Int32 × xS) :=
  if (rd u 54 8) = 0 then (some ((0 : Int32), u)) else (if (rd u 54 5) ≤ 0 then ((f_X7_bringOut_0 xN (1 : Int32) u).bind fun u4 => (f_X7_emit (-59 : Int32) u4).bind fun u6 => some ((1 : Int32), (wr (wr u6 57 0 (0 : Int32)) 54 7 (1 : Int32)))) else (some ((0 : Int32), u)))
def f_X7_close_31 (u : xS) : Option (Int32 × xS) :=
  some ((1 : Int32), (wr u 54 5 ((rd u 54 5) - (1 : Int32))))
def f_X7_close (u : xS) : Option (Int32 × xS) :=
  if (rd u 54 5) = 0 then (some ((0 : Int32), u)) else ((f_X7_bringOut_0 xN (1 : Int32) u).bind fun u3 => if (rd u3 54 3) ≤ 0 then ((f_X7_close_31 u3)) else ((f_X7_close_31 (wr u3 54 3 ((rd u3 54 3) - (1 : Int32))))))
def f_X7_lengthen (v1 : Int32) (u : xS) : Option (Int32 × xS) :=
  if (rd u 54 6) = 0 then (some ((0 : Int32), u)) else (if (4 : Int32) ≤ (rd u 54 6) then (some ((0 : Int32), u)) else (if (rd u 54 1) = 0 then (some ((0 : Int32), u)) else (gd (xin ((rd u 54 1) - (1 : Int32)) 64) (some ((1 : Int32), (wr (wr u 54 6 ((rd u 54 6) + (1 : Int32))) 55 ((rd u 54 1) - (1 : Int32)).toNatClampNeg (((rd u 55 ((rd u 54 1) - (1 : Int32)).toNatClampNeg) * (10 : Int32)) + v1)))))))
def f_X7_goesOn (v1 : Int32) (u : xS) : Option (Int32 × xS) :=
  if (f_X7_isDigit v1) = 0 then (if v1 = (41 : Int32) then ((f_X7_close (wr u 54 6 (0 : Int32))).bind fun q19 => gd (xb q19.1) (some (q19.1, q19.2))) else (if v1 = (59 : Int32) then ((f_X7_partHere (wr u 54 6 (0 : Int32))).bind fun q14 => gd (xb q14.1) (some (q14.1, q14.2))) else (if (f_X7_joins v1) = 0 then (some ((0 : Int32), (wr u 54 6 (0 : Int32)))) else ((f_X7_join v1 (wr u 54 6 (0 : Int32))).bind fun q9 => if q9.1 = 0 then (some ((0 : Int32), q9.2)) else (some ((1 : Int32), q9.2)))))) else ((f_X7_lengthen (v1 - (48 : Int32)) u).bind fun q24 => gd (xb q24.1) (some (q24.1, q24.2)))
def f_X7_isLetter (v0 : Int32) : Int32 :=
  if v0 = (98 : Int32) then ((1 : Int32)) else if v0 = (99 : Int32) then ((0 : Int32)) else if v0 = (100 : Int32) then ((1 : Int32)) else if v0 = (101 : Int32) then ((1 : Int32)) else if v0 = (102 : Int32) then ((0 : Int32)) else if v0 = (103 : Int32) then ((1 : Int32)) else if v0 = (104 : Int32) then ((0 : Int32)) else if v0 = (105 : Int32) then ((0 : Int32)) else if v0 = (106 : Int32) then ((0 : Int32)) else if v0 = (107 : Int32) then ((1 : Int32)) else if v0 = (108 : Int32) then ((1 : Int32)) else if v0 = (109 : Int32) then ((1 : Int32)) else if v0 = (110 : Int32) then ((1 : Int32)) else if v0 = (111 : Int32) then ((1 : Int32)) else if v0 = (112 : Int32) then ((1 : Int32)) else if v0 = (113 : Int32) then ((1 : Int32)) else if v0 = (114 : Int32) then ((1 : Int32)) else if v0 = (115 : Int32) then ((1 : Int32)) else if v0 = (116 : Int32) then ((0 : Int32)) else if v0 = (117 : Int32) then ((0 : Int32)) else if v0 = (118 : Int32) then ((1 : Int32)) else if v0 = (119 : Int32) then ((1 : Int32)) else if v0 = (120 : Int32) then ((0 : Int32)) else if v0 = (121 : Int32) then ((0 : Int32)) else if v0 = (122 : Int32) then ((1 : Int32)) else ((0 : Int32))
def f_X7_begins_25 (s1 : Int32) (u : xS) : Option (Int32 × xS) :=
  (f_X7_hold s1 u).bind fun u2 => some ((1 : Int32), u2)
def f_X7_begins_12 (v1 : Int32) (u : xS) : Option (Int32 × xS) :=
  if v1 = (45 : Int32) then ((f_X7_begins_25 (126 : Int32) u)) else ((f_X7_begins_25 v1 u))
def f_X7_begins_118 (u : xS) : Option (Int32 × xS) :=
  some ((1 : Int32), (wr u 54 7 (0 : Int32)))
def f_X7_begins (v1 : Int32) (u : xS) : Option (Int32 × xS) :=
  if v1 = (33 : Int32) then ((f_X7_begins_12 v1 u)) else (if v1 = (45 : Int32) then ((f_X7_begins_12 v1 u)) else (if v1 = (40 : Int32) then ((f_X7_hold v1 u).bind fun u11 => if (64 : Int32) ≤ ((rd u11 54 5) + (1 : Int32)) then (some ((1 : Int32), (wr u11 54 5 ((rd u11 54 5) + (1 : Int32))))) else (gd (xin ((rd u11 54 5) + (1 : Int32)) 64) (some ((1 : Int32), (wr (wr u11 54 5 ((rd u11 54 5) + (1 : Int32))) 57 ((rd u11 54 5) + (1 : Int32)).toNatClampNeg (0 : Int32)))))) else (if (f_X7_isDigit v1) = 0 then (if (f_X7_isLetter v1) = 0 then (some ((0 : Int32), u)) else ((f_X7_emit (-v1) u).bind fun u7 => (f_X7_begins_118 (wr u7 54 6 (0 : Int32))))) else ((f_X7_emit (v1 - (48 : Int32)) u).bind fun u9 => (f_X7_begins_118 (wr u9 54 6 (1 : Int32)))))))
def f_X7_begin (v1 : Int32) (u : xS) : Option xS :=
  gd (xb v1) (some (wr (wr (wr (wr (wr (wr (wr u 54 1 (0 : Int32)) 54 3 (0 : Int32)) 54 5 (0 : Int32)) 54 6 (0 : Int32)) 57 0 (0 : Int32)) 54 7 (1 : Int32)) 54 8 v1))
def f_X7_read_69 (v2 : Int32) (v3 : Int32) (u : xS) : Option (Int32 × xS) :=
  if v2 ≤ (60 : Int32) then (if (rd u 54 7) = 0 then (if (rd u 54 5) ≤ 0 then ((f_X7_bringOut_0 xN (1 : Int32) u).bind fun u5 => if v3 = 0 then (some ((-1 : Int32), u5)) else ((f_X7_emit (-59 : Int32) u5).bind fun u8 => some ((-1 : Int32), u8))) else (some (v2, u))) else (some (v2, u))) else (some ((60 : Int32), u))
def f_X7_read_63 (k8 : Nat → Int32 → Int32 → Int32 → xS → Option (Int32 × xS)) (v1 : Nat) (v2 : Int32) (v3 : Int32) (v4 : Int32) (u : xS) : Option (Int32 × xS) :=
  (k8 v1 v2 v3 (v4 + (1 : Int32)) u)
def f_X7_read_8 : Nat → Nat → Int32 → Int32 → Int32 → xS → Option (Int32 × xS)
  | 0, _, _, _, _, _ => none
  | n + 1, v1, v2, v3, v4, u => if v2 ≤ v4 then ((f_X7_read_69 v2 v3 u)) else (if (60 : Int32) ≤ v4 then ((f_X7_read_69 v2 v3 u)) else (gd (xisI v1) (if (Int32.ofNat (xlen v1)) ≤ v4 then ((f_X7_read_69 v2 v3 u)) else (if (rd u 54 7) = 0 then (gd (xisI v1) (gd (xin v4 (xlen v1)) ((f_X7_goesOn (rd u v1 v4.toNatClampNeg) u).bind fun q16 => if q16.1 = 0 then (some (v4, q16.2)) else ((f_X7_read_63 (f_X7_read_8 n) v1 v2 v3 v4 q16.2))))) else (gd (xisI v1) (gd (xin v4 (xlen v1)) ((f_X7_begins (rd u v1 v4.toNatClampNeg) u).bind fun q25 => if q25.1 = 0 then (some (v4, q25.2)) else ((f_X7_read_63 (f_X7_read_8 n) v1 v2 v3 v4 q25.2)))))))))
def f_X7_read (v1 : Nat) (v2 : Int32) (v3 : Int32) (u : xS) : Option (Int32 × xS) :=
  (f_X7_begin v3 u).bind fun u2 => (f_X7_read_8 xN v1 v2 v3 (0 : Int32) u2)
def f_X11_text_143 (s1 : Int32) (u : xS) : Option (Int32 × xS) :=
  (f_X10_keep s1 55 (rd u 54 1) u).bind fun u2 => some ((0 : Int32), u2)
def f_X11_text_86 (v1 : Int32) (v2 : Int32) (s2 : Int32) (s3 : Int32) (u : xS) : Option (Int32 × xS) :=
  (f_X7_read 53 s2 s3 u).bind fun q11 => if q11.1 = (-1 : Int32) then (if v1 = (1 : Int32) then ((f_X10_addRecipe 55 (rd q11.2 54 1) q11.2).bind fun q10 => some (q10.1, q10.2)) else (if v1 = 0 then ((f_X11_text_143 v2 q11.2)) else ((f_X11_text_143 (10 : Int32) q11.2)))) else (some (((-1 : Int32) - q11.1), q11.2))
def f_X11_text_64 (v1 : Int32) (v2 : Int32) (v3 : Int32) (u : xS) : Option (Int32 × xS) :=
  if v1 = (1 : Int32) then ((f_X11_text_86 v1 v2 v3 (1 : Int32) u)) else ((f_X11_text_86 v1 v2 v3 (0 : Int32) u))
def f_X11_text_37 (v1 : Int32) (v2 : Int32) (v3 : Int32) (s0 : Int32) (u : xS) : Option (Int32 × xS) :=
  if s0 = 0 then (if v1 = (1 : Int32) then (if (rd u 58 5) < (6 : Int32) then ((f_X11_text_64 v1 v2 v3 u)) else (some ((-100 : Int32), u))) else (some ((-100 : Int32), u))) else ((f_X11_text_64 v1 v2 v3 u))
def f_X11_text_32 (v1 : Int32) (v2 : Int32) (v3 : Int32) (u : xS) : Option (Int32 × xS) :=
  (f_X11_text_37 v1 v2 v3 (1 : Int32) u)
def f_X11_text_27 (v1 : Int32) (v2 : Int32) (v3 : Int32) (u : xS) : Option (Int32 × xS) :=
  if v1 = (2 : Int32) then ((f_X11_text_32 v1 v2 v3 u)) else ((f_X11_text_37 v1 v2 v3 (0 : Int32) u))
def f_X11_text (v1 : Int32) (v2 : Int32) (u : xS) : Option (Int32 × xS) :=
  if v1 = 0 then (if (f_X11_isSeller v2) = 0 then ((f_X11_text_27 v1 v2 (rd u 52 1) (wr u 52 1 (0 : Int32)))) else ((f_X11_text_32 v1 v2 (rd u 52 1) (wr u 52 1 (0 : Int32))))) else ((f_X11_text_27 v1 v2 (rd u 52 1) (wr u 52 1 (0 : Int32))))
def f_X3_add (v1 : Int32) (v2 : Int32) (v3 : Int32) (v4 : Int32) (u : xS) : Option (Int32 × xS) :=
  if (rd u 113 3) < (99 : Int32) then (gd (xin (rd u 113 3) 99) (some (((rd u 113 3) + (1 : Int32)), (wr (wr (wr (wr (wr u 115 (rd u 113 3).toNatClampNeg v1) 118 (rd u 113 3).toNatClampNeg v2) 116 (rd u 113 3).toNatClampNeg v3) 119 (rd u 113 3).toNatClampNeg v4) 113 3 ((rd u 113 3) + (1 : Int32)))))) else (some ((-1 : Int32), u))
def f_X11_twice_47 (v1 : Int32) (v2 : Int32) (v3 : Int32) (v4 : Int32) (s0 : Int32) (u : xS) : Option (Int32 × xS) :=
  if s0 = 0 then (some ((-1 : Int32), u)) else (if (99 : Int32) ≤ (rd u 113 3) then (some ((-1 : Int32), u)) else ((f_X3_add v1 v2 v3 v4 u).bind fun q6 => some (q6.1, q6.2)))
def f_X11_twice_46 (v1 : Int32) (v2 : Int32) (v3 : Int32) (v4 : Int32) (u : xS) : Option (Int32 × xS) :=
  (f_X11_twice_47 v1 v2 v3 v4 (0 : Int32) u)
def f_X11_twice (v1 : Int32) (v2 : Int32) (v3 : Int32) (v4 : Int32) (u : xS) : Option (Int32 × xS) :=
  if (f_X11_isSorter v1) = 0 then ((f_X11_twice_46 v1 v2 v3 v4 u)) else (if (f_X11_isSorter v3) = 0 then ((f_X11_twice_46 v1 v2 v3 v4 u)) else (if v1 = v3 then ((f_X11_twice_46 v1 v2 v3 v4 u)) else (if (f_X8_has u v2) = 0 then ((f_X11_twice_46 v1 v2 v3 v4 u)) else (if (f_X8_has u v4) = 0 then ((f_X11_twice_46 v1 v2 v3 v4 u)) else ((f_X11_twice_47 v1 v2 v3 v4 (1 : Int32) u))))))
def f_X11_wipe (v1 : Int32) (v2 : Int32) (v3 : Int32) (u : xS) : Option (Int32 × xS) :=
  if (f_X8_has u v1) = 0 then (some ((-1 : Int32), u)) else (if (f_X11_lies v2 (1 : Int32) (9999 : Int32)) = 0 then (some ((-1 : Int32), u)) else (if (f_X11_lies v3 (0 : Int32) (1000 : Int32)) = 0 then (some ((-1 : Int32), u)) else ((f_X6_ofSort u v1).bind fun x5 => if v2 ≤ x5 then ((f_X6_takeOut v1 v2 20 u).bind fun u8 => some (((v2 * v3) / (1000 : Int32)), u8)) else (some ((-1 : Int32), u)))))
def f_X11_within (u : xS) (v1 : Int32) (v2 : Int32) : Option Int32 :=
  if (f_X8_has u v1) = 0 then (some (-1 : Int32)) else (if (f_X8_has u v2) = 0 then (some (-1 : Int32)) else ((f_X8_isPart u v1 v2).bind fun x4 => if x4 = 0 then (some (0 : Int32)) else (some (1 : Int32))))
def f_X11_row (v1 : Int32) (u : xS) : Option (Option Int32 × xS) :=
  if (f_X11_lies v1 (0 : Int32) ((rd u 0 12) - (1 : Int32))) = 0 then (some (none, u)) else (gd (xin v1 48) (some (some (rd u 134 v1.toNatClampNeg), u)))
def f_X11_split_18 (u : xS) : Option (Option Int32 × xS) :=
  some (none, u)
def f_X11_split_179 (k120 : Int32 → Int32 → Int64 → Int32 → Int64 → Int32 → xS → Option (Option Int32 × xS)) (v1 : Int32) (v2 : Int32) (v3 : Int64) (v5 : Int32) (v6 : Int64) (v8 : Int32) (u : xS) : Option (Option Int32 × xS) :=
  (k120 v1 v2 v3 v5 v6 (v8 + (1 : Int32)) u)
def f_X11_split_120 : Nat → Int32 → Int32 → Int64 → Int32 → Int64 → Int32 → xS → Option (Option Int32 × xS)
  | 0, _, _, _, _, _, _, _ => none
  | n + 1, v1, v2, v3, v5, v6, v8, u => if (rd u 1 2) ≤ v8 then (some (some (v6.toInt32), u)) else (gd (xin v8 16) (if (rd u 9 v8.toNatClampNeg) = v1 then ((f_X0_everOf u v8).bind fun x5 => gd (xnzJ v3) ((f_X8_priceIn u v8 v2).bind fun x8 => (f_X11_split_179 (f_X11_split_120 n) v1 v2 v3 v5 (v6 + (((((v5).toInt64) * ((x5).toInt64)) / v3) * ((x8).toInt64))) v8 u))) else ((f_X11_split_179 (f_X11_split_120 n) v1 v2 v3 v5 v6 v8 u))))
def f_X11_split_70 (k31 : Int32 → Int32 → Int64 → Int32 → xS → Option (Option Int32 × xS)) (v1 : Int32) (v2 : Int32) (v3 : Int64) (v5 : Int32) (u : xS) : Option (Option Int32 × xS) :=
  (k31 v1 v2 v3 (v5 + (1 : Int32)) u)
def f_X11_split_31 : Nat → Int32 → Int32 → Int64 → Int32 → xS → Option (Option Int32 × xS)
  | 0, _, _, _, _, _ => none
  | n + 1, v1, v2, v3, v5, u => if (rd u 1 2) ≤ v5 then (if (lg_cmp v3 (0 : Int64)) = 0 then (some (none, u)) else ((f_X6_ofSort u v1).bind fun x4 => (f_X8_priceIn u v1 v2).bind fun x6 => (f_X11_split_120 xN v1 v2 v3 x4 ((-((x4).toInt64)) * ((x6).toInt64)) (0 : Int32) u))) else (gd (xin v5 16) (if (rd u 9 v5.toNatClampNeg) = v1 then ((f_X0_everOf u v5).bind fun x10 => (f_X11_split_70 (f_X11_split_31 n) v1 v2 (v3 + ((x10).toInt64)) v5 u)) else ((f_X11_split_70 (f_X11_split_31 n) v1 v2 v3 v5 u))))
def f_X11_split (v1 : Int32) (v2 : Int32) (u : xS) : Option (Option Int32 × xS) :=
  if (f_X8_has u v1) = 0 then ((f_X11_split_18 u)) else (if (f_X11_isDay v2) = 0 then ((f_X11_split_18 u)) else ((f_X11_split_31 xN v1 v2 (0 : Int64) (0 : Int32) u)))
def f_X11_wish_34 (u : xS) : Option (Option Int32 × xS) :=
  some (none, u)
def f_X11_wish_42 (v1 : Int32) (v2 : Int32) (v3 : Int32) (u : xS) : Option (Option Int32 × xS) :=
  gd (xin v1 4) (gd (xin v2 16) (some (some (rd u (123 + v1.toNatClampNeg) v2.toNatClampNeg), (wr u (123 + v1.toNatClampNeg) v2.toNatClampNeg v3))))
def f_X11_wish (v1 : Int32) (v2 : Int32) (v3 : Int32) (u : xS) : Option (Option Int32 × xS) :=
  if (f_X11_isLand v1) = 0 then ((f_X11_wish_34 u)) else (if (f_X8_has u v2) = 0 then ((f_X11_wish_34 u)) else (if v3 = (-1 : Int32) then ((f_X11_wish_42 v1 v2 v3 u)) else (if (f_X11_lies v3 (0 : Int32) (999 : Int32)) = 0 then ((f_X11_wish_34 u)) else ((f_X11_wish_42 v1 v2 v3 u)))))
