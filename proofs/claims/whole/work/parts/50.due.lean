/-! OFF, DUE, PAY -/
theorem s_off : xS_off Inv := by
  intro u a1 a2 hI
  apply st_W
  have hJ := Inv_thr hI
  have hB3 := hI.B.2.2.1
  simp only [f_X11_off, f_X12_off, hasB hI.B.1, lies_eq, L_0, L_1, in_eq, ite_10]
  by_cases h1 : 0 ≤ a1 ∧ a1 < nI (nB u)
  · by_cases h2 : 0 ≤ a2 ∧ a2 ≤ 1
    · obtain ⟨b, hb, rfl⟩ := nI_ix (by omega) h1.1 h1.2
      obtain ⟨r, h11, h12, -⟩ := offOf_both hI hb a2
      obtain ⟨u1, e1, g1⟩ := h11 u (ag_refl _ _)
      have g2 : ag wX u (wr u1 135 0 0) := ag_wr g1 rfl
      obtain ⟨u2, e2, g3⟩ := h12 _ g2
      rw [if_pos h1, if_pos h2, e1, Option.bind_some, ok_some]
      dsimp only
      have e : f_X12_isBale (wr u1 135 0 0) (nI b) = 1 := by rw [isB ((g2 135 7 rfl).trans hI.B.2.1) (by omega), if_pos h1]
      rw [e, if_neg (by decide), if_pos h2, e2, Option.bind_some, ok_some]
      exact ⟨rfl, Inv_scr g3 hI⟩
    · rw [if_pos h1, if_neg h2, ok_some]
      have e : f_X12_isBale (wr u 135 0 0) a1 = 1 := by rw [isB (u := wr u 135 0 0) hI.B.2.1 (by omega), if_pos h1]
      dsimp only
      rw [e, if_neg (by decide), if_neg h2, ok_some]
      exact ⟨rfl, hJ⟩
  · rw [if_neg h1, ok_some]
    have e : f_X12_isBale (wr u 135 0 0) a1 = 0 := by rw [isB (u := wr u 135 0 0) hI.B.2.1 (by omega), if_neg h1]
    dsimp only
    rw [e, if_pos rfl, ok_some]
    exact ⟨rfl, hJ⟩
theorem s_due : xS_due Inv := by
  intro u a1 hI
  apply st_W
  have hJ := Inv_thr hI
  have hB3 := hI.B.2.2.1
  simp only [f_X11_due, f_X12_due, hasB hI.B.1, ite_10]
  by_cases h1 : 0 ≤ a1 ∧ a1 < nI (nB u)
  · obtain ⟨b, hb, rfl⟩ := nI_ix (by omega) h1.1 h1.2
    obtain ⟨r, h11, h12, hr⟩ := offOf_both hI hb 0
    obtain ⟨q, k11, k12, hq⟩ := offOf_both hI hb 1
    obtain ⟨u1, e1, g1⟩ := h11 u (ag_refl _ _)
    obtain ⟨u2, e2, g2⟩ := k11 u1 g1
    have g3 : ag wX u (wr u2 135 0 0) := ag_wr g2 rfl
    obtain ⟨u3, e3, g4⟩ := h12 _ g3
    obtain ⟨u4, e4, g5⟩ := k12 _ g4
    obtain ⟨x1, x2, x3, x4, -⟩ := hI.B.2.2.2.1 b hb
    have e : f_X12_isBale (wr u2 135 0 0) (nI b) = 1 := by rw [isB ((g3 135 7 rfl).trans hI.B.2.1) (by omega), if_pos h1]
    have hneg : ∀ x : Int32, (x = -1 ∨ 0 ≤ x) → (x < 0 ↔ x = -1) := by
      intro x hx
      rcases hx with hx | hx
      · rw [hx]; exact ⟨fun _ => rfl, fun _ => by decide⟩
      · exact ⟨fun z => absurd z (Int32.not_lt.mpr hx), fun z => by rw [z] at hx; exact absurd hx (by decide)⟩
    have key : ∀ v : Int32, f_X11_due_58 (nI b) v u2 = some ((((((rd u 142 b).toInt64 * (rd u 143 b).toInt64) * ((1000 - v).toInt64)) / 1000).toInt32), u2) ∧ f_X12_due_54 (nI b) v u4 = some ((((((rd u 142 b).toInt64 * (rd u 143 b).toInt64) * ((1000 - v).toInt64)) / 1000).toInt32), u4) := by
      intro v
      constructor
      · rw [f_X11_due_58, gd_nI (by omega) (by omega), nI_cl (by omega), (g2 16 b rfl).trans x3, (g2 17 b rfl).trans x4]
      · rw [f_X12_due_54, gd_nI (by omega) (by omega), nI_cl (by omega), g5 142 b rfl, g5 143 b rfl]
    have fin : ∀ v : Int32, ok (f_X11_due_58 (nI b) v u2) fun q' => ok (f_X12_due_54 (nI b) v u4) fun q'' => q''.1 = q'.1 ∧ Inv q''.2 := by
      intro v
      rw [(key v).1, (key v).2, ok_some, ok_some]
      exact ⟨rfl, Inv_scr g5 hI⟩
    rw [if_pos h1, e1, Option.bind_some]
    dsimp only
    rw [e2, Option.bind_some]
    dsimp only
    have e12 : ∀ w : xS, w = u2 → (if f_X12_isBale (wr w 135 0 0) (nI b) = 0 then some ((-1 : Int32), wr w 135 0 0) else (f_X12_offOf (nI b) 0 (wr w 135 0 0)).bind fun q11 => (f_X12_offOf (nI b) 1 q11.2).bind fun q10 => if q11.1 < 0 then f_X12_due_45 (nI b) q11.1 q10.1 q10.2 else if q10.1 < 0 then f_X12_due_45 (nI b) q11.1 q10.1 q10.2 else f_X12_due_54 (nI b) ((q11.1 + q10.1) / 2) q10.2) = if r < 0 then f_X12_due_54 (nI b) (imax 0 (imax r q)) u4 else if q < 0 then f_X12_due_54 (nI b) (imax 0 (imax r q)) u4 else f_X12_due_54 (nI b) ((r + q) / 2) u4 := by
      intro w hw
      rw [hw, e, if_neg (by decide), e3, Option.bind_some]
      dsimp only
      rw [e4, Option.bind_some]
      rfl
    have st : ∀ v : Int32, ok (f_X11_due_58 (nI b) v u2) fun q' => q' = ((((((rd u 142 b).toInt64 * (rd u 143 b).toInt64) * ((1000 - v).toInt64)) / 1000).toInt32), u2) := fun v => by rw [(key v).1, ok_some]
    by_cases c1 : r = -1
    · rw [if_pos c1, f_X11_due_47, (key _).1, ok_some, e12 _ rfl, if_pos ((hneg r hr).mpr c1), (key _).2, ok_some]
      exact ⟨rfl, Inv_scr g5 hI⟩
    · rw [if_neg c1]
      by_cases c2 : q = -1
      · rw [if_pos c2, f_X11_due_47, (key _).1, ok_some, e12 _ rfl, if_neg (fun z => c1 ((hneg r hr).mp z)), if_pos ((hneg q hq).mpr c2), (key _).2, ok_some]
        exact ⟨rfl, Inv_scr g5 hI⟩
      · rw [if_neg c2, (key _).1, ok_some, e12 _ rfl, if_neg (fun z => c1 ((hneg r hr).mp z)), if_neg (fun z => c2 ((hneg q hq).mp z)), (key _).2, ok_some]
        exact ⟨rfl, Inv_scr g5 hI⟩
  · rw [if_neg h1, ok_some]
    have e : f_X12_isBale (wr u 135 0 0) a1 = 0 := by rw [isB (u := wr u 135 0 0) hI.B.2.1 (by omega), if_neg h1]
    dsimp only
    rw [e, if_pos rfl, ok_some]
    exact ⟨rfl, hJ⟩
/-- pounds, dust and bales of a sorter -/
def pyf (u : xS) (a : Int32) (b : Nat) (p : Int32 × Int32 × Int32) : Int32 × Int32 × Int32 := if rd u 144 b = a then (p.1 + nI (nsum (eH u b) 16), p.2.1 + nI (nv (rd u 142 b) - nsum (eH u b) 16), p.2.2 + 1) else p
def sdP (P : Int32 × Int32 × Int32) (E : Int32) : Nat → Int32 := up (up (up (up (fun _ => 0) 13 P.1) 14 P.2.1) 11 P.2.2) 15 E
theorem s_pay : xS_pay Inv := by
  intro u a1 hI
  apply st_W
  have hJ := Inv_thr hI
  have hB3 := hI.B.2.2.1
  simp only [f_X11_pay, f_X11_isSorter, lies_eq, f_X12_pay, f_X12_isSorter, L_0, L_5, in_eq, ite_10]
  by_cases h1 : 0 ≤ a1 ∧ a1 ≤ 5
  · rw [if_pos h1]
    have ha1 : ¬ a1 = -1 := fun z => by rw [z] at h1; exact absurd h1.1 (by decide)
    obtain ⟨P, hP⟩ : ∃ P, P = it (pyf u a1) ((0 : Int32), (0 : Int32), (0 : Int32)) (nB u) := ⟨_, rfl⟩
    obtain ⟨E, hE⟩ : ∃ E : Int32, E = if alk u a1 (-1) = -1 then 1000 else alk u a1 (-1) := ⟨_, rfl⟩
    obtain ⟨l, ⟨t1, t2, t3, t4, t5⟩, t6, t7, t8, t9⟩ := text_at hI (t := 10) (by omega)
    have loop11 : f_X11_pay_19 xN a1 0 0 0 0 u = (f_X3_alike u a1 (-1 : Int32)).bind fun x3 => (f_X10_clearLetters u).bind fun u5 => (f_X10_tell (112 : Int32) P.1 u5).bind fun u7 => (f_X10_tell (122 : Int32) P.2.1 u7).bind fun u9 => (f_X10_tell (110 : Int32) P.2.2 u9).bind fun u11 => if x3 = (-1 : Int32) then ((f_X11_pay_160 (101 : Int32) (1000 : Int32) u11)) else ((f_X11_pay_160 (101 : Int32) x3 u11)) := by
      rw [hP]
      refine it_loop (S := nB u) (F := fun N i (p : Int32 × Int32 × Int32) => f_X11_pay_19 N a1 p.1 p.2.1 p.2.2 (nI i) u) (a := ((0 : Int32), (0 : Int32), (0 : Int32))) (pyf u a1) (fun P => (f_X3_alike u a1 (-1 : Int32)).bind fun x3 => (f_X10_clearLetters u).bind fun u5 => (f_X10_tell (112 : Int32) P.1 u5).bind fun u7 => (f_X10_tell (122 : Int32) P.2.1 u7).bind fun u9 => (f_X10_tell (110 : Int32) P.2.2 u9).bind fun u11 => if x3 = (-1 : Int32) then ((f_X11_pay_160 (101 : Int32) (1000 : Int32) u11)) else ((f_X11_pay_160 (101 : Int32) x3 u11))) (fun n i p hi => ?_) (fun n p => ?_) (xN_lt (by omega))
      · obtain ⟨x1, x2, x3, x4, x5, -, ⟨w, hw0, hw, h142⟩, -⟩ := hI.B.2.2.2.1 i hi
        have hle := (hI.H.2 i hi).1
        have h19 := (hI.H.2 i hi).2
        rw [h142, nv_nI (by omega)] at hle h19
        rw [f_X11_pay_19, hI.B.1, ite_nle hi (by omega), gd_nI (by omega) (by omega), nI_cl (by omega), x5]
        unfold f_X11_pay_85 pyf
        rw [nI_1]
        by_cases c : rd u 144 i = a1
        · have c2 : ¬ rd u 144 i = -1 := fun z => ha1 (c.symm.trans z)
          rw [if_neg c2] at h19
          rw [if_pos c, if_pos c, h142, nv_nI (by omega), h19, x3, h142, pk_sub (by omega), show w - (w - nsum (eH u i) 16) = nsum (eH u i) 16 by omega]
        · rw [if_neg c, if_neg c]
      · rw [f_X11_pay_19, hI.B.1, ite_yle (Nat.le_refl _) (by omega)]
    rw [loop11, c11_alike hI.D, Option.bind_some]
    obtain ⟨u1, p1, p2, p3⟩ := clear u
    have g1 : ag wX u u1 := fun c j hc => p3 c j (ne_W 72 (fun _ => rfl) hc)
    obtain ⟨p4, p5⟩ := tell (c := 112) (v := P.1) 13 (by omega) rfl p2
    have g2 := ag_wr (c := 72) (j := lt 13 - 97) (v := P.1) g1 rfl
    obtain ⟨p6, p7⟩ := tell (c := 122) (v := P.2.1) 14 (by omega) rfl p5
    have g3 := ag_wr (c := 72) (j := lt 14 - 97) (v := P.2.1) g2 rfl
    obtain ⟨p8, p9⟩ := tell (c := 110) (v := P.2.2) 11 (by omega) rfl p7
    have g4 := ag_wr (c := 72) (j := lt 11 - 97) (v := P.2.2) g3 rfl
    obtain ⟨p10, p11⟩ := tell (c := 101) (v := E) 15 (by omega) rfl p9
    have g5 := ag_wr (c := 72) (j := lt 15 - 97) (v := E) g4 rfl
    obtain ⟨u6, q1, q2⟩ := v11 (t := 10) (l := l) (by omega) t1 (fun k m hk => (g5 (60 + 10) k rfl).trans (t6 k m hk)) ((g5 71 10 rfl).trans t7) t2 t3 p11
    have g6 : ag wX u u6 := fun c j hc => (q2 c j (ne_W 73 (fun _ => rfl) hc) (fun z => by rw [z.1, z.2] at hc; revert hc; decide)).trans (g5 c j hc)
    rw [p1, Option.bind_some, p4, Option.bind_some, p6, Option.bind_some, p8, Option.bind_some]
    have e160 : (if alk u a1 (-1) = -1 then (f_X11_pay_160 (101 : Int32) (1000 : Int32) (wr (wr (wr u1 72 (lt 13 - 97) P.1) 72 (lt 14 - 97) P.2.1) 72 (lt 11 - 97) P.2.2)) else ((f_X11_pay_160 (101 : Int32) (alk u a1 (-1)) (wr (wr (wr u1 72 (lt 13 - 97) P.1) 72 (lt 14 - 97) P.2.1) 72 (lt 11 - 97) P.2.2)))) = some (tv (sdP P E) l, u6) := by
      have e0 : f_X11_pay_160 (101 : Int32) E (wr (wr (wr u1 72 (lt 13 - 97) P.1) 72 (lt 14 - 97) P.2.1) 72 (lt 11 - 97) P.2.2) = some (tv (sdP P E) l, u6) := by
        rw [f_X11_pay_160, p10, Option.bind_some, show (10 : Int32) = nI 10 from rfl, q1]
        rfl
      by_cases c : alk u a1 (-1) = -1
      · rw [if_pos c] at hE ⊢
        rw [← hE]
        exact e0
      · rw [if_neg c] at hE ⊢
        rw [← hE]
        exact e0
    rw [e160, ok_some]
    dsimp only
    rw [if_pos h1, g6 154 10 rfl]
    by_cases qt : rd u 154 10 = 0
    · rw [if_pos qt, ok_some, t4 qt]
      exact ⟨rfl, Inv_scr (ag_wr g6 rfl) hI⟩
    · rw [if_neg qt]
      have g7 : ag wX u (wr u6 135 0 0) := ag_wr g6 rfl
      generalize wr u6 135 0 0 = u7 at g7 ⊢
      have hK := Inv_scr g7 hI
      have eNB : nB u7 = nB u := congrArg nv (g7 135 7 rfl)
      have eHH : ∀ b, nsum (eH u7 b) 16 = nsum (eH u b) 16 := fun b => nsum_congr fun s _ => congrArg nv (g7 146 _ rfl)
      have loop12 : f_X12_pay_36 xN a1 0 0 0 0 u7 = (f_X12_eyeOf u7 a1).bind fun x3 => (f_X12_hush u7).bind fun u5 => (f_X12_says (112 : Int32) P.1 u5).bind fun u7 => (f_X12_says (122 : Int32) P.2.1 u7).bind fun u9 => (f_X12_says (110 : Int32) P.2.2 u9).bind fun u11 => if 0 ≤ x3 then ((f_X12_pay_132 (101 : Int32) x3 u11)) else ((f_X12_pay_132 (101 : Int32) (1000 : Int32) u11)) := by
        rw [hP]
        refine it_loop (S := nB u) (F := fun N i (p : Int32 × Int32 × Int32) => f_X12_pay_36 N a1 p.1 p.2.1 p.2.2 (nI i) u7) (a := ((0 : Int32), (0 : Int32), (0 : Int32))) (pyf u a1) (fun P => (f_X12_eyeOf u7 a1).bind fun x3 => (f_X12_hush u7).bind fun u5 => (f_X12_says (112 : Int32) P.1 u5).bind fun u7 => (f_X12_says (122 : Int32) P.2.1 u7).bind fun u9 => (f_X12_says (110 : Int32) P.2.2 u9).bind fun u11 => if 0 ≤ x3 then ((f_X12_pay_132 (101 : Int32) x3 u11)) else ((f_X12_pay_132 (101 : Int32) (1000 : Int32) u11))) (fun n i p hi => ?_) (fun n p => ?_) (xN_lt (by omega))
        · rw [f_X12_pay_36, (g7 135 7 rfl).trans hI.B.2.1, ite_nle hi (by omega), gd_nI (by omega) (by omega), nI_cl (by omega), g7 144 i rfl, found_eq hK (by rw [eNB]; exact hi), Option.bind_some, dust_eq hK (by rw [eNB]; exact hi), Option.bind_some, g7 142 i rfl, eHH]
          unfold f_X12_pay_77 pyf
          rw [nI_1]
          by_cases c : rd u 144 i = a1
          · rw [if_pos c, if_pos c]
          · rw [if_neg c, if_neg c]
        · rw [f_X12_pay_36, (g7 135 7 rfl).trans hI.B.2.1, ite_yle (Nat.le_refl _) (by omega)]
      have eE : f_X12_eyeOf u7 a1 = some (alk u a1 (-1)) := by
        rw [f_X12_eyeOf, c12_alike hK.D, alk_fr (ag_sm g7 rfl)]
        rfl
      obtain ⟨v1, z1, z2, z3⟩ := hush u7
      have k1 : ag wX u v1 := fun c j hc => (z3 c j (ne_W 158 (fun _ => rfl) hc)).trans (g7 c j hc)
      obtain ⟨z4, z5⟩ := says (c := 112) (v := P.1) 13 (by omega) rfl z2
      have k2 := ag_wr (c := 158) (j := 13) (v := P.1) k1 rfl
      obtain ⟨z6, z7⟩ := says (c := 122) (v := P.2.1) 14 (by omega) rfl z5
      have k3 := ag_wr (c := 158) (j := 14) (v := P.2.1) k2 rfl
      obtain ⟨z8, z9⟩ := says (c := 110) (v := P.2.2) 11 (by omega) rfl z7
      have k4 := ag_wr (c := 158) (j := 11) (v := P.2.2) k3 rfl
      obtain ⟨z10, z11⟩ := says (c := 101) (v := E) 15 (by omega) rfl z9
      have k5 := ag_wr (c := 158) (j := 15) (v := E) k4 rfl
      obtain ⟨v6, q3, q4⟩ := v12 (t := 10) (l := l) (by omega) t1 (fun k m hk => (k5 155 _ rfl).trans (t8 k m hk)) ((k5 156 10 rfl).trans t9) t2 (t5 qt) z11
      have k6 : ag wX u v6 := fun c j hc => (q4 c j (ne_W 157 (fun _ => rfl) hc) (fun z => by rw [z.1, z.2] at hc; revert hc; decide)).trans (k5 c j hc)
      have e0 : f_X12_pay_132 (101 : Int32) E (wr (wr (wr v1 158 13 P.1) 158 14 P.2.1) 158 11 P.2.2) = some (tv (sdP P E) l, v6) := by
        rw [f_X12_pay_132, z10, Option.bind_some, show (10 : Int32) = nI 10 from rfl, q3]
        rfl
      rw [loop12, eE, Option.bind_some, z1, Option.bind_some, z4, Option.bind_some, z6, Option.bind_some, z8, Option.bind_some]
      rcases alk_rng hI.D a1 (-1) with c | ⟨v, hv, c⟩
      · rw [if_pos c] at hE
        rw [c, if_neg (by decide), ← hE, e0, ok_some]
        exact ⟨rfl, Inv_scr k6 hI⟩
      · have c2 : ¬ alk u a1 (-1) = -1 := fun z => by
          rw [c] at z
          have := nI_lo (n := v) (by omega)
          rw [z] at this
          exact absurd this (by decide)
        rw [if_neg c2] at hE
        rw [← hE, if_pos (by rw [hE, c]; exact nI_lo (by omega)), e0, ok_some]
        exact ⟨rfl, Inv_scr k6 hI⟩
  · rw [if_neg h1, ok_some]
    dsimp only
    rw [if_neg h1, ok_some]
    exact ⟨rfl, hJ⟩
