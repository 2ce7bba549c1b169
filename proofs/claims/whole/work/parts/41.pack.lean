/-! PACK -/
theorem i_B_take {u u2 : xS} (hI : Inv u) {AN : Nat → Nat → Nat} (hsm : sm [(13, 9), (135, 8), (14, 0), (15, 0), (16, 0), (17, 0), (18, 0), (140, 0), (141, 0), (142, 0), (143, 0), (144, 0)] u u2)
    (h20 : ∀ b, b < 24 → rd u2 20 b = rd u 20 b + isum (fun s => nI (AN s b)) 16) (h145 : ∀ b, b < 24 → rd u2 145 b = rd u 145 b + isum (fun s => nI (AN s b)) 16) : i_B u2 := by
  obtain ⟨b1, b2, b3, b4, b5⟩ := hI.B
  have q0 : rd u2 135 7 = rd u 135 7 := hsm 135 7 rfl
  have m_nB : nB u2 = nB u := congrArg nv q0
  have q1 : rd u2 13 8 = rd u 13 8 := hsm 13 8 rfl
  have q2 : ∀ i, rd u2 14 i = rd u 14 i := fun i => hsm 14 i rfl
  have q3 : ∀ i, rd u2 15 i = rd u 15 i := fun i => hsm 15 i rfl
  have q4 : ∀ i, rd u2 16 i = rd u 16 i := fun i => hsm 16 i rfl
  have q5 : ∀ i, rd u2 17 i = rd u 17 i := fun i => hsm 17 i rfl
  have q6 : ∀ i, rd u2 18 i = rd u 18 i := fun i => hsm 18 i rfl
  have q8 : ∀ i, rd u2 140 i = rd u 140 i := fun i => hsm 140 i rfl
  have q9 : ∀ i, rd u2 141 i = rd u 141 i := fun i => hsm 141 i rfl
  have q10 : ∀ i, rd u2 142 i = rd u 142 i := fun i => hsm 142 i rfl
  have q11 : ∀ i, rd u2 143 i = rd u 143 i := fun i => hsm 143 i rfl
  have q12 : ∀ i, rd u2 144 i = rd u 144 i := fun i => hsm 144 i rfl
  unfold i_B
  simp only [m_nB, q0, q1, q2, q3, q4, q5, q6, q8, q9, q10, q11, q12]
  refine ⟨b1, b2, b3, b4, fun b hb => ?_⟩
  rw [h20 b hb, h145 b hb, b5 b hb]
abbrev pk11 (u1 : xS) (Q : Nat) (s p o q : Int32) : xS := wr (wr (wr (wr (wr u1 128 Q s) 129 Q p) 130 Q o) 131 Q q) 121 6 (nI (Q + 1))
abbrev pk12 (w : xS) (Q : Nat) (s p o q : Int32) : xS := wr (wr (wr (wr (wr w 174 Q s) 175 Q p) 176 Q o) 177 Q q) 135 54 (nI (Q + 1))
/-- the end, out of what was taken -/
theorem Inv_pack {u u1 u3 : xS} (hI : Inv u) {AN : Nat → Nat → Nat} {Q s p o q : Nat} (hQ : nQ u = Q) (hQ8 : Q < 8) (hs : s < 16) (hp : p ≤ 9999) (ho : o < 16) (hq : q ≤ 9999) (hqo : q = 0 → o = s)
    (hA : ∀ s b, s < 16 → b < 24 → AN s b ≤ eL u b s) (m1 : zMS u 20 AN u1) (y2 : zNS (pk12 (wr (pk11 u1 Q (nI s) (nI p) (nI o) (nI q)) 135 0 0) Q (nI s) (nI p) (nI o) (nI q)) 145 0 AN u3) : Inv u3 := by
  obtain ⟨q1, q2, q3, q4, q5⟩ := hI.A
  have e0 : ∀ c j, c ≠ 77 → c ≠ 78 → c ≠ 20 → rd u1 c j = rd u c j := m1.2.2.2
  have e3 : ∀ c j, c ≠ 147 → c ≠ 145 → rd u3 c j = rd (pk12 (wr (pk11 u1 Q (nI s) (nI p) (nI o) (nI q)) 135 0 0) Q (nI s) (nI p) (nI o) (nI q)) c j := y2.2.2.2
  have a0 : ag [(20, 0), (77, 0), (78, 0)] u u1 := fun c j hc => e0 c j (ne_W 77 (fun _ => rfl) hc) (ne_W 78 (fun _ => rfl) hc) (ne_W 20 (fun _ => rfl) hc)
  have a1 : ag [(20, 0), (77, 0), (78, 0), (121, 7), (128, 0), (129, 0), (130, 0), (131, 0), (135, 1), (135, 55), (145, 0), (147, 0), (174, 0), (175, 0), (176, 0), (177, 0)] u (pk12 (wr (pk11 u1 Q (nI s) (nI p) (nI o) (nI q)) 135 0 0) Q (nI s) (nI p) (nI o) (nI q)) := by
    repeat first | exact ag_sub rfl a0 | refine ag_wr ?_ rfl
  have hag : ag [(20, 0), (77, 0), (78, 0), (121, 7), (128, 0), (129, 0), (130, 0), (131, 0), (135, 1), (135, 55), (145, 0), (147, 0), (174, 0), (175, 0), (176, 0), (177, 0)] u u3 :=
    ag_trans a1 (fun c j hc => e3 c j (ne_W 147 (fun _ => rfl) hc) (ne_W 145 (fun _ => rfl) hc))
  refine ⟨fr_S (ag_sm hag rfl) hI.S, fr_P (ag_sm hag rfl) hI.P, ?_, fr_H (ag_sm hag rfl) hI.H, ?_, fr_K (ag_sm hag rfl) hI.K, fr_T (ag_sm hag rfl) hI.T, fr_X (ag_sm hag rfl) hI.X, fr_F (ag_sm hag rfl) hI.F, fr_C (ag_sm hag rfl) hI.C, fr_D (ag_sm hag rfl) hI.D, ?_, fr_W (ag_sm hag rfl) hI.W⟩
  · refine i_B_take hI (AN := AN) (ag_sm hag rfl) (fun b hb => ?_) (fun b hb => ?_)
    · rw [e3 20 b (by decide) (by decide)]
      exact m1.2.2.1 b hb
    · have := y2.2.1 b hb
      rw [Nat.zero_add] at this
      rw [this]
      exact congrArg (fun z => z + _) (e0 145 b (by decide) (by decide) (by decide))
  · refine i_L_take hI.to4 hA (fun k q' hq' => ?_) (fun s' hs' => ?_) (fun s' b hs' hb => ?_) (ag_sm hag rfl)
    · rw [e3 77 k (by decide) (by decide)]
      exact m1.1 k q' hq'
    · rw [e3 78 s' (by decide) (by decide)]
      exact m1.2.1 s' hs'
    · rw [y2.1 s' b hs' hb]
      exact congrArg (fun z => z - _) (e0 147 _ (by decide) (by decide) (by decide))
  · have g0 : rd u3 121 6 = nI (Q + 1) := e3 121 6 (by decide) (by decide)
    have g1 : rd u3 135 54 = nI (Q + 1) := e3 135 54 (by decide) (by decide)
    have eQ : nQ u3 = Q + 1 := nv_of g1 (by omega)
    have y2' : ∀ i, rd u3 127 i = rd u 127 i := fun i => hag 127 i rfl
    have y8 : ∀ i, rd u3 173 i = rd u 173 i := fun i => hag 173 i rfl
    have y13 : ∀ i, rd u3 180 i = rd u 180 i := fun i => hag 180 i rfl
    have y14 : ∀ i, rd u3 172 i = rd u 172 i := fun i => hag 172 i rfl
    have z1 : ∀ i, rd u3 128 i = if i = Q then nI s else rd u 128 i := fun i => (e3 128 i (by decide) (by decide)).trans (by simp only [pk11, pk12, rd_wr, Nat.reduceEqDiff, if_true, if_false]; rw [e0 128 i (by decide) (by decide) (by decide)])
    have z2 : ∀ i, rd u3 129 i = if i = Q then nI p else rd u 129 i := fun i => (e3 129 i (by decide) (by decide)).trans (by simp only [pk11, pk12, rd_wr, Nat.reduceEqDiff, if_true, if_false]; rw [e0 129 i (by decide) (by decide) (by decide)])
    have z3 : ∀ i, rd u3 130 i = if i = Q then nI o else rd u 130 i := fun i => (e3 130 i (by decide) (by decide)).trans (by simp only [pk11, pk12, rd_wr, Nat.reduceEqDiff, if_true, if_false]; rw [e0 130 i (by decide) (by decide) (by decide)])
    have z4 : ∀ i, rd u3 131 i = if i = Q then nI q else rd u 131 i := fun i => (e3 131 i (by decide) (by decide)).trans (by simp only [pk11, pk12, rd_wr, Nat.reduceEqDiff, if_true, if_false]; rw [e0 131 i (by decide) (by decide) (by decide)])
    have z5 : ∀ i, rd u3 174 i = if i = Q then nI s else rd u 174 i := fun i => (e3 174 i (by decide) (by decide)).trans (by simp only [pk11, pk12, rd_wr, Nat.reduceEqDiff, if_true, if_false]; rw [e0 174 i (by decide) (by decide) (by decide)])
    have z6 : ∀ i, rd u3 175 i = if i = Q then nI p else rd u 175 i := fun i => (e3 175 i (by decide) (by decide)).trans (by simp only [pk11, pk12, rd_wr, Nat.reduceEqDiff, if_true, if_false]; rw [e0 175 i (by decide) (by decide) (by decide)])
    have z7 : ∀ i, rd u3 176 i = if i = Q then nI o else rd u 176 i := fun i => (e3 176 i (by decide) (by decide)).trans (by simp only [pk11, pk12, rd_wr, Nat.reduceEqDiff, if_true, if_false]; rw [e0 176 i (by decide) (by decide) (by decide)])
    have z8 : ∀ i, rd u3 177 i = if i = Q then nI q else rd u 177 i := fun i => (e3 177 i (by decide) (by decide)).trans (by simp only [pk11, pk12, rd_wr, Nat.reduceEqDiff, if_true, if_false]; rw [e0 177 i (by decide) (by decide) (by decide)])
    unfold i_A
    rw [eQ]
    simp only [g0, g1, y2', y8, y13, y14, z1, z2, z3, z4, z5, z6, z7, z8]
    refine ⟨trivial, trivial, by omega, fun l hl => ⟨(q4 l hl).1, (q4 l hl).2.1, (q4 l hl).2.2.1, fun s' hs' => ?_⟩, lt_s (fun i hi => ?_) ?_⟩
    · rw [hag (123 + l) s' (by rw [lc_123 hl]; rfl)]
      exact (q4 l hl).2.2.2 s' hs'
    · have hne : ¬ i = Q := by omega
      simp only [hne, if_false]
      exact q5 i (by omega)
    · simp only [if_true]
      exact ⟨trivial, trivial, trivial, trivial, s, p, o, q, hs, hp, ho, hq, hqo, rfl, rfl, rfl, rfl⟩
theorem s_pack : xS_pack Inv := by
  intro u a1 a2 a3 a4 hI
  apply st_W
  obtain ⟨s1, s2, s3, -⟩ := hI.S
  obtain ⟨q1, q2, q3, -⟩ := hI.A
  have hJ := Inv_thr hI
  have n2 : rd (wr u 135 0 0) 135 1 = nI (nS u) := s2
  have es : ∀ s, sto (wr u 135 0 0) s = sto u s := fun s => sto_fr rfl (fun i => rfl) s
  by_cases h : (0 ≤ a1 ∧ a1 < nI (nS u)) ∧ (1 ≤ a2 ∧ a2 ≤ 9999) ∧ (0 ≤ a4 ∧ a4 ≤ 9999)
  · obtain ⟨h1, h2, h3⟩ := h
    obtain ⟨s, hs, rfl⟩ := nI_ix (by omega) h1.1 h1.2
    have h20 : (0 : Int32) ≤ a2 := Int32.le_trans (by decide) h2.1
    obtain ⟨p, hp, rfl⟩ := nI_ixl (S := 9999) (by omega) h20 h2.2
    obtain ⟨q, hq, rfl⟩ := nI_ixl (S := 9999) (by omega) h3.1 h3.2
    have hs16 : s < 16 := by omega
    -- the class, as far as its tests
    have e11 : f_X11_pack (nI s) (nI p) a3 (nI q) u = if nI p ≤ sto u s ∧ (q = 0 ∨ ((0 ≤ a3 ∧ a3 < nI (nS u)) ∧ ¬ a3 = nI s ∧ nI q ≤ sto u (nv a3))) ∧ nQ u < 8 then (f_X6_takeOut (nI s) (nI p) 20 u).bind (fun u4 => if nI q ≤ 0 then f_X11_pack_146 (nI s) (nI p) a3 (nI q) u4 else (f_X6_takeOut a3 (nI q) 20 u4).bind fun u7 => f_X11_pack_146 (nI s) (nI p) a3 (nI q) u7) else some (-1, u) := by
      have e87 : f_X11_pack_82 (nI s) (nI p) a3 (nI q) u = if nQ u < 8 then (f_X6_takeOut (nI s) (nI p) 20 u).bind (fun u4 => if nI q ≤ 0 then f_X11_pack_146 (nI s) (nI p) a3 (nI q) u4 else (f_X6_takeOut a3 (nI q) 20 u4).bind fun u7 => f_X11_pack_146 (nI s) (nI p) a3 (nI q) u7) else some (-1, u) := by
        rw [f_X11_pack_82, f_X11_pack_87, if_neg (by decide)]
        by_cases c : nQ u < 8
        · rw [if_pos c, if_pos (show rd u 121 6 < (8 : Int32) from (lt60 (k := 8) q1 (by omega) (by omega)).mpr c)]
        · rw [if_neg c, if_neg (show ¬ rd u 121 6 < (8 : Int32) from fun z => c ((lt60 (k := 8) q1 (by omega) (by omega)).mp z))]
      have e86 : f_X11_pack_86 (nI s) (nI p) a3 (nI q) u = some (-1, u) := by
        rw [f_X11_pack_86, f_X11_pack_87, if_pos rfl]
      simp only [f_X11_pack, hasS s1, lies_eq, ite_10, c_ofSort hI.L hI.H hI.B hs16, Option.bind_some, e87, e86]
      rw [if_pos h1, if_pos h2, if_pos h3]
      by_cases c1 : nI p ≤ sto u s
      · rw [if_pos c1]
        by_cases c2 : q = 0
        · rw [if_pos (by rw [c2]; rfl)]
          by_cases c3 : nQ u < 8
          · rw [if_pos c3, if_pos ⟨c1, Or.inl c2, c3⟩]
          · rw [if_neg c3, if_neg (fun z => c3 z.2.2)]
        · rw [if_neg (nI_ne0 (by omega) (by omega))]
          by_cases c4 : 0 ≤ a3 ∧ a3 < nI (nS u)
          · rw [if_pos c4]
            by_cases c5 : a3 = nI s
            · rw [if_pos c5, if_neg (fun z => z.2.1.elim c2 (fun y => y.2.1 c5))]
            · rw [if_neg c5]
              obtain ⟨o, ho, hoe⟩ := nI_ix (by omega) c4.1 c4.2
              rw [hoe, c_ofSort hI.L hI.H hI.B (show o < 16 by omega), Option.bind_some, nv_nI (by omega)]
              by_cases c6 : nI q ≤ sto u o
              · rw [if_neg (Int32.not_lt.mpr c6)]
                by_cases c3 : nQ u < 8
                · rw [if_pos c3, if_pos ⟨c1, Or.inr ⟨by rw [← hoe]; exact c4, by rw [← hoe]; exact c5, c6⟩, c3⟩]
                · rw [if_neg c3, if_neg (fun z => c3 z.2.2)]
              · rw [if_pos (Int32.not_le.mp c6), if_neg (fun z => z.2.1.elim c2 (fun y => c6 y.2.2))]
          · rw [if_neg c4, if_neg (fun z => z.2.1.elim c2 (fun y => c4 y.1))]
      · rw [if_neg c1, if_neg (fun z => c1 z.1)]
    -- the reference
    have e12 : ∀ w : xS, rd (wr w 135 0 0) 135 1 = nI (nS u) → rd w 135 54 = nI (nQ u) → (∀ o, o < nS u → f_X12_stored (wr w 135 0 0) (nI o) = some (sto u o)) → f_X12_pack (nI s) (nI p) a3 (nI q) w = if nI p ≤ sto u s ∧ (q = 0 ∨ ((0 ≤ a3 ∧ a3 < nI (nS u)) ∧ ¬ a3 = nI s ∧ nI q ≤ sto u (nv a3))) ∧ nQ u < 8 then (f_X12_takesOf (nI s) (nI p) (-1) (pk12 (wr w 135 0 0) (nQ u) (nI s) (nI p) (if q = 0 then nI s else a3) (nI q))).bind (fun u4 => if nI q ≤ 0 then f_X12_pack_190 u4 else (f_X12_takesOf a3 (nI q) (-1) u4).bind fun u7 => f_X12_pack_190 u7) else some (-1, wr w 135 0 0) := by
      intro w hw1 hw2 hw3
      have n100 : f_X12_pack_100 (nI s) (nI p) a3 (nI q) (wr w 135 0 0) = some (-1, wr w 135 0 0) := by
        rw [f_X12_pack_100, f_X12_pack_101, if_pos rfl]
      have n60 : f_X12_pack_60 (nI s) (nI p) a3 (nI q) (wr w 135 0 0) = some (-1, wr w 135 0 0) := by
        rw [f_X12_pack_60, f_X12_pack_61, if_pos rfl, n100]
      have hw2' : rd (wr w 135 0 0) 135 54 = nI (nQ u) := hw2
      have n96 : nQ u < 8 → f_X12_pack_96 (nI s) (nI p) a3 (nI q) (wr w 135 0 0) = (f_X12_takesOf (nI s) (nI p) (-1) (pk12 (wr w 135 0 0) (nQ u) (nI s) (nI p) (if q = 0 then nI s else a3) (nI q))).bind (fun u4 => if nI q ≤ 0 then f_X12_pack_190 u4 else (f_X12_takesOf a3 (nI q) (-1) u4).bind fun u7 => f_X12_pack_190 u7) := by
        intro c3
        rw [f_X12_pack_96, f_X12_pack_101, if_neg (by decide), hw2', gd_nI (by omega) (by omega), nI_cl (by omega)]
        have m2 : ∀ v1 v2 : Int32, rd (wr (wr (wr w 135 0 0) 174 (nQ u) v1) 175 (nQ u) v2) 135 54 = nI (nQ u) := fun _ _ => hw2
        by_cases c2 : q = 0
        · rw [if_pos (by rw [c2]; rfl), f_X12_pack_148, m2, gd_nI (by omega) (by omega), gd_nI (by omega) (by omega), nI_cl (by omega), nI_1, if_pos c2]
        · rw [if_neg (nI_ne0 (by omega) (by omega)), f_X12_pack_148, m2, gd_nI (by omega) (by omega), gd_nI (by omega) (by omega), nI_cl (by omega), nI_1, if_neg c2]
      simp (disch := omega) only [f_X12_pack, isS hw1, L_0, L_1, L_9999, in_eq, ite_10, hw3 s hs, Option.bind_some, n60]
      rw [if_pos h1, if_pos h2, if_pos h3]
      by_cases c1 : nI p ≤ sto u s
      · rw [if_neg (Int32.not_lt.mpr c1)]
        by_cases c3 : nQ u < 8
        · rw [if_neg (show ¬ (8 : Int32) ≤ rd w 135 54 from fun z => (le60 (k := 8) hw2 (by omega) (by omega)).mp z c3), f_X12_pack_61, if_neg (by decide), n100, n96 c3]
          by_cases c2 : q = 0
          · have hh : nI p ≤ sto u s ∧ (q = 0 ∨ ((0 ≤ a3 ∧ a3 < nI (nS u)) ∧ ¬ a3 = nI s ∧ nI q ≤ sto u (nv a3))) ∧ nQ u < 8 := ⟨c1, Or.inl c2, c3⟩
            rw [if_pos (by rw [c2]; rfl), if_pos hh]
          · rw [if_neg (nI_ne0 (by omega) (by omega)), isS hw1 (by omega), ite_10]
            by_cases c4 : 0 ≤ a3 ∧ a3 < nI (nS u)
            · rw [if_pos c4]
              by_cases c5 : a3 = nI s
              · rw [if_pos c5, if_neg (fun z => z.2.1.elim c2 (fun y => y.2.1 c5))]
              · rw [if_neg c5]
                obtain ⟨o, ho, hoe⟩ := nI_ix (by omega) c4.1 c4.2
                have hst := hw3 o ho
                rw [← hoe] at hst
                rw [hst, Option.bind_some]
                have hnv : nv a3 = o := by rw [hoe]; exact nv_nI (by omega)
                by_cases c6 : nI q ≤ sto u o
                · have hh : nI p ≤ sto u s ∧ (q = 0 ∨ ((0 ≤ a3 ∧ a3 < nI (nS u)) ∧ ¬ a3 = nI s ∧ nI q ≤ sto u (nv a3))) ∧ nQ u < 8 := ⟨c1, Or.inr ⟨c4, c5, by rw [hnv]; exact c6⟩, c3⟩
                  rw [if_neg (Int32.not_lt.mpr c6), if_pos hh]
                · have hh : ¬ (nI p ≤ sto u s ∧ (q = 0 ∨ ((0 ≤ a3 ∧ a3 < nI (nS u)) ∧ ¬ a3 = nI s ∧ nI q ≤ sto u (nv a3))) ∧ nQ u < 8) := fun z => z.2.1.elim c2 (fun y => c6 (by rw [← hnv]; exact y.2.2))
                  rw [if_pos (Int32.not_le.mp c6), if_neg hh]
            · rw [if_neg c4, if_neg (fun z => z.2.1.elim c2 (fun y => c4 y.1))]
        · rw [if_pos (show (8 : Int32) ≤ rd w 135 54 from (le60 (k := 8) hw2 (by omega) (by omega)).mpr c3), if_neg (fun z => c3 z.2.2)]
      · rw [if_pos (Int32.not_le.mp c1), if_neg (fun z => c1 z.1)]
    rw [e11]
    by_cases hC : nI p ≤ sto u s ∧ (q = 0 ∨ ((0 ≤ a3 ∧ a3 < nI (nS u)) ∧ ¬ a3 = nI s ∧ nI q ≤ sto u (nv a3))) ∧ nQ u < 8
    · rw [if_pos hC]
      obtain ⟨k1, k2, k3⟩ := id hC
      obtain ⟨u1, t1, t2⟩ := takeX hI.to4 tgt_20 hs16 (show p < 2147483648 by omega) (zMS_0 u 20) (fun _ => rfl)
      rw [zero_dl] at t2
      rw [t1, Option.bind_some]
      have sto12 : ∀ (w : xS) (AN : Nat → Nat → Nat), zMS u 20 AN w → ∀ (x y z t : Int32) (o : Nat), o < nS u → f_X12_stored (wr (pk11 w (nQ u) x y z t) 135 0 0) (nI o) = some (sto u o) := by
        intro w AN hw x y z t o ho
        rw [c_stored (u := wr (pk11 w (nQ u) x y z t) 135 0 0) (B := nB u) ((hw.2.2.2 135 7 (by decide) (by decide) (by decide)).trans hI.B.2.1) hI.B.2.2.1 (show o < 16 by omega)]
        exact congrArg some (isum_congr fun b _ => hw.2.2.2 147 _ (by decide) (by decide) (by decide))
      have add : ∀ (w : xS) (AN : Nat → Nat → Nat), zMS u 20 AN w → ∀ x y z t : Int32, f_X4_addPack x y z t w = some (nI (nQ u), pk11 w (nQ u) x y z t) := by
        intro w AN hw x y z t
        have e : rd w 121 6 = nI (nQ u) := (hw.2.2.2 121 6 (by decide) (by decide) (by decide)).trans q1
        simp (disch := omega) only [f_X4_addPack, e, l_8, ite_ylt, gd_nI, nI_cl, nI_1]
      by_cases c2 : q = 0
      · subst c2
        have e146 : f_X11_pack_146 (nI s) (nI p) a3 (nI 0) u1 = some (nI (nQ u), pk11 u1 (nQ u) (nI s) (nI p) (nI s) (nI 0)) := by
          rw [f_X11_pack_146, if_pos (show nI 0 = (0 : Int32) from rfl), f_X11_pack_162, add u1 _ t2]
          rfl
        rw [if_pos (show nI 0 ≤ (0 : Int32) from Int32.le_refl _), e146, ok_some]
        dsimp only
        have z := e12 (pk11 u1 (nQ u) (nI s) (nI p) (nI s) (nI 0)) ((t2.2.2.2 135 1 (by decide) (by decide) (by decide)).trans s2) ((t2.2.2.2 135 54 (by decide) (by decide) (by decide)).trans q2) (sto12 u1 _ t2 _ _ _ _)
        rw [if_pos hC, if_pos rfl] at z
        obtain ⟨u2, y1, y2⟩ := takeM (v := pk12 (wr (pk11 u1 (nQ u) (nI s) (nI p) (nI s) (nI 0)) 135 0 0) (nQ u) (nI s) (nI p) (nI s) (nI 0)) hI.to4 (cl := -1) (tc := 145) (o := 0) (Or.inl ⟨rfl, rfl, rfl⟩) hs16 (show p < 2147483648 by omega) (fun i => t2.2.2.2 147 i (by decide) (by decide) (by decide)) (t2.2.2.2 135 16 (by decide) (by decide) (by decide)) (fun k => t2.2.2.2 148 k (by decide) (by decide) (by decide)) (zNS_0 _ 145 0) (fun _ => rfl)
        rw [zero_dl] at y2
        have e54 : rd u2 135 54 = nI (nQ u + 1) := y2.2.2.2 135 54 (by decide) (by decide)
        rw [y1, Option.bind_some, if_pos (show nI 0 ≤ (0 : Int32) from Int32.le_refl _), f_X12_pack_190, e54, nI_pred] at z
        exact ok_is z ⟨rfl, Inv_pack hI rfl k3 hs16 hp hs16 (by omega) (fun _ => rfl) (fun s' b _ hb => dl_le hb) t2 y2⟩
      · obtain ⟨k4, k5, k6⟩ := k2.resolve_left c2
        obtain ⟨o, ho, rfl⟩ := nI_ix (by omega) k4.1 k4.2
        have hos : ¬ o = s := fun z => k5 (by rw [z])
        have ho16 : o < 16 := by omega
        obtain ⟨u1', t3, t4⟩ := takeX hI.to4 tgt_20 ho16 (show q < 2147483648 by omega) t2 (fun b => if_neg hos)
        have e146 : f_X11_pack_146 (nI s) (nI p) (nI o) (nI q) u1' = some (nI (nQ u), pk11 u1' (nQ u) (nI s) (nI p) (nI o) (nI q)) := by
          rw [f_X11_pack_146, if_neg (nI_ne0 (by omega) (by omega)), f_X11_pack_162, add u1' _ t4]
          rfl
        rw [if_neg (nI_nle (by omega) (by omega)), t3, Option.bind_some, e146, ok_some]
        dsimp only
        have z := e12 (pk11 u1' (nQ u) (nI s) (nI p) (nI o) (nI q)) ((t4.2.2.2 135 1 (by decide) (by decide) (by decide)).trans s2) ((t4.2.2.2 135 54 (by decide) (by decide) (by decide)).trans q2) (sto12 u1' _ t4 _ _ _ _)
        rw [if_pos hC, if_neg c2] at z
        obtain ⟨u2, y1, y2⟩ := takeM (v := pk12 (wr (pk11 u1' (nQ u) (nI s) (nI p) (nI o) (nI q)) 135 0 0) (nQ u) (nI s) (nI p) (nI o) (nI q)) hI.to4 (cl := -1) (tc := 145) (o := 0) (Or.inl ⟨rfl, rfl, rfl⟩) hs16 (show p < 2147483648 by omega) (fun i => t4.2.2.2 147 i (by decide) (by decide) (by decide)) (t4.2.2.2 135 16 (by decide) (by decide) (by decide)) (fun k => t4.2.2.2 148 k (by decide) (by decide) (by decide)) (zNS_0 _ 145 0) (fun _ => rfl)
        rw [zero_dl] at y2
        obtain ⟨u3, y3, y4⟩ := takeM (v := pk12 (wr (pk11 u1' (nQ u) (nI s) (nI p) (nI o) (nI q)) 135 0 0) (nQ u) (nI s) (nI p) (nI o) (nI q)) hI.to4 (cl := -1) (tc := 145) (o := 0) (Or.inl ⟨rfl, rfl, rfl⟩) ho16 (show q < 2147483648 by omega) (fun i => t4.2.2.2 147 i (by decide) (by decide) (by decide)) (t4.2.2.2 135 16 (by decide) (by decide) (by decide)) (fun k => t4.2.2.2 148 k (by decide) (by decide) (by decide)) y2 (fun b => if_neg hos)
        have e54 : rd u3 135 54 = nI (nQ u + 1) := y4.2.2.2 135 54 (by decide) (by decide)
        rw [y1, Option.bind_some, if_neg (nI_nle (by omega) (by omega)), y3, Option.bind_some, f_X12_pack_190, e54, nI_pred] at z
        refine ok_is z ⟨rfl, Inv_pack hI rfl k3 hs16 hp ho16 hq (fun z => absurd z c2) (fun s' b hs' hb => ?_) t4 y4⟩
        have g1 := dl_le (u := u) (s := s) (p := p) (s' := s') hb
        have g2 := dl_le (u := u) (s := o) (p := q) (s' := s') hb
        by_cases e : s' = s
        · have : dl u o q s' b = 0 := if_neg (by rw [e]; exact fun z => hos z.symm)
          omega
        · have : dl u s p s' b = 0 := if_neg e
          omega
    · rw [if_neg hC, ok_some]
      have z := e12 u n2 q2 (fun o ho => by rw [c_sto hJ.B (show o < 16 by omega), es])
      rw [if_neg hC] at z
      exact ok_is z ⟨rfl, hJ⟩
  · have e11 : f_X11_pack a1 a2 a3 a4 u = some (-1, u) := by
      simp only [f_X11_pack, hasS s1, lies_eq, ite_10]
      by_cases h1 : 0 ≤ a1 ∧ a1 < nI (nS u)
      · by_cases h2 : 1 ≤ a2 ∧ a2 ≤ 9999
        · rw [if_pos h1, if_pos h2, if_neg (fun q => h ⟨h1, h2, q⟩)]
        · rw [if_pos h1, if_neg h2]
      · rw [if_neg h1]
    have e12 : f_X12_pack a1 a2 a3 a4 u = some (-1, wr u 135 0 0) := by
      have n60 : f_X12_pack_60 a1 a2 a3 a4 (wr u 135 0 0) = some (-1, wr u 135 0 0) := by
        rw [f_X12_pack_60, f_X12_pack_61, if_pos rfl, f_X12_pack_100, f_X12_pack_101, if_pos rfl]
      simp (disch := omega) only [f_X12_pack, isS n2, L_0, L_1, L_9999, in_eq, ite_10, n60]
      by_cases h1 : 0 ≤ a1 ∧ a1 < nI (nS u)
      · by_cases h2 : 1 ≤ a2 ∧ a2 ≤ 9999
        · rw [if_pos h1, if_pos h2, if_neg (fun q => h ⟨h1, h2, q⟩)]
        · rw [if_pos h1, if_neg h2]
      · rw [if_neg h1]
    exact ok_is e11 (ok_is e12 ⟨rfl, hJ⟩)
