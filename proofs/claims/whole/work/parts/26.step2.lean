/-! AS, BALE, LOOK, PART, FAULT, TAKES, TWICE, GIVES, COST -/
theorem s_as : xS_as Inv := by
  intro u a1 hI
  apply st_W
  obtain ⟨k1, k2, k3, k4, k5⟩ := hI.K
  simp only [f_X11_as, f_X11_isDay, lies_eq, f_X12_as, f_X12_isDay, L_0, L_99, in_eq, ite_10]
  by_cases h : 0 ≤ a1 ∧ a1 ≤ 99
  · simp only [if_pos h, ok_some]
    refine ⟨k4.symm, ?_⟩
    have hag : ag [(46, 7), (135, 1), (135, 25)] u (wr (wr (wr u 46 6 a1) 135 0 0) 135 24 a1) := by
      repeat first | exact ag_refl _ _ | refine ag_wr ?_ rfl
    refine ⟨fr_S (ag_sm hag rfl) hI.S, fr_P (ag_sm hag rfl) hI.P, fr_B (ag_sm hag rfl) hI.B, fr_H (ag_sm hag rfl) hI.H, fr_L (ag_sm hag rfl) hI.L, ?_, fr_T (ag_sm hag rfl) hI.T, fr_X (ag_sm hag rfl) hI.X, fr_F (ag_sm hag rfl) hI.F, fr_C (ag_sm hag rfl) hI.C, fr_D (ag_sm hag rfl) hI.D, fr_A (ag_sm hag rfl) hI.A, fr_W (ag_sm hag rfl) hI.W⟩
    exact ⟨k1, k2, k3, rfl, k5⟩
  · simp only [if_neg h, ok_some]
    exact ⟨trivial, Inv_thr hI⟩
theorem c11_bale {u : xS} {a1 a2 a3 a4 : Int32} {B : Nat} (b1 : rd u 13 8 = nI B) (hB : B ≤ 24) : f_X11_bale a1 a2 a3 a4 u = if (0 ≤ a1 ∧ a1 ≤ 3) ∧ (0 ≤ a2 ∧ a2 ≤ 7) ∧ (1 ≤ a3 ∧ a3 ≤ 9999) ∧ (0 ≤ a4 ∧ a4 ≤ 999) ∧ B < 24 then some (nI B, wr (wr (wr (wr (wr (wr (wr u 14 B a1) 15 B a2) 16 B a3) 17 B a4) 18 B (-1)) 19 B (-1)) 13 8 (nI (B + 1))) else some (-1, u) := by
  simp (disch := omega) only [f_X11_bale, f_X11_bale_41, f_X11_bale_42, f_X0_add, f_X11_isSeller, f_X11_isMark, lies_eq, ite_10, l_24, le60 b1, lt60 b1]
  by_cases h1 : 0 ≤ a1 ∧ a1 ≤ 3 <;> by_cases h2 : 0 ≤ a2 ∧ a2 ≤ 7 <;> by_cases h3 : 1 ≤ a3 ∧ a3 ≤ 9999 <;> by_cases h4 : 0 ≤ a4 ∧ a4 ≤ 999 <;> by_cases h5 : B < 24 <;> simp (disch := omega) [h1, h2, h3, h4, h5, b1, gd_nI, nI_cl, nI_1]
theorem c12_bale {u : xS} {a1 a2 a3 a4 : Int32} {B : Nat} (b1 : rd u 135 7 = nI B) (hB : B ≤ 24) : f_X12_bale a1 a2 a3 a4 u = if (0 ≤ a1 ∧ a1 ≤ 3) ∧ (0 ≤ a2 ∧ a2 ≤ 7) ∧ (1 ≤ a3 ∧ a3 ≤ 9999) ∧ (0 ≤ a4 ∧ a4 ≤ 999) ∧ B < 24 then some (nI B, wr (wr (wr (wr (wr (wr (wr u 135 0 0) 140 B a1) 141 B a2) 142 B a3) 143 B a4) 144 B (-1)) 135 7 (nI (B + 1))) else some (-1, wr u 135 0 0) := by
  simp (disch := omega) only [f_X12_bale, L_0, L_1, L_3, L_7, L_999, L_9999, in_eq, ite_10, l_24, eq60 b1]
  by_cases h1 : 0 ≤ a1 ∧ a1 ≤ 3 <;> by_cases h2 : 0 ≤ a2 ∧ a2 ≤ 7 <;> by_cases h3 : 1 ≤ a3 ∧ a3 ≤ 9999 <;> by_cases h4 : 0 ≤ a4 ∧ a4 ≤ 999 <;> by_cases h5 : B < 24 <;> simp (disch := omega) [h1, h2, h3, h4, h5, b1, gd_nI, nI_cl, nI_1, nI_pred]
theorem c11_look {u : xS} {a1 a2 a3 a4 a5 : Int32} {B K : Nat} (b1 : rd u 13 8 = nI B) (k1 : rd u 46 5 = nI K) (hK : K ≤ 60) : f_X11_look a1 a2 a3 a4 a5 u = if (0 ≤ a1 ∧ a1 < nI B) ∧ (0 ≤ a2 ∧ a2 ≤ 1) ∧ (0 ≤ a3 ∧ a3 ≤ 99) ∧ (0 ≤ a4 ∧ a4 ≤ 9999) ∧ (0 ≤ a5 ∧ a5 ≤ 1000) ∧ K < 60 then some (nI (K + 1), wr (wr (wr (wr (wr (wr u 47 K a1) 48 K a2) 49 K a3) 50 K a4) 51 K a5) 46 5 (nI (K + 1))) else some (-1, u) := by
  simp (disch := omega) only [f_X11_look, f_X11_look_31, f_X11_look_32, f_X5_add, f_X11_isDay, hasB b1, lies_eq, ite_10, l_60, lt60 k1]
  by_cases h1 : 0 ≤ a1 ∧ a1 < nI B <;> by_cases h2 : 0 ≤ a2 ∧ a2 ≤ 1 <;> by_cases h3 : 0 ≤ a3 ∧ a3 ≤ 99 <;> by_cases h4 : 0 ≤ a4 ∧ a4 ≤ 9999 <;> by_cases h5 : 0 ≤ a5 ∧ a5 ≤ 1000 <;> by_cases h6 : K < 60 <;> simp (disch := omega) [h1, h2, h3, h4, h5, h6, k1, gd_nI, nI_cl, nI_1]
theorem c12_look {u : xS} {a1 a2 a3 a4 a5 : Int32} {B K : Nat} (b1 : rd u 135 7 = nI B) (hB : B ≤ 24) (k1 : rd u 135 18 = nI K) (hK : K ≤ 60) : f_X12_look a1 a2 a3 a4 a5 u = if (0 ≤ a1 ∧ a1 < nI B) ∧ (0 ≤ a2 ∧ a2 ≤ 1) ∧ (0 ≤ a3 ∧ a3 ≤ 99) ∧ (0 ≤ a4 ∧ a4 ≤ 9999) ∧ (0 ≤ a5 ∧ a5 ≤ 1000) ∧ K < 60 then some (nI (K + 1), wr (wr (wr (wr (wr (wr (wr u 135 0 0) 149 K a1) 150 K a2) 151 K a3) 152 K a4) 153 K a5) 135 18 (nI (K + 1))) else some (-1, wr u 135 0 0) := by
  have b2 : rd (wr u 135 0 0) 135 7 = nI B := b1
  simp (disch := omega) only [f_X12_look, f_X12_isDay, isB b2, L_0, L_1, L_99, L_1000, L_9999, in_eq, ite_10, l_60, eq60 k1]
  by_cases h1 : 0 ≤ a1 ∧ a1 < nI B <;> by_cases h2 : 0 ≤ a2 ∧ a2 ≤ 1 <;> by_cases h3 : 0 ≤ a3 ∧ a3 ≤ 99 <;> by_cases h4 : 0 ≤ a4 ∧ a4 ≤ 9999 <;> by_cases h5 : 0 ≤ a5 ∧ a5 ≤ 1000 <;> by_cases h6 : K < 60 <;> simp (disch := omega) [h1, h2, h3, h4, h5, h6, k1, gd_nI, nI_cl, nI_1]
theorem s_look : xS_look Inv := by
  intro u a1 a2 a3 a4 a5 hI
  apply st_W
  obtain ⟨b1, b2, b3, -⟩ := hI.B
  obtain ⟨k1, k2, k3, k4, k5⟩ := hI.K
  generalize hK : nK u = K at k1 k2 k3 k5
  generalize hB : nB u = B at b1 b2 b3
  rw [c11_look b1 k1 k3]
  by_cases h : (0 ≤ a1 ∧ a1 < nI B) ∧ (0 ≤ a2 ∧ a2 ≤ 1) ∧ (0 ≤ a3 ∧ a3 ≤ 99) ∧ (0 ≤ a4 ∧ a4 ≤ 9999) ∧ (0 ≤ a5 ∧ a5 ≤ 1000) ∧ K < 60
  · rw [if_pos h, ok_some]
    refine ok_is ((c12_look (B := B) (K := K) ?_ b3 ?_ k3).trans (if_pos h)) ⟨rfl, ?_⟩
    · exact b2
    · exact k2
    dsimp only
    obtain ⟨-, -, h3, h4, h5, h6⟩ := h
    obtain ⟨d, hd, rfl⟩ := nI_ixl (S := 99) (by omega) h3.1 h3.2
    obtain ⟨w, hw, rfl⟩ := nI_ixl (S := 9999) (by omega) h4.1 h4.2
    obtain ⟨m, hm, rfl⟩ := nI_ixl (S := 1000) (by omega) h5.1 h5.2
    generalize hu : (wr (wr (wr (wr (wr (wr (wr (wr (wr (wr (wr (wr (wr u 47 K a1) 48 K a2) 49 K (nI d)) 50 K (nI w)) 51 K (nI m)) 46 5 (nI (K + 1))) 135 0 0) 149 K a1) 150 K a2) 151 K (nI d)) 152 K (nI w)) 153 K (nI m)) 135 18 (nI (K + 1))) = u2
    have hag : ag [(46, 6), (47, 0), (48, 0), (49, 0), (50, 0), (51, 0), (135, 1), (149, 0), (150, 0), (151, 0), (152, 0), (153, 0), (135, 19)] u u2 := by
      rw [← hu]
      repeat first | exact ag_refl _ _ | refine ag_wr ?_ rfl
    refine ⟨fr_S (ag_sm hag rfl) hI.S, fr_P (ag_sm hag rfl) hI.P, fr_B (ag_sm hag rfl) hI.B, fr_H (ag_sm hag rfl) hI.H, fr_L (ag_sm hag rfl) hI.L, ?_, fr_T (ag_sm hag rfl) hI.T, fr_X (ag_sm hag rfl) hI.X, fr_F (ag_sm hag rfl) hI.F, fr_C (ag_sm hag rfl) hI.C, fr_D (ag_sm hag rfl) hI.D, fr_A (ag_sm hag rfl) hI.A, fr_W (ag_sm hag rfl) hI.W⟩
    have e2 : nK u2 = K + 1 := by rw [← hu]; exact nv_nI (by omega)
    unfold i_K
    rw [e2, ← hu]
    refine ⟨rfl, rfl, by omega, k4, lt_s (fun i hi => ?_) ?_⟩
    · have hne : ¬ i = K := by omega
      simp only [rd_wr, Nat.reduceEqDiff, if_true, if_false, hne]
      exact k5 i hi
    · simp only [rd_wr, Nat.reduceEqDiff, if_true, if_false]
      exact ⟨trivial, trivial, trivial, trivial, trivial, ⟨d, hd, rfl⟩, ⟨w, hw, rfl⟩, ⟨m, hm, rfl⟩⟩
  · rw [if_neg h, ok_some]
    exact ok_is ((c12_look (B := B) (K := K) b2 b3 k2 k3).trans (if_neg h)) ⟨rfl, Inv_thr hI⟩
theorem s_fault : xS_fault Inv := by
  intro u a1 a2 hI
  apply st_W
  obtain ⟨c1, c2, c3, c4, c5⟩ := hI.C
  simp (disch := omega) only [f_X11_fault, hasC c1, lies_eq, ite_10]
  by_cases h1 : 0 ≤ a1 ∧ a1 < nI (nC u)
  · by_cases h2 : 0 ≤ a2 ∧ a2 ≤ 2
    · obtain ⟨c, hc, rfl⟩ := nI_ix (by omega) h1.1 h1.2
      obtain ⟨v, hv, rfl⟩ := nI_ixl (S := 2) (by omega) h2.1 h2.2
      rw [if_pos h1, if_pos h2, gd_nI (by omega) (by omega), nI_cl (by omega), ok_some]
      have t2 : rd (wr (wr u 109 c (nI v)) 135 0 0) 135 37 = nI (nC u) := c2
      simp (disch := omega) only [f_X12_fault, isC t2, L_0, L_2, in_eq, ite_10]
      simp (disch := omega) only [if_pos h1, if_pos h2, gd_nI, nI_cl, ok_some]
      refine ⟨((c5 c hc).1).symm, ?_⟩
      generalize hu : (wr (wr (wr u 109 c (nI v)) 135 0 0) 162 c (nI v)) = u2
      have hag : ag [(109, 0), (135, 1), (162, 0)] u u2 := by
        rw [← hu]
        repeat first | exact ag_refl _ _ | refine ag_wr ?_ rfl
      refine ⟨fr_S (ag_sm hag rfl) hI.S, fr_P (ag_sm hag rfl) hI.P, fr_B (ag_sm hag rfl) hI.B, fr_H (ag_sm hag rfl) hI.H, fr_L (ag_sm hag rfl) hI.L, fr_K (ag_sm hag rfl) hI.K, fr_T (ag_sm hag rfl) hI.T, fr_X (ag_sm hag rfl) hI.X, fr_F (ag_sm hag rfl) hI.F, ?_, fr_D (ag_sm hag rfl) hI.D, fr_A (ag_sm hag rfl) hI.A, fr_W (ag_sm hag rfl) hI.W⟩
      rw [← hu]
      refine ⟨c1, c2, c3, fun c' b hc' hb => ?_, fun i hi => ?_⟩
      · have e1 : rd (wr (wr (wr u 109 c (nI v)) 135 0 0) 162 c (nI v)) (89 + c') b = rd u (89 + c') b := by
          simp only [rd_wr]
          rw [if_neg (by omega), if_neg (by omega), if_neg (by omega)]
        rw [e1]
        exact c4 c' b hc' hb
      · by_cases hic : i = c
        · subst hic
          simp only [rd_wr, Nat.reduceEqDiff, if_true, if_false]
          exact ⟨trivial, v, hv, rfl⟩
        · simp only [rd_wr, Nat.reduceEqDiff, if_true, if_false, hic]
          exact c5 i hi
    · rw [if_pos h1, if_neg h2, ok_some]
      have t2 : rd (wr u 135 0 0) 135 37 = nI (nC u) := c2
      simp (disch := omega) only [f_X12_fault, isC t2, L_0, L_2, in_eq, ite_10]
      simp only [if_pos h1, if_neg h2, ok_some]
      exact ⟨trivial, Inv_thr hI⟩
  · rw [if_neg h1, ok_some]
    have t2 : rd (wr u 135 0 0) 135 37 = nI (nC u) := c2
    simp (disch := omega) only [f_X12_fault, isC t2, ite_10]
    simp only [if_neg h1, ok_some]
    exact ⟨trivial, Inv_thr hI⟩
theorem s_takes : xS_takes Inv := by
  intro u a1 a2 hI
  apply st_W
  obtain ⟨q1, q2, q3, q4, q5⟩ := hI.A
  simp only [f_X11_takes, f_X11_isLand, lies_eq, f_X12_takes, f_X12_isLand, L_0, L_3, L_8, in_eq, ite_10]
  by_cases h1 : 0 ≤ a1 ∧ a1 ≤ 3
  · by_cases h2 : 0 ≤ a2 ∧ a2 ≤ 8
    · obtain ⟨c, hc, rfl⟩ := nI_ixl (S := 3) (by omega) h1.1 h1.2
      obtain ⟨v, hv, rfl⟩ := nI_ixl (S := 8) (by omega) h2.1 h2.2
      simp (disch := omega) only [if_pos h1, if_pos h2, gd_nI, nI_cl, ok_some]
      refine ⟨((q4 c (by omega)).1).symm, ?_⟩
      generalize hu : (wr (wr (wr u 127 c (nI v)) 135 0 0) 173 c (nI v)) = u2
      have hag : ag [(127, 0), (135, 1), (173, 0)] u u2 := by
        rw [← hu]
        repeat first | exact ag_refl _ _ | refine ag_wr ?_ rfl
      refine ⟨fr_S (ag_sm hag rfl) hI.S, fr_P (ag_sm hag rfl) hI.P, fr_B (ag_sm hag rfl) hI.B, fr_H (ag_sm hag rfl) hI.H, fr_L (ag_sm hag rfl) hI.L, fr_K (ag_sm hag rfl) hI.K, fr_T (ag_sm hag rfl) hI.T, fr_X (ag_sm hag rfl) hI.X, fr_F (ag_sm hag rfl) hI.F, fr_C (ag_sm hag rfl) hI.C, fr_D (ag_sm hag rfl) hI.D, ?_, fr_W (ag_sm hag rfl) hI.W⟩
      rw [← hu]
      refine ⟨q1, q2, q3, fun i hi => ⟨?_, ?_, (q4 i hi).2.2.1, fun s hs => ?_⟩, q5⟩
      · by_cases hic : i = c
        · subst hic
          simp only [rd_wr, Nat.reduceEqDiff, if_true, if_false]
        · simp only [rd_wr, Nat.reduceEqDiff, if_true, if_false, hic]
          exact (q4 i hi).1
      · by_cases hic : i = c
        · subst hic
          simp only [rd_wr, Nat.reduceEqDiff, if_true, if_false]
          exact ⟨v, hv, rfl⟩
        · simp only [rd_wr, Nat.reduceEqDiff, if_true, if_false, hic]
          exact (q4 i hi).2.1
      · have e1 : rd (wr (wr (wr u 127 c (nI v)) 135 0 0) 173 c (nI v)) (123 + i) s = rd u (123 + i) s := by
          simp only [rd_wr]
          rw [if_neg (by omega), if_neg (by omega), if_neg (by omega)]
        rw [e1]
        exact (q4 i hi).2.2.2 s hs
    · simp only [if_pos h1, if_neg h2, ok_some]
      exact ⟨trivial, Inv_thr hI⟩
  · simp only [if_neg h1, ok_some]
    exact ⟨trivial, Inv_thr hI⟩
