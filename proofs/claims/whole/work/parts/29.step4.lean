/-! PART, COST, WITHIN, TWICE, STORE, WISH, ROW, GIVES, EYE, MET -/
theorem ag_thr (u : xS) : ag [(135, 1)] u (wr u 135 0 0) := ag_wr (ag_refl _ u) rfl
theorem pia {u : xS} (hS : i_S u) (hF : i_F u) : isum (fun s => rd u 80 s) 16 = isum (fun s => rd u 160 s) (nS u) := by
  rw [isum_congr (g := fun s => rd u 160 s) (fun s hs => (hF s hs).1)]
  exact isum_ext hS.2.2.1 (fun s h1 h2 => (hF s h2).2.2 h1)
theorem s_part : xS_part Inv := by
  intro u a1 a2 hI
  apply st_W
  obtain ⟨s1, s2, s3, s4⟩ := hI.S
  have n2 : rd (wr u 135 0 0) 135 1 = nI (nS u) := s2
  simp only [f_X11_part, hasS s1, lies_eq, ite_10]
  by_cases h1 : 0 ≤ a1 ∧ a1 < nI (nS u)
  · by_cases h2 : 0 ≤ a2 ∧ a2 ≤ 12
    · obtain ⟨s, hs, rfl⟩ := nI_ix (by omega) h1.1 h1.2
      obtain ⟨v, hv, rfl⟩ := nI_ixl (S := 12) (by omega) h2.1 h2.2
      rw [if_pos h1, if_pos h2, gd_nI (by omega) (by omega), nI_cl (by omega), c_inAll, Option.bind_some, ok_some]
      have t2 : rd (wr (wr u 80 s (nI v)) 135 0 0) 135 1 = nI (nS u) := s2
      have t3 : rd (wr (wr (wr u 80 s (nI v)) 135 0 0) 160 s (nI v)) 135 1 = nI (nS u) := s2
      simp (disch := omega) only [f_X12_part, isS t2, L_0, L_12, in_eq, ite_10]
      simp (disch := omega) only [if_pos h1, if_pos h2, gd_nI, nI_cl, c_partsInAll t3 s3, Option.bind_some, ok_some]
      have hag : ag [(80, 0), (135, 1), (160, 0)] u (wr (wr (wr u 80 s (nI v)) 135 0 0) 160 s (nI v)) := by
        repeat first | exact ag_refl _ _ | refine ag_wr ?_ rfl
      have hF2 : i_F (wr (wr (wr u 80 s (nI v)) 135 0 0) 160 s (nI v)) := by
        intro i hi
        by_cases his : i = s
        · subst his
          simp only [rd_wr, Nat.reduceEqDiff, if_true, if_false]
          refine ⟨trivial, ⟨v, hv, rfl⟩, fun z => ?_⟩
          exact absurd (show nS u ≤ i from z) (by omega)
        · simp only [rd_wr, Nat.reduceEqDiff, if_true, if_false, his]
          exact hI.F i hi
      have key := pia (fr_S (ag_sm hag rfl) hI.S) hF2
      refine ⟨key.symm, ?_⟩
      refine ⟨fr_S (ag_sm hag rfl) hI.S, fr_P (ag_sm hag rfl) hI.P, fr_B (ag_sm hag rfl) hI.B, fr_H (ag_sm hag rfl) hI.H, fr_L (ag_sm hag rfl) hI.L, fr_K (ag_sm hag rfl) hI.K, fr_T (ag_sm hag rfl) hI.T, fr_X (ag_sm hag rfl) hI.X, ?_, fr_C (ag_sm hag rfl) hI.C, fr_D (ag_sm hag rfl) hI.D, fr_A (ag_sm hag rfl) hI.A, fr_W (ag_sm hag rfl) hI.W⟩
      exact hF2
    · rw [if_pos h1, if_neg h2, ok_some]
      simp (disch := omega) only [f_X12_part, isS n2, L_0, L_12, in_eq, ite_10]
      simp only [if_pos h1, if_neg h2, ok_some]
      exact ⟨trivial, Inv_thr hI⟩
  · rw [if_neg h1, ok_some]
    simp (disch := omega) only [f_X12_part, isS n2, ite_10]
    simp only [if_neg h1, ok_some]
    exact ⟨trivial, Inv_thr hI⟩
/-- pence of the blend -/
def cst (u : xS) (w : Int32) : Int32 := isum (fun s => rd u 160 s * prc u (nI s) w) (nS u)
theorem c_costOf {u : xS} (hS : i_S u) (hP : i_P u) (w : Int32) : f_X12_costOf u w = some (cst u w) := by
  obtain ⟨s1, s2, s3, s4⟩ := hS
  refine it_loop (F := fun N i a => f_X12_costOf_4 u N w a (nI i)) _ some (fun n i a hi => ?_) (fun n a => by simp (disch := omega) only [f_X12_costOf_4, s2, ite_yle]) (xN_lt (by omega))
  simp (disch := omega) only [f_X12_costOf_4, s2, ite_nle, gd_nI, nI_cl, nI_1, (c_price hP (nI i) w).2.1, Option.bind_some]
theorem c_cost25 {u : xS} (hS : i_S u) (hP : i_P u) (hF : i_F u) (w : Int32) : f_X11_cost_25 u xN w 0 0 = some (cst u w) := by
  obtain ⟨s1, s2, s3, s4⟩ := hS
  refine it_loop (F := fun N i a => f_X11_cost_25 u N w a (nI i)) _ some (fun n i a hi => ?_) (fun n a => by simp (disch := omega) only [f_X11_cost_25, s1, ite_yle]) (xN_lt (by omega))
  simp (disch := omega) only [f_X11_cost_25, s1, ite_nle, gd_nI, nI_cl, nI_1, (c_price hP (nI i) w).1, Option.bind_some, (hF i (by omega)).1]
theorem cst_fr {u u' : xS} (h : sm kP u u') (h2 : sm kF u u') (w : Int32) : cst u' w = cst u w := by
  have q0 : nS u' = nS u := congrArg nv (h2 135 1 rfl)
  have q1 : ∀ i, rd u' 160 i = rd u 160 i := fun i => h2 160 i rfl
  simp only [cst, q0, q1, prc_fr h]
theorem s_cost : xS_cost Inv := by
  intro u a1 hI
  apply st_P
  have hJ := Inv_thr hI
  have n2 : rd (wr u 135 0 0) 135 1 = nI (nS u) := hI.S.2.1
  have e1 : isum (fun s => rd (wr u 135 0 0) 160 s) (nS u) = isum (fun s => rd u 80 s) 16 := (pia hI.S hI.F).symm
  simp (disch := omega) only [f_X11_cost, f_X11_isDay, lies_eq, f_X12_cost, f_X12_isWeek, L_0, L_99, in_eq, ite_10, c_inAll, c_partsInAll n2 hI.S.2.2.1, Option.bind_some, e1]
  by_cases h1 : 0 ≤ a1 ∧ a1 ≤ 99
  · by_cases h2 : isum (fun s => rd u 80 s) 16 = 12
    · simp only [if_pos h1, if_pos h2, c_cost25 hI.S hI.P hI.F, c_costOf hJ.S hJ.P, Option.bind_some, ok_some]
      exact ⟨cst_fr (ag_sm (ag_thr u) rfl) (ag_sm (ag_thr u) rfl) a1, hJ⟩
    · simp only [if_pos h1, if_neg h2, ok_some]
      exact ⟨trivial, hJ⟩
  · simp only [if_neg h1, ok_some]
    exact ⟨trivial, hJ⟩
theorem s_within : xS_within Inv := by
  intro u a1 a2 hI
  apply st_P
  have hJ := Inv_thr hI
  obtain ⟨s1, s2, s3, s4⟩ := hI.S
  have n2 : rd (wr u 135 0 0) 135 1 = nI (nS u) := s2
  simp (disch := omega) only [f_X11_within, f_X12_within, hasS s1, isS n2, ite_10]
  by_cases h1 : 0 ≤ a1 ∧ a1 < nI (nS u)
  · by_cases h2 : 0 ≤ a2 ∧ a2 < nI (nS u)
    · obtain ⟨s, hs, rfl⟩ := nI_ix (by omega) h1.1 h1.2
      obtain ⟨o, ho, rfl⟩ := nI_ix (by omega) h2.1 h2.2
      simp only [if_pos h1, if_pos h2, (c_within hI.S ho hs).2, (c_within hJ.S (show o < nS (wr u 135 0 0) from ho) (show s < nS (wr u 135 0 0) from hs)).1, wk_fr (ag_sm (ag_thr u) rfl), Option.bind_some]
      cases wk u o 16 s with
      | true => exact ok_is rfl (ok_is rfl ⟨rfl, hJ⟩)
      | false => exact ok_is rfl (ok_is rfl ⟨rfl, hJ⟩)
    · simp only [if_pos h1, if_neg h2, ok_some]
      exact ⟨trivial, hJ⟩
  · simp only [if_neg h1, ok_some]
    exact ⟨trivial, hJ⟩
theorem c11_twice {u : xS} {a1 a2 a3 a4 : Int32} {S D : Nat} (s1 : rd u 1 2 = nI S) (d1 : rd u 113 3 = nI D) (hD : D ≤ 99) : f_X11_twice a1 a2 a3 a4 u = if (0 ≤ a1 ∧ a1 ≤ 5) ∧ (0 ≤ a3 ∧ a3 ≤ 5) ∧ ¬ a1 = a3 ∧ (0 ≤ a2 ∧ a2 < nI S) ∧ (0 ≤ a4 ∧ a4 < nI S) ∧ D < 99 then some (nI (D + 1), wr (wr (wr (wr (wr u 115 D a1) 118 D a2) 116 D a3) 119 D a4) 113 3 (nI (D + 1))) else some (-1, u) := by
  simp (disch := omega) only [f_X11_twice, f_X11_twice_46, f_X11_twice_47, f_X3_add, f_X11_isSorter, lies_eq, hasS s1, ite_10, l_99, le60 d1, lt60 d1, if_true]
  by_cases h1 : 0 ≤ a1 ∧ a1 ≤ 5
  · by_cases h2 : 0 ≤ a3 ∧ a3 ≤ 5
    · by_cases h3 : a1 = a3
      · rw [if_pos h1, if_pos h2, if_pos h3, if_neg (fun h => h.2.2.1 h3)]
      · by_cases h4 : 0 ≤ a2 ∧ a2 < nI S
        · by_cases h5 : 0 ≤ a4 ∧ a4 < nI S
          · by_cases h6 : D < 99
            · have hC : (0 ≤ a1 ∧ a1 ≤ 5) ∧ (0 ≤ a3 ∧ a3 ≤ 5) ∧ ¬ a1 = a3 ∧ (0 ≤ a2 ∧ a2 < nI S) ∧ (0 ≤ a4 ∧ a4 < nI S) ∧ D < 99 := ⟨h1, h2, h3, h4, h5, h6⟩
              rw [if_pos h1, if_pos h2, if_neg h3, if_pos h4, if_pos h5, if_pos hC]
              simp (disch := omega) [h6, d1, gd_nI, nI_cl, nI_1]
            · have hC : ¬ ((0 ≤ a1 ∧ a1 ≤ 5) ∧ (0 ≤ a3 ∧ a3 ≤ 5) ∧ ¬ a1 = a3 ∧ (0 ≤ a2 ∧ a2 < nI S) ∧ (0 ≤ a4 ∧ a4 < nI S) ∧ D < 99) := fun h => h6 h.2.2.2.2.2
              rw [if_pos h1, if_pos h2, if_neg h3, if_pos h4, if_pos h5, if_neg hC]
              simp [h6]
          · rw [if_pos h1, if_pos h2, if_neg h3, if_pos h4, if_neg h5, if_neg (fun h => h5 h.2.2.2.2.1)]
        · rw [if_pos h1, if_pos h2, if_neg h3, if_neg h4, if_neg (fun h => h4 h.2.2.2.1)]
    · rw [if_pos h1, if_neg h2, if_neg (fun h => h2 h.2.1)]
  · rw [if_neg h1, if_neg (fun h => h1 h.1)]
theorem c12_twice {u : xS} {a1 a2 a3 a4 : Int32} {S D : Nat} (s1 : rd u 135 1 = nI S) (hS : S ≤ 16) (d1 : rd u 135 46 = nI D) (hD : D ≤ 99) : f_X12_twice a1 a2 a3 a4 u = if (0 ≤ a1 ∧ a1 ≤ 5) ∧ (0 ≤ a3 ∧ a3 ≤ 5) ∧ ¬ a1 = a3 ∧ (0 ≤ a2 ∧ a2 < nI S) ∧ (0 ≤ a4 ∧ a4 < nI S) ∧ D < 99 then some (nI (D + 1), wr (wr (wr (wr (wr (wr u 135 0 0) 167 D a1) 169 D a2) 168 D a3) 170 D a4) 135 46 (nI (D + 1))) else some (-1, wr u 135 0 0) := by
  have s2 : rd (wr u 135 0 0) 135 1 = nI S := s1
  simp (disch := omega) only [f_X12_twice, f_X12_isSorter, L_0, L_5, in_eq, isS s2, ite_10, l_99, eq60 d1]
  by_cases h1 : 0 ≤ a1 ∧ a1 ≤ 5
  · by_cases h2 : 0 ≤ a3 ∧ a3 ≤ 5
    · by_cases h3 : a1 = a3
      · rw [if_pos h1, if_pos h2, if_pos h3, if_neg (fun h => h.2.2.1 h3)]
      · by_cases h4 : 0 ≤ a2 ∧ a2 < nI S
        · by_cases h5 : 0 ≤ a4 ∧ a4 < nI S
          · by_cases h6 : D < 99
            · have hC : (0 ≤ a1 ∧ a1 ≤ 5) ∧ (0 ≤ a3 ∧ a3 ≤ 5) ∧ ¬ a1 = a3 ∧ (0 ≤ a2 ∧ a2 < nI S) ∧ (0 ≤ a4 ∧ a4 < nI S) ∧ D < 99 := ⟨h1, h2, h3, h4, h5, h6⟩
              rw [if_pos h1, if_pos h2, if_neg h3, if_pos h4, if_pos h5, if_pos hC]
              simp (disch := omega) [h6, d1, gd_nI, nI_cl, nI_1]
            · have hC : ¬ ((0 ≤ a1 ∧ a1 ≤ 5) ∧ (0 ≤ a3 ∧ a3 ≤ 5) ∧ ¬ a1 = a3 ∧ (0 ≤ a2 ∧ a2 < nI S) ∧ (0 ≤ a4 ∧ a4 < nI S) ∧ D < 99) := fun h => h6 h.2.2.2.2.2
              rw [if_pos h1, if_pos h2, if_neg h3, if_pos h4, if_pos h5, if_neg hC]
              simp [h6]
          · rw [if_pos h1, if_pos h2, if_neg h3, if_pos h4, if_neg h5, if_neg (fun h => h5 h.2.2.2.2.1)]
        · rw [if_pos h1, if_pos h2, if_neg h3, if_neg h4, if_neg (fun h => h4 h.2.2.2.1)]
    · rw [if_pos h1, if_neg h2, if_neg (fun h => h2 h.2.1)]
  · rw [if_neg h1, if_neg (fun h => h1 h.1)]
theorem s_twice : xS_twice Inv := by
  intro u a1 a2 a3 a4 hI
  apply st_W
  obtain ⟨s1, s2, s3, -⟩ := hI.S
  obtain ⟨d1, d2, d3, d4⟩ := hI.D
  generalize hD : nD u = D at d1 d2 d3 d4
  generalize hS : nS u = S at s1 s2 s3 d4
  rw [c11_twice s1 d1 d3]
  by_cases h : (0 ≤ a1 ∧ a1 ≤ 5) ∧ (0 ≤ a3 ∧ a3 ≤ 5) ∧ ¬ a1 = a3 ∧ (0 ≤ a2 ∧ a2 < nI S) ∧ (0 ≤ a4 ∧ a4 < nI S) ∧ D < 99
  · rw [if_pos h, ok_some]
    refine ok_is ((c12_twice (S := S) (D := D) ?_ s3 ?_ d3).trans (if_pos h)) ⟨rfl, ?_⟩
    · exact s2
    · exact d2
    dsimp only
    obtain ⟨h1, h2, h3, h4, h5, h6⟩ := h
    obtain ⟨a, ha, rfl⟩ := nI_ixl (S := 5) (by omega) h1.1 h1.2
    obtain ⟨b, hb, rfl⟩ := nI_ixl (S := 5) (by omega) h2.1 h2.2
    obtain ⟨x, hx, rfl⟩ := nI_ix (by omega) h4.1 h4.2
    obtain ⟨y, hy, rfl⟩ := nI_ix (by omega) h5.1 h5.2
    generalize hu : (wr (wr (wr (wr (wr (wr (wr (wr (wr (wr (wr u 115 D (nI a)) 118 D (nI x)) 116 D (nI b)) 119 D (nI y)) 113 3 (nI (D + 1))) 135 0 0) 167 D (nI a)) 169 D (nI x)) 168 D (nI b)) 170 D (nI y)) 135 46 (nI (D + 1))) = u2
    have hag : ag [(113, 4), (115, 0), (118, 0), (135, 1), (135, 47), (167, 0), (168, 0), (169, 0), (170, 0)] u u2 := by
      rw [← hu]
      repeat first | exact ag_refl _ _ | refine ag_wr ?_ rfl
    refine ⟨fr_S (ag_sm hag rfl) hI.S, fr_P (ag_sm hag rfl) hI.P, fr_B (ag_sm hag rfl) hI.B, fr_H (ag_sm hag rfl) hI.H, fr_L (ag_sm hag rfl) hI.L, fr_K (ag_sm hag rfl) hI.K, fr_T (ag_sm hag rfl) hI.T, fr_X (ag_sm hag rfl) hI.X, fr_F (ag_sm hag rfl) hI.F, fr_C (ag_sm hag rfl) hI.C, ?_, fr_A (ag_sm hag rfl) hI.A, fr_W (ag_sm hag rfl) hI.W⟩
    have e2 : nD u2 = D + 1 := by rw [← hu]; exact nv_nI (by omega)
    have e3 : nS u2 = S := by rw [← hS]; exact congrArg nv (hag 135 1 rfl)
    unfold i_D
    rw [e2, e3, ← hu]
    refine ⟨rfl, rfl, by omega, lt_s (fun i hi => ?_) ?_⟩
    · have hne : ¬ i = D := by omega
      simp only [rd_wr, Nat.reduceEqDiff, if_true, if_false, hne]
      exact d4 i hi
    · simp only [rd_wr, Nat.reduceEqDiff, if_true, if_false]
      exact ⟨trivial, trivial, trivial, trivial, a, b, x, y, by omega, by omega, fun hab => h3 (by rw [hab]), hx, hy, rfl, rfl, rfl, rfl⟩
  · rw [if_neg h, ok_some]
    exact ok_is ((c12_twice (S := S) (D := D) s2 s3 d2 d3).trans (if_neg h)) ⟨rfl, Inv_thr hI⟩
