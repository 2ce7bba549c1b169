/-! PRICE, AT, BALE, LOOK, AS, PART, FAULT, TAKES, TWICE, GIVES, COST -/
theorem nv_of {x : Int32} {n : Nat} (h : x = nI n) (hn : n < 2147483648) : nv x = n := by
  rw [h]
  exact nv_nI hn
theorem eq60 {x : Int32} {n k : Nat} (h : x = nI n) (hn : n ≤ k) (hk : k < 2147483648) : x = nI k ↔ ¬ n < k := by
  rw [h, nI_eq (by omega) (by omega)]
  omega
theorem le60 {x : Int32} {n k : Nat} (h : x = nI n) (hn : n < 2147483648) (hk : k < 2147483648) : nI k ≤ x ↔ ¬ n < k := by
  rw [h, nI_leI (by omega) (by omega)]
  omega
theorem lt60 {x : Int32} {n k : Nat} (h : x = nI n) (hn : n < 2147483648) (hk : k < 2147483648) : x < nI k ↔ n < k := by
  rw [h, nI_ltI (by omega) (by omega)]
theorem c11_price {u : xS} {a1 a2 a3 : Int32} {S P : Nat} (s1 : rd u 1 2 = nI S) (p1 : rd u 1 6 = nI P) (hP : P ≤ 60) : f_X11_price a1 a2 a3 u = if (0 ≤ a1 ∧ a1 < nI S) ∧ (0 ≤ a2 ∧ a2 ≤ 99) ∧ (0 ≤ a3 ∧ a3 ≤ 999) ∧ P < 60 then some (nI (P + 1), wr (wr (wr (wr u 10 P a1) 11 P a2) 12 P a3) 1 6 (nI (P + 1))) else some (-1, u) := by
  simp (disch := omega) only [f_X11_price, f_X11_price_33, f_X11_price_34, f_X8_addPrice, f_X11_isDay, lies_eq, hasS s1, ite_10, l_60, le60 p1, lt60 p1]
  by_cases h1 : 0 ≤ a1 ∧ a1 < nI S <;> by_cases h2 : 0 ≤ a2 ∧ a2 ≤ 99 <;> by_cases h3 : 0 ≤ a3 ∧ a3 ≤ 999 <;> by_cases h4 : P < 60 <;> simp (disch := omega) [h1, h2, h3, h4, p1, gd_nI, nI_cl, nI_1]
theorem c12_price {u : xS} {a1 a2 a3 : Int32} {S P : Nat} (s1 : rd u 135 1 = nI S) (hS : S ≤ 16) (p1 : rd u 135 3 = nI P) (hP : P ≤ 60) : f_X12_price a1 a2 a3 u = if (0 ≤ a1 ∧ a1 < nI S) ∧ (0 ≤ a2 ∧ a2 ≤ 99) ∧ (0 ≤ a3 ∧ a3 ≤ 999) ∧ P < 60 then some (nI (P + 1), wr (wr (wr (wr (wr u 135 0 0) 137 P a1) 138 P a2) 139 P a3) 135 3 (nI (P + 1))) else some (-1, wr u 135 0 0) := by
  have s2 : rd (wr u 135 0 0) 135 1 = nI S := s1
  simp (disch := omega) only [f_X12_price, f_X12_isWeek, isS s2, L_0, L_99, L_999, in_eq, ite_10, l_60, eq60 p1]
  by_cases h1 : 0 ≤ a1 ∧ a1 < nI S <;> by_cases h2 : 0 ≤ a2 ∧ a2 ≤ 99 <;> by_cases h3 : 0 ≤ a3 ∧ a3 ≤ 999 <;> by_cases h4 : P < 60 <;> simp (disch := omega) [h1, h2, h3, h4, p1, gd_nI, nI_cl, nI_1]
theorem s_price : xS_price Inv := by
  intro u a1 a2 a3 hI
  apply st_W
  obtain ⟨s1, s2, s3, -⟩ := hI.S
  obtain ⟨p1, p2, p3, p4⟩ := hI.P
  generalize hP : nP u = P at p1 p2 p3 p4
  generalize hS : nS u = S at s1 s2 s3
  rw [c11_price s1 p1 p3]
  by_cases h : (0 ≤ a1 ∧ a1 < nI S) ∧ (0 ≤ a2 ∧ a2 ≤ 99) ∧ (0 ≤ a3 ∧ a3 ≤ 999) ∧ P < 60
  · rw [if_pos h, ok_some]
    refine ok_is ((c12_price (S := S) (P := P) ?_ s3 ?_ p3).trans (if_pos h)) ⟨rfl, ?_⟩
    · exact s2
    · exact p2
    dsimp only
    obtain ⟨-, h2, h3, h4⟩ := h
    obtain ⟨w, hw, rfl⟩ := nI_ixl (S := 99) (by omega) h2.1 h2.2
    obtain ⟨p, hp, rfl⟩ := nI_ixl (S := 999) (by omega) h3.1 h3.2
    have hag : ag [(10, 0), (11, 0), (12, 0), (1, 7), (135, 1), (137, 0), (138, 0), (139, 0), (135, 4)] u (wr (wr (wr (wr (wr (wr (wr (wr (wr u 10 P a1) 11 P (nI w)) 12 P (nI p)) 1 6 (nI (P + 1))) 135 0 0) 137 P a1) 138 P (nI w)) 139 P (nI p)) 135 3 (nI (P + 1))) := by
      repeat first | exact ag_refl _ _ | refine ag_wr ?_ rfl
    refine ⟨fr_S (ag_sm hag rfl) hI.S, ?_, fr_B (ag_sm hag rfl) hI.B, fr_H (ag_sm hag rfl) hI.H, fr_L (ag_sm hag rfl) hI.L, fr_K (ag_sm hag rfl) hI.K, fr_T (ag_sm hag rfl) hI.T, fr_X (ag_sm hag rfl) hI.X, fr_F (ag_sm hag rfl) hI.F, fr_C (ag_sm hag rfl) hI.C, fr_D (ag_sm hag rfl) hI.D, fr_A (ag_sm hag rfl) hI.A, fr_W (ag_sm hag rfl) hI.W⟩
    clear hag
    generalize hu : (wr (wr (wr (wr (wr (wr (wr (wr (wr u 10 P a1) 11 P (nI w)) 12 P (nI p)) 1 6 (nI (P + 1))) 135 0 0) 137 P a1) 138 P (nI w)) 139 P (nI p)) 135 3 (nI (P + 1))) = u2
    have e2 : nP u2 = P + 1 := by rw [← hu]; exact nv_nI (by omega)
    unfold i_P
    rw [e2, ← hu]
    refine ⟨rfl, rfl, by omega, lt_s (fun i hi => ?_) ?_⟩
    · have hne : ¬ i = P := by omega
      simp only [rd_wr, Nat.reduceEqDiff, if_true, if_false, hne]
      exact p4 i hi
    · simp only [rd_wr, Nat.reduceEqDiff, if_true, if_false]
      exact ⟨trivial, trivial, trivial, ⟨w, hw, rfl⟩, ⟨p, hp, rfl⟩⟩
  · rw [if_neg h, ok_some]
    exact ok_is ((c12_price (S := S) (P := P) s2 s3 p2 p3).trans (if_neg h)) ⟨rfl, Inv_thr hI⟩
theorem s_at : xS_at Inv := by
  intro u a1 a2 hI
  apply st_P
  have hJ := Inv_thr hI
  obtain ⟨s1, s2, s3, -⟩ := hI.S
  have t2 : rd (wr u 135 0 0) 135 1 = nI (nS u) := s2
  simp (disch := omega) only [f_X11_at, f_X12_at, f_X11_isDay, lies_eq, hasS s1, f_X12_isWeek, isS t2, L_0, L_99, in_eq, ite_10]
  by_cases h1 : 0 ≤ a1 ∧ a1 < nI (nS u) <;> by_cases h2 : 0 ≤ a2 ∧ a2 ≤ 99
  · obtain ⟨k1, k2, -⟩ := c_price hI.P a1 a2
    obtain ⟨-, k3, -⟩ := c_price hJ.P a1 a2
    simp only [if_pos h1, if_pos h2, k1, k3, Option.bind_some, ok_some]
    exact ⟨prc_fr (ag_sm (ag_wr (ag_refl [(135, 1)] u) rfl) rfl) a1 a2, hJ⟩
  · simp only [if_pos h1, if_neg h2, ok_some]
    exact ⟨trivial, hJ⟩
  · simp only [if_neg h1, ok_some]
    exact ⟨trivial, hJ⟩
  · simp only [if_neg h1, ok_some]
    exact ⟨trivial, hJ⟩
