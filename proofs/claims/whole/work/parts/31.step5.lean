/-! STORE, WISH, ROW, GIVES, EYE, MET, SPLIT -/
theorem nI_zero : nI 0 = 0 := rfl
/-- pounds of a sort in the store -/
def sto (u : xS) (s : Nat) : Int32 := isum (fun b => rd u 147 (24 * s + b)) (nB u)
theorem sto_nI {u : xS} (hL : i_L u) (hB : i_B u) {s : Nat} (hs : s < 16) : sto u s = nI (nsum (fun b => eL u b s) (nB u)) :=
  isum_nI fun b hb => (hL.2.2.2.2.2.2.2.1 b s (by have := hB.2.2.1; omega) hs).1
theorem lie_0 {u : xS} (hL : i_L u) (hH : i_H u) {b s : Nat} (hb : b < 24) (hs : s < 16) (h : nS u ≤ s ∨ nB u ≤ b ∨ rd u 144 b = -1) : rd u 147 (24 * s + b) = 0 := by
  obtain ⟨z1, z2⟩ := hL.2.2.2.2.2.2.2.1 b s hb hs
  have z3 := (hH.1 b s hb hs).2.2 h
  rw [z1, show eL u b s = 0 by omega]
  rfl
theorem c_ofSort {u : xS} (hL : i_L u) (hH : i_H u) (hB : i_B u) {s : Nat} (hs : s < 16) : f_X6_ofSort u (nI s) = some (sto u s) := by
  simp (disch := omega) only [f_X6_ofSort, gd_nI, nI_cl]
  rw [hL.2.2.2.2.2.2.2.2 s hs]
  exact congrArg some (isum_ext hB.2.2.1 fun b h1 h2 => lie_0 hL hH h2 hs (Or.inr (Or.inl h1)))
theorem c_sto {u : xS} (hB : i_B u) {s : Nat} (hs : s < 16) : f_X12_stored u (nI s) = some (sto u s) := c_stored hB.2.1 hB.2.2.1 hs
theorem c11_store {u : xS} (hI : Inv u) {o : Nat} (ho : o < nS u) (w : Int32) : f_X11_store_27 u xN (nI o) w 0 0 = some (isum (fun s => if s = o ∨ (w = 1 ∧ wk u o 16 s = true) then sto u s else 0) (nS u)) := by
  obtain ⟨s1, s2, s3, s4⟩ := hI.S
  refine (it_loop (F := fun N i a => f_X11_store_27 u N (nI o) w a (nI i)) (fun s a => if s = o ∨ (w = 1 ∧ wk u o 16 s = true) then a + sto u s else a) some (fun n i a hi => ?_) (fun n a => by simp (disch := omega) only [f_X11_store_27, s1, ite_yle]) (xN_lt (by omega))).trans (congrArg some it_if)
  simp (disch := omega) only [f_X11_store_27, f_X11_store_63, f_X11_store_75, s1, ite_nle, nI_1, nI_eq, c_ofSort hI.L hI.H hI.B (show i < 16 by omega), (c_within hI.S ho hi).2, Option.bind_some, ite_10]
  by_cases c1 : i = o
  · rw [if_pos c1, if_pos (Or.inl c1)]
  · by_cases c2 : w = 1
    · by_cases c3 : wk u o 16 i = true
      · rw [if_neg c1, if_pos c2, if_pos c3, if_pos (Or.inr ⟨c2, c3⟩)]
      · rw [if_neg c1, if_pos c2, if_neg c3, if_neg (fun h => h.elim c1 (fun q => c3 q.2))]
    · rw [if_neg c1, if_neg c2, if_neg (fun h => h.elim c1 (fun q => c2 q.1))]
theorem c12_store {u : xS} (hI : Inv u) {o : Nat} (ho : o < nS u) (w : Int32) : f_X12_store_30 xN (nI o) w 0 0 u = some (isum (fun s => if s = o ∨ (w = 1 ∧ wk u o 16 s = true) then sto u s else 0) (nS u), u) := by
  obtain ⟨s1, s2, s3, s4⟩ := hI.S
  refine (it_loop (F := fun N i a => f_X12_store_30 N (nI o) w a (nI i) u) (fun s a => if s = o ∨ (w = 1 ∧ wk u o 16 s = true) then a + sto u s else a) (fun a => some (a, u)) (fun n i a hi => ?_) (fun n a => by simp (disch := omega) only [f_X12_store_30, s2, ite_yle]) (xN_lt (by omega))).trans (congrArg (fun a => some (a, u)) it_if)
  simp (disch := omega) only [f_X12_store_30, f_X12_store_61, f_X12_store_70, f_X12_store_71, s2, ite_nle, nI_1, nI_eq, c_sto hI.B (show i < 16 by omega), (c_within hI.S ho hi).1, Option.bind_some, ite_10, Int32.add_zero]
  by_cases c1 : i = o
  · rw [if_pos c1, if_pos (Or.inl c1)]
  · by_cases c2 : w = 1
    · by_cases c3 : wk u o 16 i = true
      · rw [if_neg c1, if_pos c2, if_pos c3, if_pos (Or.inr ⟨c2, c3⟩)]
      · rw [if_neg c1, if_pos c2, if_neg c3, if_neg (fun h => h.elim c1 (fun q => c3 q.2))]
    · rw [if_neg c1, if_neg c2, if_neg (fun h => h.elim c1 (fun q => c2 q.1))]
theorem s_store : xS_store Inv := by
  intro u a1 a2 hI
  apply st_P
  have hJ := Inv_thr hI
  obtain ⟨s1, s2, s3, s4⟩ := hI.S
  have n2 : rd (wr u 135 0 0) 135 1 = nI (nS u) := s2
  simp (disch := omega) only [f_X11_store, f_X12_store, hasS s1, isS n2, lies_eq, L_0, L_1, in_eq, ite_10]
  by_cases h1 : 0 ≤ a1 ∧ a1 < nI (nS u)
  · by_cases h2 : 0 ≤ a2 ∧ a2 ≤ 1
    · obtain ⟨s, hs, rfl⟩ := nI_ix (by omega) h1.1 h1.2
      rw [if_pos h1, if_pos h2, if_pos h1, if_pos h2, c11_store hI hs, c12_store hJ (show s < nS (wr u 135 0 0) from hs), ok_some, ok_some]
      simp only [wk_fr (ag_sm (ag_thr u) rfl)]
      exact ⟨rfl, hJ⟩
    · simp only [if_pos h1, if_neg h2, ok_some]
      exact ⟨trivial, hJ⟩
  · simp only [if_neg h1, ok_some]
    exact ⟨trivial, hJ⟩
theorem wish_ok (a : Int32) : (a = -1 ∨ (0 ≤ a ∧ a ≤ 999)) ↔ (-1 ≤ a ∧ a ≤ 999) := by
  simp only [Int32.le_iff_toInt_le, ← Int32.toInt_inj, show (-1 : Int32).toInt = -1 from rfl, show (0 : Int32).toInt = 0 from rfl, show (999 : Int32).toInt = 999 from rfl]
  omega
theorem s_wish : xS_wish Inv := by
  intro u a1 a2 a3 hI
  obtain ⟨s1, s2, s3, -⟩ := hI.S
  obtain ⟨q1, q2, q3, q4, q5⟩ := hI.A
  have n2 : rd (wr u 135 0 0) 135 1 = nI (nS u) := s2
  by_cases h : (0 ≤ a1 ∧ a1 ≤ 3) ∧ (0 ≤ a2 ∧ a2 < nI (nS u)) ∧ (a3 = -1 ∨ (0 ≤ a3 ∧ a3 ≤ 999))
  · obtain ⟨h1, h2, h3⟩ := h
    obtain ⟨l, hl, rfl⟩ := nI_ixl (S := 3) (by omega) h1.1 h1.2
    obtain ⟨s, hs, rfl⟩ := nI_ix (by omega) h2.1 h2.2
    have e11 : f_X11_wish (nI l) (nI s) a3 u = some (some (rd u (123 + l) s), wr u (123 + l) s a3) := by
      simp (disch := omega) only [f_X11_wish, f_X11_wish_42, f_X11_isLand, lies_eq, hasS s1, ite_10]
      simp (disch := omega) only [if_pos h1, if_pos h2, gd_nI, nI_cl]
      rcases h3 with h3 | h3
      · rw [if_pos h3]
      · by_cases h4 : a3 = -1
        · rw [if_pos h4]
        · rw [if_neg h4, if_pos h3]
    generalize hv : rd u (123 + l) s = v at e11
    have m2 : rd (wr (hU (some v) (wr u (123 + l) s a3)) 135 0 0) 135 1 = nI (nS u) := by
      show rd (wr u (123 + l) s a3) 135 1 = nI (nS u)
      rw [rd_wr_ne (by omega)]
      exact s2
    have h172 : ∀ j, rd (hU (some v) (wr u (123 + l) s a3)) 172 j = rd u 172 j := by
      intro j
      show rd (wr u (123 + l) s a3) 172 j = rd u 172 j
      rw [rd_wr_ne (by omega)]
    have e12 : f_X12_wish (nI l) (nI s) a3 (hU (some v) (wr u (123 + l) s a3)) = some (rd u 172 (16 * l + s), wr (wr (hU (some v) (wr u (123 + l) s a3)) 135 0 0) 172 (16 * l + s) a3) := by
      simp (disch := omega) only [f_X12_wish, f_X12_isLand, L_m1, L_0, L_3, L_999, in_eq, isS m2, ite_10]
      simp (disch := omega) only [if_pos h1, if_pos h2, if_pos ((wish_ok a3).mp h3), l_16, pk_mul, nI_add, gd_nI, nI_cl, h172]
    refine ⟨some v, _, _, _, e11, e12, rfl, ?_, ?_⟩
    · intro v' hv'
      cases hv'
      rw [← ((q4 l (by omega)).2.2.2 s (by omega)).1, hv]
      rfl
    · have hag : ag [(123, 0), (135, 1), (172, 0)] u (wr (wr (hU (some v) (wr u (123 + l) s a3)) 135 0 0) 172 (16 * l + s) a3) := by
        refine ag_wr (ag_wr (ag_wl (ag_wr (ag_refl _ _) ?_)) rfl) rfl
        rw [lc_123 (by omega)]
        rfl
      generalize hu : (wr (wr (hU (some v) (wr u (123 + l) s a3)) 135 0 0) 172 (16 * l + s) a3) = u2 at hag
      have g1 : ∀ l' s', l' < 4 → rd u2 (123 + l') s' = if l' = l ∧ s' = s then a3 else rd u (123 + l') s' := by
        intro l' s' hl'
        rw [← hu, rd_wr_ne (by omega), rd_wr_ne (by omega)]
        show rd (wr u (123 + l) s a3) (123 + l') s' = _
        by_cases hh : l' = l ∧ s' = s
        · rw [if_pos hh, hh.1, hh.2, rd_wr, if_pos rfl, if_pos rfl]
        · rw [if_neg hh, rd_wr_ne (by omega)]
      have g2 : ∀ j, rd u2 172 j = if j = 16 * l + s then a3 else rd u 172 j := by
        intro j
        rw [← hu, rd_wr, if_pos rfl, rd_wr_ne (by omega), h172]
      have g3 : ∀ c j, c ≠ 172 → c < 123 ∨ 126 < c → ¬ (c = 135 ∧ j = 0) → rd u2 c j = rd u c j := by
        intro c j z1 z2 z3
        rw [← hu, rd_wr_ne (by omega), rd_wr_ne (by omega)]
        show rd (wr u (123 + l) s a3) c j = _
        rw [rd_wr_ne (by omega)]
      clear hu
      refine ⟨fr_S (ag_sm hag rfl) hI.S, fr_P (ag_sm hag rfl) hI.P, fr_B (ag_sm hag rfl) hI.B, fr_H (ag_sm hag rfl) hI.H, fr_L (ag_sm hag rfl) hI.L, fr_K (ag_sm hag rfl) hI.K, fr_T (ag_sm hag rfl) hI.T, fr_X (ag_sm hag rfl) hI.X, fr_F (ag_sm hag rfl) hI.F, fr_C (ag_sm hag rfl) hI.C, fr_D (ag_sm hag rfl) hI.D, ?_, fr_W (ag_sm hag rfl) hI.W⟩
      have eQ : nQ u2 = nQ u := congrArg nv (hag 135 54 rfl)
      have y0 : rd u2 121 6 = rd u 121 6 := hag 121 6 rfl
      have y1 : rd u2 135 54 = rd u 135 54 := hag 135 54 rfl
      have y2 : ∀ i, rd u2 127 i = rd u 127 i := fun i => hag 127 i rfl
      have y3 : ∀ i, rd u2 128 i = rd u 128 i := fun i => hag 128 i rfl
      have y4 : ∀ i, rd u2 129 i = rd u 129 i := fun i => hag 129 i rfl
      have y5 : ∀ i, rd u2 130 i = rd u 130 i := fun i => hag 130 i rfl
      have y6 : ∀ i, rd u2 131 i = rd u 131 i := fun i => hag 131 i rfl
      have y8 : ∀ i, rd u2 173 i = rd u 173 i := fun i => hag 173 i rfl
      have y9 : ∀ i, rd u2 174 i = rd u 174 i := fun i => hag 174 i rfl
      have y10 : ∀ i, rd u2 175 i = rd u 175 i := fun i => hag 175 i rfl
      have y11 : ∀ i, rd u2 176 i = rd u 176 i := fun i => hag 176 i rfl
      have y12 : ∀ i, rd u2 177 i = rd u 177 i := fun i => hag 177 i rfl
      have y13 : ∀ i, rd u2 180 i = rd u 180 i := fun i => hag 180 i rfl
      unfold i_A
      rw [eQ]
      simp only [y0, y1, y2, y3, y4, y5, y6, y8, y9, y10, y11, y12, y13]
      refine ⟨q1, q2, q3, fun l' hl' => ⟨(q4 l' hl').1, (q4 l' hl').2.1, (q4 l' hl').2.2.1, fun s' hs' => ?_⟩, q5⟩
      rw [g1 l' s' hl', g2]
      by_cases hh : l' = l ∧ s' = s
      · rw [if_pos hh, if_pos (by omega)]
        refine ⟨rfl, ?_⟩
        rcases h3 with h3 | h3
        · exact Or.inl h3
        · obtain ⟨x, hx, rfl⟩ := nI_ixl (S := 999) (by omega) h3.1 h3.2
          exact Or.inr ⟨x, hx, rfl⟩
      · rw [if_neg hh, if_neg (by omega)]
        exact (q4 l' hl').2.2.2 s' hs'
  · have e11 : f_X11_wish a1 a2 a3 u = some (none, u) := by
      simp (disch := omega) only [f_X11_wish, f_X11_wish_34, f_X11_isLand, lies_eq, hasS s1, ite_10]
      by_cases h1 : 0 ≤ a1 ∧ a1 ≤ 3
      · by_cases h2 : 0 ≤ a2 ∧ a2 < nI (nS u)
        · have h3 : ¬ (a3 = -1 ∨ (0 ≤ a3 ∧ a3 ≤ 999)) := fun q => h ⟨h1, h2, q⟩
          rw [if_pos h1, if_pos h2, if_neg (fun q => h3 (Or.inl q)), if_neg (fun q => h3 (Or.inr q))]
        · rw [if_pos h1, if_neg h2]
      · rw [if_neg h1]
    have e12 : f_X12_wish a1 a2 a3 u = some (0, wr (wr u 135 0 0) 135 0 1) := by
      simp (disch := omega) only [f_X12_wish, f_X12_wish_34, f_X12_refuse, f_X12_isLand, L_m1, L_0, L_3, L_999, in_eq, isS n2, ite_10, Option.bind_some]
      by_cases h1 : 0 ≤ a1 ∧ a1 ≤ 3
      · by_cases h2 : 0 ≤ a2 ∧ a2 < nI (nS u)
        · have h3 : ¬ (-1 ≤ a3 ∧ a3 ≤ 999) := fun q => h ⟨h1, h2, (wish_ok a3).mpr q⟩
          rw [if_pos h1, if_pos h2, if_neg h3]
        · rw [if_pos h1, if_neg h2]
      · rw [if_neg h1]
    exact ⟨none, _, _, _, e11, e12, rfl, fun v hv => (by cases hv), Inv_scr (ag_wr (ag_wr (ag_refl wX u) rfl) rfl) hI⟩
theorem s_row : xS_row Inv := by
  intro u a1 hI
  obtain ⟨w1, w2, w3, w4⟩ := hI.W
  by_cases h : 0 ≤ a1 ∧ a1 < nI (nW u)
  · obtain ⟨i, hi, rfl⟩ := nI_ix (by omega) h.1 h.2
    have e11 : f_X11_row (nI i) u = some (some (rd u 134 i), u) := by
      simp (disch := omega) only [f_X11_row, lies_eq, ite_10, w1, nI_p1]
      simp (disch := omega) only [if_pos h, gd_nI, nI_cl]
    have m2 : rd (hU (some (rd u 134 i)) u) 135 43 = nI (nW u) := w2
    have e12 : f_X12_row (nI i) (hU (some (rd u 134 i)) u) = some (rd u 165 i, wr (hU (some (rd u 134 i)) u) 135 0 0) := by
      simp (disch := omega) only [f_X12_row, inN m2, ite_10]
      simp (disch := omega) only [if_pos h, gd_nI, nI_cl]
      rfl
    refine ⟨_, _, _, _, e11, e12, rfl, ?_, Inv_scr (ag_wr (ag_wl (ag_refl wX u)) rfl) hI⟩
    intro v hv
    cases hv
    rw [← w4 i hi]
    rfl
  · have e11 : f_X11_row a1 u = some (none, u) := by
      simp (disch := omega) only [f_X11_row, lies_eq, ite_10, w1, nI_p1]
      simp only [if_neg h]
    have e12 : f_X12_row a1 u = some (0, wr (wr u 135 0 0) 135 0 1) := by
      simp (disch := omega) only [f_X12_row, f_X12_refuse, inN w2, ite_10]
      simp only [if_neg h, Option.bind_some]
    exact ⟨none, _, _, _, e11, e12, rfl, fun v hv => (by cases hv), Inv_scr (ag_wr (ag_wr (ag_refl wX u) rfl) rfl) hI⟩
