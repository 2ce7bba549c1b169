/-! BALE, SORT, PART, TWICE, WITHIN, COST, STORE, WISH, ROW -/
theorem s_bale : xS_bale Inv := by
  intro u a1 a2 a3 a4 hI
  apply st_W
  obtain ⟨b1, b2, b3, b4, b5⟩ := hI.B
  generalize hB : nB u = B at b1 b2 b3 b4
  rw [c11_bale b1 b3]
  by_cases h : (0 ≤ a1 ∧ a1 ≤ 3) ∧ (0 ≤ a2 ∧ a2 ≤ 7) ∧ (1 ≤ a3 ∧ a3 ≤ 9999) ∧ (0 ≤ a4 ∧ a4 ≤ 999) ∧ B < 24
  · rw [if_pos h, ok_some]
    refine ok_is ((c12_bale (B := B) ?_ b3).trans (if_pos h)) ⟨rfl, ?_⟩
    · exact b2
    dsimp only
    obtain ⟨h1, -, h3, -, h5⟩ := h
    obtain ⟨k, hk, rfl⟩ := nI_ixl (S := 3) (by omega) h1.1 h1.2
    have h30 : (0 : Int32) ≤ a3 := Int32.le_trans (by decide) h3.1
    obtain ⟨w, hw, rfl⟩ := nI_ixl (S := 9999) (by omega) h30 h3.2
    have hw1 : 1 ≤ w := (nI_leI (a := 1) (by omega) (by omega)).mp h3.1
    generalize hu : (wr (wr (wr (wr (wr (wr (wr (wr (wr (wr (wr (wr (wr (wr u 14 B (nI k)) 15 B a2) 16 B (nI w)) 17 B a4) 18 B (-1)) 19 B (-1)) 13 8 (nI (B + 1))) 135 0 0) 140 B (nI k)) 141 B a2) 142 B (nI w)) 143 B a4) 144 B (-1)) 135 7 (nI (B + 1))) = u2
    have hag : ag [(13, 9), (14, 0), (15, 0), (16, 0), (17, 0), (18, 0), (19, 0), (135, 1), (140, 0), (141, 0), (142, 0), (143, 0), (144, 0), (135, 8)] u u2 := by
      rw [← hu]
      repeat first | exact ag_refl _ _ | refine ag_wr ?_ rfl
    have e2 : nB u2 = B + 1 := by rw [← hu]; exact nv_nI (by omega)
    have eS : nS u2 = nS u := congrArg nv (hag 135 1 rfl)
    have eC : nC u2 = nC u := congrArg nv (hag 135 37 rfl)
    have eO' : nO u2 = nO u := congrArg nv (hag 135 16 rfl)
    have r1 : eH u2 = eH u := by funext b s; exact congrArg nv (hag 146 _ rfl)
    have r2 : eL u2 = eL u := by funext b s; exact congrArg nv (hag 147 _ rfl)
    have r3 : eO u2 = eO u := by
      have : ∀ i, rd u2 148 i = rd u 148 i := fun i => hag 148 i rfl
      simp only [eO, eO', this]
    have r5 : eM u2 = eM u := by
      have : eB u2 = eB u := by funext b; simp only [eB, r1]
      simp only [eM, r3, this]
    have g144 : ∀ b, rd u2 144 b = if b = B then -1 else rd u 144 b := by
      intro b
      rw [← hu]
      simp only [rd_wr, Nat.reduceEqDiff, if_true, if_false]
    refine ⟨fr_S (ag_sm hag rfl) hI.S, fr_P (ag_sm hag rfl) hI.P, ?_, ?_, ?_, fr_K (ag_sm hag rfl) hI.K, fr_T (ag_sm hag rfl) hI.T, fr_X (ag_sm hag rfl) hI.X, fr_F (ag_sm hag rfl) hI.F, ?_, fr_D (ag_sm hag rfl) hI.D, fr_A (ag_sm hag rfl) hI.A, fr_W (ag_sm hag rfl) hI.W⟩
    · rw [← hu]
      unfold i_B
      rw [hu, e2, ← hu]
      refine ⟨rfl, rfl, by omega, lt_s (fun i hi => ?_) ?_, fun b hb => b5 b hb⟩
      · have hne : ¬ i = B := by omega
        simp only [rd_wr, Nat.reduceEqDiff, if_true, if_false, hne]
        exact b4 i hi
      · simp only [rd_wr, Nat.reduceEqDiff, if_true, if_false]
        exact ⟨trivial, trivial, trivial, trivial, trivial, ⟨k, by omega, rfl⟩, ⟨w, hw1, hw, rfl⟩, Or.inl trivial⟩
    · obtain ⟨q1, q2⟩ := hI.H
      unfold i_H
      rw [e2, eS, r1]
      refine ⟨fun b s hb hs => ?_, lt_s (fun b hb => ?_) ?_⟩
      · rw [hag (22 + b) s (by rw [lc_22 hb]; rfl), hag 146 _ rfl]
        obtain ⟨z1, z2, z3⟩ := q1 b s hb hs
        refine ⟨z1, z2, fun z => z3 ?_⟩
        rcases z with z | z | z
        · exact Or.inl z
        · exact Or.inr (Or.inl (by omega))
        · rw [g144] at z
          by_cases hbB : b = B
          · exact Or.inr (Or.inl (by omega))
          · rw [if_neg hbB] at z
            exact Or.inr (Or.inr z)
      · have hne : ¬ b = B := by omega
        have z := q2 b (by omega)
        have y1 : rd u2 142 b = rd u 142 b := by rw [← hu]; simp only [rd_wr, Nat.reduceEqDiff, if_true, if_false, hne]
        have y2 : rd u2 19 b = rd u 19 b := by rw [← hu]; simp only [rd_wr, Nat.reduceEqDiff, if_true, if_false, hne]
        rw [g144, if_neg hne, y1, y2]
        exact z
      · have z0 : nsum (eH u B) 16 = 0 := by
          have : nsum (eH u B) 16 = nsum (fun _ => 0) 16 := nsum_congr fun s hs => (q1 B s (by omega) hs).2.2 (Or.inr (Or.inl (by omega)))
          rw [this]
          rfl
        have y2 : rd u2 19 B = -1 := by rw [← hu]; simp only [rd_wr, Nat.reduceEqDiff, if_true, if_false]
        rw [g144, if_pos rfl, if_pos rfl, z0, y2]
        exact ⟨Nat.zero_le _, rfl⟩
    · obtain ⟨l1, l2, l3, l4, l5, l6, l7, l8, l9⟩ := hI.L
      have q4 : ∀ i, rd u2 148 i = rd u 148 i := fun i => hag 148 i rfl
      have q5 : ∀ i, rd u2 147 i = rd u 147 i := fun i => hag 147 i rfl
      have q6 : rd u2 74 4 = rd u 74 4 := hag 74 4 rfl
      have q7 : ∀ i, rd u2 75 i = rd u 75 i := fun i => hag 75 i rfl
      have q8 : ∀ i, rd u2 76 i = rd u 76 i := fun i => hag 76 i rfl
      have q9 : ∀ i, rd u2 77 i = rd u 77 i := fun i => hag 77 i rfl
      have q10 : ∀ i, rd u2 78 i = rd u 78 i := fun i => hag 78 i rfl
      have q11 : rd u2 135 16 = rd u 135 16 := hag 135 16 rfl
      unfold i_L
      rw [e2, eO', r1, r2, r3, r5]
      simp only [q4, q5, q6, q7, q8, q9, q10, q11]
      refine ⟨l1, l2, fun k hk => ?_, l4, lt_s (fun b hb => ?_) ?_, l6, l7, l8, l9⟩
      · obtain ⟨b, hb, hb2⟩ := l3 k hk
        exact ⟨b, by omega, hb2⟩
      · rw [g144, if_neg (by omega)]
        exact l5 b (by omega)
      · rw [g144, if_pos rfl]
        constructor
        · intro hm
          simp only [eO, List.mem_map, List.mem_range] at hm
          obtain ⟨k', hk', hk2⟩ := hm
          obtain ⟨b, hb, hb2⟩ := l3 k' hk'
          rw [hb2, nv_nI (by omega)] at hk2
          omega
        · intro hm
          exact absurd rfl hm
    · obtain ⟨c1, c2, c3, c4, c5⟩ := hI.C
      have q1 : rd u2 87 2 = rd u 87 2 := hag 87 2 rfl
      have q2 : rd u2 135 37 = rd u 135 37 := hag 135 37 rfl
      have q3 : ∀ i, rd u2 109 i = rd u 109 i := fun i => hag 109 i rfl
      have q4 : ∀ i, rd u2 161 i = rd u 161 i := fun i => hag 161 i rfl
      have q5 : ∀ i, rd u2 162 i = rd u 162 i := fun i => hag 162 i rfl
      unfold i_C
      rw [e2, eC]
      simp only [q1, q2, q3, q4, q5]
      refine ⟨c1, c2, c3, fun c b hc hb => ?_, c5⟩
      rw [hag (89 + c) b (by rw [lc_89 hc]; rfl)]
      obtain ⟨z1, z2, z3⟩ := c4 c b hc hb
      exact ⟨z1, z2, fun z => z3 (by omega)⟩
  · rw [if_neg h, ok_some]
    exact ok_is ((c12_bale (B := B) b2 b3).trans (if_neg h)) ⟨rfl, Inv_thr hI⟩
theorem so_least {a5 a6 : Int32} (h : 0 ≤ a5 ∧ a5 ≤ 1000) : ((0 ≤ a6 ∧ a6 ≤ 1000) ∧ ¬ a6 < a5) ↔ (a5 ≤ a6 ∧ a6 ≤ 1000) := by
  simp only [Int32.not_lt]
  exact ⟨fun q => ⟨q.2, q.1.2⟩, fun q => ⟨⟨Int32.le_trans h.1 q.1, q.2⟩, q.1⟩⟩
section SORT
variable {u : xS} {a1 a2 a3 a4 a5 a6 a7 : Int32} {S : Nat}
theorem z_38 (v : Int32) : f_X11_sort_38 a1 a2 a3 a4 a5 a6 a7 v u = f_X11_sort_76 a1 a2 a3 a4 a5 a6 a7 v (if (0 ≤ a5 ∧ a5 ≤ 1000) ∧ (a5 ≤ a6 ∧ a6 ≤ 1000) then 1 else 0) u := by
  simp only [f_X11_sort_38, f_X11_sort_75, lies_eq, ite_10]
  by_cases h5 : 0 ≤ a5 ∧ a5 ≤ 1000
  · have e := so_least (a6 := a6) h5
    by_cases h6 : 0 ≤ a6 ∧ a6 ≤ 1000
    · by_cases h7 : a6 < a5
      · rw [if_pos h5, if_pos h6, if_pos h7, if_neg (fun h => (e.mpr h.2).2 h7)]
      · rw [if_pos h5, if_pos h6, if_neg h7, if_pos ⟨h5, e.mp ⟨h6, h7⟩⟩]
    · rw [if_pos h5, if_neg h6, if_neg (fun h => h6 (e.mpr h.2).1)]
  · rw [if_neg h5, if_neg (fun h => h5 h.1)]
theorem z_76 (s1 : rd u 1 2 = nI S) (v w : Int32) : f_X11_sort_76 a1 a2 a3 a4 a5 a6 a7 v w u = f_X11_sort_101 a1 a2 a3 a4 a5 a6 a7 v w (if a7 = -1 ∨ (0 ≤ a7 ∧ a7 < nI S) then 1 else 0) u := by
  simp only [f_X11_sort_76, f_X11_sort_96, hasS s1, ite_10]
  by_cases h : a7 = -1
  · rw [if_pos h, if_pos (Or.inl h)]
  · by_cases h2 : 0 ≤ a7 ∧ a7 < nI S
    · rw [if_neg h, if_pos h2, if_pos (Or.inr h2)]
    · rw [if_neg h, if_neg h2, if_neg (fun q => q.elim h h2)]
theorem z_s : f_X11_sort a1 a2 a3 a4 a5 a6 a7 u = f_X11_sort_38 a1 a2 a3 a4 a5 a6 a7 (if (0 ≤ a1 ∧ a1 ≤ 255) ∧ (0 ≤ a2 ∧ a2 ≤ 255) ∧ (0 ≤ a3 ∧ a3 ≤ 255) then 1 else 0) u := by
  simp only [f_X11_sort, f_X11_sort_37, lies_eq, ite_10]
  by_cases h1 : 0 ≤ a1 ∧ a1 ≤ 255
  · by_cases h2 : 0 ≤ a2 ∧ a2 ≤ 255
    · by_cases h3 : 0 ≤ a3 ∧ a3 ≤ 255
      · rw [if_pos h1, if_pos h2, if_pos h3, if_pos ⟨h1, h2, h3⟩]
      · rw [if_pos h1, if_pos h2, if_neg h3, if_neg (fun h => h3 h.2.2)]
    · rw [if_pos h1, if_neg h2, if_neg (fun h => h2 h.2.1)]
  · rw [if_neg h1, if_neg (fun h => h1 h.1)]
theorem c11_sort (s1 : rd u 1 2 = nI S) (hS : S ≤ 16) : f_X11_sort a1 a2 a3 a4 a5 a6 a7 u = if ((0 ≤ a1 ∧ a1 ≤ 255) ∧ (0 ≤ a2 ∧ a2 ≤ 255) ∧ (0 ≤ a3 ∧ a3 ≤ 255)) ∧ ((0 ≤ a5 ∧ a5 ≤ 1000) ∧ (a5 ≤ a6 ∧ a6 ≤ 1000)) ∧ (a7 = -1 ∨ (0 ≤ a7 ∧ a7 < nI S)) ∧ (1 ≤ a4 ∧ a4 ≤ 99) ∧ S < 16 then some (nI S, wr (wr (wr (wr (wr (wr (wr (wr u 3 S a1) 4 S a2) 5 S a3) 6 S a4) 7 S a5) 8 S a6) 9 S a7) 1 2 (nI (S + 1))) else some (-1, u) := by
  rw [z_s, z_38, z_76 s1]
  simp (disch := omega) only [f_X11_sort_101, lies_eq, ite_10, l_16, lt60 s1]
  by_cases h1 : (0 ≤ a1 ∧ a1 ≤ 255) ∧ (0 ≤ a2 ∧ a2 ≤ 255) ∧ (0 ≤ a3 ∧ a3 ≤ 255)
  · by_cases h2 : (0 ≤ a5 ∧ a5 ≤ 1000) ∧ (a5 ≤ a6 ∧ a6 ≤ 1000)
    · by_cases h3 : a7 = -1 ∨ (0 ≤ a7 ∧ a7 < nI S)
      · by_cases h4 : 1 ≤ a4 ∧ a4 ≤ 99
        · by_cases h5 : S < 16
          · rw [if_pos h1, if_pos h2, if_pos h3, if_pos h4, if_pos h5, if_pos ⟨h1, h2, h3, h4, h5⟩]
            simp (disch := omega) only [f_X8_add, s1, l_16, gd_nI, nI_cl, nI_1, ite_nle, ite_ylt, Option.bind_some]
          · rw [if_pos h1, if_pos h2, if_pos h3, if_pos h4, if_neg h5, if_neg (fun h => h5 h.2.2.2.2)]
        · rw [if_pos h1, if_pos h2, if_pos h3, if_neg h4, if_neg (fun h => h4 h.2.2.2.1)]
      · rw [if_pos h1, if_pos h2, if_neg h3, if_neg (fun h => h3 h.2.2.1)]
    · rw [if_pos h1, if_neg h2, if_neg (fun h => h2 h.2.1)]
  · rw [if_neg h1, if_neg (fun h => h1 h.1)]
theorem c12_sort (s1 : rd u 135 1 = nI S) (hS : S ≤ 16) : f_X12_sort a1 a2 a3 a4 a5 a6 a7 u = if ((0 ≤ a1 ∧ a1 ≤ 255) ∧ (0 ≤ a2 ∧ a2 ≤ 255) ∧ (0 ≤ a3 ∧ a3 ≤ 255)) ∧ ((0 ≤ a5 ∧ a5 ≤ 1000) ∧ (a5 ≤ a6 ∧ a6 ≤ 1000)) ∧ (a7 = -1 ∨ (0 ≤ a7 ∧ a7 < nI S)) ∧ (1 ≤ a4 ∧ a4 ≤ 99) ∧ S < 16 then some (nI S, wr (wr (wr (wr (wr (wr (wr (wr (wr u 135 0 0) 136 (7 * S) a1) 136 (7 * S + 1) a2) 136 (7 * S + 2) a3) 136 (7 * S + 3) a4) 136 (7 * S + 4) a5) 136 (7 * S + 5) a6) 136 (7 * S + 6) a7) 135 1 (nI (S + 1))) else some (-1, wr u 135 0 0) := by
  have s2 : rd (wr u 135 0 0) 135 1 = nI S := s1
  simp (disch := omega) only [f_X12_sort, f_X12_sort_86, f_X12_sort_87, L_0, L_1, L_99, L_255, L_1000, in_eq, isS s2, ite_10, if_true]
  by_cases h1 : 0 ≤ a1 ∧ a1 ≤ 255
  · by_cases h2 : 0 ≤ a2 ∧ a2 ≤ 255
    · by_cases h3 : 0 ≤ a3 ∧ a3 ≤ 255
      · by_cases h4 : 1 ≤ a4 ∧ a4 ≤ 99
        · by_cases h5 : 0 ≤ a5 ∧ a5 ≤ 1000
          · by_cases h6 : a5 ≤ a6 ∧ a6 ≤ 1000
            · rw [if_pos h1, if_pos h2, if_pos h3, if_pos h4, if_pos h5, if_pos h6, if_neg (show ¬ (1 : Int32) = 0 by decide)]
              have k : ∀ q, q = f_X12_sort_109 a1 a2 a3 a4 a5 a6 a7 (wr u 135 0 0) → (a7 = -1 ∨ (0 ≤ a7 ∧ a7 < nI S)) → q = if ((0 ≤ a1 ∧ a1 ≤ 255) ∧ (0 ≤ a2 ∧ a2 ≤ 255) ∧ (0 ≤ a3 ∧ a3 ≤ 255)) ∧ ((0 ≤ a5 ∧ a5 ≤ 1000) ∧ (a5 ≤ a6 ∧ a6 ≤ 1000)) ∧ (a7 = -1 ∨ (0 ≤ a7 ∧ a7 < nI S)) ∧ (1 ≤ a4 ∧ a4 ≤ 99) ∧ S < 16 then some (nI S, wr (wr (wr (wr (wr (wr (wr (wr (wr u 135 0 0) 136 (7 * S) a1) 136 (7 * S + 1) a2) 136 (7 * S + 2) a3) 136 (7 * S + 3) a4) 136 (7 * S + 4) a5) 136 (7 * S + 5) a6) 136 (7 * S + 6) a7) 135 1 (nI (S + 1))) else some (-1, wr u 135 0 0) := by
                intro q hq h7
                rw [hq]
                simp (disch := omega) only [f_X12_sort_109, s2, l_16, nI_eq]
                by_cases h8 : S < 16
                · rw [if_neg (show ¬ S = 16 by omega), if_pos ⟨⟨h1, h2, h3⟩, ⟨h5, h6⟩, h7, h4, h8⟩]
                  simp (disch := omega) only [l_7, l_2, l_3, l_4, l_5, l_6, pk_mul, nI_add, nI_1, gd_nI, nI_cl, nI_pred]
                · rw [if_pos (show S = 16 by omega), if_neg (fun h => h8 h.2.2.2.2)]
              by_cases h7 : a7 = -1
              · rw [if_pos h7]
                exact k _ rfl (Or.inl h7)
              · rw [if_neg h7]
                by_cases h9 : 0 ≤ a7 ∧ a7 < nI S
                · rw [if_pos h9]
                  exact k _ rfl (Or.inr h9)
                · rw [if_neg h9, if_neg (fun h => h.2.2.1.elim h7 h9)]
            · rw [if_pos h1, if_pos h2, if_pos h3, if_pos h4, if_pos h5, if_neg h6, if_neg (fun h => h6 h.2.1.2)]
          · rw [if_pos h1, if_pos h2, if_pos h3, if_pos h4, if_neg h5, if_neg (fun h => h5 h.2.1.1)]
        · rw [if_pos h1, if_pos h2, if_pos h3, if_neg h4, if_neg (fun h => h4 h.2.2.2.1)]
      · rw [if_pos h1, if_pos h2, if_neg h3, if_neg (fun h => h3 h.1.2.2)]
    · rw [if_pos h1, if_neg h2, if_neg (fun h => h2 h.1.2.1)]
  · rw [if_neg h1, if_neg (fun h => h1 h.1.1)]
end SORT
theorem s_sort : xS_sort Inv := by
  intro u a1 a2 a3 a4 a5 a6 a7 hI
  apply st_W
  obtain ⟨s1, s2, s3, s4⟩ := hI.S
  generalize hS : nS u = S at s1 s2 s3 s4
  rw [c11_sort s1 s3]
  by_cases h : ((0 ≤ a1 ∧ a1 ≤ 255) ∧ (0 ≤ a2 ∧ a2 ≤ 255) ∧ (0 ≤ a3 ∧ a3 ≤ 255)) ∧ ((0 ≤ a5 ∧ a5 ≤ 1000) ∧ (a5 ≤ a6 ∧ a6 ≤ 1000)) ∧ (a7 = -1 ∨ (0 ≤ a7 ∧ a7 < nI S)) ∧ (1 ≤ a4 ∧ a4 ≤ 99) ∧ S < 16
  · rw [if_pos h, ok_some]
    refine ok_is ((c12_sort (S := S) ?_ s3).trans (if_pos h)) ⟨rfl, ?_⟩
    · exact s2
    dsimp only
    obtain ⟨-, -, h7, -, h8⟩ := h
    generalize hu : (wr (wr (wr (wr (wr (wr (wr (wr (wr (wr (wr (wr (wr (wr (wr (wr (wr u 3 S a1) 4 S a2) 5 S a3) 6 S a4) 7 S a5) 8 S a6) 9 S a7) 1 2 (nI (S + 1))) 135 0 0) 136 (7 * S) a1) 136 (7 * S + 1) a2) 136 (7 * S + 2) a3) 136 (7 * S + 3) a4) 136 (7 * S + 4) a5) 136 (7 * S + 5) a6) 136 (7 * S + 6) a7) 135 1 (nI (S + 1))) = u2
    have hag : ag [(3, 0), (9, 0), (1, 3), (135, 1), (136, 0), (135, 2)] u u2 := by
      rw [← hu]
      repeat first | exact ag_refl _ _ | refine ag_wr ?_ rfl
    have e2 : nS u2 = S + 1 := by rw [← hu]; exact nv_nI (by omega)
    have eB : nB u2 = nB u := congrArg nv (hag 135 7 rfl)
    have eD : nD u2 = nD u := congrArg nv (hag 135 46 rfl)
    have r1 : eH u2 = eH u := by funext b s; exact congrArg nv (hag 146 _ rfl)
    refine ⟨?_, fr_P (ag_sm hag rfl) hI.P, fr_B (ag_sm hag rfl) hI.B, ?_, fr_L (ag_sm hag rfl) hI.L, fr_K (ag_sm hag rfl) hI.K, fr_T (ag_sm hag rfl) hI.T, fr_X (ag_sm hag rfl) hI.X, ?_, fr_C (ag_sm hag rfl) hI.C, ?_, fr_A (ag_sm hag rfl) hI.A, fr_W (ag_sm hag rfl) hI.W⟩
    · have g136 : ∀ i, rd u2 136 i = if i = 7 * S + 6 then a7 else if i = 7 * S + 5 then a6 else if i = 7 * S + 4 then a5 else if i = 7 * S + 3 then a4 else if i = 7 * S + 2 then a3 else if i = 7 * S + 1 then a2 else if i = 7 * S then a1 else rd u 136 i := by
        intro i
        rw [← hu]
        simp only [rd_wr, Nat.reduceEqDiff, if_true, if_false]
      have g9 : ∀ i, rd u2 9 i = if i = S then a7 else rd u 9 i := by
        intro i
        rw [← hu]
        simp only [rd_wr, Nat.reduceEqDiff, if_true, if_false]
      have old : ∀ i, i < 7 * S → rd u2 136 i = rd u 136 i := by
        intro i hi
        rw [g136, if_neg (by omega), if_neg (by omega), if_neg (by omega), if_neg (by omega), if_neg (by omega), if_neg (by omega), if_neg (by omega)]
      unfold i_S
      rw [e2]
      refine ⟨by rw [← hu]; rfl, by rw [← hu]; rfl, by omega, lt_s (fun s hs => ?_) ?_⟩
      · obtain ⟨z1, z2, z3⟩ := s4 s hs
        rw [old _ (by omega), g9, if_neg (by omega)]
        refine ⟨fun f hf => ?_, z2, z3⟩
        rw [old _ (by omega), ← z1 f hf, ← hu]
        repeat rw [rd_wr_ne (by omega)]
      · rw [g136, if_pos rfl, g9, if_pos rfl]
        refine ⟨fun f hf => ?_, rfl, ?_⟩
        · have hf' : f = 0 ∨ f = 1 ∨ f = 2 ∨ f = 3 ∨ f = 4 ∨ f = 5 := by omega
          rcases hf' with rfl | rfl | rfl | rfl | rfl | rfl <;> rw [g136] <;> simp only [← hu, rd_wr] <;> simp <;> omega
        · rcases h7 with h7 | h7
          · exact Or.inl h7
          · obtain ⟨p, hp, rfl⟩ := nI_ix (by omega) h7.1 h7.2
            exact Or.inr ⟨p, hp, rfl⟩
    · obtain ⟨q1, q2⟩ := hI.H
      have y2 : ∀ i, rd u2 142 i = rd u 142 i := fun i => hag 142 i rfl
      have y3 : ∀ i, rd u2 19 i = rd u 19 i := fun i => hag 19 i rfl
      have y4 : ∀ i, rd u2 144 i = rd u 144 i := fun i => hag 144 i rfl
      unfold i_H
      rw [e2, eB, r1]
      simp only [y2, y3, y4]
      refine ⟨fun b s hb hs => ?_, q2⟩
      rw [hag (22 + b) s (by rw [lc_22 hb]; rfl), hag 146 _ rfl]
      obtain ⟨z1, z2, z3⟩ := q1 b s hb hs
      refine ⟨z1, z2, fun z => z3 ?_⟩
      rcases z with z | z
      · exact Or.inl (by omega)
      · exact Or.inr z
    · have q1 : ∀ i, rd u2 80 i = rd u 80 i := fun i => hag 80 i rfl
      have q2 : ∀ i, rd u2 160 i = rd u 160 i := fun i => hag 160 i rfl
      unfold i_F
      rw [e2]
      simp only [q1, q2]
      intro s hs
      obtain ⟨z1, z2, z3⟩ := hI.F s hs
      exact ⟨z1, z2, fun z => z3 (by omega)⟩
    · obtain ⟨d1, d2, d3, d4⟩ := hI.D
      have q1 : rd u2 113 3 = rd u 113 3 := hag 113 3 rfl
      have q2 : rd u2 135 46 = rd u 135 46 := hag 135 46 rfl
      have q3 : ∀ i, rd u2 115 i = rd u 115 i := fun i => hag 115 i rfl
      have q4 : ∀ i, rd u2 116 i = rd u 116 i := fun i => hag 116 i rfl
      have q5 : ∀ i, rd u2 118 i = rd u 118 i := fun i => hag 118 i rfl
      have q6 : ∀ i, rd u2 119 i = rd u 119 i := fun i => hag 119 i rfl
      have q7 : ∀ i, rd u2 167 i = rd u 167 i := fun i => hag 167 i rfl
      have q8 : ∀ i, rd u2 168 i = rd u 168 i := fun i => hag 168 i rfl
      have q9 : ∀ i, rd u2 169 i = rd u 169 i := fun i => hag 169 i rfl
      have q10 : ∀ i, rd u2 170 i = rd u 170 i := fun i => hag 170 i rfl
      unfold i_D
      rw [e2, eD]
      simp only [q1, q2, q3, q4, q5, q6, q7, q8, q9, q10]
      refine ⟨d1, d2, d3, fun i hi => ?_⟩
      obtain ⟨z1, z2, z3, z4, a, b, x, y, w1, w2, w3, w4, w5, w6⟩ := d4 i hi
      exact ⟨z1, z2, z3, z4, a, b, x, y, w1, w2, w3, by omega, by omega, w6⟩
  · rw [if_neg h, ok_some]
    exact ok_is ((c12_sort (S := S) s2 s3).trans (if_neg h)) ⟨rfl, Inv_thr hI⟩
