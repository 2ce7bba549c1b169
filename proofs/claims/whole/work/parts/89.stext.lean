/-! TEXT: all together -/
section ST
variable {u : xS} {a1 a2 : Int32}
def tc (u : xS) (i : Nat) : Nat := nv (rd u 159 i)
theorem tc_T (hI : Inv u) {i : Nat} (hi : i < nT u) : rd u 159 i = nI (tc u i) ∧ tc u i < 256 ∧ rd u 53 i = nI (tc u i) := by
  obtain ⟨e, c, hc, ec⟩ := hI.T.2.2.2 i hi
  unfold tc
  rw [ec, nv_nI (by omega)]
  exact ⟨rfl, hc, e.trans ec⟩
theorem PT_ok (hI : Inv u) {v : xS} (h159 : ∀ i, rd v 159 i = rd u 159 i) : PT (W0 v) (tc u) (min (nT u) 60) := by
  refine ⟨by omega, rfl, fun i hi => ?_⟩
  obtain ⟨e1, e2, -⟩ := tc_T hI (i := i) (by omega)
  exact ⟨((W0_ag v 159 i rfl).trans (h159 i)).trans e1, e2⟩
theorem RT_ok (hI : Inv u) : RT (wr u 52 1 0) (tc u) (min (nT u) 60) (nT u) := by
  have hT := hI.T.2.2.1
  refine ⟨by omega, by omega, hT, by omega, fun i hi => ?_⟩
  obtain ⟨-, e2, e3⟩ := tc_T hI (i := i) (by omega)
  exact ⟨(rd_wr_ne (by omega)).trans e3, e2⟩
/-- one that fails: all stays -/
theorem Inv_fail (hI : Inv u) {u2 v1 : xS} {j : Nat} {R : List Int32} (g2 : ag wQ (wr u 52 1 0) u2) (M : RM (W0 u2) j R v1) : Inv v1 := by
  obtain ⟨h1, h2, h3, h4⟩ := M
  have g0 := W0_ag u2
  have g1 : ag ((52, 2) :: wQ) u u2 := ag_trans (ag_wr (ag_refl _ _) rfl) (ag_sub rfl g2)
  have gv : ag wU u v1 := fun c i hc => by
    rw [h1 c i (fun z => by rw [z.1, z.2] at hc; revert hc; decide) (fun z => ne_W 155 (fun _ => rfl) hc z.1) (fun z => ne_W 156 (fun _ => rfl) hc z.1)]
    exact ((ag_sub rfl g0 : ag wU u2 (W0 u2)) c i hc).trans ((ag_sub rfl g1 : ag wU u u2) c i hc)
  have k155 : ∀ i, i < 704 → rd v1 155 i = rd u 155 i := fun i hi => (h1 155 i (by omega) (by omega) (by omega)).trans ((g0 155 i rfl).trans (g1 155 i rfl))
  have k156 : ∀ t, t ≤ 10 → rd v1 156 t = rd u 156 t := fun t ht => (h1 156 t (by omega) (by omega) (by omega)).trans ((W0_156 u2 (by omega)).trans (g1 156 t rfl))
  have ko : ∀ c i, ¬ c = 135 → ¬ c = 155 → ¬ c = 156 → rd v1 c i = rd u2 c i := fun c i q1 q2 q3 => (h1 c i (fun z => q1 z.1) (fun z => q2 z.1) (fun z => q3 z.1)).trans (W0_fr q1 q3)
  refine Inv_text hI gv ?_ ((h1 135 32 (by omega) (by omega) (by omega)).trans rfl) (X_sm hI.X ?_ ?_ fun t ht => ⟨fun i hi => k155 _ (by omega), k156 t ht, ?_, ?_, fun i => ?_⟩)
  · rw [ko 52 1 (by decide) (by decide) (by decide), g2 52 1 rfl, rd_wr, if_pos rfl, if_pos rfl]
  · rw [ko 58 5 (by decide) (by decide) (by decide)]
    exact g1 58 5 rfl
  · exact (h1 135 28 (by omega) (by omega) (by omega)).trans ((g0 135 28 rfl).trans (g1 135 28 rfl))
  · rw [ko 71 t (by decide) (by decide) (by decide)]
    exact g1 71 t rfl
  · rw [ko 154 t (by decide) (by decide) (by decide)]
    exact g1 154 t rfl
  · rw [ko (60 + t) i (by omega) (by omega) (by omega)]
    exact g1 (60 + t) i (by rw [lc_60 (by omega)]; rfl)
/-- the slot's own cells -/
theorem X1_new {u2 u3 vz : xS} {t : Nat} {X R : List Int32} {tl : List Int32} (hX : X.reverse = R.reverse ++ tl) (hR : R.length ≤ 60) (s2 : sk u2 55 0 (X.map em)) (k1 : ∀ i, i < X.length → rd u3 (60 + t) i = rd u2 55 i) (hv : ∀ i, rd vz (60 + t) i = rd u3 (60 + t) i) (h155 : ∀ k m, R.reverse[k]? = some m → rd vz 155 (64 * t + k) = m) (h156 : rd vz 156 t = nI R.length) : i_X1 vz t R.reverse ∧ ∀ k m, tl[k]? = some m → rd vz (60 + t) (R.length + k) = em m := by
  have hl : R.reverse.length = R.length := List.length_reverse
  have hXl : X.length = R.length + tl.length := by
    have := congrArg List.length hX
    rw [List.length_reverse, List.length_append, hl] at this
    exact this
  refine ⟨⟨by omega, by rw [hl]; exact h156, fun i m hm => ⟨h155 i m hm, ?_⟩⟩, fun k m hm => ?_⟩
  · have hi := (List.getElem?_eq_some_iff.mp hm).1
    rw [hv, k1 i (by omega)]
    refine sk_em s2 ?_
    rw [hX, List.getElem?_append_left hi]
    exact hm
  · have hk := (List.getElem?_eq_some_iff.mp hm).1
    rw [hv, k1 _ (by omega)]
    refine sk_em s2 ?_
    rw [hX, List.getElem?_append_right (by omega), hl, show R.length + k - R.length = k by omega]
    exact hm
theorem s_text : xS_text Inv := by
  intro u a1 a2 hI
  obtain ⟨t1, t2, t3, -⟩ := hI.T
  obtain ⟨x1, x2, x3, -, -⟩ := id hI.X
  by_cases hK : KN u a1 a2
  · obtain ⟨b0, w0, j0, R0, -, -, hj0, hT0⟩ := all_ok (many := decide (a1 = 1)) (PT_ok hI (v := u) fun _ => rfl) (mi := bi (decide (a1 = 1))) rfl (W0_RM u)
    have hRT := RT_ok hI
    have e11 := c11_text (a1 := a1) (a2 := a2) t1 x1 x3
    rw [if_pos hK] at e11
    -- the reference, on whatever the class leaves
    have ref : ∀ v : xS, rd v 135 32 = nI (nT u) → rd v 135 28 = nI (nR u) → (∀ i, rd v 159 i = rd u 159 i) → ∃ v1 j R, f_X12_text a1 a2 v = (if nT u ≤ 60 then f_X12_text_126 a1 a2 b0 v1 else if b0 = 0 then (if j0 < 60 then f_X12_text_126 a1 a2 b0 v1 else some (-61, v1)) else some (-61, v1)) ∧ RM (W0 v) j R v1 ∧ j = j0 ∧ (b0 = 1 → R = R0) := fun v q1 q2 q3 => by
      obtain ⟨b, v1, j, R, e, M, hj, hT⟩ := all_ok (many := decide (a1 = 1)) (PT_ok hI (v := v) q3) (mi := bi (decide (a1 = 1))) rfl (W0_RM v)
      obtain ⟨r1, r2, r3⟩ := TXT_uni hj0 hj hT0 hT
      refine ⟨v1, j, R, ?_, M, r2.symm, fun z => (r3 z).symm⟩
      rw [c12_text t3 q1 q2 x3, if_pos hK, f_X12_text_98, e, Option.bind_some, ← r1]
      dsimp only
      by_cases c1 : nT u ≤ 60
      · rw [if_pos (show nI (nT u) ≤ (60 : Int32) from nI_le (b := 60) c1 (by omega)), if_pos c1]
      · rw [if_neg (show ¬ nI (nT u) ≤ (60 : Int32) from nI_ge (a := 60) (by omega) (by omega)), if_neg c1, M.2.1, ← r2]
        by_cases c2 : b0 = 0
        · rw [if_pos c2, if_pos c2]
          by_cases c3 : j0 < 60
          · rw [if_pos (show nI j0 < (60 : Int32) from nI_lt (b := 60) c3 (by omega)), if_pos c3]
          · rw [if_neg (show ¬ nI j0 < (60 : Int32) from nI_nlt (b := 60) (by omega) (by omega)), if_neg c3]
        · rw [if_neg c2, if_neg c2]
    rcases hT0 with ⟨rfl, rfl, d, P, r1, f', ar, ab, hl, hdep, h300⟩ | ⟨rfl, y, ar, as⟩
    · obtain ⟨u2, q1, q2, q3⟩ := read_good hRT ar ab
      have k32 : rd u2 135 32 = nI (nT u) := (q2 135 32 rfl).trans ((rd_wr_ne (by omega)).trans t2)
      have k28 : rd u2 135 28 = nI (nR u) := (q2 135 28 rfl).trans ((rd_wr_ne (by omega)).trans x2)
      have k159 : ∀ i, rd u2 159 i = rd u 159 i := fun i => (q2 159 i rfl).trans (rd_wr_ne (by omega))
      by_cases c60 : nT u ≤ 60
      · rw [if_pos c60] at q1
        obtain ⟨q4, q5⟩ := q3 c60
        have g1 : ag ((52, 2) :: wQ) u u2 := ag_trans (ag_wr (ag_refl _ _) rfl) (ag_sub rfl q2)
        have hR60 : R0.length ≤ 60 := by omega
        -- both keep it
        have both : ∀ (t : Nat) (X : List Int32) (tl : List Int32) (u3 v1 : xS) (j : Nat), t ≤ 10 → X = tl ++ R0 → tl.length ≤ 1 → X = (if decide (a1 = 1) = true then [(-300 : Int32)] else []) ++ R0 → f_X10_keep (nI t) 55 (nI X.length) u2 = some u3 → (∀ i, i < X.length → rd u3 (60 + t) i = rd u2 55 i) → rd u3 71 t = nI X.length → (∀ c j, ¬ c = 60 + t → ¬ (c = 71 ∧ j = t) → rd u3 c j = rd u2 c j) → ∀ w3 : xS, (∀ c j, ¬ (c = 58 ∧ j = 5) → rd w3 c j = rd u3 c j) → RM (W0 w3) j R0 v1 → ∃ vz, f_X12_text_167 xN a1 (nI t) 0 v1 = f_X12_text_254 a1 (nI (nR u)) (if a1 = 1 then 1 else 0) vz ∧ ag wU u vz ∧ rd vz 52 1 = 0 ∧ rd vz 135 32 = 0 ∧ rd vz 135 28 = nI (nR u) ∧ rd vz 58 5 = rd w3 58 5 ∧ (∀ t', t' ≤ 10 → ¬ t' = t → SM t' u vz) ∧ i_X1 vz t R0.reverse ∧ (∀ k m, tl.reverse[k]? = some m → rd vz (60 + t) (R0.length + k) = em m) ∧ rd vz 71 t = nI X.length ∧ rd vz 154 t = 1 := by
          intro t X tl u3 v1 j ht hX1 htl hX2 e3 k1 k2 k3 w3 hw M
          obtain ⟨vz, z1, z2, z3, z4, z5, z6, z7, z8, z9⟩ := store12 (a1 := a1) ht hR60 M
          have ew : ∀ c i, ¬ c = 60 + t → ¬ (c = 71 ∧ i = t) → ¬ (c = 58 ∧ i = 5) → rd w3 c i = rd u2 c i := fun c i p1 p2 p3 => (hw c i p3).trans (k3 c i p1 p2)
          have e28 : rd w3 135 28 = nI (nR u) := (ew 135 28 (by omega) (by omega) (by omega)).trans k28
          rw [e28] at z1
          have hS : sk u2 55 0 (X.map em) := by rw [hX2]; exact q5
          have gU : ag wU u vz := fun c i hc => by
            have n154 := ne_W 154 (fun _ => rfl) hc
            have n155 := ne_W 155 (fun _ => rfl) hc
            have n156 := ne_W 156 (fun _ => rfl) hc
            have n71 := ne_W 71 (fun _ => rfl) hc
            have n60 : ¬ c = 60 + t := fun e => by rw [e, lc_60 (by omega)] at hc; revert hc; decide
            have n58 : ¬ (c = 58 ∧ i = 5) := fun e => by rw [e.1, e.2] at hc; revert hc; decide
            have hu : rd u2 c i = rd u c i := (ag_sub rfl g1 : ag wU u u2) c i hc
            by_cases c135 : c = 135
            · subst c135
              rw [z3 i (fun e => by rw [e] at hc; revert hc; decide) (fun e => by rw [e] at hc; revert hc; decide) (fun e => by rw [e] at hc; revert hc; decide) (fun e => by rw [e] at hc; revert hc; decide), ew 135 i n60 (by omega) (by omega)]
              exact hu
            · rw [z2 c i c135 n154 n155 n156, ew c i n60 (fun e => n71 e.1) n58]
              exact hu
          have hx := X1_new (vz := vz) (u3 := u3) (t := t) (X := X) (R := R0) (tl := tl.reverse) (by rw [hX1, List.reverse_append]) hR60 hS k1 (fun i => (z2 _ i (by omega) (by omega) (by omega) (by omega)).trans (hw _ i (by omega))) z5 z8
          refine ⟨vz, z1, gU, ?_, z4, (z3 28 (by omega) (by omega) (by omega) (by omega)).trans e28, z2 58 5 (by decide) (by decide) (by decide) (by decide), fun t' h' hn => ⟨fun i hi => ?_, ?_, ?_, ?_, fun i => ?_⟩, hx.1, hx.2, ?_, z9⟩
          · rw [z2 52 1 (by decide) (by decide) (by decide) (by decide), ew 52 1 (by omega) (by omega) (by omega), q2 52 1 rfl, rd_wr, if_pos rfl, if_pos rfl]
          · rw [z6 _ (by omega) (by omega), ew 155 _ (by omega) (by omega) (by omega)]
            exact g1 155 _ rfl
          · rw [(z7 t' h' hn).1, ew 156 _ (by omega) (by omega) (by omega)]
            exact g1 156 _ rfl
          · rw [z2 71 t' (by decide) (by decide) (by decide) (by decide), ew 71 _ (by omega) (by omega) (by omega)]
            exact g1 71 _ rfl
          · rw [(z7 t' h' hn).2, ew 154 _ (by omega) (by omega) (by omega)]
            exact g1 154 _ rfl
          · rw [z2 (60 + t') i (by omega) (by omega) (by omega) (by omega), ew (60 + t') _ (by omega) (by omega) (by omega)]
            exact g1 (60 + t') i (by rw [lc_60 (by omega)]; rfl)
          · rw [z2 71 t (by decide) (by decide) (by decide) (by decide), hw 71 t (by omega)]
            exact k2
        have m1n : ¬ (-1 : Int32) = 0 := by decide
        by_cases c1 : a1 = 1
        · have hR6 : nR u < 6 := by
            rcases hK with h | h | h
            · rw [c1] at h; exact absurd h.1 (by decide)
            · rw [c1] at h; exact absurd h (by decide)
            · exact h.2
          rw [decide_eq_true c1] at q1 q4 e11 h300
          rw [if_pos rfl] at q4
          have hXl : ([(-300 : Int32)] ++ R0).length = R0.length + 1 := rfl
          obtain ⟨u3, k0, k1, k2, k3⟩ := keep_ok (u := u2) (t := 4 + nR u) (L := ([(-300 : Int32)] ++ R0).length) (by omega) (by rw [hXl]; omega)
          have k58 : rd u3 58 5 = nI (nR u) := (k3 58 5 (by omega) (by omega)).trans ((g1 58 5 rfl).trans x1)
          have n58 : rd u2 58 5 = nI (nR u) := (g1 58 5 rfl).trans x1
          obtain ⟨v1, j, R, e12, M, -, hRR⟩ := ref (wr u3 58 5 (nI (nR u + 1))) ((rd_wr_ne (by omega)).trans ((k3 135 32 (by omega) (by omega)).trans k32)) ((rd_wr_ne (by omega)).trans ((k3 135 28 (by omega) (by omega)).trans k28)) (fun i => (rd_wr_ne (by omega)).trans ((k3 159 i (by omega) (by omega)).trans (k159 i)))
          have eRR := hRR rfl
          subst eRR
          obtain ⟨vz, z1, z2, z3, z4, z5, z6, z7, z8, z9, z10, z11⟩ := both (4 + nR u) ([(-300 : Int32)] ++ R) [-300] u3 v1 j (by omega) rfl (Nat.le_refl _) (by rw [decide_eq_true c1, if_pos rfl]) k0 k1 k2 k3 _ (fun c i hn => rd_wr_ne hn) M
          have hcell := z9 0 (-300) rfl
          rw [Nat.add_zero] at hcell
          have hlr : R.reverse.length = R.length := List.length_reverse
          refine ⟨nI (nR u), wr u3 58 5 (nI (nR u + 1)), wr vz 135 28 (nI (nR u + 1)), ?_, ?_, ?_⟩
          · rw [e11, f_X11_text_86, q1, Option.bind_some]
            dsimp only
            rw [if_pos rfl, if_pos c1, f_X10_addRecipe, n58, if_pos (show nI (nR u) < (6 : Int32) from nI_lt (b := 6) hR6 (by omega)), q4, show (4 : Int32) + nI (nR u) = nI (4 + nR u) from nI_add 4 _, k0, Option.bind_some, k58, nI_1, Option.bind_some]
          · rw [e12, if_pos c60, f_X12_text_126, if_neg (by decide), if_neg (by rw [c1]; decide), if_pos c1, f_X12_text_162, show rd v1 135 28 = nI (nR u) from (M.1 135 28 (by omega) (by omega) (by omega)).trans ((W0_ag _ 135 28 rfl).trans ((rd_wr_ne (by omega)).trans ((k3 135 28 (by omega) (by omega)).trans k28))), show (4 : Int32) + nI (nR u) = nI (4 + nR u) from nI_add 4 _, z1, if_pos c1, f_X12_text_254, if_pos c1, show f_X12_truth 1 = 1 from rfl, nI_1, nI_pred]
          · refine Inv_text hI (ag_wr z2 rfl) ((rd_wr_ne (by omega)).trans z3) ((rd_wr_ne (by omega)).trans z4) (X_add hI.X hR6 ?_ rfl (fun t' h' hn => ?_) (l := R.reverse) ?_ ?_ ?_ ?_)
            · rw [rd_wr_ne (by omega), z6, rd_wr, if_pos rfl, if_pos rfl]
            · obtain ⟨s1, s2, s3, s4, s5⟩ := z7 t' h' hn
              exact ⟨fun i hi => (rd_wr_ne (by omega)).trans (s1 i hi), (rd_wr_ne (by omega)).trans s2, (rd_wr_ne (by omega)).trans s3, (rd_wr_ne (by omega)).trans s4, fun i => (rd_wr_ne (by omega)).trans (s5 i)⟩
            · obtain ⟨s1, s2, s3⟩ := z8
              exact ⟨s1, (rd_wr_ne (by omega)).trans s2, fun i m hm => ⟨(rd_wr_ne (by omega)).trans (s3 i m hm).1, (rd_wr_ne (by omega)).trans (s3 i m hm).2⟩⟩
            · rw [rd_wr_ne (by omega), z10, hlr]
              rfl
            · rw [rd_wr_ne (by omega), hlr, hcell]
              decide
            · rw [hdep]
              decide
        · obtain ⟨t, ht, ecl, ert⟩ : ∃ t, (t < 4 ∨ t = 10) ∧ (∀ w, (if a1 = 1 then (f_X10_addRecipe 55 (rd w 54 1) w).bind fun q10 => some (q10.1, q10.2) else if a1 = 0 then f_X11_text_143 a2 w else f_X11_text_143 10 w) = f_X11_text_143 (nI t) w) ∧ ∀ w, f_X12_text_126 a1 a2 1 w = f_X12_text_162 a1 (nI t) w := by
            by_cases c0 : a1 = 0
            · have hK2 : 0 ≤ a2 ∧ a2 ≤ 3 := by
                rcases hK with h | h | h
                · exact h.2
                · rw [c0] at h; exact absurd h (by decide)
                · exact absurd h.1 c1
              obtain ⟨t, ht, rfl⟩ := nI_ixl (S := 3) (by omega) hK2.1 hK2.2
              exact ⟨t, Or.inl (by omega), fun w => by rw [if_neg c1, if_pos c0], fun w => by rw [f_X12_text_126, if_neg (by decide), if_pos c0]⟩
            · exact ⟨10, Or.inr rfl, fun w => by rw [if_neg c1, if_neg c0]; rfl, fun w => by rw [f_X12_text_126, if_neg (by decide), if_neg c0, if_neg c1]; rfl⟩
          rw [decide_eq_false c1] at q1 q4 e11 h300
          rw [if_neg (by decide), List.nil_append] at q4
          obtain ⟨u3, k0, k1, k2, k3⟩ := keep_ok (u := u2) (t := t) (L := R0.length) (by omega) (by omega)
          obtain ⟨v1, j, R, e12, M, -, hRR⟩ := ref u3 ((k3 135 32 (by omega) (by omega)).trans k32) ((k3 135 28 (by omega) (by omega)).trans k28) (fun i => (k3 159 i (by omega) (by omega)).trans (k159 i))
          have eRR := hRR rfl
          subst eRR
          obtain ⟨vz, z1, z2, z3, z4, z5, z6, z7, z8, z9, z10, z11⟩ := both t R [] u3 v1 j (by omega) rfl (Nat.zero_le _) (by rw [decide_eq_false c1, if_neg (by decide), List.nil_append]) k0 k1 k2 k3 u3 (fun c i hn => rfl) M
          have hlr : R.reverse.length = R.length := List.length_reverse
          refine ⟨0, u3, wr vz 135 28 (nI (nR u)), ?_, ?_, ?_⟩
          · rw [e11, f_X11_text_86, q1, Option.bind_some]
            dsimp only
            rw [if_pos rfl, ecl, f_X11_text_143, q4, k0, Option.bind_some]
          · rw [e12, if_pos c60, ert, f_X12_text_162, z1, if_neg c1, f_X12_text_254, if_neg c1, show f_X12_truth 0 = 0 from rfl, Int32.add_zero]
          · refine Inv_text hI (ag_wr z2 rfl) ((rd_wr_ne (by omega)).trans z3) ((rd_wr_ne (by omega)).trans z4) (X_put hI.X ht ?_ ?_ (fun t' h' hn => ?_) (l := R.reverse) ?_ ?_ ?_ ?_ ?_)
            · rw [rd_wr_ne (by omega), z6, k3 58 5 (by omega) (by omega)]
              exact g1 58 5 rfl
            · rw [rd_wr, if_pos rfl, if_pos rfl, x2]
            · obtain ⟨s1, s2, s3, s4, s5⟩ := z7 t' h' hn
              exact ⟨fun i hi => (rd_wr_ne (by omega)).trans (s1 i hi), (rd_wr_ne (by omega)).trans s2, (rd_wr_ne (by omega)).trans s3, (rd_wr_ne (by omega)).trans s4, fun i => (rd_wr_ne (by omega)).trans (s5 i)⟩
            · obtain ⟨s1, s2, s3⟩ := z8
              exact ⟨s1, (rd_wr_ne (by omega)).trans s2, fun i m hm => ⟨(rd_wr_ne (by omega)).trans (s3 i m hm).1, (rd_wr_ne (by omega)).trans (s3 i m hm).2⟩⟩
            · rw [rd_wr_ne (by omega), z10, hlr]
            · exact fun z => h300 rfl (List.mem_reverse.mp z)
            · rw [rd_wr_ne (by omega)]
              exact z11
            · have := hdep []
              rw [List.append_nil] at this
              exact this
      · rw [if_neg c60] at q1
        obtain ⟨v1, j, R, e12, M, -, -⟩ := ref u2 k32 k28 k159
        refine ⟨-61, u2, v1, ?_, ?_, Inv_fail hI q2 M⟩
        · rw [e11, f_X11_text_86, q1, Option.bind_some]
          dsimp only
          rw [if_neg (by decide)]
          rfl
        · rw [e12, if_neg c60, if_neg (by decide)]
    · obtain ⟨u2, q1, q2⟩ := read_bad hRT hj0 ar as
      have k32 : rd u2 135 32 = nI (nT u) := (q2 135 32 rfl).trans ((rd_wr_ne (by omega)).trans t2)
      have k28 : rd u2 135 28 = nI (nR u) := (q2 135 28 rfl).trans ((rd_wr_ne (by omega)).trans x2)
      have k159 : ∀ i, rd u2 159 i = rd u 159 i := fun i => (q2 159 i rfl).trans (rd_wr_ne (by omega))
      obtain ⟨v1, j, R, e12, M, ej, -⟩ := ref u2 k32 k28 k159
      subst ej
      have hne : ¬ nI j = (-1 : Int32) := fun z => by
        have : (0 : Int32) ≤ nI j := nI_lo (by omega)
        rw [z] at this
        exact absurd this (by decide)
      have e126 : f_X12_text_126 a1 a2 0 v1 = some ((-1 : Int32) - nI j, v1) := by
        rw [f_X12_text_126, if_pos rfl, M.2.1]
      refine ⟨(-1 : Int32) - nI j, u2, v1, ?_, ?_, Inv_fail hI q2 M⟩
      · rw [e11, f_X11_text_86, q1, Option.bind_some]
        dsimp only
        rw [if_neg hne]
      · rw [e12, if_pos rfl, e126]
        by_cases c60 : nT u ≤ 60
        · rw [if_pos c60]
        · rw [if_neg c60]
          by_cases c3 : j < 60
          · rw [if_pos c3]
          · rw [if_neg c3, show j = 60 by omega]
            rfl
  · have e11 := c11_text (a1 := a1) (a2 := a2) t1 x1 x3
    rw [if_neg hK] at e11
    refine ⟨-100, wr u 52 1 0, wr (wr (wr u 52 1 0) 135 0 0) 135 32 0, e11, ?_, ?_⟩
    · rw [c12_text (u := u) (v := wr u 52 1 0) t3 ((rd_wr_ne (by omega)).trans t2) ((rd_wr_ne (by omega)).trans x2) x3, if_neg hK]
    · exact Inv_text hI (ag_wr (ag_wr (ag_wr (ag_refl _ _) rfl) rfl) rfl) rfl rfl (fr_X (ag_sm (ag_wr (ag_wr (ag_wr (ag_refl [(52, 2), (135, 1), (135, 33)] _) rfl) rfl) rfl) rfl) hI.X)
end ST
