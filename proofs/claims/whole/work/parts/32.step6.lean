/-! GIVES, EYE, MET, SPLIT -/
theorem lN_div {a b : Nat} (ha : a < 2147483648) (hb0 : 0 < b) (hb : b < 2147483648) : lN a / lN b = lN (a / b) := by
  have h1 : a / b ≤ a := Nat.div_le_self a b
  apply Int64.toInt_inj.mp
  rw [Int64.toInt_div, lN_toInt (by omega), lN_toInt (by omega), ← Int.ofNat_tdiv]
  obtain ⟨q, hq⟩ : ∃ q, q = a / b := ⟨_, rfl⟩
  rw [← hq] at h1 ⊢
  rw [lN_toInt (by omega), Int.bmod_eq_of_le (by omega) (by omega)]
theorem inT {a b : Nat} (ha : a * 1000 < 2147483648) (hb0 : 0 < b) (hb : b < 2147483648) : f_X11_inThousand (nI a) (nI b) = some (nI (a * 1000 / b)) := by
  unfold f_X11_inThousand
  rw [if_neg (nI_nle hb0 hb), nI_l (by omega), nI_l (by omega)]
  have h : xnzJ (lN b) = true := by
    unfold xnzJ
    apply decide_eq_true
    intro h
    have := (lN_eq (a := b) (b := 0) (by omega) (by omega)).mp h
    omega
  rw [h, gd_t, show (1000 : Int64) = lN 1000 from rfl, lN_mul, lN_div ha hb0 hb, lN_i]
/-! what a land gives -/
def gv (u : xS) (l i : Nat) : Int32 := if rd u 172 (16 * l + nv (rd u 174 i)) < 0 ∨ rd u 172 (16 * l + nv (rd u 176 i)) < 0 then -2 else rd u 172 (16 * l + nv (rd u 174 i)) * rd u 175 i + rd u 172 (16 * l + nv (rd u 176 i)) * rd u 177 i
theorem c12_given {u : xS} (hA : i_A u) {l i : Nat} (hl : l < 4) (hi : i < nQ u) : f_X12_given u (nI l) (nI i) = some (gv u l i) := by
  obtain ⟨q1, q2, q3, q4, q5⟩ := hA
  obtain ⟨-, -, -, -, s, p, o, q, hs, hp, ho, hq, hqo, z1, z2, z3, z4⟩ := q5 i hi
  unfold gv
  simp (disch := omega) only [f_X12_given, f_X12_given_44, z1, z2, z3, z4, l_16, pk_mul, nI_add, gd_nI, nI_cl, nv_nI]
  by_cases h1 : rd u 172 (16 * l + s) < 0
  · rw [if_pos h1, if_pos (Or.inl h1)]
  · by_cases h2 : rd u 172 (16 * l + o) < 0
    · rw [if_neg h1, if_neg (fun h => absurd h2 (Int32.not_lt.mpr h)), if_pos (Or.inr h2)]
    · rw [if_neg h1, if_pos (Int32.not_lt.mp h2), if_neg (fun h => h.elim h1 h2)]
theorem m1_lt0 : (-1 : Int32) < 0 := by decide
theorem c11_given {u : xS} (hA : i_A u) {l i : Nat} (hl : l < 4) (hi : i < nQ u) : f_X4_given u (nI l) (nI i) = some (gv u l i) := by
  obtain ⟨q1, q2, q3, q4, q5⟩ := hA
  obtain ⟨y1, y2, y3, y4, s, p, o, q, hs, hp, ho, hq, hqo, z1, z2, z3, z4⟩ := q5 i hi
  obtain ⟨e1, w1⟩ := (q4 l hl).2.2.2 s hs
  obtain ⟨e2, w2⟩ := (q4 l hl).2.2.2 o ho
  unfold gv
  simp (disch := omega) only [f_X4_given, f_X4_given_40, f_X4_given_53, y1, y2, y3, y4, z1, z2, z3, z4, gd_nI, nI_cl, nv_nI, e1, e2]
  by_cases hq0 : q = 0
  · have hos := hqo hq0
    subst hq0 hos
    rw [nI_zero, if_pos rfl]
    rcases w1 with w1 | ⟨v, hv, w1⟩
    · rw [w1, if_pos rfl, if_pos (Or.inl m1_lt0)]
    · have h1 : ¬ nI v = -1 := by
        intro h
        have := nI_lo (n := v) (by omega)
        rw [h] at this
        exact absurd this (by decide)
      rw [w1, if_neg h1, if_neg (show ¬ (0 : Int32) = -1 by decide), if_neg (fun h => h.elim (nI_pos (by omega)) (nI_pos (by omega)))]
      simp
  · rw [if_neg (nI_ne0 (by omega) (by omega))]
    rcases w1 with w1 | ⟨v, hv, w1⟩
    · rw [w1, if_pos rfl, if_pos (Or.inl m1_lt0)]
    · have h1 : ¬ nI v = -1 := by
        intro h
        have := nI_lo (n := v) (by omega)
        rw [h] at this
        exact absurd this (by decide)
      rcases w2 with w2 | ⟨v2, hv2, w2⟩
      · rw [w1, w2, if_neg h1, if_pos rfl, if_pos (Or.inr m1_lt0)]
      · have h2 : ¬ nI v2 = -1 := by
          intro h
          have := nI_lo (n := v2) (by omega)
          rw [h] at this
          exact absurd this (by decide)
        rw [w1, w2, if_neg h1, if_neg h2, if_neg (fun h => h.elim (nI_pos (by omega)) (nI_pos (by omega)))]
theorem s_gives : xS_gives Inv := by
  intro u a1 a2 hI
  apply st_P
  have hJ := Inv_thr hI
  obtain ⟨q1, q2, q3, -⟩ := hI.A
  simp (disch := omega) only [f_X11_gives, f_X11_isLand, lies_eq, hasQ q1, f_X12_gives, f_X12_isLand, L_3, inN q2, ite_10]
  rw [L_0, in_eq, ite_10]
  by_cases h1 : 0 ≤ a1 ∧ a1 ≤ 3
  · by_cases h2 : 0 ≤ a2 ∧ a2 < nI (nQ u)
    · obtain ⟨l, hl, rfl⟩ := nI_ixl (S := 3) (by omega) h1.1 h1.2
      obtain ⟨i, hi, rfl⟩ := nI_ix (by omega) h2.1 h2.2
      simp only [if_pos h1, if_pos h2, c11_given hI.A (show l < 4 by omega) hi, c12_given hJ.A (show l < 4 by omega) (show i < nQ (wr u 135 0 0) from hi), Option.bind_some, ok_some]
      exact ⟨rfl, hJ⟩
    · simp only [if_pos h1, if_neg h2, ok_some]
      exact ⟨trivial, hJ⟩
  · simp only [if_neg h1, ok_some]
    exact ⟨trivial, hJ⟩
/-! doubles -/
abbrev alp (u : xS) (a b : Int32) (i : Nat) : Prop := (rd u 167 i = a ∧ (b = -1 ∨ rd u 168 i = b)) ∨ (rd u 168 i = a ∧ (b = -1 ∨ rd u 167 i = b))
def alf (u : xS) (a b : Int32) (i : Nat) (p : Nat × Nat) : Nat × Nat := if alp u a b i then (p.1 + 1, p.2 + if rd u 169 i = rd u 170 i then 1 else 0) else p
def alk (u : xS) (a b : Int32) : Int32 := if (it (alf u a b) (0, 0) (nD u)).1 = 0 then -1 else nI ((it (alf u a b) (0, 0) (nD u)).2 * 1000 / (it (alf u a b) (0, 0) (nD u)).1)
theorem alf_P {u : xS} {a b : Int32} {i : Nat} {p : Nat × Nat} (h : p.1 ≤ i ∧ p.2 ≤ p.1) : (alf u a b i p).1 ≤ i + 1 ∧ (alf u a b i p).2 ≤ (alf u a b i p).1 := by
  unfold alf
  by_cases c : alp u a b i
  · rw [if_pos c]
    dsimp only
    by_cases e : rd u 169 i = rd u 170 i
    · rw [if_pos e]; omega
    · rw [if_neg e]; omega
  · rw [if_neg c]; omega
theorem al_exit {u : xS} {D : Nat} {p : Nat × Nat} (hD : D ≤ 99) (h : p.1 ≤ D ∧ p.2 ≤ p.1) (hn : ¬ p.1 = 0) : ¬ nI p.1 = 0 ∧ (nI p.2 * 1000) / nI p.1 = nI (p.2 * 1000 / p.1) ∧ f_X11_inThousand (nI p.2) (nI p.1) = some (nI (p.2 * 1000 / p.1)) := by
  refine ⟨nI_ne0 (by omega) (by omega), ?_, inT (by omega) (by omega) (by omega)⟩
  rw [l_1000, pk_mul, pk_div (by omega) (by omega) (by omega)]
theorem l_12_71 {k : Int32 → Int32 → Int32 → Int32 → Int32 → Option Int32} {u : xS} {a b v3 v4 : Int32} {i : Nat} (hi : i < 99) : f_X12_alike_71 k u a b v3 v4 (nI i) = k a b (v3 + 1) (v4 + if rd u 169 i = rd u 170 i then 1 else 0) (nI (i + 1)) := by
  simp (disch := omega) only [f_X12_alike_71, f_X12_alike_76, f_X12_alike_114, f_X12_alike_115, f_X12_truth, gd_nI, nI_cl, nI_1]
  by_cases c : rd u 169 i = rd u 170 i
  · simp [c]
  · simp [c]
theorem l_12_44 {k : Int32 → Int32 → Int32 → Int32 → Int32 → Option Int32} {u : xS} {a b v3 v4 : Int32} {i : Nat} (hi : i < 99) : f_X12_alike_44 k u a b v3 v4 (nI i) = if rd u 168 i = a ∧ (b = -1 ∨ rd u 167 i = b) then k a b (v3 + 1) (v4 + if rd u 169 i = rd u 170 i then 1 else 0) (nI (i + 1)) else k a b v3 v4 (nI (i + 1)) := by
  have e75 : f_X12_alike_75 k u a b v3 v4 (nI i) = k a b v3 v4 (nI (i + 1)) := by
    simp [f_X12_alike_75, f_X12_alike_76, f_X12_alike_114, f_X12_alike_115, f_X12_truth, nI_1]
  rw [f_X12_alike_44, gd_nI hi (by omega), nI_cl (by omega), l_12_71 hi, e75]
  by_cases c1 : rd u 168 i = a
  · by_cases c2 : b = -1
    · rw [if_pos c1, if_pos c2, if_pos (show rd u 168 i = a ∧ (b = -1 ∨ rd u 167 i = b) from ⟨c1, Or.inl c2⟩)]
    · by_cases c3 : rd u 167 i = b
      · rw [if_pos c1, if_neg c2, if_pos c3, if_pos (show rd u 168 i = a ∧ (b = -1 ∨ rd u 167 i = b) from ⟨c1, Or.inr c3⟩)]
      · rw [if_pos c1, if_neg c2, if_neg c3, if_neg (fun h => h.2.elim c2 c3)]
  · rw [if_neg c1, if_neg (fun h => c1 h.1)]
theorem l_al {c1 c2 : Prop} [Decidable c1] [Decidable c2] {d3 : Decidable (c1 ∨ c2)} {α : Type} {x y : α} : (if c1 then x else if c2 then x else y) = @ite α (c1 ∨ c2) d3 x y := by
  by_cases h1 : c1
  · rw [if_pos h1, if_pos (Or.inl h1)]
  · by_cases h2 : c2
    · rw [if_neg h1, if_pos h2, if_pos (Or.inr h2)]
    · rw [if_neg h1, if_neg h2, if_neg (fun h => h.elim h1 h2)]
theorem al_step {k : Int32 → Int32 → Int32 → Int32 → Int32 → Option Int32} {u : xS} {a b : Int32} {i : Nat} {p : Nat × Nat} : (if alp u a b i then k a b (nI p.1 + 1) (nI p.2 + if rd u 169 i = rd u 170 i then 1 else 0) (nI (i + 1)) else k a b (nI p.1) (nI p.2) (nI (i + 1))) = k a b (nI (alf u a b i p).1) (nI (alf u a b i p).2) (nI (i + 1)) := by
  unfold alf
  by_cases c : alp u a b i
  · rw [if_pos c, if_pos c]
    by_cases e : rd u 169 i = rd u 170 i
    · simp only [if_pos e, nI_1]
    · simp only [if_neg e, nI_1, Int32.add_zero, Nat.add_zero]
  · rw [if_neg c, if_neg c]
theorem c12_alike {u : xS} (hD : i_D u) (a b : Int32) : f_X12_alike u a b = some (alk u a b) := by
  obtain ⟨d1, d2, d3, d4⟩ := hD
  refine it_loopP (F := fun N i p => f_X12_alike_8 u N a b (nI p.1) (nI p.2) (nI i)) (a := (0, 0)) (alf u a b) (fun i p => p.1 ≤ i ∧ p.2 ≤ p.1) (fun p => some (if p.1 = 0 then -1 else nI (p.2 * 1000 / p.1))) ⟨Nat.le_refl _, Nat.le_refl _⟩ (fun i p _ h => alf_P h) (fun n i p hi h => ?_) (fun n p h => ?_) (xN_lt (by omega))
  · rw [f_X12_alike_8, d2, ite_nle hi (by omega), gd_nI (by omega) (by omega), nI_cl (by omega), l_12_71 (by omega), l_12_44 (by omega), ← al_step (k := f_X12_alike_8 u n)]
    by_cases c1 : rd u 167 i = a
    · by_cases c2 : b = -1
      · rw [if_pos c1, if_pos c2, if_pos (show alp u a b i from Or.inl ⟨c1, Or.inl c2⟩)]
      · by_cases c3 : rd u 168 i = b
        · rw [if_pos c1, if_neg c2, if_pos c3, if_pos (show alp u a b i from Or.inl ⟨c1, Or.inr c3⟩)]
        · rw [if_pos c1, if_neg c2, if_neg c3, ← l_al (c1 := rd u 167 i = a ∧ (b = -1 ∨ rd u 168 i = b)), if_neg (fun h : rd u 167 i = a ∧ (b = -1 ∨ rd u 168 i = b) => h.2.elim c2 c3)]
    · rw [if_neg c1, ← l_al (c1 := rd u 167 i = a ∧ (b = -1 ∨ rd u 168 i = b)), if_neg (fun h : rd u 167 i = a ∧ (b = -1 ∨ rd u 168 i = b) => c1 h.1)]
  · simp (disch := omega) only [f_X12_alike_8, d2, ite_yle]
    by_cases hn : p.1 = 0
    · rw [hn, if_pos nI_zero, if_pos rfl]
    · obtain ⟨e1, e2, e3⟩ := al_exit (u := u) d3 h hn
      rw [if_neg e1, if_neg hn, e2]
      simp [xnz, e1, gd]
theorem c_isOf0 {u : xS} {i : Nat} (hi : i < 99) (a b : Int32) : f_X3_isOf u (nI i) 0 a b = some (if rd u 115 i = a ∧ (b = -1 ∨ rd u 116 i = b) then 1 else 0) := by
  unfold f_X3_isOf f_X3_isOf_33
  rw [show xin (0 : Int32) 2 = true from by decide, gd_t, gd_nI hi (by omega), show (0 : Int32).toNatClampNeg = 0 from rfl, show xin ((1 : Int32) - 0) 2 = true from by decide, show ((1 : Int32) - 0).toNatClampNeg = 1 from by decide, nI_cl (by omega), gd_t]
  by_cases c1 : rd u 115 i = a <;> by_cases c2 : b = -1 <;> by_cases c3 : rd u 116 i = b <;> simp [c1, c2, c3]
theorem c_isOf1 {u : xS} {i : Nat} (hi : i < 99) (a b : Int32) : f_X3_isOf u (nI i) 1 a b = some (if rd u 116 i = a ∧ (b = -1 ∨ rd u 115 i = b) then 1 else 0) := by
  unfold f_X3_isOf f_X3_isOf_33
  rw [show xin (1 : Int32) 2 = true from by decide, gd_t, gd_nI hi (by omega), show (1 : Int32).toNatClampNeg = 1 from rfl, show xin ((1 : Int32) - 1) 2 = true from by decide, show ((1 : Int32) - 1).toNatClampNeg = 0 from by decide, nI_cl (by omega), gd_t]
  by_cases c1 : rd u 116 i = a <;> by_cases c2 : b = -1 <;> by_cases c3 : rd u 115 i = b <;> simp [c1, c2, c3]
theorem c11_alike {u : xS} (hD : i_D u) (a b : Int32) : f_X3_alike u a b = some (alk u a b) := by
  obtain ⟨d1, d2, d3, d4⟩ := hD
  refine it_loopP (F := fun N i p => f_X3_alike_8 u N a b (nI p.1) (nI p.2) (nI i)) (a := (0, 0)) (alf u a b) (fun i p => p.1 ≤ i ∧ p.2 ≤ p.1) (fun p => some (if p.1 = 0 then -1 else nI (p.2 * 1000 / p.1))) ⟨Nat.le_refl _, Nat.le_refl _⟩ (fun i p _ h => alf_P h) (fun n i p hi h => ?_) (fun n p h => ?_) (xN_lt (by omega))
  · obtain ⟨g1, g2, g3, g4, -⟩ := d4 i hi
    have e41 : ∀ v3 v4 : Int32, f_X3_alike_41 (f_X3_alike_8 u n) u a b v3 v4 (nI i) = f_X3_alike_8 u n a b (v3 + 1) (v4 + if rd u 169 i = rd u 170 i then 1 else 0) (nI (i + 1)) := by
      intro v3 v4
      simp (disch := omega) only [f_X3_alike_41, f_X3_alike_72, f_X3_alike_75, gd_nI, nI_cl, nI_1, g3, g4]
      by_cases e : rd u 169 i = rd u 170 i
      · simp only [if_pos e]
      · simp only [if_neg e]
    rw [← al_step (k := f_X3_alike_8 u n), ← l_al]
    simp (disch := omega) only [f_X3_alike_8, c_isOf0 (show i < 99 by omega), c_isOf1 (show i < 99 by omega), e41, f_X3_alike_75, d1, ite_nle, nI_1, Option.bind_some, ite_10, g1, g2]
  · simp (disch := omega) only [f_X3_alike_8, d1, ite_yle]
    by_cases hn : p.1 = 0
    · rw [hn, if_pos nI_zero, if_pos rfl]
    · obtain ⟨e1, e2, e3⟩ := al_exit (u := u) d3 h hn
      rw [if_neg e1, if_neg hn, e3]
      rfl
theorem alk_fr {u u' : xS} (h : sm kD u u') (a b : Int32) : alk u' a b = alk u a b := by
  have q0 : nD u' = nD u := congrArg nv (h 135 46 rfl)
  have q7 : ∀ i, rd u' 167 i = rd u 167 i := fun i => h 167 i rfl
  have q8 : ∀ i, rd u' 168 i = rd u 168 i := fun i => h 168 i rfl
  have q9 : ∀ i, rd u' 169 i = rd u 169 i := fun i => h 169 i rfl
  have q10 : ∀ i, rd u' 170 i = rd u 170 i := fun i => h 170 i rfl
  have e : alf u' a b = alf u a b := by
    funext i p
    simp only [alf, alp, q7, q8, q9, q10]
  simp only [alk, q0, e]
theorem alk_rng {u : xS} (hD : i_D u) (a b : Int32) : alk u a b = -1 ∨ ∃ v, v ≤ 1000 ∧ alk u a b = nI v := by
  have h := it_P (f := alf u a b) (P := fun i p => p.1 ≤ i ∧ p.2 ≤ p.1) (a := ((0 : Nat), (0 : Nat))) (S := nD u) ⟨Nat.le_refl _, Nat.le_refl _⟩ (fun i p _ h => alf_P h) (nD u) (Nat.le_refl _)
  unfold alk
  by_cases hn : (it (alf u a b) (0, 0) (nD u)).1 = 0
  · rw [if_pos hn]
    exact Or.inl rfl
  · rw [if_neg hn]
    refine Or.inr ⟨_, ?_, rfl⟩
    apply Nat.div_le_of_le_mul
    exact Nat.mul_le_mul_right _ h.2
theorem s_eye : xS_eye Inv := by
  intro u a1 hI
  apply st_P
  have hJ := Inv_thr hI
  simp only [f_X11_eye, f_X11_isSorter, lies_eq, f_X12_eye, f_X12_eyeOf, f_X12_isSorter, L_0, L_5, in_eq, ite_10]
  by_cases h1 : 0 ≤ a1 ∧ a1 ≤ 5
  · simp only [if_pos h1, c11_alike hI.D, c12_alike hJ.D, Option.bind_some, ok_some]
    exact ⟨alk_fr (ag_sm (ag_thr u) rfl) a1 (-1), hJ⟩
  · simp only [if_neg h1, ok_some]
    exact ⟨trivial, hJ⟩
theorem alk_self {u : xS} (hD : i_D u) {a : Int32} (ha : 0 ≤ a) : alk u a a = -1 := by
  obtain ⟨d1, d2, d3, d4⟩ := hD
  have h := it_P (f := alf u a a) (P := fun i p => p = ((0 : Nat), (0 : Nat))) (a := ((0 : Nat), (0 : Nat))) (S := nD u) rfl (fun i p hi h => by
    obtain ⟨-, -, -, -, x, y, -, -, hx, hy, hne, -, -, e1, e2, -⟩ := d4 i hi
    have hm : ¬ a = -1 := by
      intro h
      rw [h] at ha
      exact absurd ha (by decide)
    have hn : ¬ alp u a a i := by
      rintro (⟨q1, q2 | q2⟩ | ⟨q1, q2 | q2⟩)
      · exact hm q2
      · rw [e1] at q1
        rw [e2] at q2
        exact hne (nI_inj (by omega) (by omega) (q1.trans q2.symm))
      · exact hm q2
      · rw [e2] at q1
        rw [e1] at q2
        exact hne (nI_inj (by omega) (by omega) (q2.trans q1.symm))
    unfold alf
    rw [if_neg hn]
    exact h) (nD u) (Nat.le_refl _)
  unfold alk
  rw [h, if_pos rfl]
theorem s_met : xS_met Inv := by
  intro u a1 a2 hI
  apply st_P
  have hJ := Inv_thr hI
  simp only [f_X11_met, f_X11_isSorter, lies_eq, f_X12_met, f_X12_isSorter, L_0, L_5, in_eq, ite_10]
  by_cases h1 : 0 ≤ a1 ∧ a1 ≤ 5
  · by_cases h2 : 0 ≤ a2 ∧ a2 ≤ 5
    · simp only [if_pos h1, if_pos h2, c11_alike hI.D, c12_alike hJ.D, Option.bind_some, ok_some]
      by_cases h3 : a1 = a2
      · rw [if_pos h3, ok_some, h3, alk_self hI.D h2.1]
        exact ⟨rfl, hJ⟩
      · rw [if_neg h3, ok_some]
        exact ⟨alk_fr (ag_sm (ag_thr u) rfl) a1 a2, hJ⟩
    · simp only [if_pos h1, if_neg h2, ok_some]
      exact ⟨trivial, hJ⟩
  · simp only [if_neg h1, ok_some]
    exact ⟨trivial, hJ⟩
/-! split -/
theorem cmp_0 (x : Int64) : lg_cmp x 0 = 0 ↔ x = 0 := by
  unfold lg_cmp
  by_cases h1 : x > 0
  · rw [if_pos h1]
    constructor
    · intro h
      exact absurd h (by decide)
    · intro h
      rw [h] at h1
      exact absurd h1 (by decide)
  · rw [if_neg h1]
    by_cases h2 : x = 0
    · rw [if_pos h2]
      exact ⟨fun _ => h2, fun _ => rfl⟩
    · rw [if_neg h2]
      constructor
      · intro h
        exact absurd h (by decide)
      · intro h
        exact absurd h h2
/-- what a sort had in all bales -/
def hao (u : xS) (s : Nat) : Int32 := isum (fun b => rd u 146 (24 * s + b)) (nB u)
theorem c_hao {u : xS} (hB : i_B u) (hH : i_H u) {s : Nat} (hs : s < 16) : f_X0_everOf u (nI s) = some (hao u s) ∧ f_X12_hadOf u (nI s) = some (hao u s) := by
  have b3 := hB.2.2.1
  refine ⟨?_, c_hadOf hB.2.1 b3 hs⟩
  rw [c_everOf hB.1 b3 hs]
  exact congrArg some (isum_congr fun b hb => (hH.1 b s (by omega) hs).1)
def spF (u : xS) (a : Int32) : Int64 := it (fun s x => if rd u 136 (7 * s + 6) = a then x + (hao u s).toInt64 else x) (0 : Int64) (nS u)
def spP (u : xS) (a w : Int32) (p : Int32) : Int64 := it (fun s x => if rd u 136 (7 * s + 6) = a then x + ((p.toInt64 * (hao u s).toInt64) / spF u a) * (prc u (nI s) w).toInt64 else x) ((-p.toInt64) * (prc u a w).toInt64) (nS u)
theorem c11_split {u : xS} (hI : Inv u) {s : Nat} (hs : s < nS u) (w : Int32) : f_X11_split_31 xN (nI s) w 0 0 u = some (if spF u (nI s) = 0 then none else some (spP u (nI s) w (sto u s)).toInt32, u) := by
  obtain ⟨s1, s2, s3, s4⟩ := hI.S
  have hx : f_X11_split_31 xN (nI s) w 0 0 u = (fun v3 => if v3 = 0 then some (none, u) else f_X11_split_120 xN (nI s) w v3 (sto u s) ((-(sto u s).toInt64) * (prc u (nI s) w).toInt64) 0 u) (spF u (nI s)) := by
    refine it_loop (S := nS u) (a := (0 : Int64)) (F := fun N i x => f_X11_split_31 N (nI s) w x (nI i) u) (fun s' x => if rd u 136 (7 * s' + 6) = nI s then x + (hao u s').toInt64 else x) (fun v3 => if v3 = 0 then some (none, u) else f_X11_split_120 xN (nI s) w v3 (sto u s) ((-(sto u s).toInt64) * (prc u (nI s) w).toInt64) 0 u) (fun n i x hi => ?_) (fun n x => ?_) (xN_lt (by omega))
    · simp (disch := omega) only [f_X11_split_31, f_X11_split_70, s1, ite_nle, gd_nI, nI_cl, nI_1, (s4 i hi).2.1, (c_hao hI.B hI.H (show i < 16 by omega)).1, Option.bind_some]
      by_cases c : rd u 136 (7 * i + 6) = nI s
      · rw [if_pos c, if_pos c]
      · rw [if_neg c, if_neg c]
    · simp (disch := omega) only [f_X11_split_31, s1, ite_yle, cmp_0, c_ofSort hI.L hI.H hI.B (show s < 16 by omega), (c_price hI.P (nI s) w).1, Option.bind_some]
  rw [hx]
  by_cases hz : spF u (nI s) = 0
  · simp only [if_pos hz]
  · simp only [if_neg hz]
    refine it_loop (F := fun N i x => f_X11_split_120 N (nI s) w (spF u (nI s)) (sto u s) x (nI i) u) _ (fun x => some (some x.toInt32, u)) (fun n i x hi => ?_) (fun n x => by simp (disch := omega) only [f_X11_split_120, s1, ite_yle]) (xN_lt (by omega))
    have hg : xnzJ (spF u (nI s)) = true := decide_eq_true hz
    simp (disch := omega) only [f_X11_split_120, f_X11_split_179, s1, ite_nle, gd_nI, nI_cl, nI_1, (s4 i hi).2.1, (c_hao hI.B hI.H (show i < 16 by omega)).1, (c_price hI.P (nI i) w).1, Option.bind_some, hg, gd_t]
    by_cases c : rd u 136 (7 * i + 6) = nI s
    · rw [if_pos c, if_pos c]
    · rw [if_neg c, if_neg c]
theorem c12_split {u : xS} (hI : Inv u) {s : Nat} (hs : s < nS u) (w : Int32) : f_X12_split_30 xN (nI s) w 0 0 u = if spF u (nI s) = 0 then some (0, wr u 135 0 1) else some ((spP u (nI s) w (sto u s)).toInt32, u) := by
  obtain ⟨s1, s2, s3, s4⟩ := hI.S
  have hx : f_X12_split_30 xN (nI s) w 0 0 u = (fun v3 => if v3 = 0 then some (0, wr u 135 0 1) else f_X12_split_104 xN (nI s) w v3 (sto u s).toInt64 ((-(sto u s).toInt64) * (prc u (nI s) w).toInt64) 0 u) (spF u (nI s)) := by
    refine it_loop (S := nS u) (a := (0 : Int64)) (F := fun N i x => f_X12_split_30 N (nI s) w x (nI i) u) (fun s' x => if rd u 136 (7 * s' + 6) = nI s then x + (hao u s').toInt64 else x) (fun v3 => if v3 = 0 then some (0, wr u 135 0 1) else f_X12_split_104 xN (nI s) w v3 (sto u s).toInt64 ((-(sto u s).toInt64) * (prc u (nI s) w).toInt64) 0 u) (fun n i x hi => ?_) (fun n x => ?_) (xN_lt (by omega))
    · simp (disch := omega) only [f_X12_split_30, f_X12_split_61, f_X12_parent, s2, ite_nle, l_7, l_6, pk_mul, nI_add, gd_nI, nI_cl, nI_1, (c_hao hI.B hI.H (show i < 16 by omega)).2, Option.bind_some]
      by_cases c : rd u 136 (7 * i + 6) = nI s
      · rw [if_pos c, if_pos c]
      · rw [if_neg c, if_neg c, Int64.add_zero]
    · simp (disch := omega) only [f_X12_split_30, f_X12_refuse, s2, ite_yle, cmp_0, c_sto hI.B (show s < 16 by omega), (c_price hI.P (nI s) w).2.1, Option.bind_some]
  rw [hx]
  by_cases hz : spF u (nI s) = 0
  · simp only [if_pos hz]
  · simp only [if_neg hz]
    refine it_loop (F := fun N i x => f_X12_split_104 N (nI s) w (spF u (nI s)) (sto u s).toInt64 x (nI i) u) _ (fun x => some (x.toInt32, u)) (fun n i x hi => ?_) (fun n x => by simp (disch := omega) only [f_X12_split_104, s2, ite_yle]) (xN_lt (by omega))
    have hg : xnzJ (spF u (nI s)) = true := decide_eq_true hz
    simp (disch := omega) only [f_X12_split_104, f_X12_split_150, f_X12_parent, s2, ite_nle, l_7, l_6, pk_mul, nI_add, gd_nI, nI_cl, nI_1, (c_hao hI.B hI.H (show i < 16 by omega)).2, (c_price hI.P (nI i) w).2.1, Option.bind_some, hg, gd_t]
    by_cases c : rd u 136 (7 * i + 6) = nI s
    · rw [if_pos c, if_pos c]
    · rw [if_neg c, if_neg c, Int64.add_zero]
