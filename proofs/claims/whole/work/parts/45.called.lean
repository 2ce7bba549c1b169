/-! FILL; CALLED -/
theorem fill_ok {c L : Nat} (hc : xisI c = true) (hL : xlen c = L) (hL2 : L < 1000) (u : xS) : ∃ u', f_J7_fill_53178 c 0 u = some u' ∧ (∀ j, j < L → rd u' c j = 0) ∧ (∀ c' j, ¬ (c' = c ∧ j < L) → rd u' c' j = rd u c' j) := by
  have key : ∀ (N i : Nat) (u' : xS), L < N + i → i ≤ L → (∀ j, j < i → rd u' c j = 0) → (∀ c' j, ¬ (c' = c ∧ j < L) → rd u' c' j = rd u c' j) → ∃ u'', f_J7_fill_53178_5 N c 0 (nI i) (nI L) u' = some u'' ∧ (∀ j, j < L → rd u'' c j = 0) ∧ (∀ c' j, ¬ (c' = c ∧ j < L) → rd u'' c' j = rd u c' j) := by
    intro N
    induction N with
    | zero => intro i u' h1 h2; omega
    | succ N ih =>
      intro i u' h1 h2 h3 h4
      by_cases hi : i = L
      · subst hi
        refine ⟨u', ?_, h3, h4⟩
        simp (disch := omega) only [f_J7_fill_53178_5, ite_yle]
      · simp (disch := omega) only [f_J7_fill_53178_5, ite_nle, hc, gd_t, hL, gd_nI, nI_cl, nI_1]
        refine ih (i + 1) _ (by omega) (by omega) (fun j hj => ?_) (fun c' j hn => ?_)
        · by_cases e : j = i
          · rw [e, rd_wr, if_pos rfl, if_pos rfl]
          · rw [rd_wr_ne (by omega)]
            exact h3 j (by omega)
        · rw [rd_wr_ne (by omega)]
          exact h4 c' j hn
  rw [f_J7_fill_53178, hc, gd_t, hL]
  exact key xN 0 u (xN_lt (by omega)) (by omega) (fun j hj => by omega) (fun _ _ _ => rfl)
theorem cN_s (u : xS) (a x : Int32) (s n : Nat) : cN u a x s (n + 1) = cN u a x s n + (cA u a x (nI s) n + cB u a x (nI s) n) := rfl
def zCO (u : xS) (a x : Int32) (i : Nat) (u' : xS) : Prop := (∀ s, s < 16 → rd u' 120 s = cN u a x s i) ∧ (∀ c j, c ≠ 120 → rd u' c j = rd u c j)
theorem side0 {k : Int32 → Int32 → Int32 → xS → Option (Int32 × xS)} {a x : Int32} {n i y : Nat} {u : xS} (hi : i < 99) (hy : y < 16) (h119 : rd u 119 i = nI y) : f_X3_mostOften_21 k (n + 1) a x (nI i) 0 u = f_X3_mostOften_21 k n a x (nI i) 1 (if rd u 115 i = a ∧ rd u 118 i = x then wr u 120 y (rd u 120 y + 1) else u) := by
  rw [f_X3_mostOften_21, if_neg (by decide), show xin (0 : Int32) 2 = true from by decide, gd_t, gd_nI hi (by omega), show (0 : Int32).toNatClampNeg = 0 from rfl, nI_cl (by omega), show xin ((1 : Int32) - 0) 2 = true from by decide, gd_t, show ((1 : Int32) - 0).toNatClampNeg = 1 from by decide, show rd u (118 + 1) i = nI y from h119, gd_nI hy (by omega), nI_cl (by omega)]
  show (if rd u 115 i = a then if rd u 118 i = x then f_X3_mostOften_21 k n a x (nI i) 1 (wr u 120 y (rd u 120 y + 1)) else f_X3_mostOften_21 k n a x (nI i) 1 u else f_X3_mostOften_21 k n a x (nI i) 1 u) = _
  by_cases c1 : rd u 115 i = a
  · by_cases c2 : rd u 118 i = x
    · rw [if_pos c1, if_pos c2, if_pos ⟨c1, c2⟩]
    · rw [if_pos c1, if_neg c2, if_neg (fun z => c2 z.2)]
  · rw [if_neg c1, if_neg (fun z => c1 z.1)]
theorem side1 {k : Int32 → Int32 → Int32 → xS → Option (Int32 × xS)} {a x : Int32} {n i y : Nat} {u : xS} (hi : i < 99) (hy : y < 16) (h118 : rd u 118 i = nI y) : f_X3_mostOften_21 k (n + 1) a x (nI i) 1 u = f_X3_mostOften_21 k n a x (nI i) 2 (if rd u 116 i = a ∧ rd u 119 i = x then wr u 120 y (rd u 120 y + 1) else u) := by
  rw [f_X3_mostOften_21, if_neg (by decide), show xin (1 : Int32) 2 = true from by decide, gd_t, gd_nI hi (by omega), show (1 : Int32).toNatClampNeg = 1 from rfl, nI_cl (by omega), show xin ((1 : Int32) - 1) 2 = true from by decide, gd_t, show ((1 : Int32) - 1).toNatClampNeg = 0 from by decide, show rd u (118 + 0) i = nI y from h118, gd_nI hy (by omega), nI_cl (by omega)]
  show (if rd u 116 i = a then if rd u 119 i = x then f_X3_mostOften_21 k n a x (nI i) 2 (wr u 120 y (rd u 120 y + 1)) else f_X3_mostOften_21 k n a x (nI i) 2 u else f_X3_mostOften_21 k n a x (nI i) 2 u) = _
  by_cases c1 : rd u 116 i = a
  · by_cases c2 : rd u 119 i = x
    · rw [if_pos c1, if_pos c2, if_pos ⟨c1, c2⟩]
    · rw [if_pos c1, if_neg c2, if_neg (fun z => c2 z.2)]
  · rw [if_neg c1, if_neg (fun z => c1 z.1)]
theorem count11 {u : xS} (hI : Inv u) (a x : Int32) : ∀ (N i : Nat) (u' : xS), nD u < N + i → i ≤ nD u → zCO u a x i u' → ∃ u'', f_X3_mostOften_10 N a x (nI i) u' = f_X3_mostOften_93 xN (-1) 0 0 u'' ∧ zCO u a x (nD u) u'' := by
  obtain ⟨d1, d2, d3, d4⟩ := hI.D
  have hS3 := hI.S.2.2.1
  intro N
  induction N with
  | zero => intro i u' h1 h2; omega
  | succ N ih =>
    intro i u' h1 h2 h
    obtain ⟨g1, g2⟩ := id h
    have e113 : rd u' 113 3 = nI (nD u) := (g2 113 3 (by decide)).trans d1
    by_cases hi : i = nD u
    · subst hi
      refine ⟨u', ?_, h⟩
      rw [f_X3_mostOften_10, e113, if_pos (Int32.le_refl _)]
    · obtain ⟨y1, y2, y3, y4, pa, pb, px, py, ha, hb, hab, hx, hy, w1, w2, w3, w4⟩ := d4 i (by omega)
      have x115 : rd u' 115 i = rd u 167 i := (g2 115 i (by decide)).trans y1
      have x116 : ∀ v : Int32, ∀ z : Nat, rd (wr u' 120 z v) 116 i = rd u 168 i := fun v z => (rd_wr_ne (by omega)).trans ((g2 116 i (by decide)).trans y2)
      have x118 : rd u' 118 i = rd u 169 i := (g2 118 i (by decide)).trans y3
      have x119 : rd u' 119 i = rd u 170 i := (g2 119 i (by decide)).trans y4
      have x116' : rd u' 116 i = rd u 168 i := (g2 116 i (by decide)).trans y2
      rw [f_X3_mostOften_10, e113, if_neg (nI_ge (by omega) (by omega)), show xN = 999997 + 1 + 1 + 1 from rfl, side0 (y := py) (by omega) (by omega) (x119.trans w4)]
      generalize hu1 : (if rd u' 115 i = a ∧ rd u' 118 i = x then wr u' 120 py (rd u' 120 py + 1) else u') = u1
      have k1 : ∀ c j, c ≠ 120 → rd u1 c j = rd u' c j := by
        intro c j hc
        rw [← hu1]
        by_cases e : rd u' 115 i = a ∧ rd u' 118 i = x
        · rw [if_pos e, rd_wr_ne (by omega)]
        · rw [if_neg e]
      have k2 : ∀ s, s < 16 → rd u1 120 s = cN u a x s i + cA u a x (nI s) i := by
        intro s hs
        rw [← hu1]
        unfold cA
        rw [x115, x118, w4]
        by_cases e : rd u 167 i = a ∧ rd u 169 i = x
        · rw [if_pos e]
          by_cases es : s = py
          · rw [es, rd_wr, if_pos rfl, if_pos rfl, g1 py (by omega), if_pos ⟨e.1, e.2, rfl⟩]
          · rw [rd_wr_ne (by omega), g1 s hs, if_neg (fun z => es (nI_inj (by omega) (by omega) z.2.2).symm), Int32.add_zero]
        · rw [if_neg e, g1 s hs, if_neg (fun z => e ⟨z.1, z.2.1⟩), Int32.add_zero]
      rw [side1 (y := px) (by omega) (by omega) ((k1 118 i (by decide)).trans (x118.trans w3))]
      generalize hu2 : (if rd u1 116 i = a ∧ rd u1 119 i = x then wr u1 120 px (rd u1 120 px + 1) else u1) = u2
      have k3 : ∀ c j, c ≠ 120 → rd u2 c j = rd u' c j := by
        intro c j hc
        rw [← k1 c j hc, ← hu2]
        by_cases e : rd u1 116 i = a ∧ rd u1 119 i = x
        · rw [if_pos e, rd_wr_ne (by omega)]
        · rw [if_neg e]
      have k4 : ∀ s, s < 16 → rd u2 120 s = cN u a x s (i + 1) := by
        intro s hs
        rw [← hu2, cN_s, k1 116 i (by decide), k1 119 i (by decide), x116', x119]
        unfold cB
        rw [w3]
        by_cases e : rd u 168 i = a ∧ rd u 170 i = x
        · rw [if_pos e]
          by_cases es : s = px
          · rw [es, rd_wr, if_pos rfl, if_pos rfl, k2 px (by omega), if_pos ⟨e.1, e.2, rfl⟩, Int32.add_assoc]
          · rw [rd_wr_ne (by omega), k2 s hs, if_neg (fun z => es (nI_inj (by omega) (by omega) z.2.2).symm), Int32.add_zero]
        · rw [if_neg e, k2 s hs, if_neg (fun z => e ⟨z.1, z.2.1⟩), Int32.add_zero]
      rw [f_X3_mostOften_21, if_pos (by decide), nI_1]
      exact ih (i + 1) u2 (by omega) (by omega) ⟨k4, fun c j hc => (k3 c j hc).trans (g2 c j hc)⟩
/-- the most often, the first of these -/
def mof (F : Nat → Int32) (s : Nat) (p : Int32 × Int32) : Int32 × Int32 := if F s ≤ p.2 then p else (nI s, F s)
theorem scan11 {F : Nat → Int32} {u : xS} (h : ∀ s, s < 16 → rd u 120 s = F s) : f_X3_mostOften_93 xN (-1) 0 0 u = some ((it (mof F) (-1, 0) 16).1, u) := by
  refine it_loop (S := 16) (F := fun (N i : Nat) (p : Int32 × Int32) => f_X3_mostOften_93 N p.1 p.2 (nI i) u) (a := ((-1 : Int32), (0 : Int32))) (mof F) (fun p => some (p.1, u)) (fun n i p hi => ?_) (fun n p => ?_) (xN_lt (by omega))
  · simp (disch := omega) only [f_X3_mostOften_93, f_X3_mostOften_124, l_16, ite_nle, gd_nI, nI_cl, nI_1, h i hi, mof]
    by_cases c : F i ≤ p.2
    · rw [if_pos c, if_pos c]
    · rw [if_neg c, if_neg c]
  · rw [f_X3_mostOften_93]
    exact if_pos (show (16 : Int32) ≤ nI 16 from Int32.le_refl _)
theorem inner12 {u : xS} {a x b m : Int32} {s D : Nat} {k : Int32 → Int32 → Int32 → Int32 → Int32 → xS → Option (Int32 × xS)} (hd : rd u 135 46 = nI D) (hD : D ≤ 99) : f_X12_called_45 k xN a x b m (nI s) 0 0 u = k a x (mof (fun s => cN u a x s D) s (b, m)).1 (mof (fun s => cN u a x s D) s (b, m)).2 (nI (s + 1)) u := by
  refine (it_loop (S := D) (F := fun N i acc => f_X12_called_45 k N a x b m (nI s) acc (nI i) u) (fun i acc => acc + (cA u a x (nI s) i + cB u a x (nI s) i)) (fun acc => if acc ≤ m then k a x b m (nI s + 1) u else k a x (nI s) acc (nI s + 1) u) (fun n i acc hi => ?_) (fun n acc => ?_) (xN_lt (by omega))).trans ?_
  · have t0 : f_X12_truth 0 = 0 := rfl
    have t1 : f_X12_truth 1 = 1 := rfl
    simp (disch := omega) only [f_X12_called_45, f_X12_called_94, f_X12_called_95, f_X12_called_136, f_X12_called_137, hd, ite_nle, gd_nI, nI_cl, nI_1, t0, t1, cA, cB]
    by_cases c1 : rd u 167 i = a ∧ rd u 169 i = x ∧ rd u 170 i = nI s
    · rw [if_pos c1, if_pos c1.1, if_pos c1.2.1, if_pos c1.2.2]
      by_cases c2 : rd u 168 i = a ∧ rd u 170 i = x ∧ rd u 169 i = nI s
      · rw [if_pos c2, if_pos c2.1, if_pos c2.2.1, if_pos c2.2.2]
      · rw [if_neg c2]
        by_cases e1 : rd u 168 i = a
        · by_cases e2 : rd u 170 i = x
          · rw [if_pos e1, if_pos e2, if_neg (fun z => c2 ⟨e1, e2, z⟩)]
          · rw [if_pos e1, if_neg e2]
        · rw [if_neg e1]
    · rw [if_neg c1]
      have hA : ∀ X Y : Option (Int32 × xS), (if rd u 167 i = a then if rd u 169 i = x then if rd u 170 i = nI s then X else Y else Y else Y) = Y := by
        intro X Y
        by_cases e1 : rd u 167 i = a
        · by_cases e2 : rd u 169 i = x
          · rw [if_pos e1, if_pos e2, if_neg (fun z => c1 ⟨e1, e2, z⟩)]
          · rw [if_pos e1, if_neg e2]
        · rw [if_neg e1]
      rw [hA]
      by_cases c2 : rd u 168 i = a ∧ rd u 170 i = x ∧ rd u 169 i = nI s
      · rw [if_pos c2, if_pos c2.1, if_pos c2.2.1, if_pos c2.2.2]
      · rw [if_neg c2]
        by_cases e1 : rd u 168 i = a
        · by_cases e2 : rd u 170 i = x
          · rw [if_pos e1, if_pos e2, if_neg (fun z => c2 ⟨e1, e2, z⟩)]
          · rw [if_pos e1, if_neg e2]
        · rw [if_neg e1]
  · simp (disch := omega) only [f_X12_called_45, f_X12_called_164, hd, ite_yle]
  · unfold mof
    show (if cN u a x s D ≤ m then _ else _) = _
    by_cases c : cN u a x s D ≤ m
    · simp only [if_pos c, nI_1]
    · simp only [if_neg c, nI_1]
      rfl
theorem scan12 {u : xS} {a x : Int32} {S D : Nat} (h1 : rd u 135 1 = nI S) (hS : S ≤ 16) (hd : rd u 135 46 = nI D) (hD : D ≤ 99) : f_X12_called_30 xN a x (-1) 0 0 u = some ((it (mof fun s => cN u a x s D) (-1, 0) S).1, u) := by
  refine it_loop (S := S) (F := fun (N i : Nat) (p : Int32 × Int32) => f_X12_called_30 N a x p.1 p.2 (nI i) u) (a := ((-1 : Int32), (0 : Int32))) (mof fun s => cN u a x s D) (fun p => some (p.1, u)) (fun n i p hi => ?_) (fun n p => ?_) (xN_lt (by omega))
  · simp (disch := omega) only [f_X12_called_30, h1, ite_nle, inner12 hd hD]
  · simp (disch := omega) only [f_X12_called_30, h1, ite_yle]
theorem cN_nI (u : xS) (a x : Int32) (s : Nat) : ∀ n, ∃ k, k ≤ 2 * n ∧ cN u a x s n = nI k := by
  intro n
  induction n with
  | zero => exact ⟨0, by omega, rfl⟩
  | succ n ih =>
    obtain ⟨k, hk, e⟩ := ih
    rw [cN_s, e]
    unfold cA cB
    by_cases c1 : rd u 167 n = a ∧ rd u 169 n = x ∧ rd u 170 n = nI s
    · by_cases c2 : rd u 168 n = a ∧ rd u 170 n = x ∧ rd u 169 n = nI s
      · rw [if_pos c1, if_pos c2]
        exact ⟨k + 2, by omega, nI_add k 2⟩
      · rw [if_pos c1, if_neg c2]
        exact ⟨k + 1, by omega, nI_add k 1⟩
    · by_cases c2 : rd u 168 n = a ∧ rd u 170 n = x ∧ rd u 169 n = nI s
      · rw [if_neg c1, if_pos c2]
        exact ⟨k + 1, by omega, nI_add k 1⟩
      · rw [if_neg c1, if_neg c2]
        exact ⟨k, by omega, nI_add k 0⟩
theorem scan_eq {F : Nat → Int32} {S : Nat} (hS : S ≤ 16) (hF : ∀ s, 0 ≤ F s) (hz : ∀ s, S ≤ s → s < 16 → F s = 0) : it (mof F) (-1, 0) 16 = it (mof F) (-1, 0) S := by
  have hp : ∀ n, 0 ≤ (it (mof F) ((-1 : Int32), (0 : Int32)) n).2 := by
    intro n
    induction n with
    | zero => exact Int32.le_refl _
    | succ n ih =>
      rw [it_s]
      generalize it (mof F) ((-1 : Int32), (0 : Int32)) n = p at ih ⊢
      unfold mof
      by_cases c : F n ≤ p.2
      · rw [if_pos c]; exact ih
      · rw [if_neg c]; exact hF n
  have key : ∀ n, n ≤ 16 → S ≤ n → it (mof F) ((-1 : Int32), (0 : Int32)) n = it (mof F) (-1, 0) S := by
    intro n
    induction n with
    | zero =>
      intro _ h
      have : S = 0 := by omega
      rw [this]
    | succ n ih =>
      intro h1 h2
      by_cases e : S = n + 1
      · rw [e]
      · rw [it_s, ← ih (by omega) (by omega)]
        have := hp n
        generalize it (mof F) ((-1 : Int32), (0 : Int32)) n = p at this ⊢
        unfold mof
        rw [if_pos]
        rw [hz n (by omega) (by omega)]
        exact this
  exact key 16 (Nat.le_refl _) hS
theorem s_called : xS_called Inv := by
  intro u a1 a2 hI
  apply st_W
  have hJ := Inv_thr hI
  obtain ⟨s1, s2, s3, -⟩ := hI.S
  obtain ⟨d1, d2, d3, d4⟩ := hI.D
  have n2 : rd (wr u 135 0 0) 135 1 = nI (nS u) := s2
  simp only [f_X11_called, f_X11_isSorter, lies_eq, hasS s1, ite_10]
  by_cases h1 : 0 ≤ a1 ∧ a1 ≤ 5
  · by_cases h2 : 0 ≤ a2 ∧ a2 < nI (nS u)
    · rw [if_pos h1, if_pos h2]
      obtain ⟨u0, t1, t2, t3⟩ := fill_ok (c := 120) (L := 16) (by decide +kernel) (by decide +kernel) (by omega) u
      obtain ⟨u1, t4, t5⟩ := count11 hI a1 a2 xN 0 u0 (xN_lt (by omega)) (by omega) ⟨t2, fun c j hc => t3 c j (fun z => hc z.1)⟩
      rw [nI_zero] at t4
      have e11 : f_X3_mostOften a1 a2 u = some ((it (mof fun s => cN u a1 a2 s (nD u)) (-1, 0) 16).1, u1) := by
        rw [f_X3_mostOften, t1, Option.bind_some, t4, scan11 t5.1]
      rw [e11, Option.bind_some, ok_some]
      dsimp only
      have a1' : ag [(120, 0), (135, 1)] u (wr u1 135 0 0) := ag_wr (fun c j hc => t5.2 c j (ne_W 120 (fun _ => rfl) hc)) rfl
      have m2 : rd (wr u1 135 0 0) 135 1 = nI (nS u) := (a1' 135 1 rfl).trans s2
      have e12 : f_X12_called a1 a2 u1 = some ((it (mof fun s => cN u a1 a2 s (nD u)) (-1, 0) (nS u)).1, wr u1 135 0 0) := by
        simp (disch := omega) only [f_X12_called, f_X12_isSorter, L_0, L_5, in_eq, isS m2, ite_10]
        rw [if_pos h1, if_pos h2, scan12 m2 s3 ((a1' 135 46 rfl).trans d2) d3]
        have e : (fun s => cN (wr u1 135 0 0) a1 a2 s (nD u)) = fun s => cN u a1 a2 s (nD u) := by
          funext s
          have q1 : ∀ i, rd (wr u1 135 0 0) 167 i = rd u 167 i := fun i => a1' 167 i rfl
          have q2 : ∀ i, rd (wr u1 135 0 0) 168 i = rd u 168 i := fun i => a1' 168 i rfl
          have q3 : ∀ i, rd (wr u1 135 0 0) 169 i = rd u 169 i := fun i => a1' 169 i rfl
          have q4 : ∀ i, rd (wr u1 135 0 0) 170 i = rd u 170 i := fun i => a1' 170 i rfl
          simp only [cN, cA, cB, q1, q2, q3, q4]
        rw [e]
      have e := scan_eq (F := fun s => cN u a1 a2 s (nD u)) s3 (fun s => ?_) (fun s h3 h4 => ?_)
      · refine ok_is e12 ⟨?_, Inv_scr (ag_sub rfl a1') hI⟩
        dsimp only
        rw [e]
      · obtain ⟨k, hk, e⟩ := cN_nI u a1 a2 s (nD u)
        rw [e]
        exact nI_lo (by omega)
      · refine isum_zero fun i hi => ?_
        obtain ⟨-, -, -, -, pa, pb, px, py, ha, hb, hab, hx, hy, w1, w2, w3, w4⟩ := d4 i hi
        unfold cA cB
        rw [if_neg (fun z => ?_), if_neg (fun z => ?_)]
        · rfl
        · have z3 := z.2.2
          rw [w3] at z3
          have := nI_inj (by omega) (by omega) z3
          omega
        · have z3 := z.2.2
          rw [w4] at z3
          have := nI_inj (by omega) (by omega) z3
          omega
    · rw [if_pos h1, if_neg h2, ok_some]
      have e12 : f_X12_called a1 a2 u = some (-1, wr u 135 0 0) := by
        simp (disch := omega) only [f_X12_called, f_X12_isSorter, L_0, L_5, in_eq, isS n2, ite_10]
        rw [if_pos h1, if_neg h2]
      exact ok_is e12 ⟨rfl, hJ⟩
  · rw [if_neg h1, ok_some]
    have e12 : f_X12_called a1 a2 u = some (-1, wr u 135 0 0) := by
      simp (disch := omega) only [f_X12_called, f_X12_isSorter, L_0, L_5, in_eq, ite_10]
      rw [if_neg h1]
    exact ok_is e12 ⟨rfl, hJ⟩
