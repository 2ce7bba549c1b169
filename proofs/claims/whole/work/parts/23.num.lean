/-! TESTS OF THE ARGUMENTS, STEPS -/
theorem rd_wr_ne {u : xS} {c j c' j' : Nat} {v : Int32} (h : ¬ (c' = c ∧ j' = j)) : rd (wr u c j v) c' j' = rd u c' j' := by
  rw [rd_wr]
  by_cases h1 : c' = c
  · rw [if_pos h1, if_neg (fun h2 => h ⟨h1, h2⟩)]
  · rw [if_neg h1]
theorem lies_eq (v a b : Int32) : f_X11_lies v a b = if a ≤ v ∧ v ≤ b then 1 else 0 := by
  unfold f_X11_lies
  by_cases h1 : v < a
  · rw [if_pos h1, if_neg]
    intro h
    exact absurd h.1 (Int32.not_le.mpr h1)
  · rw [if_neg h1]
    by_cases h2 : b < v
    · rw [if_pos h2, if_neg]
      intro h
      exact absurd h.2 (Int32.not_le.mpr h2)
    · rw [if_neg h2, if_pos]
      exact ⟨Int32.not_lt.mp h1, Int32.not_lt.mp h2⟩
theorem w_lt (a b : Int32) : a.toInt64 < b.toInt64 ↔ a < b := by
  rw [Int64.lt_iff_toInt_lt, Int32.lt_iff_toInt_lt, Int32.toInt_toInt64, Int32.toInt_toInt64]
theorem w_eq (a b : Int32) : a.toInt64 = b.toInt64 ↔ a = b := by
  rw [← Int64.toInt_inj, ← Int32.toInt_inj, Int32.toInt_toInt64, Int32.toInt_toInt64]
theorem w_le (a b : Int32) : a.toInt64 ≤ b.toInt64 ↔ a ≤ b := by
  rw [Int64.le_iff_toInt_le, Int32.le_iff_toInt_le, Int32.toInt_toInt64, Int32.toInt_toInt64]
theorem cmp_neg (x y : Int64) : lg_cmp x y < 0 ↔ x < y := by
  unfold lg_cmp
  by_cases h1 : x > y
  · rw [if_pos h1]
    constructor
    · intro h
      exact absurd h (by decide)
    · intro h
      rw [Int64.lt_iff_toInt_lt] at h
      have h2 : y < x := h1
      rw [Int64.lt_iff_toInt_lt] at h2
      omega
  · rw [if_neg h1]
    by_cases h2 : x = y
    · rw [if_pos h2]
      constructor
      · intro h
        exact absurd h (by decide)
      · intro h
        rw [h2, Int64.lt_iff_toInt_lt] at h
        omega
    · rw [if_neg h2]
      constructor
      · intro _
        have h3 : ¬ y < x := h1
        rw [Int64.lt_iff_toInt_lt] at h3
        rw [← Int64.toInt_inj] at h2
        rw [Int64.lt_iff_toInt_lt]
        omega
      · intro _
        decide
theorem cmp_pos (x y : Int64) : 0 < lg_cmp x y ↔ y < x := by
  unfold lg_cmp
  by_cases h1 : x > y
  · rw [if_pos h1]
    exact ⟨fun _ => h1, fun _ => by decide⟩
  · rw [if_neg h1]
    constructor
    · intro h
      by_cases h2 : x = y
      · rw [if_pos h2] at h
        exact absurd h (by decide)
      · rw [if_neg h2] at h
        exact absurd h (by decide)
    · intro h
      exact absurd h h1
theorem in_eq (v a b : Int32) : f_X12_in v.toInt64 a.toInt64 b.toInt64 = if a ≤ v ∧ v ≤ b then 1 else 0 := by
  unfold f_X12_in
  simp only [cmp_neg, cmp_pos, w_lt]
  exact lies_eq v a b
theorem L_m1 : (-1 : Int64) = (-1 : Int32).toInt64 := rfl
theorem L_0 : (0 : Int64) = (0 : Int32).toInt64 := rfl
theorem L_1 : (1 : Int64) = (1 : Int32).toInt64 := rfl
theorem L_2 : (2 : Int64) = (2 : Int32).toInt64 := rfl
theorem L_3 : (3 : Int64) = (3 : Int32).toInt64 := rfl
theorem L_5 : (5 : Int64) = (5 : Int32).toInt64 := rfl
theorem L_7 : (7 : Int64) = (7 : Int32).toInt64 := rfl
theorem L_8 : (8 : Int64) = (8 : Int32).toInt64 := rfl
theorem L_12 : (12 : Int64) = (12 : Int32).toInt64 := rfl
theorem L_99 : (99 : Int64) = (99 : Int32).toInt64 := rfl
theorem L_255 : (255 : Int64) = (255 : Int32).toInt64 := rfl
theorem L_999 : (999 : Int64) = (999 : Int32).toInt64 := rfl
theorem L_1000 : (1000 : Int64) = (1000 : Int32).toInt64 := rfl
theorem L_9996 : (9996 : Int64) = (9996 : Int32).toInt64 := rfl
theorem L_9999 : (9999 : Int64) = (9999 : Int32).toInt64 := rfl
theorem nI_p1 {n : Nat} (h : n < 2147483648) (v : Int32) : v ≤ nI n - 1 ↔ v < nI n := by
  rw [Int32.le_iff_toInt_le, Int32.lt_iff_toInt_lt, Int32.toInt_sub, nI_toInt h, show (1 : Int32).toInt = 1 from rfl, Int.bmod_eq_of_le (by omega) (by omega)]
  omega
theorem has_eq (a b v : Int32) {n : Nat} (h : b = nI n) : (if v < 0 then (0 : Int32) else if b ≤ v then 0 else 1) = if 0 ≤ v ∧ v < nI n then 1 else 0 := by
  subst h
  by_cases h1 : v < 0
  · rw [if_pos h1, if_neg]
    intro q
    exact absurd q.1 (Int32.not_le.mpr h1)
  · rw [if_neg h1]
    by_cases h2 : nI n ≤ v
    · rw [if_pos h2, if_neg]
      intro q
      exact absurd q.2 (Int32.not_lt.mpr h2)
    · rw [if_neg h2, if_pos]
      exact ⟨Int32.not_lt.mp h1, Int32.not_le.mp h2⟩
theorem hasS {u : xS} {v : Int32} {n : Nat} (h : rd u 1 2 = nI n) : f_X8_has u v = if 0 ≤ v ∧ v < nI n then 1 else 0 := has_eq 0 _ v h
theorem hasB {u : xS} {v : Int32} {n : Nat} (h : rd u 13 8 = nI n) : f_X0_has u v = if 0 ≤ v ∧ v < nI n then 1 else 0 := has_eq 0 _ v h
theorem hasC {u : xS} {v : Int32} {n : Nat} (h : rd u 87 2 = nI n) : f_X2_has u v = if 0 ≤ v ∧ v < nI n then 1 else 0 := has_eq 0 _ v h
theorem hasQ {u : xS} {v : Int32} {n : Nat} (h : rd u 121 6 = nI n) : f_X4_hasPack u v = if 0 ≤ v ∧ v < nI n then 1 else 0 := has_eq 0 _ v h
theorem hasR {u : xS} {v : Int32} {n : Nat} (h : rd u 58 5 = nI n) : f_X10_hasRecipe u v = if 0 ≤ v ∧ v < nI n then 1 else 0 := has_eq 0 _ v h
theorem inN {b v : Int32} {n : Nat} (h : b = nI n) (hn : n < 2147483648) : f_X12_in v.toInt64 0 (b - 1).toInt64 = if 0 ≤ v ∧ v < nI n then 1 else 0 := by
  subst h
  rw [L_0, in_eq]
  simp only [nI_p1 hn]
theorem isS {u : xS} {v : Int32} {n : Nat} (h : rd u 135 1 = nI n) (hn : n < 2147483648) : f_X12_isSort u v = if 0 ≤ v ∧ v < nI n then 1 else 0 := inN h hn
theorem isB {u : xS} {v : Int32} {n : Nat} (h : rd u 135 7 = nI n) (hn : n < 2147483648) : f_X12_isBale u v = if 0 ≤ v ∧ v < nI n then 1 else 0 := inN h hn
theorem isC {u : xS} {v : Int32} {n : Nat} (h : rd u 135 37 = nI n) (hn : n < 2147483648) : f_X12_isCloth u v = if 0 ≤ v ∧ v < nI n then 1 else 0 := inN h hn
theorem isR {u : xS} {v : Int32} {n : Nat} (h : rd u 135 28 = nI n) (hn : n < 2147483648) : f_X12_isRecipe u v = if 0 ≤ v ∧ v < nI n then 1 else 0 := inN h hn
theorem ite_10 {α : Type} {c : Prop} {d : Decidable c} {e : Decidable ((@ite Int32 c d 1 0) = 0)} {x y : α} : @ite α ((@ite Int32 c d 1 0) = 0) e x y = @ite α c d y x := by
  cases d with
  | isTrue h => exact if_neg (by simp [h])
  | isFalse h => exact if_pos (by simp [h])
theorem st_W {f : Option (Int32 × xS)} {g : xS → Option (Int32 × xS)} {I : xS → Prop} (h : ok f fun q => ok (g q.2) fun q' => q'.1 = q.1 ∧ I q'.2) : ∃ (r : Int32) (u1 u2 : xS), f = some (r, u1) ∧ g u1 = some (r, u2) ∧ I u2 := by
  obtain ⟨q, h1, q', h2, h3, h4⟩ := h
  exact ⟨q.1, q.2, q'.2, h1, by rw [h2, ← h3], h4⟩
theorem st_P {f : Option Int32} {g : Option (Int32 × xS)} {I : xS → Prop} (h : ok f fun r => ok g fun q' => q'.1 = r ∧ I q'.2) : ∃ (r : Int32) (u2 : xS), f = some r ∧ g = some (r, u2) ∧ I u2 := by
  obtain ⟨q, h1, q', h2, h3, h4⟩ := h
  exact ⟨q, q'.2, h1, by rw [h2, ← h3], h4⟩
/-- both refuse, or both answer -/
theorem ok2_ite {c : Prop} {d1 d2 : Decidable c} {a b : Option (Int32 × xS)} {a' b' : xS → Option (Int32 × xS)} {Q : (Int32 × xS) → (Int32 × xS) → Prop} (h1 : c → ok a fun q => ok (a' q.2) (Q q)) (h2 : ¬ c → ok b fun q => ok (b' q.2) (Q q)) : ok (@ite _ c d1 a b) fun q => ok (@ite _ c d2 (a' q.2) (b' q.2)) (Q q) := by
  by_cases h : c
  · rw [if_pos h]
    simp only [if_pos h]
    exact h1 h
  · rw [if_neg h]
    simp only [if_neg h]
    exact h2 h
theorem no_W {u : xS} (hI : Inv u) : ok (some ((-1 : Int32), u)) fun q => ok (some ((-1 : Int32), wr q.2 135 0 (0 : Int32))) fun q' => q'.1 = q.1 ∧ Inv q'.2 :=
  ok_some.mpr (ok_some.mpr ⟨rfl, Inv_thr hI⟩)
theorem no_P {u : xS} (hI : Inv u) : ok (some (-1 : Int32)) fun r => ok (some ((-1 : Int32), wr u 135 0 (0 : Int32))) fun q' => q'.1 = r ∧ Inv q'.2 :=
  ok_some.mpr (ok_some.mpr ⟨rfl, Inv_thr hI⟩)
/-! end -/
theorem s_end : xS_end Inv := by
  intro u a1 hI
  apply st_W
  obtain ⟨t1, t2, t3, t4⟩ := hI.T
  simp only [f_X11_end, f_X12_end, lies_eq, L_0, in_eq, ite_10]
  have e1 : ∀ q : xS, rd q 135 32 = nI (nT u) → (rd q 135 32) = nI (nT u) := fun _ h => h
  by_cases h : 0 ≤ a1 ∧ a1 ≤ nI (nT u)
  · obtain ⟨n, hn, rfl⟩ := nI_ixl (by omega) h.1 h.2
    rw [t1, if_pos h, ok_some]
    have t5 : rd (wr u 52 1 (nI n)) 135 32 = nI (nT u) := t2
    rw [t5, if_pos h, ok_some]
    refine ⟨rfl, ?_⟩
    dsimp only
    have hag : ag [(52, 2), (135, 1), (135, 33)] u (wr (wr (wr u 52 1 (nI n)) 135 0 0) 135 32 (nI n)) := ag_wr (ag_wr (ag_wr (ag_refl _ _) rfl) rfl) rfl
    refine ⟨fr_S (ag_sm hag rfl) hI.S, fr_P (ag_sm hag rfl) hI.P, fr_B (ag_sm hag rfl) hI.B, fr_H (ag_sm hag rfl) hI.H, fr_L (ag_sm hag rfl) hI.L, fr_K (ag_sm hag rfl) hI.K, ?_, fr_X (ag_sm hag rfl) hI.X, fr_F (ag_sm hag rfl) hI.F, fr_C (ag_sm hag rfl) hI.C, fr_D (ag_sm hag rfl) hI.D, fr_A (ag_sm hag rfl) hI.A, fr_W (ag_sm hag rfl) hI.W⟩
    have e2 : nT (wr (wr (wr u 52 1 (nI n)) 135 0 0) 135 32 (nI n)) = n := nv_nI (by omega)
    refine ⟨?_, ?_, by omega, ?_⟩
    · rw [e2]; rfl
    · rw [e2]; rfl
    · rw [e2]
      intro j hj
      exact t4 j (by omega)
  · rw [t1, if_neg h, ok_some]
    rw [t2, if_neg h, ok_some]
    exact ⟨rfl, Inv_thr hI⟩
