/-- what the tables say of class ci -/
theorem x_class : ∀ (ci : Nat) (q : vw_C), vwCl[ci]? = some q → (∀ w ∈ u_ws q.1 q.2.1 q.2.2, w ∈ xW) ∧ (∀ j, j < q.2.2 → parseFieldDescriptor (q.2.1 j).2.2.1 = some (x_fty ci j)) ∧ (∀ a, a < q.2.2 → ∀ b, b < q.2.2 → a ≠ b → (q.2.1 a).2.1 ≠ (q.2.1 b).2.1)
  | 0, _, rfl => ⟨x_lay0, tyX0_ok, nmX0⟩
  | 1, _, rfl => ⟨x_lay1, tyX1_ok, nmX1⟩
  | 2, _, rfl => ⟨x_lay2, tyX2_ok, nmX2⟩
  | 3, _, rfl => ⟨x_lay3, tyX3_ok, nmX3⟩
  | 4, _, rfl => ⟨x_lay4, tyX4_ok, nmX4⟩
  | 5, _, rfl => ⟨x_lay5, tyX5_ok, nmX5⟩
  | 6, _, rfl => ⟨x_lay6, tyX6_ok, nmX6⟩
  | 7, _, rfl => ⟨x_lay7, tyX7_ok, nmX7⟩
  | 8, _, rfl => ⟨x_lay8, tyX8_ok, nmX8⟩
  | 9, _, rfl => ⟨x_lay9, tyX9_ok, nmX9⟩
  | 10, _, rfl => ⟨x_lay10, tyX10_ok, nmX10⟩
  | 11, _, rfl => ⟨x_lay11, tyX11_ok, nmX11⟩
  | 12, _, rfl => ⟨x_lay12, tyX12_ok, nmX12⟩
  | n + 13, _, h => by simp [vwCl] at h
theorem x_cl_of {ci : Nat} {q : vw_C} (h : vwCl[ci]? = some q) : x_cl ci = q := by
  simp [x_cl, List.getD_eq_getElem?_getD, h]
theorem x_fs_at {ad : Nat → Nat} {f : Nat → Int32} {ci j : Nat} {rf : List (Option Nat)} {q : vw_C} (h : vwCl[ci]? = some q) (hj : j < q.2.2) : (x_fs ad f ci rf)[j]? = some (if x_isR (x_fty ci j) = true then va_rf ((rf.getD j none).map ad) else .int (f j)) := by
  rw [x_fs, List.getElem?_map, x_cl_of h, List.getElem?_range hj]
  rfl
theorem x_fs_len {ad : Nat → Nat} {f : Nat → Int32} {ci : Nat} {rf : List (Option Nat)} {q : vw_C} (h : vwCl[ci]? = some q) : (x_fs ad f ci rf).length = q.2.2 := by
  simp [x_fs, x_cl_of h]
theorem x_fs_set {ad : Nat → Nat} {f : Nat → Int32} {ci j : Nat} {v : Int32} {rf : List (Option Nat)} {q : vw_C} (h : vwCl[ci]? = some q) (hj : j < q.2.2) (ht : x_isR (x_fty ci j) = false) : (x_fs ad f ci rf).set j (.int v) = x_fs ad (fun j' => if j' = j then v else f j') ci rf := by
  apply List.ext_getElem?
  intro i
  by_cases hi : i < q.2.2
  · by_cases hij : i = j
    · subst hij
      rw [List.getElem?_set_self (by rw [x_fs_len h]; exact hi), x_fs_at h hi, ht]
      simp
    · rw [List.getElem?_set_ne (Ne.symm hij), x_fs_at h hi, x_fs_at h hi, if_neg hij]
  · have h1 : ∀ (g : Nat → Int32), (x_fs ad g ci rf)[i]? = none := fun g => List.getElem?_eq_none (by rw [x_fs_len h]; omega)
    rw [List.getElem?_set_ne (by omega), h1, h1]
theorem x_fs_setR {ad : Nat → Nat} {f : Nat → Int32} {ci j v : Nat} {rf rf' : List (Option Nat)} {q : vw_C} (h : vwCl[ci]? = some q) (hj : j < q.2.2) (ht : x_isR (x_fty ci j) = true) (h1 : rf'.getD j none = some v) (h2 : ∀ i, i ≠ j → rf'.getD i none = rf.getD i none) : (x_fs ad f ci rf).set j (.ref (ad v)) = x_fs ad f ci rf' := by
  apply List.ext_getElem?
  intro i
  by_cases hi : i < q.2.2
  · by_cases hij : i = j
    · subst hij
      rw [List.getElem?_set_self (by rw [x_fs_len h]; exact hi), x_fs_at h hi, ht, h1]
      rfl
    · rw [List.getElem?_set_ne (Ne.symm hij), x_fs_at h hi, x_fs_at h hi, h2 i hij]
  · have h1 : ∀ (r : List (Option Nat)), (x_fs ad f ci r)[i]? = none := fun g => List.getElem?_eq_none (by rw [x_fs_len h]; omega)
    rw [List.getElem?_set_ne (by omega), h1, h1]
section XF
variable {sc : Nat × (Nat → Int32)} {k : xm} {d mc ms : Nat} {Q : xE} {cl sl pc : Nat} {L L' : xL} {st : List Value} {μ : xM}
theorem g_getI (ci j : Nat) {c0 idx n : Nat} {rf : List (Option Nat)} {v : Int32} {C : String} {T : u_T} {N : Nat} (hd : decode k.2.1 pc = .ok (.getfield idx, 3)) (hw : Cond.fieldLink k.1.cls idx C (T j).2.1 (T j).2.2.1 ∈ xW) (hc : μ.1[c0]? = some (ci + 4, n, rf)) (hq : vwCl[ci]? = some (C, T, N)) (hj : j < N) (hC : (T j).1 = C) (ht : x_isR (x_fty ci j) = false) (hv : rd μ.2 c0 j = v)
    (h : xG sc k d mc ms Q cl sl (pc + 3) L (.int v :: st) μ) : xG sc k d mc ms Q cl sl pc L (.ref c0 :: st) μ := by
  intro p l e R s m args below meth c X D cA n0 ad0 ad A H locs ls hn ha hR hl
  subst hv
  have ha0 : (x_w cA ad μ)[c0]? = some (ad c0, .inr (ci, x_fs ad (μ.2.1 c0) ci rf)) := x_w_at (c := (ci + 4, n, rf)) hc
  refine va_get (v := .int (rd μ.2 c0 j)) X.1 X.2.1 X.2.2.2.2.2.1 (x_class ci _ hq).1 X.2.2.2.2.1 hR.1 hR.2.1 c0 ha0 hq j hj (X.2.2.2.2.2.1 _ hw) (fun x hx => by rw [hC] at hx; exact hx) ?_ hd (h p l e R s m args below meth c X D cA n0 ad0 ad A H locs ls hn ha hR hl)
  rw [x_fs_at hq hj, ht]
  rfl
theorem g_getR (ci j : Nat) {c0 idx n v : Nat} {rf : List (Option Nat)} {C : String} {T : u_T} {N : Nat} (hd : decode k.2.1 pc = .ok (.getfield idx, 3)) (hw : Cond.fieldLink k.1.cls idx C (T j).2.1 (T j).2.2.1 ∈ xW) (hc : μ.1[c0]? = some (ci + 4, n, rf)) (hq : vwCl[ci]? = some (C, T, N)) (hj : j < N) (hC : (T j).1 = C) (ht : x_isR (x_fty ci j) = true) (hv : rf.getD j none = some v)
    (h : xG sc k d mc ms Q cl sl (pc + 3) L (.ref v :: st) μ) : xG sc k d mc ms Q cl sl pc L (.ref c0 :: st) μ := by
  intro p l e R s m args below meth c X D cA n0 ad0 ad A H locs ls hn ha hR hl
  have ha0 : (x_w cA ad μ)[c0]? = some (ad c0, .inr (ci, x_fs ad (μ.2.1 c0) ci rf)) := x_w_at (c := (ci + 4, n, rf)) hc
  refine va_get (v := .ref (ad v)) X.1 X.2.1 X.2.2.2.2.2.1 (x_class ci _ hq).1 X.2.2.2.2.1 hR.1 hR.2.1 c0 ha0 hq j hj (X.2.2.2.2.2.1 _ hw) (fun x hx => by rw [hC] at hx; exact hx) ?_ hd (h p l e R s m args below meth c X D cA n0 ad0 ad A H locs ls hn ha hR hl)
  rw [x_fs_at hq hj, ht, hv]
  rfl
theorem g_putI (ci j : Nat) {c0 idx n : Nat} {rf : List (Option Nat)} {v : Int32} {C : String} {T : u_T} {N : Nat} {G : List xC} {u u' : xS} (hd : decode k.2.1 pc = .ok (.putfield idx, 3)) (hw : Cond.fieldLink k.1.cls idx C (T j).2.1 (T j).2.2.1 ∈ xW) (hc : G[c0]? = some (ci + 4, n, rf)) (hq : vwCl[ci]? = some (C, T, N)) (hj : j < N) (hC : (T j).1 = C) (hf : (T j).2.2.2 = false) (ht : x_fty ci j = .int ∨ (x_fty ci j = .boolean ∧ (v = 0 ∨ v = 1))) (hv : wr u c0 j v = u')
    (h : xG sc k d mc ms Q cl sl (pc + 3) L st (G, u')) : xG sc k d mc ms Q cl sl pc L (.int v :: .ref c0 :: st) (G, u) := by
  intro p l e R s m args below meth c X D cA n0 ad0 ad A H locs ls hn ha hR hl
  subst hv
  obtain ⟨hK, hP, hD, hS, hA, hF⟩ := hR
  have ha0 : (x_w cA ad (G, u))[c0]? = some (ad c0, .inr (ci, x_fs ad (u.1 c0) ci rf)) := x_w_at (μ := (G, u)) (c := (ci + 4, n, rf)) hc
  have hnr : x_isR (x_fty ci j) = false := by rcases ht with h | ⟨h, -⟩ <;> rw [h] <;> rfl
  refine va_put (v := .int v) (ty := x_fty ci j) X.1 X.2.1 X.2.2.2.2.2.1 (x_class ci _ hq).1 (x_fty ci) (x_class ci _ hq).2.1 (x_class ci _ hq).2.2 X.2.2.2.2.1 hK hP hD hS c0 ha0 hq j hj (X.2.2.2.2.2.1 _ hw) (fun x hx => by rw [hC] at hx; exact hx) hf ((x_class ci _ hq).2.1 j hj) ?_ ?_ (by rw [x_fs_len hq]; exact hj) hd fun H1 locs1 hP1 hD1 hS1 => ?_
  · rcases ht with hh | ⟨hh, rfl | rfl⟩ <;> rw [hh] <;> rfl
  · rcases ht with hh | ⟨hh, rfl | rfl⟩ <;> rw [hh] <;> rfl
  · have e1 : (x_w cA ad (G, u)).set c0 (ad c0, .inr (ci, (x_fs ad (u.1 c0) ci rf).set j (.int v))) = x_w cA ad (G, wr u c0 j v) := x_w_wr hc (by
      rw [x_fs_set hq hj hnr]
      simp only [x_e, wr, if_true])
    exact h p l e R s m args below meth c X D cA n0 ad0 ad A H1 locs1 ls hn ha ⟨hK, e1 ▸ hP1, e1 ▸ hD1, hS1, hA, hF⟩ hl
theorem g_putR (ci j : Nat) {c0 idx n v : Nat} {rf rf' : List (Option Nat)} {C : String} {T : u_T} {N : Nat} {G G' : List xC} {u : xS} (hd : decode k.2.1 pc = .ok (.putfield idx, 3)) (hw : Cond.fieldLink k.1.cls idx C (T j).2.1 (T j).2.2.1 ∈ xW) (hc : G[c0]? = some (ci + 4, n, rf)) (hq : vwCl[ci]? = some (C, T, N)) (hj : j < N) (hC : (T j).1 = C) (hf : (T j).2.2.2 = true) (hi : k.1.name = "<init>") (hown : C = k.1.cls) (ht : x_isR (x_fty ci j) = true) (hfit : ∀ a, narrow (x_fty ci j) (.ref a) = .ref a ∧ fits (x_fty ci j) (.ref a) = true)
    (hr : rf.set j (some v) = rf') (hl0 : j < rf.length) (hG : G.set c0 (ci + 4, n, rf') = G')
    (h : xG sc k d mc ms Q cl sl (pc + 3) L st (G', u)) : xG sc k d mc ms Q cl sl pc L (.ref v :: .ref c0 :: st) (G, u) := by
  intro p l e R s m args below meth c X D cA n0 ad0 ad A H locs ls hn ha hR hl
  subst hr
  subst hG
  obtain ⟨hK, hP, hD, hS, hA, hF⟩ := hR
  have hlt : c0 < G.length := (List.getElem?_eq_some_iff.mp hc).1
  have ha0 : (x_w cA ad (G, u))[c0]? = some (ad c0, .inr (ci, x_fs ad (u.1 c0) ci rf)) := x_w_at (μ := (G, u)) (c := (ci + 4, n, rf)) hc
  refine va_putF (v := .ref (ad v)) (ty := x_fty ci j) X.1 X.2.1 X.2.2.2.2.2.1 (x_class ci _ hq).1 (x_fty ci) (x_class ci _ hq).2.1 (x_class ci _ hq).2.2 X.2.2.2.2.1 hK hP hD hS c0 ha0 hq j hj (X.2.2.2.2.2.1 _ hw) (fun x hx => by rw [hC] at hx; exact hx) hf (X.2.2.2.2.2.2.2.1.trans hi) (hC.trans hown) ((x_class ci _ hq).2.1 j hj) (hfit _).1 (hfit _).2 (by rw [x_fs_len hq]; exact hj) hd fun H1 locs1 hP1 hD1 hS1 => ?_
  have e1 : (x_w cA ad (G, u)).set c0 (ad c0, .inr (ci, (x_fs ad (u.1 c0) ci rf).set j (.ref (ad v)))) = x_w cA ad (G.set c0 (ci + 4, n, rf.set j (some v)), u) := x_w_set (c := (ci + 4, n, rf.set j (some v))) (List.getElem?_set_self hlt) (by simp) (by
      rw [x_fs_setR (rf' := rf.set j (some v)) hq hj ht (by simp [List.getD_eq_getElem?_getD, hl0]) (fun i hij => by simp [List.getD_eq_getElem?_getD, List.getElem?_set_ne (Ne.symm hij)])]
      rfl) fun k' c' hk h1 => ⟨by rw [List.getElem?_set_ne (Ne.symm hk)]; exact h1, rfl⟩
  have hln : (G.set c0 (ci + 4, n, rf.set j (some v))).length = G.length := by simp
  exact h p l e R s m args below meth c X D cA n0 ad0 ad A H1 locs1 ls (by show _ ≤ (G.set c0 _).length; rw [hln]; exact hn) (by show ∀ j', ¬ (n0 ≤ j' ∧ j' < (G.set c0 _).length) → _; rw [hln]; exact ha) ⟨hK, e1 ▸ hP1, e1 ▸ hD1, hS1, hA, hF⟩ hl
end XF
