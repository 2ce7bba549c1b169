/-! TEXT: the class reads as the automaton does -/
def bi (b : Bool) : Int32 := if b = true then 1 else 0
abbrev wQ : List (Nat × Nat) := [(54, 2), (54, 4), (54, 6), (54, 7), (54, 8), (54, 9), (55, 0), (56, 0), (57, 0)]
def CM (mi : Int32) (u : xS) : aC → Prop
  | (w, d, o, r, f) => rd u 54 7 = bi w ∧ rd u 54 6 = nI d ∧ rd u 54 5 = nI (f.length - 1) ∧ rd u 54 3 = nI o.length ∧ sk u 56 0 (o.map nI) ∧ rd u 54 1 = nI r.length ∧ sk u 55 0 (r.map em) ∧ sk u 57 0 (f.map bi) ∧ rd u 54 8 = mi
def AI (i : Nat) : aC → Prop
  | (w, d, o, r, f) => r.length + o.length ≤ i ∧ f.length ≤ i + 1 ∧ 1 ≤ f.length ∧ d ≤ 4 ∧ (w = true ∨ d = 0 ∨ ∃ v r', r = nI v :: r' ∧ v < 10 ^ d) ∧ ∀ x, x ∈ o → x < 256 ∧ (x = 40 ∨ 1 ≤ alev x)
theorem te_lev : ∀ s, s < 256 → f_X7_level (nI s) = nI (alev s) := by decide +kernel
theorem te_dig : ∀ s, s < 256 → f_X7_isDigit (nI s) = if 48 ≤ s ∧ s ≤ 57 then 1 else 0 := by decide +kernel
theorem te_let : ∀ s, s < 256 → f_X7_isLetter (nI s) = if isL s = true then 1 else 0 := by decide +kernel
theorem te_joi : ∀ s, s < 256 → f_X7_joins (nI s) = if 1 ≤ alev s ∧ alev s ≤ 5 then 1 else 0 := by decide +kernel
theorem te_op : ∀ s, s < 256 → 1 ≤ alev s → -(nI s) = em (amk s) := by decide +kernel
theorem te_lm : ∀ s, s < 256 → isL s = true → -(nI s) = em (lmk s) := by decide +kernel
theorem te_dg : ∀ s, s < 256 → 48 ≤ s ∧ s ≤ 57 → nI s - 48 = em (nI (s - 48)) := by decide +kernel
theorem te_40 : alev 40 = 0 := rfl
theorem alev_6 (x : Nat) : alev x ≤ 6 := by
  by_cases h : 1 ≤ alev x ∧ alev x ≤ 5
  · omega
  · unfold alev
    repeat first | omega | (split <;> try omega)
theorem ne_c {s k : Nat} (h : ¬ s = k) (hs : s < 256) (hk : k < 256) : ¬ nI s = nI k := fun z => h ((nI_eq (by omega) (by omega)).mp z)
theorem em_nn {m : Int32} (h : 0 ≤ m) : em m = m := by
  unfold em
  rw [if_pos h]
theorem emit_ok {u : xS} {r : List Int32} {v m : Int32} (h1 : rd u 54 1 = nI r.length) (hl : r.length < 64) (h2 : sk u 55 0 (r.map em)) (hv : v = em m) : ∃ u', f_X7_emit v u = some u' ∧ rd u' 54 1 = nI (m :: r).length ∧ sk u' 55 0 ((m :: r).map em) ∧ ∀ c j, ¬ c = 55 → ¬ (c = 54 ∧ j = 1) → rd u' c j = rd u c j := by
  refine ⟨wr (wr u 55 r.length v) 54 1 (nI (r.length + 1)), ?_, ?_, ?_, fun c j q1 q2 => ?_⟩
  · rw [f_X7_emit, h1, if_neg (show ¬ (64 : Int32) ≤ nI r.length from nI_ge (b := 64) hl (by omega)), gd_nI hl (by omega), nI_cl (by omega), nI_1]
  · rw [rd_wr, if_pos rfl, if_pos rfl, List.length_cons]
  · have := sk_push (x := v) h2
    rw [List.length_map, Nat.zero_add] at this
    rw [List.map_cons, ← hv]
    exact sk_ne this (by decide)
  · rw [rd_wr_ne q2, rd_wr_ne (fun z => q1 z.1)]
theorem hold_ok2 {u : xS} {o : List Nat} {s : Nat} (h1 : rd u 54 3 = nI o.length) (hl : o.length < 64) (h2 : sk u 56 0 (o.map nI)) : ∃ u', f_X7_hold (nI s) u = some u' ∧ rd u' 54 3 = nI (s :: o).length ∧ sk u' 56 0 ((s :: o).map nI) ∧ ∀ c j, ¬ c = 56 → ¬ (c = 54 ∧ j = 3) → rd u' c j = rd u c j := by
  refine ⟨wr (wr u 56 o.length (nI s)) 54 3 (nI (o.length + 1)), ?_, ?_, ?_, fun c j q1 q2 => ?_⟩
  · rw [f_X7_hold, h1, if_neg (show ¬ (64 : Int32) ≤ nI o.length from nI_ge (b := 64) hl (by omega)), gd_nI hl (by omega), nI_cl (by omega), nI_1]
  · rw [rd_wr, if_pos rfl, if_pos rfl, List.length_cons]
  · have := sk_push (x := nI s) h2
    rw [List.length_map, Nat.zero_add] at this
    rw [List.map_cons]
    exact sk_ne this (by decide)
  · rw [rd_wr_ne q2, rd_wr_ne (fun z => q1 z.1)]
theorem sk_eq {u u' : xS} {c : Nat} {l : List Int32} (h : sk u c 0 l) (hf : ∀ j, rd u' c j = rd u c j) : sk u' c 0 l := sk_frame h fun j _ => hf (0 + j)
theorem bring_ok {l : Nat} (hl : 1 ≤ l) (hl6 : l ≤ 6) : ∀ (o : List Nat) (r : List Int32) (N : Nat) (u : xS), o.length < N → r.length + o.length ≤ 62 → (∀ x, x ∈ o → x < 256 ∧ (x = 40 ∨ 1 ≤ alev x)) → rd u 54 3 = nI o.length → sk u 56 0 (o.map nI) → rd u 54 1 = nI r.length → sk u 55 0 (r.map em) → ∃ u', f_X7_bringOut_0 N (nI l) u = some u' ∧ rd u' 54 3 = nI (abr l o r).1.length ∧ sk u' 56 0 ((abr l o r).1.map nI) ∧ rd u' 54 1 = nI (abr l o r).2.length ∧ sk u' 55 0 ((abr l o r).2.map em) ∧ ∀ c j, ¬ c = 55 → ¬ (c = 54 ∧ (j = 1 ∨ j = 3)) → rd u' c j = rd u c j := by
  intro o
  induction o with
  | nil =>
    intro r N u h1 h2 h3 h4 h5 h6 h7
    obtain ⟨N, rfl⟩ : ∃ M, N = M + 1 := ⟨N - 1, by omega⟩
    refine ⟨u, ?_, h4, h5, h6, h7, fun _ _ _ _ => rfl⟩
    rw [f_X7_bringOut_0, h4, if_pos (show nI ([] : List Nat).length ≤ 0 from by decide)]
  | cons x t ih =>
    intro r N u h1 h2 h3 h4 h5 h6 h7
    rw [List.length_cons] at h1 h2 h4
    obtain ⟨N, rfl⟩ : ∃ M, N = M + 1 := ⟨N - 1, by omega⟩
    obtain ⟨x1, x2⟩ := h3 x List.mem_cons_self
    have hx : rd u 56 t.length = nI x := by
      have := h5.1
      rwa [List.length_map, Nat.zero_add] at this
    have op : f_X7_bringOut_0 (N + 1) (nI l) u = if nI (alev x) < nI l then some u else (f_X7_emit (-(nI x)) (wr u 54 3 (nI t.length))).bind fun u5 => f_X7_bringOut_0 N (nI l) u5 := by
      rw [f_X7_bringOut_0, h4, if_neg (nI_nle (by omega) (by omega)), nI_pred, gd_nI (by omega) (by omega), nI_cl (by omega), hx, te_lev x x1]
    have h6' := alev_6 x
    by_cases c1 : l ≤ alev x
    · obtain ⟨u1, e1, e2, e3, e4⟩ := emit_ok (u := wr u 54 3 (nI t.length)) (r := r) (m := amk x) ((rd_wr_ne (by omega)).trans h6) (by omega) (sk_ne h7 (by decide)) (te_op x x1 (by omega))
      obtain ⟨u', z1, z2, z3, z4, z5, z6⟩ := ih (amk x :: r) N u1 (by omega) (by rw [List.length_cons]; omega) (fun y hy => h3 y (List.mem_cons_of_mem _ hy)) ((e4 54 3 (by decide) (by omega)).trans rfl) (sk_eq (sk_ne h5.2 (by decide)) fun j => e4 56 j (by decide) (by omega)) e2 e3
      rw [abr, if_pos c1]
      refine ⟨u', ?_, z2, z3, z4, z5, fun c j q1 q2 => (z6 c j q1 q2).trans ((e4 c j q1 (fun z => q2 ⟨z.1, Or.inl z.2⟩)).trans (rd_wr_ne (fun z => q2 ⟨z.1, Or.inr z.2⟩)))⟩
      rw [op, if_neg (nI_nlt c1 (by omega)), e1, Option.bind_some]
      exact z1
    · rw [abr, if_neg c1]
      refine ⟨u, ?_, h4, h5, h6, h7, fun _ _ _ _ => rfl⟩
      rw [op, if_pos (nI_lt (by omega) (by omega))]
theorem abr_len (l : Nat) : ∀ (o : List Nat) (r : List Int32), (abr l o r).2.length + (abr l o r).1.length = r.length + o.length := by
  intro o
  induction o with
  | nil => intro r; rfl
  | cons x t ih =>
    intro r
    rw [abr]
    by_cases c : l ≤ alev x
    · rw [if_pos c, ih, List.length_cons, List.length_cons]
      omega
    · rw [if_neg c]
theorem abr_mem (l : Nat) {y : Nat} : ∀ (o : List Nat) (r : List Int32), y ∈ (abr l o r).1 → y ∈ o := by
  intro o
  induction o with
  | nil => intro r h; exact h
  | cons x t ih =>
    intro r h
    rw [abr] at h
    by_cases c : l ≤ alev x
    · rw [if_pos c] at h
      exact List.mem_cons_of_mem _ (ih _ h)
    · rw [if_neg c] at h
      exact h
theorem tail_mem {y : Nat} : ∀ {o : List Nat}, y ∈ o.tail → y ∈ o
  | [], h => h
  | _ :: _, h => List.mem_cons_of_mem _ h
/-! where a thing is wanted -/
theorem beg_ok {mi : Int32} {u : xS} {i s d : Nat} {o : List Nat} {r : List Int32} {f : List Bool} (hC : CM mi u (true, d, o, r, f)) (hA : AI i (true, d, o, r, f)) (hi : i < 60) (hs : s < 256) : (∀ y, aBeg s d o r f = some y → ∃ u', f_X7_begins (nI s) u = some (1, u') ∧ CM mi u' y ∧ AI (i + 1) y ∧ ag wQ u u') ∧ (aBeg s d o r f = none → ∃ u', f_X7_begins (nI s) u = some (0, u') ∧ ag wQ u u') := by
  obtain ⟨m1, m2, m3, m4, m5, m6, m7, m8, m9⟩ := hC
  obtain ⟨a1, a2, a3, a4, a5, a6⟩ := hA
  have fr56 : ∀ u' : xS, (∀ c j, ¬ c = 56 → ¬ (c = 54 ∧ j = 3) → rd u' c j = rd u c j) → ag wQ u u' := fun u' h c j hc => h c j (ne_W 56 (fun _ => rfl) hc) (fun z => by rw [z.1, z.2] at hc; revert hc; decide)
  have fr55 : ∀ u' : xS, (∀ c j, ¬ c = 55 → ¬ (c = 54 ∧ j = 1) → rd u' c j = rd u c j) → ag wQ u u' := fun u' h c j hc => h c j (ne_W 55 (fun _ => rfl) hc) (fun z => by rw [z.1, z.2] at hc; revert hc; decide)
  have un : ∀ x : Nat, x < 256 → 1 ≤ alev x → ∃ u', f_X7_begins_25 (nI x) u = some (1, u') ∧ CM mi u' (true, d, x :: o, r, f) ∧ AI (i + 1) (true, d, x :: o, r, f) ∧ ag wQ u u' := fun x hx hx1 => by
    obtain ⟨u', e1, e2, e3, e4⟩ := hold_ok2 (s := x) m4 (by omega) m5
    refine ⟨u', by rw [f_X7_begins_25, e1, Option.bind_some], ⟨(e4 54 7 (by decide) (by omega)).trans m1, (e4 54 6 (by decide) (by omega)).trans m2, (e4 54 5 (by decide) (by omega)).trans m3, e2, e3, (e4 54 1 (by decide) (by omega)).trans m6, sk_eq m7 fun j => e4 55 j (by decide) (by omega), sk_eq m8 fun j => e4 57 j (by decide) (by omega), (e4 54 8 (by decide) (by omega)).trans m9⟩, ⟨by rw [List.length_cons]; omega, by omega, a3, a4, Or.inl rfl, fun y hy => ?_⟩, fr56 u' e4⟩
    rcases List.mem_cons.mp hy with e | hy
    · rw [e]
      exact ⟨hx, Or.inr hx1⟩
    · exact a6 y hy
  have th : ∀ (m : Int32) (d' : Nat) (v : Int32) (u1 : xS), d' ≤ 4 → v = em m → (d' = 0 ∨ ∃ w, m = nI w ∧ w < 10 ^ d') → f_X7_emit v u = some u1 → ∃ u', f_X7_begins_118 (wr u1 54 6 (nI d')) = some (1, u') ∧ CM mi u' (false, d', o, m :: r, f) ∧ AI (i + 1) (false, d', o, m :: r, f) ∧ ag wQ u u' := fun m d' v u1 hd hv hw he => by
    obtain ⟨u2, e1, e2, e3, e4⟩ := emit_ok m6 (by omega) m7 hv
    rw [he] at e1
    cases e1
    refine ⟨wr (wr u1 54 6 (nI d')) 54 7 0, rfl, ⟨rfl, rfl, ?_, ?_, ?_, ?_, ?_, ?_, ?_⟩, ⟨by rw [List.length_cons]; omega, by omega, a3, hd, Or.inr (hw.imp id fun ⟨w, q1, q2⟩ => ⟨w, r, by rw [q1], q2⟩), a6⟩, ag_wr (ag_wr (fr55 u1 e4) rfl) rfl⟩
    · rw [rd_wr_ne (by omega), rd_wr_ne (by omega)]
      exact (e4 54 5 (by decide) (by omega)).trans m3
    · rw [rd_wr_ne (by omega), rd_wr_ne (by omega)]
      exact (e4 54 3 (by decide) (by omega)).trans m4
    · exact sk_ne (sk_ne (sk_eq m5 fun j => e4 56 j (by decide) (by omega)) (by decide)) (by decide)
    · rw [rd_wr_ne (by omega), rd_wr_ne (by omega)]
      exact e2
    · exact sk_ne (sk_ne e3 (by decide)) (by decide)
    · exact sk_ne (sk_ne (sk_eq m8 fun j => e4 57 j (by decide) (by omega)) (by decide)) (by decide)
    · rw [rd_wr_ne (by omega), rd_wr_ne (by omega)]
      exact (e4 54 8 (by decide) (by omega)).trans m9
  unfold aBeg
  rw [f_X7_begins]
  by_cases c1 : s = 33
  · subst c1
    obtain ⟨u', z1, z2⟩ := un 33 (by omega) (by decide)
    rw [if_pos rfl, if_pos (show nI 33 = (33 : Int32) from rfl)]
    refine ⟨fun y hy => ?_, fun hn => by cases hn⟩
    cases hy
    refine ⟨u', ?_, z2⟩
    rw [f_X7_begins_12, if_neg (by decide)]
    exact z1
  · rw [if_neg c1, if_neg (show ¬ nI s = (33 : Int32) from ne_c (k := 33) c1 hs (by decide))]
    by_cases c2 : s = 45
    · subst c2
      obtain ⟨u', z1, z2⟩ := un 126 (by omega) (by decide)
      rw [if_pos rfl, if_pos (show nI 45 = (45 : Int32) from rfl)]
      refine ⟨fun y hy => ?_, fun hn => by cases hn⟩
      cases hy
      refine ⟨u', ?_, z2⟩
      rw [f_X7_begins_12, if_pos (show nI 45 = (45 : Int32) from rfl)]
      exact z1
    · rw [if_neg c2, if_neg (show ¬ nI s = (45 : Int32) from ne_c (k := 45) c2 hs (by decide))]
      by_cases c3 : s = 40
      · subst c3
        rw [if_pos rfl, if_pos (show nI 40 = (40 : Int32) from rfl)]
        refine ⟨fun y hy => ?_, fun hn => by cases hn⟩
        cases hy
        obtain ⟨u1, e1, e2, e3, e4⟩ := hold_ok2 (s := 40) m4 (by omega) m5
        have e5 : rd u1 54 5 = nI (f.length - 1) := (e4 54 5 (by decide) (by omega)).trans m3
        obtain ⟨L, hL⟩ : ∃ L, f.length = L + 1 := ⟨f.length - 1, by omega⟩
        rw [hL, Nat.add_sub_cancel] at e5
        have h57 : sk (wr (wr u1 54 5 (nI (L + 1))) 57 (L + 1) 0) 57 0 ((false :: f).map bi) := by
          have h0 : sk (wr u1 54 5 (nI (L + 1))) 57 0 (f.map bi) := sk_ne (sk_eq m8 fun j => e4 57 j (by decide) (by omega)) (by decide)
          have := sk_push (x := 0) h0
          rw [List.length_map, Nat.zero_add, hL] at this
          exact this
        refine ⟨wr (wr u1 54 5 (nI (L + 1))) 57 (L + 1) 0, ?_, ⟨?_, ?_, ?_, ?_, ?_, ?_, ?_, h57, ?_⟩, ⟨by rw [List.length_cons]; omega, by rw [List.length_cons]; omega, by rw [List.length_cons]; omega, a4, Or.inl rfl, fun y hy => ?_⟩, ag_wr (ag_wr (fr56 u1 e4) rfl) rfl⟩
        · rw [e1, Option.bind_some, e5, nI_1, if_neg (show ¬ (64 : Int32) ≤ nI (L + 1) from nI_ge (b := 64) (by omega) (by omega)), gd_nI (by omega) (by omega), nI_cl (by omega)]
        · rw [rd_wr_ne (by omega), rd_wr_ne (by omega)]
          exact (e4 54 7 (by decide) (by omega)).trans m1
        · rw [rd_wr_ne (by omega), rd_wr_ne (by omega)]
          exact (e4 54 6 (by decide) (by omega)).trans m2
        · rw [List.length_cons, hL, Nat.add_sub_cancel, rd_wr_ne (by omega), rd_wr, if_pos rfl, if_pos rfl]
        · rw [rd_wr_ne (by omega), rd_wr_ne (by omega)]
          exact e2
        · exact sk_ne (sk_ne e3 (by decide)) (by decide)
        · rw [rd_wr_ne (by omega), rd_wr_ne (by omega)]
          exact (e4 54 1 (by decide) (by omega)).trans m6
        · exact sk_ne (sk_ne (sk_eq m7 fun j => e4 55 j (by decide) (by omega)) (by decide)) (by decide)
        · rw [rd_wr_ne (by omega), rd_wr_ne (by omega)]
          exact (e4 54 8 (by decide) (by omega)).trans m9
        · rcases List.mem_cons.mp hy with e | hy
          · rw [e]
            exact ⟨by omega, Or.inl rfl⟩
          · exact a6 y hy
      · rw [if_neg c3, if_neg (show ¬ nI s = (40 : Int32) from ne_c (k := 40) c3 hs (by decide)), te_dig s hs, ite_10]
        by_cases c4 : 48 ≤ s ∧ s ≤ 57
        · rw [if_pos c4, if_pos c4]
          refine ⟨fun y hy => ?_, fun hn => by cases hn⟩
          cases hy
          obtain ⟨u1, e1, -⟩ := emit_ok m6 (by omega) m7 (te_dg s hs c4)
          obtain ⟨u', z1, z2⟩ := th (nI (s - 48)) 1 _ u1 (by omega) (te_dg s hs c4) (Or.inr ⟨s - 48, rfl, by omega⟩) e1
          exact ⟨u', by rw [e1, Option.bind_some]; exact z1, z2⟩
        · rw [if_neg c4, if_neg c4, te_let s hs, ite_10]
          by_cases c5 : isL s = true
          · rw [if_pos c5, if_pos c5]
            refine ⟨fun y hy => ?_, fun hn => by cases hn⟩
            cases hy
            obtain ⟨u1, e1, -⟩ := emit_ok m6 (by omega) m7 (te_lm s hs c5)
            obtain ⟨u', z1, z2⟩ := th (lmk s) 0 _ u1 (by omega) (te_lm s hs c5) (Or.inl rfl) e1
            exact ⟨u', by rw [e1, Option.bind_some]; exact z1, z2⟩
          · rw [if_neg c5, if_neg c5]
            exact ⟨fun y hy => (by cases hy), fun _ => ⟨u, rfl, ag_refl _ _⟩⟩
