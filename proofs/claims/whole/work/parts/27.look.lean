/-! WHICH LOOK HOLDS -/
theorem look_key {u : xS} (hK : i_K u) (v w : Int32) : ∀ (N i : Nat) (x y z : Int32), nK u < N + i → i ≤ nK u → ((z = -1 ∧ x = -1 ∧ y = -1) ∨ ∃ k, k < i ∧ z = nI k ∧ x = nI k ∧ y = rd u 151 k) →
    ∃ r, f_X5_held_8 u N v w x y (nI i) = some r ∧ f_X12_lookOf_5 u N v w z (nI i) = some r ∧ (r = -1 ∨ ∃ k, k < nK u ∧ r = nI k) := by
  obtain ⟨p1, p2, p3, p5, p4⟩ := hK
  intro N
  induction N with
  | zero => intro i x y z h1 h2; omega
  | succ N ih =>
    intro i x y z h1 h2 hR
    by_cases hi : i = nK u
    · simp (disch := omega) only [f_X5_held_8, f_X12_lookOf_5, p1, p2, ite_yle]
      rcases hR with ⟨rfl, rfl, rfl⟩ | ⟨k, hk, rfl, rfl, rfl⟩
      · exact ⟨-1, rfl, rfl, Or.inl rfl⟩
      · exact ⟨nI k, rfl, rfl, Or.inr ⟨k, by omega, rfl⟩⟩
    · obtain ⟨q1, q2, q3, -, -, ⟨e, he, q4⟩, -, -⟩ := p4 i (by omega)
      have ih' := ih (i + 1)
      simp (disch := omega) only [f_X5_held_8, f_X5_held_77, f_X12_lookOf_5, f_X12_lookOf_73, f_X12_lookOf_70, p1, p2, p5, ite_nle, gd_nI, nI_cl, l_1, nI_add, q1, q2, q3]
      have hR' : (z = -1 ∧ x = -1 ∧ y = -1) ∨ ∃ k, k < i + 1 ∧ z = nI k ∧ x = nI k ∧ y = rd u 151 k := by
        rcases hR with h | ⟨k, hk, h⟩
        · exact Or.inl h
        · exact Or.inr ⟨k, by omega, h⟩
      have hN : (nI i = -1 ∧ nI i = -1 ∧ rd u 151 i = -1) ∨ ∃ k, k < i + 1 ∧ nI i = nI k ∧ nI i = nI k ∧ rd u 151 i = rd u 151 k := Or.inr ⟨i, by omega, rfl, rfl, rfl⟩
      by_cases c1 : rd u 149 i = v
      · by_cases c0 : rd u 150 i = w
        · by_cases c2 : rd u 135 24 < rd u 151 i
          · simp only [if_pos c1, if_pos c0, if_pos c2]
            exact ih' x y z (by omega) (by omega) hR'
          · simp only [if_pos c1, if_pos c0, if_neg c2]
            rcases hR with ⟨rfl, rfl, rfl⟩ | ⟨k, hk, rfl, rfl, rfl⟩
            · rw [if_neg (show ¬ rd u 151 i < -1 by rw [q4, Int32.lt_iff_toInt_lt, nI_toInt (by omega)]; have : (-1 : Int32).toInt = -1 := rfl; omega), if_pos (by decide)]
              exact ih' _ _ _ (by omega) (by omega) hN
            · rw [if_neg (nI_pos (by omega)), gd_nI (by omega) (by omega), nI_cl (by omega)]
              by_cases c3 : rd u 151 i < rd u 151 k
              · simp only [if_pos c3]
                exact ih' _ _ _ (by omega) (by omega) hR'
              · simp only [if_neg c3]
                exact ih' _ _ _ (by omega) (by omega) hN
        · simp only [if_pos c1, if_neg c0]
          exact ih' x y z (by omega) (by omega) hR'
      · simp only [if_neg c1]
        exact ih' x y z (by omega) (by omega) hR'
/-- the look that both find -/
def lko (u : xS) (v w : Int32) : Int32 := (it (fun i p => if rd u 149 i = v then (if rd u 150 i = w then (if rd u 135 24 < rd u 151 i then p else if rd u 151 i < p.2 then p else (nI i, rd u 151 i)) else p) else p) ((-1 : Int32), (-1 : Int32)) (nK u)).1
theorem c_held {u : xS} (hK : i_K u) (v w : Int32) : f_X5_held u v w = some (lko u v w) := by
  obtain ⟨p1, p2, p3, p5, p4⟩ := hK
  refine it_loop (F := fun N i p => f_X5_held_8 u N v w p.1 p.2 (nI i)) (a := ((-1 : Int32), (-1 : Int32))) _ (fun p => some p.1) (fun n i p hi => ?_) (fun n p => by simp (disch := omega) only [f_X5_held_8, p1, ite_yle]) (xN_lt (by omega))
  obtain ⟨q1, q2, q3, -⟩ := p4 i (by omega)
  simp (disch := omega) only [f_X5_held_8, f_X5_held_77, p1, p5, ite_nle, gd_nI, nI_cl, nI_1, q1, q2, q3]
  by_cases c1 : rd u 149 i = v
  · by_cases c0 : rd u 150 i = w
    · by_cases c2 : rd u 135 24 < rd u 151 i
      · simp only [if_pos c1, if_pos c0, if_pos c2]
      · by_cases c3 : rd u 151 i < p.2
        · simp only [if_pos c1, if_pos c0, if_neg c2, if_pos c3]
        · simp only [if_pos c1, if_pos c0, if_neg c2, if_neg c3]
    · simp only [if_pos c1, if_neg c0]
  · simp only [if_neg c1]
theorem c_look {u : xS} (hK : i_K u) (v w : Int32) : f_X5_held u v w = some (lko u v w) ∧ f_X12_lookOf u v w = some (lko u v w) ∧ (lko u v w = -1 ∨ ∃ k, k < nK u ∧ lko u v w = nI k) := by
  have p3 := hK.2.2.1
  obtain ⟨r, h1, h2, h3⟩ := look_key hK v w xN 0 (-1) (-1) (-1) (by have : xN = 1000000 := rfl; omega) (by omega) (Or.inl ⟨rfl, rfl, rfl⟩)
  have e : f_X5_held u v w = some r := h1
  have e1 : f_X12_lookOf u v w = some r := h2
  rw [c_held hK] at e
  have e2 := Option.some.inj e
  rw [e2]
  exact ⟨by rw [c_held hK, e2], e1, h3⟩
theorem lko_fr {u u' : xS} (h : sm kK u u') (v w : Int32) : lko u' v w = lko u v w := by
  have q0 : nK u' = nK u := congrArg nv (h 135 18 rfl)
  have q1 : rd u' 135 24 = rd u 135 24 := h 135 24 rfl
  have q5 : ∀ i, rd u' 149 i = rd u 149 i := fun i => h 149 i rfl
  have q6 : ∀ i, rd u' 150 i = rd u 150 i := fun i => h 150 i rfl
  have q7 : ∀ i, rd u' 151 i = rd u 151 i := fun i => h 151 i rfl
  simp only [lko, q0, q1, q5, q6, q7]
/-! parents -/
/-- whether s is o or a part of it -/
def wk (u : xS) (o : Nat) : Nat → Nat → Bool
  | 0, _ => false
  | n + 1, s => if s = o then true else if rd u 136 (7 * s + 6) = -1 then false else wk u o n (nv (rd u 136 (7 * s + 6)))
theorem wk_fr {u u' : xS} (h : sm kS u u') (o : Nat) : ∀ n s, wk u' o n s = wk u o n s := by
  have q3 : ∀ i, rd u' 136 i = rd u 136 i := fun i => h 136 i rfl
  intro n
  induction n with
  | zero => intro s; rfl
  | succ n ih => intro s; simp only [wk, q3, ih]
theorem within_key {u : xS} (hS : i_S u) {o : Nat} (ho : o < nS u) : ∀ (N M n s st : Nat), s + 1 < N → s + 1 < M → s < n → s < nS u → st + s < 16 → f_X12_isWithin_2 u N (nI o) (nI s) = some (if wk u o n s = true then 1 else 0) ∧ f_X8_isPart_5 u M (nI o) (nI s) (nI st) = some (if wk u o n s = true then 1 else 0) := by
  obtain ⟨s1, s2, s3, s4⟩ := hS
  intro N
  induction N with
  | zero => intro M n s st h; omega
  | succ N ih =>
    intro M n s st h1 h2 h5 h3 h4
    obtain ⟨M, rfl⟩ : ∃ M', M = M' + 1 := ⟨M - 1, by omega⟩
    obtain ⟨n, rfl⟩ : ∃ n', n = n' + 1 := ⟨n - 1, by omega⟩
    have hs : 0 ≤ nI s ∧ nI s < nI (nS u) := ⟨nI_lo (by omega), nI_lt h3 (by omega)⟩
    obtain ⟨-, q2, q3⟩ := s4 s h3
    simp (disch := omega) only [f_X12_isWithin_2, f_X12_isWithin_20, f_X12_parent, f_X8_isPart_5, hasS s1, if_pos hs, ite_10, l_16, l_7, l_6, pk_mul, nI_add, nI_1, ite_nle, gd_nI, nI_cl, Option.bind_some, q2, wk]
    rw [if_neg (nI_pos (by omega))]
    by_cases c1 : s = o
    · subst c1
      simp
    · have c2 : ¬ nI s = nI o := fun h => c1 (nI_inj (by omega) (by omega) h)
      simp only [if_neg c2, if_neg c1]
      rcases q3 with q3 | ⟨p, hp, q3⟩
      · simp only [q3]
        constructor
        · obtain ⟨N, rfl⟩ : ∃ N', N = N' + 1 := ⟨N - 1, by omega⟩
          have : ¬ (-1 : Int32) = nI o := by
            intro h
            have := nI_lo (n := o) (by omega)
            rw [← h] at this
            exact absurd this (by decide)
          simp [f_X12_isWithin_2, f_X12_isWithin_20, this]
        · obtain ⟨M, rfl⟩ : ∃ M', M = M' + 1 := ⟨M - 1, by omega⟩
          have : ¬ (0 ≤ (-1 : Int32) ∧ (-1 : Int32) < nI (nS u)) := fun h => absurd h.1 (by decide)
          simp only [f_X8_isPart_5, hasS s1, ite_10, if_neg this]
          simp
      · have : ¬ rd u 136 (7 * s + 6) = -1 := by
          rw [q3]
          intro h
          have := nI_lo (n := p) (by omega)
          rw [h] at this
          exact absurd this (by decide)
        rw [if_neg this, q3, nv_nI (by omega)]
        exact ih M n p (st + 1) (by omega) (by omega) (by omega) (by omega) (by omega)
theorem c_within {u : xS} (hS : i_S u) {o s : Nat} (ho : o < nS u) (hs : s < nS u) : f_X12_isWithin u (nI s) (nI o) = some (if wk u o 16 s = true then 1 else 0) ∧ f_X8_isPart u (nI s) (nI o) = some (if wk u o 16 s = true then 1 else 0) := by
  have s3 := hS.2.2.1
  have : xN = 1000000 := rfl
  exact within_key hS ho xN xN 16 s 0 (by omega) (by omega) (by omega) hs (by omega)
