/-! SHARE: the best of the lands so far -/
def LI (u : xS) (i : Nat) (a : Nat → Nat) (b b1 : Option (Nat → Nat)) (l : Nat) : Prop := (b1 = b ∨ ∃ b', b1 = some b' ∧ agr b' a i ∧ FE u b' ∧ b' i < l) ∧ (∀ e, agr e a i → FE u e → e i < l → ∃ b', b1 = some b' ∧ vv u e (nQ u) ≤ vv u b' (nQ u)) ∧ (∀ old, b = some old → ∃ b', b1 = some b' ∧ vv u old (nQ u) ≤ vv u b' (nQ u))
theorem LI_0 (u : xS) (i : Nat) (a : Nat → Nat) (b : Option (Nat → Nat)) : LI u i a b b 0 :=
  ⟨Or.inl rfl, fun e _ _ h => by omega, fun old ho => ⟨old, ho, Nat.le_refl _⟩⟩
/-- a land that can't -/
theorem LI_skip {u : xS} {i : Nat} {a : Nat → Nat} {b b1 : Option (Nat → Nat)} {l : Nat} (h : LI u i a b b1 l) (hn : ∀ e, agr e a i → FE u e → e i = l → False) : LI u i a b b1 (l + 1) := by
  obtain ⟨h1, h2, h3⟩ := h
  refine ⟨?_, fun e he hf hl => ?_, h3⟩
  · rcases h1 with h1 | ⟨b', q1, q2, q3, q4⟩
    · exact Or.inl h1
    · exact Or.inr ⟨b', q1, q2, q3, by omega⟩
  · by_cases c : e i = l
    · exact (hn e he hf c).elim
    · exact h2 e he hf (by omega)
/-- a land that can -/
theorem LI_take {u : xS} {i : Nat} {a : Nat → Nat} {b b1 : Option (Nat → Nat)} {l : Nat} {b2 : Nat → Nat} (h : LI u i a b b1 l) (h4 : b1 = some b2 ∨ (agr b2 (ua a i l) (i + 1) ∧ FE u b2)) (h5 : ∀ e, agr e (ua a i l) (i + 1) → FE u e → vv u e (nQ u) ≤ vv u b2 (nQ u)) (h6 : ∀ old, b1 = some old → vv u old (nQ u) ≤ vv u b2 (nQ u)) : LI u i a b (some b2) (l + 1) := by
  obtain ⟨h1, h2, h3⟩ := h
  refine ⟨?_, fun e he hf hl => ?_, fun old ho => ?_⟩
  · rcases h4 with h4 | ⟨q1, q2⟩
    · rcases h1 with h1 | ⟨b', q1, q2, q3, q4⟩
      · left; rw [← h4, h1]
      · rw [h4] at q1
        cases q1
        exact Or.inr ⟨b2, rfl, q2, q3, by omega⟩
    · obtain ⟨q3, q4⟩ := ua_agr.mp q1
      exact Or.inr ⟨b2, rfl, q3, q2, by omega⟩
  · by_cases c : e i = l
    · exact ⟨b2, rfl, h5 e (ua_agr.mpr ⟨he, c⟩) hf⟩
    · obtain ⟨b', q1, q2⟩ := h2 e he hf (by omega)
      exact ⟨b2, rfl, Nat.le_trans q2 (h6 b' q1)⟩
  · obtain ⟨b', q1, q2⟩ := h3 old ho
    exact ⟨b2, rfl, Nat.le_trans q2 (h6 b' q1)⟩
/-- the digits' premise for the next one -/
theorem LI_dig {u : xS} {i : Nat} {a : Nat → Nat} {b b1 : Option (Nat → Nat)} {l : Nat} (hi : i < nQ u) (hQ : nQ u ≤ 8) (hl : l ≤ 4) (h : LI u i a b b1 l) (h3 : ∀ old, b = some old → ∀ e, agr e a i → digs e (nQ u) < digs old (nQ u)) : ∀ old, b1 = some old → ∀ e, agr e a i → e i = l → digs e (nQ u) < digs old (nQ u) := by
  intro old ho e he el
  rcases h.1 with h1 | ⟨b', q1, q2, q3, q4⟩
  · exact h3 old (by rw [← h1, ho]) e he
  · rw [q1] at ho
    cases ho
    refine digs_lt hi hQ (fun j hj => by rw [he j hj, q2 j hj]) ?_
    rw [el]
    unfold dg
    rw [if_pos (show old i < 4 by omega)]
    by_cases c : l < 4
    · rw [if_pos c]; omega
    · rw [if_neg c]; omega
