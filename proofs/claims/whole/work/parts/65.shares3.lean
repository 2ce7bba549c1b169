/-! SHARE: one pack more -/
def ua (a : Nat → Nat) (i x : Nat) : Nat → Nat := fun j => if j = i then x else a j
theorem ua_agr {e a : Nat → Nat} {i x : Nat} : agr e (ua a i x) (i + 1) ↔ agr e a i ∧ e i = x := by
  constructor
  · intro h
    refine ⟨fun j hj => ?_, ?_⟩
    · have := h j (by omega)
      rw [this]
      unfold ua
      rw [if_neg (by omega)]
    · have := h i (by omega)
      rw [this]
      unfold ua
      rw [if_pos rfl]
  · rintro ⟨h1, h2⟩ j hj
    unfold ua
    by_cases e : j = i
    · rw [if_pos e, e, h2]
    · rw [if_neg e]
      exact h1 j (by omega)
theorem ua_i (a : Nat → Nat) (i x : Nat) : ua a i x i = x := if_pos rfl
theorem ua_n {a : Nat → Nat} {i x j : Nat} (h : ¬ j = i) : ua a i x j = a j := if_neg h
theorem cnt_ua (a : Nat → Nat) (i x l : Nat) : cnt (ua a i x) l (i + 1) = cnt a l i + if x = l then 1 else 0 := by
  have h1 : nsum (fun j => if ua a i x j = l then 1 else 0) i = cnt a l i := nsum_congr fun j hj => by
    rw [ua_n (show ¬ j = i by omega)]
  unfold cnt at h1 ⊢
  rw [nsum, h1, ua_i]
theorem sm_ua (u : xS) (a : Nat → Nat) (i x : Nat) : smN u (ua a i x) (i + 1) = smN u a i + if x < 4 then gN u x i else 0 := by
  have h1 : nsum (fun j => if ua a i x j < 4 then gN u (ua a i x j) j else 0) i = smN u a i := nsum_congr fun j hj => by
    rw [ua_n (show ¬ j = i by omega)]
  unfold smN at h1 ⊢
  rw [nsum, h1, ua_i]
/-- going down with x at i -/
theorem down12 {u : xS} {a : Nat → Nat} {i x : Nat} {b : Option (Nat → Nat)} {u' : xS} (hi : i < nQ u) (hQ : nQ u ≤ 8) (hx : x ≤ 4) (h1 : sh u a i u') (h2 : bst u (nQ u) b u') (h4 : ∀ j, j < i → a j < 4 → kG u (a j) j = true) (h5 : ∀ l, l < 4 → cnt a l i ≤ rmN u l) (hb : ∀ old, b = some old → (∀ e, agr e a i → e i = x → digs e (nQ u) < digs old (nQ u))) (hk : x < 4 → kG u x i = true ∧ cnt a x i < rmN u x) : PR u (i + 1) (ua a i x) b (wr (if x < 4 then wr u' 180 x (nI (cnt a x i + 1)) else u') 178 i (cd x)) := by
  have fr : ∀ c j, ¬ c = 178 → ¬ c = 180 → rd (wr (if x < 4 then wr u' 180 x (nI (cnt a x i + 1)) else u') 178 i (cd x)) c j = rd u' c j := fun c j q1 q2 => by
    rw [rd_wr_ne (fun z => q1 z.1)]
    by_cases c4 : x < 4
    · rw [if_pos c4, rd_wr_ne (fun z => q2 z.1)]
    · rw [if_neg c4]
  refine ⟨⟨fun c j q1 q2 q3 q4 => (fr c j q1 q3).trans (h1.1 c j q1 q2 q3 q4), fun j hj => ?_, fun l hl => ?_⟩, ?_, fun old ho e he => ?_, fun j hj hj4 => ?_, fun l hl => ?_⟩
  · by_cases e : j = i
    · rw [e, rd_wr, if_pos rfl, if_pos rfl]
      unfold ua
      rw [if_pos rfl]
    · rw [rd_wr_ne (by omega)]
      have : rd (if x < 4 then wr u' 180 x (nI (cnt a x i + 1)) else u') 178 j = rd u' 178 j := by
        by_cases c4 : x < 4
        · rw [if_pos c4, rd_wr_ne (by omega)]
        · rw [if_neg c4]
      rw [this, h1.2.1 j (by omega)]
      unfold ua
      rw [if_neg e]
  · rw [rd_wr_ne (by omega), cnt_ua]
    by_cases c4 : x < 4
    · rw [if_pos c4]
      by_cases e : x = l
      · rw [e, rd_wr, if_pos rfl, if_pos rfl, if_pos rfl]
      · rw [rd_wr_ne (by omega), if_neg e, h1.2.2 l hl]
        rfl
    · rw [if_neg c4, if_neg (by omega), h1.2.2 l hl]
      rfl
  · cases b with
    | none => exact (fr 135 62 (by decide) (by decide)).trans h2
    | some old => exact ⟨(fr 135 62 (by decide) (by decide)).trans h2.1, fun j hj => (fr 179 j (by decide) (by decide)).trans (h2.2.1 j hj), h2.2.2⟩
  · obtain ⟨e1, e2⟩ := ua_agr.mp he
    exact hb old ho e e1 e2
  · unfold ua at hj4 ⊢
    by_cases e : j = i
    · rw [if_pos e] at hj4 ⊢
      rw [e]
      exact (hk hj4).1
    · rw [if_neg e] at hj4 ⊢
      exact h4 j (by omega) hj4
  · rw [cnt_ua]
    by_cases e : x = l
    · rw [if_pos e]
      have := (hk (by omega)).2
      rw [e] at this
      omega
    · rw [if_neg e]
      exact h5 l hl
