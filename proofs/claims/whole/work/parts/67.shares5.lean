/-! SHARE: up again -/
theorem up12 {u : xS} {a : Nat → Nat} {i x : Nat} {u' : xS} (h : sh u (ua a i x) (i + 1) u') : sh u a i (if x < 4 then wr u' 180 x (rd u' 180 x - 1) else u') := by
  obtain ⟨h1, h2, h3⟩ := h
  refine ⟨fun c j q1 q2 q3 q4 => ?_, fun j hj => ?_, fun l hl => ?_⟩
  · by_cases c4 : x < 4
    · rw [if_pos c4, rd_wr_ne (fun z => q3 z.1)]
      exact h1 c j q1 q2 q3 q4
    · rw [if_neg c4]
      exact h1 c j q1 q2 q3 q4
  · have e := h2 j (by omega)
    rw [ua_n (show ¬ j = i by omega)] at e
    by_cases c4 : x < 4
    · rw [if_pos c4, rd_wr_ne (by omega)]
      exact e
    · rw [if_neg c4]
      exact e
  · have e := h3 l hl
    rw [cnt_ua] at e
    by_cases c4 : x < 4
    · rw [if_pos c4]
      by_cases exl : x = l
      · rw [if_pos exl] at e
        rw [exl, rd_wr, if_pos rfl, if_pos rfl, e]
        exact nI_sub (b := 1) (by omega)
      · rw [if_neg exl] at e
        rw [rd_wr_ne (by omega)]
        exact e
    · rw [if_neg c4, e, if_neg (by omega)]
      rfl
theorem bst_fr {u u' u'' : xS} {Q : Nat} {b : Option (Nat → Nat)} (h1 : rd u'' 135 62 = rd u' 135 62) (h2 : ∀ j, rd u'' 179 j = rd u' 179 j) (h : bst u Q b u') : bst u Q b u'' := by
  cases b with
  | none => exact h1.trans h
  | some b => exact ⟨h1.trans h.1, fun j hj => (h2 j).trans (h.2.1 j hj), h.2.2⟩
