/-! A LIST THAT LIES IN A CELL, its head last -/
def sk (u : xS) (c o : Nat) : List Int32 → Prop
  | [] => True
  | x :: l => rd u c (o + l.length) = x ∧ sk u c o l
theorem sk_frame {u u' : xS} {c o : Nat} : ∀ {l : List Int32}, sk u c o l → (∀ j, j < l.length → rd u' c (o + j) = rd u c (o + j)) → sk u' c o l
  | [], _, _ => trivial
  | x :: l, h, hf => ⟨by rw [hf l.length (by simp)]; exact h.1, sk_frame h.2 fun j hj => hf j (by simp only [List.length_cons]; omega)⟩
theorem sk_push {u : xS} {c o : Nat} {l : List Int32} {x : Int32} (h : sk u c o l) : sk (wr u c (o + l.length) x) c o (x :: l) := by
  refine ⟨?_, sk_frame h fun j hj => ?_⟩
  · rw [rd_wr, if_pos rfl, if_pos rfl]
  · rw [rd_wr, if_pos rfl, if_neg (by omega)]
theorem sk_ne {u : xS} {c o c' j : Nat} {v : Int32} {l : List Int32} (h : sk u c o l) (hc : ¬ c = c') : sk (wr u c' j v) c o l :=
  sk_frame h fun i _ => by rw [rd_wr, if_neg hc]
theorem sk_hi {u : xS} {c o j : Nat} {v : Int32} {l : List Int32} (h : sk u c o l) (hj : o + l.length ≤ j) : sk (wr u c j v) c o l :=
  sk_frame h fun i hi => by rw [rd_wr, if_pos rfl, if_neg (by omega)]
theorem sk_lo {u : xS} {c o j : Nat} {v : Int32} {l : List Int32} (h : sk u c o l) (hj : j < o) : sk (wr u c j v) c o l :=
  sk_frame h fun i hi => by rw [rd_wr, if_pos rfl, if_neg (by omega)]
theorem sk_get {u : xS} {c o : Nat} : ∀ {l : List Int32}, sk u c o l → ∀ j x, l.reverse[j]? = some x → rd u c (o + j) = x
  | [], _, j, x, hx => by simp at hx
  | y :: l, h, j, x, hx => by
    rw [List.reverse_cons, List.getElem?_append] at hx
    by_cases hj : j < l.reverse.length
    · rw [if_pos hj] at hx
      exact sk_get h.2 j x hx
    · rw [if_neg hj] at hx
      have h1 : j - l.reverse.length = 0 := by
        cases hk : j - l.reverse.length with
        | zero => rfl
        | succ k => rw [hk] at hx; simp at hx
      rw [h1] at hx
      have h2 : y = x := by simpa using hx
      have h3 : j = l.length := by
        have : l.reverse.length = l.length := List.length_reverse
        omega
      rw [h3, h.1, h2]
theorem sk_app {u : xS} {c o : Nat} : ∀ {l m : List Int32}, sk u c o (l ++ m) → sk u c o m
  | [], _, h => h
  | _ :: l, _, h => sk_app (l := l) h.2
