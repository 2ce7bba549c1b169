/-! TEXT: both answers -/
def W0 (v : xS) : xS := wr (wr (wr (wr (wr v 135 0 0) 135 32 0) 135 34 11) 156 11 0) 135 33 0
theorem W0_ag (v : xS) : ag [(135, 1), (135, 33), (135, 34), (135, 35), (156, 0)] v (W0 v) := ag_wr (ag_wr (ag_wr (ag_wr (ag_wr (ag_refl _ _) rfl) rfl) rfl) rfl) rfl
theorem W0_156 (v : xS) {j : Nat} (h : ¬ j = 11) : rd (W0 v) 156 j = rd v 156 j := by
  unfold W0
  rw [rd_wr_ne (by omega), rd_wr_ne (fun z => h z.2), rd_wr_ne (by omega), rd_wr_ne (by omega), rd_wr_ne (by omega)]
theorem W0_fr {v : xS} {c i : Nat} (h1 : ¬ c = 135) (h2 : ¬ c = 156) : rd (W0 v) c i = rd v c i := by
  unfold W0
  rw [rd_wr_ne (fun z => h1 z.1), rd_wr_ne (fun z => h2 z.1), rd_wr_ne (fun z => h1 z.1), rd_wr_ne (fun z => h1 z.1), rd_wr_ne (fun z => h1 z.1)]
theorem W0_RM (v : xS) : RM (W0 v) 0 [] (W0 v) := ⟨fun _ _ _ _ _ => rfl, rfl, rfl, trivial⟩
abbrev KN (u : xS) (a1 a2 : Int32) : Prop := (a1 = 0 ∧ 0 ≤ a2 ∧ a2 ≤ 3) ∨ a1 = 2 ∨ (a1 = 1 ∧ nR u < 6)
theorem c11_text {u : xS} {a1 a2 : Int32} {T : Nat} (t1 : rd u 52 1 = nI T) (x1 : rd u 58 5 = nI (nR u)) (hR : nR u ≤ 6) : f_X11_text a1 a2 u = if KN u a1 a2 then f_X11_text_86 a1 a2 (nI T) (bi (decide (a1 = 1))) (wr u 52 1 0) else some (-100, wr u 52 1 0) := by
  have e64 : f_X11_text_64 a1 a2 (nI T) (wr u 52 1 0) = f_X11_text_86 a1 a2 (nI T) (bi (decide (a1 = 1))) (wr u 52 1 0) := by
    rw [f_X11_text_64]
    by_cases c : a1 = 1
    · rw [if_pos c, decide_eq_true c]
      rfl
    · rw [if_neg c, decide_eq_false c]
      rfl
  have e32 : f_X11_text_32 a1 a2 (nI T) (wr u 52 1 0) = f_X11_text_86 a1 a2 (nI T) (bi (decide (a1 = 1))) (wr u 52 1 0) := by
    rw [f_X11_text_32, f_X11_text_37, if_neg (by decide), e64]
  have e37 : ¬ a1 = 1 → f_X11_text_37 a1 a2 (nI T) 0 (wr u 52 1 0) = some (-100, wr u 52 1 0) := fun c => by
    rw [f_X11_text_37, if_pos rfl, if_neg c]
  rw [f_X11_text, t1]
  by_cases c0 : a1 = 0
  · have n1 : ¬ a1 = 1 := by rw [c0]; decide
    have n2 : ¬ a1 = 2 := by rw [c0]; decide
    rw [if_pos c0, f_X11_isSeller, lies_eq, ite_10]
    by_cases c1 : 0 ≤ a2 ∧ a2 ≤ 3
    · rw [if_pos c1, e32, if_pos (Or.inl ⟨c0, c1⟩)]
    · rw [if_neg c1, f_X11_text_27, if_neg n2, e37 n1, if_neg]
      rintro (z | z | z)
      · exact c1 z.2
      · exact n2 z
      · exact n1 z.1
  · rw [if_neg c0, f_X11_text_27]
    by_cases c2 : a1 = 2
    · rw [if_pos c2, e32, if_pos (Or.inr (Or.inl c2))]
    · rw [if_neg c2]
      by_cases c1 : a1 = 1
      · rw [f_X11_text_37, if_pos rfl, if_pos c1, show rd (wr u 52 1 0) 58 5 = nI (nR u) from x1]
        by_cases c6 : nR u < 6
        · rw [if_pos (show nI (nR u) < (6 : Int32) from nI_lt (b := 6) c6 (by omega)), e64, if_pos (Or.inr (Or.inr ⟨c1, c6⟩))]
        · rw [if_neg (show ¬ nI (nR u) < (6 : Int32) from nI_nlt (b := 6) (by omega) (by omega)), if_neg]
          rintro (z | z | z)
          · exact c0 z.1
          · exact c2 z
          · exact c6 z.2
      · rw [e37 c1, if_neg]
        rintro (z | z | z)
        · exact c0 z.1
        · exact c2 z
        · exact c1 z.1
theorem c12_text {u v : xS} {a1 a2 : Int32} {T : Nat} (hT : T ≤ 100) (t1 : rd v 135 32 = nI T) (x1 : rd v 135 28 = nI (nR u)) (hR : nR u ≤ 6) : f_X12_text a1 a2 v = if KN u a1 a2 then f_X12_text_98 a1 a2 (nI T) (nI (min T 60)) (bi (decide (a1 = 1))) (W0 v) else some (-100, wr (wr v 135 0 0) 135 32 0) := by
  have emin : imin (nI T) (60 : Int32) = nI (min T 60) := imin_nI (b := 60) (by omega) (by omega)
  have e60 : f_X12_text_60 a1 a2 (nI T) (wr (wr v 135 0 0) 135 32 0) = f_X12_text_98 a1 a2 (nI T) (nI (min T 60)) (bi (decide (a1 = 1))) (W0 v) := by
    rw [f_X12_text_60, emin]
    by_cases c : a1 = 1
    · rw [if_pos c, decide_eq_true c]
      rfl
    · rw [if_neg c, decide_eq_false c]
      rfl
  rw [f_X12_text, L_0, L_2, in_eq, ite_10, show (3 : Int64) = (3 : Int32).toInt64 from rfl, in_eq, ite_10, t1]
  by_cases h0 : 0 ≤ a1 ∧ a1 ≤ 2
  · rw [if_pos h0]
    by_cases c0 : a1 = 0
    · have n1 : ¬ a1 = 1 := by rw [c0]; decide
      have n2 : ¬ a1 = 2 := by rw [c0]; decide
      rw [if_pos c0]
      by_cases c1 : 0 ≤ a2 ∧ a2 ≤ 3
      · rw [if_pos c1, f_X12_text_43, if_neg n1, e60, if_pos (Or.inl ⟨c0, c1⟩)]
      · rw [if_neg c1, if_neg]
        rintro (z | z | z)
        · exact c1 z.2
        · exact n2 z
        · exact n1 z.1
    · rw [if_neg c0, f_X12_text_43]
      by_cases c1 : a1 = 1
      · rw [if_pos c1, show rd (wr (wr v 135 0 0) 135 32 0) 135 28 = nI (nR u) from x1]
        by_cases c6 : nR u < 6
        · rw [if_neg (show ¬ nI (nR u) = (6 : Int32) from fun z => by have := (nI_eq (b := 6) (by omega) (by omega)).mp z; omega), e60, if_pos (Or.inr (Or.inr ⟨c1, c6⟩))]
        · rw [if_pos (show nI (nR u) = (6 : Int32) by rw [show nR u = 6 by omega]; rfl), if_neg]
          rintro (z | z | z)
          · exact c0 z.1
          · rw [c1] at z
            exact absurd z (by decide)
          · exact c6 z.2
      · rw [if_neg c1, e60]
        obtain ⟨k, hk, ek⟩ := nI_ixl (S := 2) (by omega) h0.1 h0.2
        have : k = 0 ∨ k = 1 ∨ k = 2 := by omega
        rcases this with e | e | e
        · rw [e] at ek; exact absurd ek c0
        · rw [e] at ek; exact absurd ek c1
        · rw [e] at ek
          rw [if_pos (show KN u a1 a2 from Or.inr (Or.inl ek))]
  · rw [if_neg h0, if_neg]
    rintro (z | z | z)
    · rw [z.1] at h0; exact h0 (by decide)
    · rw [z] at h0; exact h0 (by decide)
    · rw [z.1] at h0; exact h0 (by decide)
/-- the reference keeps a text -/
theorem store12 {u3 v1 : xS} {a1 : Int32} {t j : Nat} {R : List Int32} (ht : t ≤ 10) (hL : R.length ≤ 60) (M : RM (W0 u3) j R v1) : ∃ vz, f_X12_text_167 xN a1 (nI t) 0 v1 = f_X12_text_254 a1 (rd u3 135 28) (if a1 = 1 then 1 else 0) vz ∧ (∀ c j, ¬ c = 135 → ¬ c = 154 → ¬ c = 155 → ¬ c = 156 → rd vz c j = rd u3 c j) ∧ (∀ j, ¬ j = 0 → ¬ j = 32 → ¬ j = 33 → ¬ j = 34 → rd vz 135 j = rd u3 135 j) ∧ rd vz 135 32 = 0 ∧ (∀ k m, R.reverse[k]? = some m → rd vz 155 (64 * t + k) = m) ∧ (∀ j, j < 704 → (j < 64 * t ∨ 64 * t + R.length ≤ j) → rd vz 155 j = rd u3 155 j) ∧ (∀ t', t' ≤ 10 → ¬ t' = t → rd vz 156 t' = rd u3 156 t' ∧ rd vz 154 t' = rd u3 154 t') ∧ rd vz 156 t = nI R.length ∧ rd vz 154 t = 1 := by
  obtain ⟨h1, h2, h3, h4⟩ := M
  have g0 := W0_ag u3
  have e28 : rd v1 135 28 = rd u3 135 28 := (h1 135 28 (by omega) (by omega) (by omega)).trans (g0 135 28 rfl)
  have e34 : rd v1 135 34 = nI 11 := (h1 135 34 (by omega) (by omega) (by omega)).trans rfl
  obtain ⟨v2, z1, z2, z3, z4⟩ := copy167 (a1 := a1) (t := t) ht hL e34 h3 xN 0 v1 (xN_lt (by omega)) (Nat.zero_le _) (fun _ _ _ => rfl) (fun k hk => by omega) (fun _ _ _ => rfl)
  rw [e28] at z1
  refine ⟨_, z1, fun c i q1 q2 q3 q4 => ?_, fun i q1 q2 q3 q4 => ?_, ?_, fun k m hm => ?_, fun i hi hq => ?_, fun t' h' hn => ⟨?_, ?_⟩, ?_, ?_⟩
  · rw [rd_wr_ne (fun z => q2 z.1), rd_wr_ne (fun z => q4 z.1), z2 c i (fun z => q3 z.1), h1 c i (fun z => q1 z.1) (fun z => q3 z.1) (fun z => q4 z.1)]
    exact W0_fr q1 q4
  · rw [rd_wr_ne (by omega), rd_wr_ne (by omega), z2 135 i (by omega), h1 135 i (by omega) (by omega) (by omega)]
    unfold W0
    rw [rd_wr_ne (by omega), rd_wr_ne (by omega), rd_wr_ne (by omega), rd_wr_ne (by omega), rd_wr_ne (by omega)]
  · rw [rd_wr_ne (by omega), rd_wr_ne (by omega), z2 135 32 (by omega), h1 135 32 (by omega) (by omega) (by omega)]
    rfl
  · have hk : k < R.length := by
      have := (List.getElem?_eq_some_iff.mp hm).1
      rwa [List.length_reverse] at this
    rw [rd_wr_ne (by omega), rd_wr_ne (by omega), z3 k hk]
    exact sk_get h4 k m hm
  · rw [rd_wr_ne (by omega), rd_wr_ne (by omega), z4 i hi hq, h1 155 i (by omega) (by omega) (by omega)]
    exact g0 155 i rfl
  · rw [rd_wr_ne (by omega), rd_wr_ne (by omega), z2 156 t' (by omega), h1 156 t' (by omega) (by omega) (by omega)]
    exact W0_156 u3 (by omega)
  · rw [rd_wr_ne (by omega), rd_wr_ne (by omega), z2 154 t' (by omega), h1 154 t' (by omega) (by omega) (by omega)]
    exact g0 154 t' rfl
  · rw [rd_wr_ne (by omega), rd_wr, if_pos rfl, if_pos rfl]
  · rw [rd_wr, if_pos rfl, if_pos rfl]
