/-! THE ROW: LED, FORETELL -/
def r11 (u : xS) (l : List Int32) : Prop := rd u 0 12 = nI l.length ∧ ∀ i v, l[i]? = some v → rd u 134 i = v
def r12 (u : xS) (l : List Int32) : Prop := rd u 135 43 = nI l.length ∧ ∀ i v, l[i]? = some v → rd u 165 i = v
theorem app_get {l : List Int32} {v w : Int32} {i : Nat} (h : (l ++ [v])[i]? = some w) : (i < l.length ∧ l[i]? = some w) ∨ (i = l.length ∧ w = v) := by
  rw [List.getElem?_append] at h
  by_cases hi : i < l.length
  · rw [if_pos hi] at h
    exact Or.inl ⟨hi, h⟩
  · rw [if_neg hi] at h
    have h1 : i - l.length = 0 := by
      cases hk : i - l.length with
      | zero => rfl
      | succ k => rw [hk] at h; simp at h
    rw [h1] at h
    have h2 : v = w := by simpa using h
    exact Or.inr ⟨by omega, h2.symm⟩
theorem tell_ok {u : xS} {l : List Int32} (v : Int32) (h : r11 u l) (hl : l.length < 48) : ∃ u', f_X11_tell v u = some u' ∧ r11 u' (l ++ [v]) ∧ ag [(0, 13), (134, 0)] u u' := by
  obtain ⟨h1, h2⟩ := h
  refine ⟨wr (wr u 134 l.length v) 0 12 (nI (l.length + 1)), ?_, ⟨?_, ?_⟩, ag_wr (ag_wr (ag_refl _ u) rfl) rfl⟩
  · simp (disch := omega) only [f_X11_tell, h1, l_48, ite_nle, gd_nI, nI_cl, nI_1]
  · rw [List.length_append]
    rfl
  · intro i w hw
    rw [rd_wr_ne (by omega)]
    rcases app_get hw with ⟨hi, hw⟩ | ⟨hi, hw⟩
    · rw [rd_wr_ne (by omega)]
      exact h2 i w hw
    · rw [hi, hw, rd_wr, if_pos rfl, if_pos rfl]
theorem enters_ok {u : xS} {l : List Int32} (v : Int32) (h : r12 u l) (hl : l.length < 48) : ∃ u', f_X12_enters v u = some u' ∧ r12 u' (l ++ [v]) ∧ ag [(135, 44), (165, 0)] u u' := by
  obtain ⟨h1, h2⟩ := h
  refine ⟨wr (wr u 165 l.length v) 135 43 (nI (l.length + 1)), ?_, ⟨?_, ?_⟩, ag_wr (ag_wr (ag_refl _ u) rfl) rfl⟩
  · simp (disch := omega) only [f_X12_enters, h1, gd_nI, nI_cl, nI_1]
  · rw [List.length_append]
    rfl
  · intro i w hw
    rw [rd_wr_ne (by omega)]
    rcases app_get hw with ⟨hi, hw⟩ | ⟨hi, hw⟩
    · rw [rd_wr_ne (by omega)]
      exact h2 i w hw
    · rw [hi, hw, rd_wr, if_pos rfl, if_pos rfl]
theorem r11_0 (u : xS) : r11 (wr u 0 12 0) [] := ⟨rfl, fun i v h => by simp at h⟩
theorem r12_0 (u : xS) : r12 (wr u 135 43 0) [] := ⟨rfl, fun i v h => by simp at h⟩
theorem r11_fr {u u' : xS} {l : List Int32} (h : sm [(0, 13), (134, 0)] u u') (H : r11 u l) : r11 u' l := by
  have q0 : rd u' 0 12 = rd u 0 12 := h 0 12 rfl
  have q1 : ∀ i, rd u' 134 i = rd u 134 i := fun i => h 134 i rfl
  unfold r11
  simp only [q0, q1]
  exact H
theorem i_W_of {u : xS} {l : List Int32} (h1 : r11 u l) (h2 : r12 u l) (hl : l.length ≤ 48) : i_W u := by
  have e : nW u = l.length := nv_of h2.1 (by omega)
  unfold i_W
  rw [e]
  refine ⟨h1.1, h2.1, hl, fun i hi => ?_⟩
  rw [h1.2 i l[i] (List.getElem?_eq_getElem hi), h2.2 i l[i] (List.getElem?_eq_getElem hi)]
abbrev wR : List (Nat × Nat) := [(0, 13), (134, 0), (135, 1), (135, 44), (165, 0)]
theorem Inv_row {u u' : xS} (H : Inv u) (hag : ag wR u u') {l : List Int32} (h1 : r11 u' l) (h2 : r12 u' l) (hl : l.length ≤ 48) : Inv u' :=
  ⟨fr_S (ag_sm hag rfl) H.S, fr_P (ag_sm hag rfl) H.P, fr_B (ag_sm hag rfl) H.B, fr_H (ag_sm hag rfl) H.H, fr_L (ag_sm hag rfl) H.L, fr_K (ag_sm hag rfl) H.K, fr_T (ag_sm hag rfl) H.T, fr_X (ag_sm hag rfl) H.X, fr_F (ag_sm hag rfl) H.F, fr_C (ag_sm hag rfl) H.C, fr_D (ag_sm hag rfl) H.D, fr_A (ag_sm hag rfl) H.A, i_W_of h1 h2 hl⟩
/-! led -/
def ldl (u : xS) (c : Nat) : Nat → List Int32
  | 0 => []
  | b + 1 => if rd u 161 (24 * c + b) ≤ 0 then ldl u c b else (ldl u c b ++ [nI b]) ++ [rd u 161 (24 * c + b)]
theorem ldl_len (u : xS) (c : Nat) : ∀ b, ∃ k, k ≤ b ∧ (ldl u c b).length = 2 * k := by
  intro b
  induction b with
  | zero => exact ⟨0, by omega, rfl⟩
  | succ b ih =>
    obtain ⟨k, hk, e⟩ := ih
    unfold ldl
    by_cases h : rd u 161 (24 * c + b) ≤ 0
    · rw [if_pos h]
      exact ⟨k, by omega, e⟩
    · rw [if_neg h]
      refine ⟨k + 1, by omega, ?_⟩
      simp only [List.length_append, e, List.length_cons, List.length_nil]
      omega
theorem led11 {u : xS} (hI : Inv u) {c : Nat} (hc : c < nC u) : ∀ (N i : Nat) (u' : xS), nB u < N + i → i ≤ nB u → ag [(0, 13), (134, 0)] u u' → r11 u' (ldl u c i) →
    ∃ u'', f_X11_led_22 N (nI c) (nI ((ldl u c i).length / 2)) (nI i) u' = some (nI ((ldl u c (nB u)).length / 2), u'') ∧ ag [(0, 13), (134, 0)] u u'' ∧ r11 u'' (ldl u c (nB u)) := by
  have hB := hI.B.2.2.1
  have hC := hI.C.2.2.1
  intro N
  induction N with
  | zero => intro i u' h1 h2; omega
  | succ N ih =>
    intro i u' h1 h2 hag hr
    have e1 : rd u' 13 8 = nI (nB u) := (hag 13 8 rfl).trans hI.B.1
    by_cases hi : i = nB u
    · subst hi
      refine ⟨u', ?_, hag, hr⟩
      simp (disch := omega) only [f_X11_led_22, e1, ite_yle]
    · have e2 : ∀ w : xS, ag [(0, 13), (134, 0)] u w → rd w (89 + c) i = rd u 161 (24 * c + i) := fun w hw => (hw (89 + c) i (by rw [lc_89 (by omega)]; rfl)).trans (hI.C.2.2.2.1 c i (by omega) (by omega)).1
      simp (disch := omega) only [f_X11_led_22, f_X11_led_70, e1, ite_nle, gd_nI, nI_cl, e2 u' hag, nI_1]
      obtain ⟨k, hk, ek⟩ := ldl_len u c i
      by_cases h : rd u 161 (24 * c + i) ≤ 0
      · rw [if_pos h]
        have : ldl u c (i + 1) = ldl u c i := by rw [ldl, if_pos h]
        have z := ih (i + 1) u' (by omega) (by omega) hag (by rw [this]; exact hr)
        rw [this] at z
        exact z
      · rw [if_neg h]
        have e3 : ldl u c (i + 1) = (ldl u c i ++ [nI i]) ++ [rd u 161 (24 * c + i)] := by rw [ldl, if_neg h]
        obtain ⟨u1, t1, t2, t3⟩ := tell_ok (nI i) hr (by omega)
        have a1 := ag_trans hag t3
        obtain ⟨u2, t4, t5, t6⟩ := tell_ok (rd u 161 (24 * c + i)) t2 (by rw [List.length_append]; simp only [List.length_cons, List.length_nil]; omega)
        have a2 := ag_trans a1 t6
        simp only [t1, Option.bind_some, e2 u1 a1, t4]
        have z := ih (i + 1) u2 (by omega) (by omega) a2 (by rw [e3]; exact t5)
        have e4 : (ldl u c (i + 1)).length / 2 = (ldl u c i).length / 2 + 1 := by
          rw [e3]
          simp only [List.length_append, List.length_cons, List.length_nil]
          omega
        rw [e4] at z
        exact z
theorem ldl_fr {u u' : xS} (h : ∀ i, rd u' 161 i = rd u 161 i) (c : Nat) : ∀ b, ldl u' c b = ldl u c b := by
  intro b
  induction b with
  | zero => rfl
  | succ b ih => simp only [ldl, h, ih]
theorem s_led : xS_led Inv := by
  intro u a1 hI
  apply st_W
  obtain ⟨c1, c2, c3, c4, c5⟩ := hI.C
  have hB := hI.B.2.2.1
  have n2 : rd (wr u 135 0 0) 135 37 = nI (nC u) := c2
  simp only [f_X11_led, hasC c1, ite_10]
  by_cases h1 : 0 ≤ a1 ∧ a1 < nI (nC u)
  · obtain ⟨c, hc, rfl⟩ := nI_ix (by omega) h1.1 h1.2
    rw [if_pos h1]
    obtain ⟨u1, t1, t2, t3⟩ := led11 hI hc xN 0 (wr u 0 12 0) (by have : xN = 1000000 := rfl; omega) (by omega) (ag_wr (ag_refl _ u) rfl) (r11_0 u)
    rw [show nI ((ldl u c 0).length / 2) = 0 by simp [ldl, nI_zero], nI_zero] at t1
    refine ok_is t1 ?_
    have m2 : rd (wr u1 135 0 0) 135 37 = nI (nC u) := (t2 135 37 rfl).trans c2
    simp (disch := omega) only [f_X12_led, isC m2, ite_10]
    rw [if_pos h1]
    have a1 : ag wR u (wr u1 135 0 0) := ag_wr (ag_sub rfl t2) rfl
    have eB : nB (wr u1 135 0 0) = nB u := congrArg nv (a1 135 7 rfl)
    have eC : nC (wr u1 135 0 0) = nC u := congrArg nv (a1 135 37 rfl)
    have e161 : ∀ i, rd (wr u1 135 0 0) 161 i = rd u 161 i := fun i => a1 161 i rfl
    obtain ⟨l1, hl1, hl2⟩ := ldl_len u c (nB u)
    have hl : (ldl u c (nB u)).length ≤ 48 := by omega
    -- the reference's own memory keeps all that its loop looks at
    have key : ∀ (N i : Nat) (u' : xS), nB u < N + i → i ≤ nB u → ag [(135, 44), (165, 0)] (wr u1 135 0 0) u' → r12 u' (ldl u c i) → ∃ u'', f_X12_led_22 N (nI c) (nI i) u' = some (nI ((ldl u c (nB u)).length / 2), u'') ∧ ag [(135, 44), (165, 0)] (wr u1 135 0 0) u'' ∧ r12 u'' (ldl u c (nB u)) := by
      intro N
      induction N with
      | zero => intro i u' h1 h2; omega
      | succ N ih =>
        intro i u' h1 h2 hag hr
        have e1 : rd u' 135 7 = nI (nB u) := ((hag 135 7 rfl).trans (a1 135 7 rfl)).trans hI.B.2.1
        by_cases hi : i = nB u
        · subst hi
          refine ⟨u', ?_, hag, hr⟩
          simp (disch := omega) only [f_X12_led_22, e1, ite_yle, hr.1, l_2, pk_div]
        · have e2 : ∀ w : xS, ag [(135, 44), (165, 0)] (wr u1 135 0 0) w → rd w 161 (24 * c + i) = rd u 161 (24 * c + i) := fun w hw => (hw 161 _ rfl).trans (e161 _)
          simp (disch := omega) only [f_X12_led_22, f_X12_led_64, e1, ite_nle, l_24, pk_mul, nI_add, gd_nI, nI_cl, e2 u' hag, nI_1]
          obtain ⟨k, hk, ek⟩ := ldl_len u c i
          by_cases h : rd u 161 (24 * c + i) ≤ 0
          · rw [if_pos h]
            have : ldl u c (i + 1) = ldl u c i := by rw [ldl, if_pos h]
            exact ih (i + 1) u' (by omega) (by omega) hag (by rw [this]; exact hr)
          · rw [if_neg h]
            have e3 : ldl u c (i + 1) = (ldl u c i ++ [nI i]) ++ [rd u 161 (24 * c + i)] := by rw [ldl, if_neg h]
            obtain ⟨w1, t1, t2, t3⟩ := enters_ok (nI i) hr (by omega)
            have a1 := ag_trans hag t3
            obtain ⟨w2, t4, t5, t6⟩ := enters_ok (rd u 161 (24 * c + i)) t2 (by rw [List.length_append]; simp only [List.length_cons, List.length_nil]; omega)
            have a2 := ag_trans a1 t6
            simp only [t1, Option.bind_some, e2 w1 a1, t4]
            exact ih (i + 1) w2 (by omega) (by omega) a2 (by rw [e3]; exact t5)
    obtain ⟨u2, y1, y2, y3⟩ := key xN 0 (wr (wr u1 135 0 0) 135 43 0) (by have : xN = 1000000 := rfl; omega) (by omega) (ag_wr (ag_refl _ _) rfl) (r12_0 _)
    rw [nI_zero] at y1
    refine ok_is y1 ⟨rfl, ?_⟩
    have a2 : ag wR u u2 := ag_trans a1 (ag_sub rfl y2)
    refine Inv_row hI a2 (r11_fr (ag_sm (ag_trans (ag_wr (ag_refl [(135, 1), (135, 44), (165, 0)] u1) rfl) (ag_sub rfl y2)) rfl) t3) y3 hl
  · rw [if_neg h1, ok_some]
    simp (disch := omega) only [f_X12_led, isC n2, ite_10]
    rw [if_neg h1, ok_some]
    exact ⟨rfl, Inv_thr hI⟩
