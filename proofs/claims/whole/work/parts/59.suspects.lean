/-! SUSPECTS -/
theorem f11_46 {u : xS} (hI : Inv u) : ∀ (d n N : Nat) (u' : xS), n + d = 5 → d + 1 < N → 1 ≤ n → (∀ j, j < n → fst u j = none) → ag wX u u' → mbC u (mbl u 24) u' →
    ∃ r u'', f_X2_findSuspects_46 N (nI (bdm u (nC u))) (nI n) u' = some (r, u'') ∧ ag wX u u'' ∧ mbC u (mbl u 24) u'' ∧ ((r = -2 ∧ ∀ j, j < 5 → fst u j = none) ∨ ∃ k s, r = nI k ∧ k ≤ 4 ∧ (∀ j, j < k → fst u j = none) ∧ fst u k = some (s.map (gm u)) ∧ s.length = k ∧ stC s u'' ∧ ∀ x, x ∈ s → x < (mbl u 24).length) := by
  have hC3 := hI.C.2.2.1
  have hml := mbl_len u 24
  intro d
  induction d with
  | zero =>
    intro n N u' h1 h2 h3 h4 h5 h6
    obtain ⟨N, rfl⟩ : ∃ M, N = M + 1 := ⟨N - 1, by omega⟩
    refine ⟨-2, u', ?_, h5, h6, Or.inl ⟨rfl, fun j hj => h4 j (by omega)⟩⟩
    rw [f_X2_findSuspects_46, if_pos]
    rw [show n = 5 by omega]
    decide
  | succ d ih =>
    intro n N u' h1 h2 h3 h4 h5 h6
    obtain ⟨N, rfl⟩ : ∃ M, N = M + 1 := ⟨N - 1, by omega⟩
    rw [f_X2_findSuspects_46, l_4, ite_nlt (by omega) (by omega), h6.1]
    by_cases c : (mbl u 24).length < n
    · refine ⟨-2, u', by rw [ite_ylt c (by omega)], h5, h6, Or.inl ⟨rfl, ?_⟩⟩
      have : ∀ k, n + k ≤ 5 → ∀ j, j < n + k → fst u j = none := by
        intro k
        induction k with
        | zero => intro _ j hj; exact h4 j hj
        | succ k ihk =>
          intro hk j hj
          by_cases e : j < n + k
          · exact ihk (by omega) j e
          · have := fst_big hI (ihk (by omega)) (by omega)
            rw [show j = n + k by omega]
            exact this
      have := this (5 - n) (by omega)
      rw [show n + (5 - n) = 5 by omega] at this
      exact this
    · rw [ite_nlt (by omega) (by omega)]
      obtain ⟨r, u1, z1, z2, z3⟩ := rowC (n := n) (by omega) (f := fun x => bw u (gm u x)) (M := (mbl u 24).length) (bad := bdm u (nC u)) (by omega) hml (fun x => bwR_lt u _ _ _ _ (by omega) (by decide)) (bdm_lt u _ hC3) h6.1 (fun x hx => by
        have e := List.getElem?_eq_getElem hx
        have := (h6.2 x _ e).2
        rw [this]
        unfold gm
        rw [List.getD_eq_getElem?_getD, e]
        rfl)
      have g1 : ag wX u u1 := fun c j hc => (z2 c j (ne_W 112 (fun _ => rfl) hc)).trans (h5 c j hc)
      have g2 : mbC u (mbl u 24) u1 := ⟨(z2 _ _ (by decide)).trans h6.1, fun k b hk => ⟨(z2 _ _ (by decide)).trans (h6.2 k b hk).1, (z2 _ _ (by decide)).trans (h6.2 k b hk).2⟩⟩
      have hf := fst_ix hI h4
      rw [z1, Option.bind_some]
      dsimp only
      rcases z3 with ⟨z3, z4⟩ | ⟨s, z3, z4, z5⟩
      · rw [z4] at hf
        rw [if_pos z3, nI_1]
        exact ih (n + 1) N u1 (by omega) (by omega) (by omega) (fun j hj => by
          by_cases e : j < n
          · exact h4 j e
          · rw [show j = n by omega]; exact hf) g1 g2
      · rw [z4] at hf
        rw [z3, if_neg (by decide)]
        have hm := List.mem_of_find?_eq_some z4
        exact ⟨nI n, u1, rfl, g1, g2, Or.inr ⟨n, s, rfl, by omega, h4, hf, cb_len _ _ _ _ hm, z5, fun x hx => by
          have := (cb_rng _ _ _ _ hm x hx).2
          omega⟩⟩
theorem f11_4 {u : xS} (hI : Inv u) : f_X2_findSuspects u = if bdm u (nC u) = 0 then some (0, u) else (f_X2_findMaybes u).bind fun u4 => f_X2_findSuspects_46 xN (nI (bdm u (nC u))) 1 u4 := by
  obtain ⟨h1, h2, h3, h4, h5⟩ := hI.C
  refine (it_loopP (S := nC u) (F := fun N c m => f_X2_findSuspects_4 N (nI m) (nI c) u) (a := 0) (fun c m => if vdd u c = 1 then m ||| 2 ^ c else m) (fun c m => m = bdm u c) (fun m => if nI m = 0 then some (0, u) else (f_X2_findMaybes u).bind fun u4 => f_X2_findSuspects_46 xN (nI m) 1 u4) rfl (fun c m hc hm => ?_) (fun n c m hc hm => ?_) (fun n m hm => ?_) (xN_lt (by omega))).trans ?_
  · rw [hm]; rfl
  · rw [f_X2_findSuspects_4, h1, ite_nle hc (by omega), gd_nI (by omega) (by omega), nI_cl (by omega), (h5 c hc).1, shl20 c (by omega), nI_or]
    unfold f_X2_findSuspects_28
    rw [nI_1]
    by_cases c1 : rd u 162 c = 1
    · rw [if_pos c1, if_pos (show vdd u c = 1 from c1)]
    · rw [if_neg c1, if_neg (show ¬ vdd u c = 1 from c1)]
  · rw [f_X2_findSuspects_4, h1, ite_yle (Nat.le_refl _) (by omega)]
  · show (if nI (bdm u (nC u)) = 0 then _ else _) = _
    have hlt := bdm_lt u (nC u) h3
    by_cases c : bdm u (nC u) = 0
    · rw [if_pos c, if_pos (by rw [c]; rfl)]
    · rw [if_neg c, if_neg (nI_ne0 (by omega) (by omega))]
      rfl
theorem f12_7 {u : xS} (hB : i_B u) (hC : i_C u) : ∀ (d n N : Nat) (u' : xS), n + d = 5 → d + 1 < N → (∀ j, j < n → fst u j = none) → ag wX u u' →
    ∃ u'', ag wX u u'' ∧ ((f_X12_suspects_7 N (nI n) u' = some (-2, u'') ∧ ∀ j, j < 5 → fst u j = none) ∨ ∃ k s, f_X12_suspects_7 N (nI n) u' = f_X12_suspects_29 xN (nI k) 0 (wr u'' 135 43 0) ∧ k ≤ 4 ∧ (∀ j, j < k → fst u j = none) ∧ fst u k = some s ∧ st166 s u'') := by
  have hB3 := hB.2.2.1
  intro d
  induction d with
  | zero =>
    intro n N u' h1 h2 h4 h5
    obtain ⟨N, rfl⟩ : ∃ M, N = M + 1 := ⟨N - 1, by omega⟩
    refine ⟨u', h5, Or.inl ⟨?_, fun j hj => h4 j (by omega)⟩⟩
    rw [f_X12_suspects_7, if_pos]
    rw [show n = 5 by omega]
    decide
  | succ d ih =>
    intro n N u' h1 h2 h4 h5
    obtain ⟨N, rfl⟩ : ∃ M, N = M + 1 := ⟨N - 1, by omega⟩
    obtain ⟨r, u1, z1, z2, z3⟩ := isF hB hC n 8 [] (nB u) 0 u' (by omega) (by simp; omega) (by omega) (fun b hb => by cases hb) h5 (fun i x hx => by simp at hx)
    rw [List.length_nil, nI_zero] at z1
    rw [f_X12_suspects_7, l_4, ite_nlt (by omega) (by omega)]
    have z1' : f_r_X12_isFound 0 (nI n) 0 u' = some (r, u1) := z1
    rw [z1', Option.bind_some]
    dsimp only
    have ef : (cbL (cll u 0 (nB u)) n).find? (fun s => cvN u ([] ++ s) (nC u)) = fst u n := rfl
    rw [ef] at z3
    rcases z3 with ⟨z3, z4, z5⟩ | ⟨s, z3, z4, z5⟩
    · rw [if_pos z3, nI_1]
      exact ih (n + 1) N u1 (by omega) (by omega) (fun j hj => by
        by_cases e : j < n
        · exact h4 j e
        · rw [show j = n by omega]; exact z4) z2
    · rw [z3, if_neg (by decide)]
      exact ⟨u1, z2, Or.inr ⟨n, s, rfl, by omega, h4, z4, z5⟩⟩
def rwl (s : List Nat) : List Int32 := s.map fun b => nI b
theorem rw11 {s b : List Nat} (hb : b.length = s.length) (h4 : s.length ≤ 4) (h24 : ∀ x, x ∈ s → x < 24) : ∀ (t p : List Nat) (N : Nat) (u : xS), p ++ t = b → t.length < N → stC s u → (∀ (i x y : Nat), s[i]? = some x → b[i]? = some y → rd u 110 x = nI y) → r11 u (rwl p) → ∃ u', f_X11_suspects_19 N (nI s.length) (nI p.length) u = some (nI s.length, u') ∧ r11 u' (rwl b) ∧ ag [(0, 13), (134, 0)] u u' := by
  intro t
  induction t with
  | nil =>
    intro p N u h1 h2 h3 h5 h6
    obtain ⟨N, rfl⟩ : ∃ M, N = M + 1 := ⟨N - 1, by omega⟩
    rw [List.append_nil] at h1
    refine ⟨u, ?_, by rw [← h1]; exact h6, ag_refl _ _⟩
    rw [f_X11_suspects_19, h1, hb, ite_yle (Nat.le_refl _) (by omega)]
  | cons y t ih =>
    intro p N u h1 h2 h3 h5 h6
    rw [List.length_cons] at h2
    obtain ⟨N, rfl⟩ : ∃ M, N = M + 1 := ⟨N - 1, by omega⟩
    have hl : p.length < s.length := by rw [← hb, ← h1, List.length_append, List.length_cons]; omega
    have ey : b[p.length]? = some y := by rw [← h1, List.getElem?_append_right (Nat.le_refl _), Nat.sub_self]; rfl
    have ex := List.getElem?_eq_getElem hl
    have hx24 := h24 _ (List.getElem_mem hl)
    have e110 := h5 p.length _ y ex ey
    have e112 := h3 p.length _ ex
    generalize s[p.length] = x at ex hx24 e110 e112
    have e1 : f_X11_lies (nI p.length) 0 3 = 1 := by rw [lies_eq, if_pos ⟨nI_lo (by omega), nI_le (b := 3) (by omega) (by omega)⟩]
    have e2 : f_X2_suspect u (nI p.length) = some (nI y) := by
      rw [f_X2_suspect, e1, if_neg (by decide), gd_nI (by omega) (by omega), nI_cl (by omega), e112, gd_nI (by omega) (by omega), nI_cl (by omega), e110]
    obtain ⟨u1, t1, t2, t3⟩ := tell_ok (nI y) h6 (by unfold rwl; rw [List.length_map]; omega)
    have ep : rwl p ++ [nI y] = rwl (p ++ [y]) := by unfold rwl; rw [List.map_append]; rfl
    rw [ep] at t2
    obtain ⟨u2, z1, z2, z3⟩ := ih (p ++ [y]) N u1 (by rw [List.append_assoc]; exact h1) (by omega) (fun i x hi => (t3 112 _ rfl).trans (h3 i x hi)) (fun i x y hi hj => (t3 110 _ rfl).trans (h5 i x y hi hj)) t2
    rw [List.length_append, List.length_singleton] at z1
    refine ⟨u2, ?_, z2, ag_trans t3 z3⟩
    rw [f_X11_suspects_19, ite_nle hl (by omega), e2, Option.bind_some, t1, Option.bind_some, nI_1]
    exact z1
theorem rw12 {b : List Nat} (h4 : b.length ≤ 4) : ∀ (t p : List Nat) (N : Nat) (u : xS), p ++ t = b → t.length < N → st166 b u → r12 u (rwl p) → ∃ u', f_X12_suspects_29 N (nI b.length) (nI p.length) u = some (nI b.length, u') ∧ r12 u' (rwl b) ∧ ag [(135, 44), (165, 0)] u u' := by
  intro t
  induction t with
  | nil =>
    intro p N u h1 h2 h3 h6
    obtain ⟨N, rfl⟩ : ∃ M, N = M + 1 := ⟨N - 1, by omega⟩
    rw [List.append_nil] at h1
    refine ⟨u, ?_, by rw [← h1]; exact h6, ag_refl _ _⟩
    rw [f_X12_suspects_29, h1, ite_yle (Nat.le_refl _) (by omega)]
  | cons y t ih =>
    intro p N u h1 h2 h3 h6
    rw [List.length_cons] at h2
    obtain ⟨N, rfl⟩ : ∃ M, N = M + 1 := ⟨N - 1, by omega⟩
    have hl : p.length < b.length := by rw [← h1, List.length_append, List.length_cons]; omega
    have ey : b[p.length]? = some y := by rw [← h1, List.getElem?_append_right (Nat.le_refl _), Nat.sub_self]; rfl
    obtain ⟨u1, t1, t2, t3⟩ := enters_ok (nI y) h6 (by unfold rwl; rw [List.length_map]; omega)
    have ep : rwl p ++ [nI y] = rwl (p ++ [y]) := by unfold rwl; rw [List.map_append]; rfl
    rw [ep] at t2
    obtain ⟨u2, z1, z2, z3⟩ := ih (p ++ [y]) N u1 (by rw [List.append_assoc]; exact h1) (by omega) (fun i x hi => (t3 166 _ rfl).trans (h3 i x hi)) t2
    rw [List.length_append, List.length_singleton] at z1
    refine ⟨u2, ?_, z2, ag_trans t3 z3⟩
    rw [f_X12_suspects_29, ite_nle hl (by omega), gd_nI (by omega) (by omega), nI_cl (by omega), h3 _ _ ey, t1, Option.bind_some, nI_1]
    exact z1
theorem s_suspects : xS_suspects Inv := by
  intro u hI
  apply st_W
  have hml := mbl_len u 24
  have hB3 := hI.B.2.2.1
  -- the class's answer
  have h11 : ∃ r u1, f_X2_findSuspects u = some (r, u1) ∧ ag wX u u1 ∧ ((r = -2 ∧ ∀ j, j < 5 → fst u j = none) ∨ ∃ (k : Nat) (s b : List Nat), r = nI k ∧ k ≤ 4 ∧ (∀ j, j < k → fst u j = none) ∧ fst u k = some b ∧ s.length = k ∧ b.length = k ∧ stC s u1 ∧ (∀ x, x ∈ s → x < 24) ∧ ∀ (i x y : Nat), s[i]? = some x → b[i]? = some y → rd u1 110 x = nI y) := by
    rw [f11_4 hI]
    have hb : bdm u (nC u) = 0 ↔ cvN u [] (nC u) = true := by
      have := test_eq hI (s := []) (fun b hb => by cases hb)
      rw [← this]
      exact ⟨fun h => h.symm, fun h => h.symm⟩
    have f0 : fst u 0 = if bdm u (nC u) = 0 then some [] else none := by
      unfold fst
      rw [cbL_0, List.find?_cons]
      by_cases c : bdm u (nC u) = 0
      · rw [if_pos c, hb.mp c]
      · rw [if_neg c]
        cases hq : cvN u [] (nC u) with
        | true => exact absurd (hb.mpr hq) c
        | false => rfl
    by_cases c : bdm u (nC u) = 0
    · rw [if_pos c] at f0 ⊢
      exact ⟨0, u, rfl, ag_refl _ _, Or.inr ⟨0, [], [], rfl, by omega, fun j hj => by omega, f0, rfl, rfl, fun i x h => by simp at h, fun x hx => (by cases hx), fun i x y h => by simp at h⟩⟩
    · rw [if_neg c] at f0 ⊢
      obtain ⟨u1, z1, z2, z3⟩ := findMb hI.C xN 0 (wr u 87 5 0) (xN_lt (by omega)) (by omega) (ag_wr (ag_refl _ u) rfl) ⟨rfl, fun k b h => by simp [mbl] at h⟩
      rw [nI_zero] at z1
      have z1' : f_X2_findMaybes u = some u1 := z1
      obtain ⟨r, u2, y1, y2, y3, y4⟩ := f11_46 hI 4 1 xN u1 rfl (xN_lt (by omega)) (by omega) (fun j hj => by rw [show j = 0 by omega]; exact f0) (ag_sub rfl z2) z3
      refine ⟨r, u2, ?_, y2, ?_⟩
      · rw [z1', Option.bind_some]
        exact y1
      · rcases y4 with y4 | ⟨k, s, q1, q2, q3, q4, q5, q6, q7⟩
        · exact Or.inl y4
        · refine Or.inr ⟨k, s, s.map (gm u), q1, q2, q3, q4, q5, by rw [List.length_map, q5], q6, fun x hx => by have := q7 x hx; omega, fun i x y hi hj => ?_⟩
          rw [List.getElem?_map, hi] at hj
          have ey : y = gm u x := by cases hj; rfl
          have hx : x < (mbl u 24).length := q7 x (List.mem_of_getElem? hi)
          have e := List.getElem?_eq_getElem hx
          rw [(y3.2 x _ e).1, ey]
          unfold gm
          rw [List.getD_eq_getElem?_getD, e]
          rfl
  obtain ⟨r, u1, z1, z2, z3⟩ := h11
  rw [f_X11_suspects, z1, Option.bind_some]
  dsimp only
  rcases z3 with ⟨z3, z4⟩ | ⟨k, s, b, q1, q2, q3, q4, q5, q6, q7, q8, q9⟩
  · rw [z3, if_pos (by decide), ok_some]
    dsimp only
    have g1 : ag wX u (wr u1 135 0 0) := ag_wr z2 rfl
    obtain ⟨u2, y1, y2⟩ := f12_7 hI.B hI.C 5 0 xN (wr u1 135 0 0) rfl (xN_lt (by omega)) (fun j hj => by omega) g1
    rw [nI_zero] at y2
    rcases y2 with ⟨y2, -⟩ | ⟨k, s, -, y3, -, y4, -⟩
    · refine ok_is (r := ((-2 : Int32), u2)) ?_ ⟨rfl, Inv_scr y1 hI⟩
      rw [f_X12_suspects, y2]
    · rw [z4 k (by omega)] at y4
      cases y4
  · rw [q1, if_neg (nI_pos (by omega))]
    have w1 : ag [(0, 13), (134, 0)] u1 (wr u1 0 12 0) := ag_wr (ag_refl _ u1) rfl
    obtain ⟨u2, t1, t2, t3⟩ := rw11 (s := s) (b := b) (by omega) (by omega) q8 b [] xN (wr u1 0 12 0) rfl (xN_lt (by omega)) (fun i x hi => (w1 112 _ rfl).trans (q7 i x hi)) (fun i x y hi hj => (w1 110 _ rfl).trans (q9 i x y hi hj)) (r11_0 u1)
    rw [q5, List.length_nil, nI_zero] at t1
    refine ok_is t1 ?_
    dsimp only
    have g2 : ag [(0, 13), (134, 0)] u1 u2 := ag_trans w1 t3
    -- the row's cells apart, all of the reference's search is as before
    have hN : ∀ w, ag wRX u w → ∀ j, fst w j = fst u j := fun w hw j => by
      have q0 : nC w = nC u := congrArg nv (hw 135 37 rfl)
      have q0b : nB w = nB u := congrArg nv (hw 135 7 rfl)
      have q1 : ∀ c b, pcc w c b = pcc u c b := fun c b => hw 161 _ rfl
      have q2 : ∀ c, vdd w c = vdd u c := fun c => hw 162 _ rfl
      have e1 : ∀ b, clN w b (nC w) = clN u b (nC u) := fun b => by
        unfold clN
        rw [q0]
        exact it_congr fun c x _ => by rw [q1, q2]
      have e2 : ∀ s, cvN w s (nC w) = cvN u s (nC u) := fun s => by
        unfold cvN
        rw [q0]
        exact it_congr fun c x _ => by
          rw [q2]
          congr 3
          funext b
          rw [q1]
      unfold fst cll
      rw [q0b]
      simp only [e1, e2]
    have g3 : ag wRX u (wr u2 135 0 0) := ag_wr (ag_trans (ag_sub rfl z2) (ag_sub rfl g2)) rfl
    have e0 := hN _ g3
    have hB' : i_B (wr u2 135 0 0) := fr_B (ag_sm g3 rfl) hI.B
    have hC' : i_C (wr u2 135 0 0) := fr_C (ag_sm g3 rfl) hI.C
    obtain ⟨u3, y1, y2⟩ := f12_7 hB' hC' 5 0 xN (wr u2 135 0 0) rfl (xN_lt (by omega)) (fun j hj => by omega) (ag_refl _ _)
    rw [nI_zero] at y2
    rcases y2 with ⟨-, y2⟩ | ⟨k2, s2, y2, y3, y4, y5, y6⟩
    · have := y2 k (by omega)
      rw [e0, q4] at this
      cases this
    · have ek : k2 = k := by
        by_cases l1 : k2 < k
        · have := q3 k2 l1
          rw [e0, this] at y5
          cases y5
        · by_cases l2 : k < k2
          · have := y4 k l2
            rw [e0, q4] at this
            cases this
          · omega
      rw [ek, e0, q4] at y5
      cases y5
      have w3 : ag [(135, 44), (165, 0)] u3 (wr u3 135 43 0) := ag_wr (ag_refl _ u3) rfl
      obtain ⟨u4, v1, v2, v3⟩ := rw12 (b := b) (by omega) b [] xN (wr u3 135 43 0) rfl (xN_lt (by omega)) (fun i x hi => (w3 166 _ rfl).trans (y6 i x hi)) (r12_0 u3)
      rw [List.length_nil, nI_zero, q6] at v1
      refine ok_is (r := (nI k, u4)) ?_ ⟨rfl, ?_⟩
      · rw [f_X12_suspects, y2, ek, v1]
      · have g5 : ag [(135, 44), (165, 0)] u3 u4 := ag_trans w3 v3
        refine Inv_rowX hI (ag_trans g3 (ag_trans (ag_sub rfl y1) (ag_sub rfl g5))) (r11_fr (u := u2) (fun c j hc => ?_) t2) v2 (by unfold rwl; rw [List.length_map]; omega)
        have n1 : inW wX (lc c j) = false := inW_no (K := [(0, 13), (134, 0)]) rfl hc
        have n2 : inW [(135, 44), (165, 0)] (lc c j) = false := inW_no (K := [(0, 13), (134, 0)]) rfl hc
        have n3 : ag wX u2 (wr u2 135 0 0) := ag_wr (ag_refl _ u2) rfl
        exact (g5 c j n2).trans ((y1 c j n1).trans (n3 c j n1))
