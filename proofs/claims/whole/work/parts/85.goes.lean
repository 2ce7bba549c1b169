/-! TEXT: the class reads behind a thing -/
theorem CM_0 {mi : Int32} {u : xS} {w : Bool} {d : Nat} {o : List Nat} {r : List Int32} {f : List Bool} (h : CM mi u (w, d, o, r, f)) : CM mi (wr u 54 6 0) (w, 0, o, r, f) := by
  obtain ⟨m1, m2, m3, m4, m5, m6, m7, m8, m9⟩ := h
  exact ⟨(rd_wr_ne (by omega)).trans m1, rfl, (rd_wr_ne (by omega)).trans m3, (rd_wr_ne (by omega)).trans m4, sk_ne m5 (by decide), (rd_wr_ne (by omega)).trans m6, sk_ne m7 (by decide), sk_ne m8 (by decide), (rd_wr_ne (by omega)).trans m9⟩
theorem wQ_of {u u' : xS} (h : ∀ c j, ¬ c = 55 → ¬ (c = 54 ∧ (j = 1 ∨ j = 3)) → rd u' c j = rd u c j) : ag wQ u u' := fun c j hc => h c j (ne_W 55 (fun _ => rfl) hc) (fun z => by
  rw [z.1] at hc
  rcases z.2 with e | e <;> (rw [e] at hc; revert hc; decide))
/-- bring out, and what stays -/
theorem brC {mi : Int32} {u : xS} {w : Bool} {d i l : Nat} {o : List Nat} {r : List Int32} {f : List Bool} (hC : CM mi u (w, d, o, r, f)) (hA : AI i (w, d, o, r, f)) (hi : i ≤ 60) (hl : 1 ≤ l) (hl6 : l ≤ 6) : ∃ u', f_X7_bringOut_0 xN (nI l) u = some u' ∧ CM mi u' (w, d, (abr l o r).1, (abr l o r).2, f) ∧ ag wQ u u' := by
  obtain ⟨m1, m2, m3, m4, m5, m6, m7, m8, m9⟩ := hC
  obtain ⟨a1, a2, a3, a4, a5, a6⟩ := hA
  obtain ⟨u', z1, z2, z3, z4, z5, z6⟩ := bring_ok hl hl6 o r xN u (xN_lt (by omega)) (by omega) a6 m4 m5 m6 m7
  exact ⟨u', z1, ⟨(z6 54 7 (by decide) (by omega)).trans m1, (z6 54 6 (by decide) (by omega)).trans m2, (z6 54 5 (by decide) (by omega)).trans m3, z2, z3, z4, z5, sk_eq m8 fun j => z6 57 j (by decide) (by omega), (z6 54 8 (by decide) (by omega)).trans m9⟩, wQ_of z6⟩
theorem len_ok {mi : Int32} {u : xS} {i s d : Nat} {o : List Nat} {r : List Int32} {f : List Bool} (hC : CM mi u (false, d, o, r, f)) (hA : AI i (false, d, o, r, f)) (hi : i < 60) (hs : s < 256) (hd : 48 ≤ s ∧ s ≤ 57) : (∀ y, aDig s d o f r = some y → ∃ u', f_X7_lengthen (nI s - 48) u = some (1, u') ∧ CM mi u' y ∧ AI (i + 1) y ∧ ag wQ u u') ∧ (aDig s d o f r = none → f_X7_lengthen (nI s - 48) u = some (0, u)) := by
  obtain ⟨m1, m2, m3, m4, m5, m6, m7, m8, m9⟩ := hC
  obtain ⟨a1, a2, a3, a4, a5, a6⟩ := hA
  rw [f_X7_lengthen, m2, m6]
  cases r with
  | nil =>
    refine ⟨fun y hy => (by cases hy), fun _ => ?_⟩
    by_cases c1 : nI d = 0
    · rw [if_pos c1]
    · rw [if_neg c1]
      by_cases c2 : (4 : Int32) ≤ nI d
      · rw [if_pos c2]
      · rw [if_neg c2, if_pos (show nI ([] : List Int32).length = 0 from rfl)]
  | cons v r =>
    rw [aDig]
    by_cases c0 : d = 0 ∨ 4 ≤ d
    · rw [if_pos c0]
      refine ⟨fun y hy => (by cases hy), fun _ => ?_⟩
      rcases c0 with e | e
      · rw [e, if_pos (show nI 0 = 0 from rfl)]
      · by_cases c1 : nI d = 0
        · rw [if_pos c1]
        · rw [if_neg c1, if_pos (show (4 : Int32) ≤ nI d from nI_le (a := 4) e (by omega))]
    · rw [if_neg c0]
      refine ⟨fun y hy => ?_, fun hn => (by cases hn)⟩
      cases hy
      obtain ⟨k, r', e, hk⟩ : ∃ k r', v :: r = nI k :: r' ∧ k < 10 ^ d := by
        rcases a5 with h | h | h
        · cases h
        · omega
        · exact h
      injection e with e1 e2
      have h10 : 10 ^ d ≤ 10 ^ 3 := Nat.pow_le_pow_right (by omega) (by omega)
      have hlen : (v :: r).length = r.length + 1 := rfl
      rw [hlen] at m6 ⊢
      rw [List.length_cons] at a1
      have e55 : rd u 55 r.length = nI k := by
        have := m7.1
        rw [List.length_map, Nat.zero_add] at this
        rw [this, e1, em_nn (nI_lo (by omega))]
      have evv : v * 10 + nI (s - 48) = nI (k * 10 + (s - 48)) := by
        rw [e1, show (10 : Int32) = nI 10 from rfl, pk_mul, nI_add]
      refine ⟨wr (wr u 54 6 (nI (d + 1))) 55 r.length (nI (k * 10 + (s - 48))), ?_, ⟨?_, ?_, ?_, ?_, ?_, ?_, ?_, ?_, ?_⟩, ⟨by rw [List.length_cons]; omega, by omega, a3, by omega, Or.inr (Or.inr ⟨k * 10 + (s - 48), r, by rw [evv], by rw [Nat.pow_succ]; omega⟩), a6⟩, ag_wr (ag_wr (ag_refl _ _) rfl) rfl⟩
      · rw [if_neg (nI_ne0 (by omega) (by omega)), if_neg (show ¬ (4 : Int32) ≤ nI d from nI_ge (b := 4) (by omega) (by omega)), if_neg (nI_ne0 (by omega) (by omega)), nI_pred, gd_nI (by omega) (by omega), nI_cl (by omega), e55, nI_1, show (10 : Int32) = nI 10 from rfl, show (48 : Int32) = nI 48 from rfl, pk_mul, nI_sub (by omega), nI_add]
      · exact (rd_wr_ne (by omega)).trans ((rd_wr_ne (by omega)).trans m1)
      · rw [rd_wr_ne (by omega), rd_wr, if_pos rfl, if_pos rfl]
      · exact (rd_wr_ne (by omega)).trans ((rd_wr_ne (by omega)).trans m3)
      · exact (rd_wr_ne (by omega)).trans ((rd_wr_ne (by omega)).trans m4)
      · exact sk_ne (sk_ne m5 (by decide)) (by decide)
      · exact (rd_wr_ne (by omega)).trans ((rd_wr_ne (by omega)).trans m6)
      · rw [List.map_cons]
        refine ⟨?_, ?_⟩
        · rw [List.length_map, Nat.zero_add, rd_wr, if_pos rfl, if_pos rfl, evv, em_nn (nI_lo (by omega))]
        · exact sk_hi (sk_ne m7.2 (by decide)) (by rw [List.length_map]; omega)
      · exact sk_ne (sk_ne m8 (by decide)) (by decide)
      · exact (rd_wr_ne (by omega)).trans ((rd_wr_ne (by omega)).trans m9)
theorem j57_ok {mi : Int32} {u : xS} {i s : Nat} {o : List Nat} {r : List Int32} {f : List Bool} (hC : CM mi u (false, 0, o, r, f)) (hA : AI i (false, 0, o, r, f)) (hi : i < 60) (hs : s < 256) (h1 : 1 ≤ alev s) : ∃ u', f_X7_join_57 (nI s) (nI (alev s)) u = some (1, u') ∧ CM mi u' (true, 0, s :: (abr (alev s) o r).1, (abr (alev s) o r).2, f) ∧ AI (i + 1) (true, 0, s :: (abr (alev s) o r).1, (abr (alev s) o r).2, f) ∧ ag wQ u u' := by
  obtain ⟨u1, b1, b2, b3⟩ := brC hC hA (by omega) h1 (alev_6 s)
  obtain ⟨a1, a2, a3, a4, a5, a6⟩ := hA
  have hlen := abr_len (alev s) o r
  obtain ⟨m1, m2, m3, m4, m5, m6, m7, m8, m9⟩ := b2
  obtain ⟨u2, e1, e2, e3, e4⟩ := hold_ok2 (s := s) m4 (by omega) m5
  refine ⟨wr u2 54 7 1, ?_, ⟨rfl, ?_, ?_, ?_, ?_, ?_, ?_, ?_, ?_⟩, ⟨by rw [List.length_cons]; omega, by omega, a3, a4, Or.inl rfl, fun y hy => ?_⟩, ag_wr (ag_trans b3 fun c j hc => e4 c j (ne_W 56 (fun _ => rfl) hc) (fun z => by rw [z.1, z.2] at hc; revert hc; decide)) rfl⟩
  · rw [f_X7_join_57, b1, Option.bind_some, e1, Option.bind_some]
  · exact (rd_wr_ne (by omega)).trans ((e4 54 6 (by decide) (by omega)).trans m2)
  · exact (rd_wr_ne (by omega)).trans ((e4 54 5 (by decide) (by omega)).trans m3)
  · exact (rd_wr_ne (by omega)).trans e2
  · exact sk_ne e3 (by decide)
  · exact (rd_wr_ne (by omega)).trans ((e4 54 1 (by decide) (by omega)).trans m6)
  · exact sk_ne (sk_eq m7 fun j => e4 55 j (by decide) (by omega)) (by decide)
  · exact sk_ne (sk_eq m8 fun j => e4 57 j (by decide) (by omega)) (by decide)
  · exact (rd_wr_ne (by omega)).trans ((e4 54 8 (by decide) (by omega)).trans m9)
  · rcases List.mem_cons.mp hy with e | hy
    · rw [e]
      exact ⟨hs, Or.inr h1⟩
    · exact a6 y (abr_mem _ _ _ hy)
theorem join_ok {mi : Int32} {u : xS} {i s : Nat} {o : List Nat} {r : List Int32} {f : List Bool} (hC : CM mi u (false, 0, o, r, f)) (hA : AI i (false, 0, o, r, f)) (hi : i < 60) (hs : s < 256) (h1 : 1 ≤ alev s) (h5 : alev s ≤ 5) : (∀ y, aJoi s o r f = some y → ∃ u', f_X7_join (nI s) u = some (1, u') ∧ CM mi u' y ∧ AI (i + 1) y ∧ ag wQ u u') ∧ (aJoi s o r f = none → f_X7_join (nI s) u = some (0, u)) := by
  obtain ⟨m1, m2, m3, m4, m5, m6, m7, m8, m9⟩ := id hC
  obtain ⟨a1, a2, a3, a4, a5, a6⟩ := id hA
  cases f with
  | nil => simp at a3
  | cons g fs =>
    have hlen : (g :: fs).length = fs.length + 1 := rfl
    rw [hlen, Nat.add_sub_cancel] at m3
    rw [hlen] at a2
    have hg : rd u 57 fs.length = bi g := by
      have := m8.1
      rwa [List.length_map, Nat.zero_add] at this
    rw [f_X7_join, m3, if_neg (show ¬ (64 : Int32) ≤ nI fs.length from nI_ge (b := 64) (by omega) (by omega)), te_lev s hs, aJoi]
    have go : ∀ b : Bool, ∃ u', f_X7_join_56 (nI s) (nI (alev s)) (nI fs.length) (bi b) u = some (1, u') ∧ CM mi u' (true, 0, s :: (abr (alev s) o r).1, (abr (alev s) o r).2, b :: fs) ∧ AI (i + 1) (true, 0, s :: (abr (alev s) o r).1, (abr (alev s) o r).2, b :: fs) ∧ ag wQ u u' := fun b => by
      have hC' : CM mi (wr u 57 fs.length (bi b)) (false, 0, o, r, b :: fs) := by
        refine ⟨(rd_wr_ne (by omega)).trans m1, (rd_wr_ne (by omega)).trans m2, (rd_wr_ne (by omega)).trans m3, (rd_wr_ne (by omega)).trans m4, sk_ne m5 (by decide), (rd_wr_ne (by omega)).trans m6, sk_ne m7 (by decide), ?_, (rd_wr_ne (by omega)).trans m9⟩
        have := sk_push (x := bi b) m8.2
        rw [List.length_map, Nat.zero_add] at this
        exact this
      obtain ⟨u', z1, z2, z3, z4⟩ := j57_ok (s := s) hC' ⟨a1, a2, by rw [List.length_cons]; omega, a4, a5, a6⟩ hi hs h1
      refine ⟨u', ?_, z2, z3, ag_trans (ag_wr (ag_refl _ _) rfl) z4⟩
      have exb : xb (bi b) = true := by cases b <;> decide
      rw [f_X7_join_56, gd_nI (by omega) (by omega), exb, gd_t, nI_cl (by omega)]
      exact z1
    have e33 : ∀ y, some (true, 0, s :: (abr (alev s) o r).1, (abr (alev s) o r).2, (if alev s ≤ 3 then decide (alev s = 3) else g) :: fs) = some y → ∃ u', f_X7_join_33 (nI s) (nI (alev s)) u = some (1, u') ∧ CM mi u' y ∧ AI (i + 1) y ∧ ag wQ u u' := fun y hy => by
      cases hy
      rw [f_X7_join_33, m3]
      by_cases c1 : alev s ≤ 3
      · rw [if_neg (show ¬ (3 : Int32) < nI (alev s) from nI_nlt (a := 3) c1 (by omega)), if_pos c1]
        by_cases c2 : alev s = 3
        · rw [if_pos (show nI (alev s) = (3 : Int32) by rw [c2]; rfl), decide_eq_true c2]
          exact go true
        · rw [if_neg (show ¬ nI (alev s) = (3 : Int32) from fun z => c2 ((nI_eq (b := 3) (by omega) (by omega)).mp z)), decide_eq_false c2]
          exact go false
      · rw [if_pos (show (3 : Int32) < nI (alev s) from nI_lt (a := 3) (by omega) (by omega)), if_neg c1]
        exact j57_ok hC hA hi hs h1
    by_cases c3 : alev s = 3
    · rw [if_pos (show nI (alev s) = (3 : Int32) by rw [c3]; rfl), gd_nI (by omega) (by omega), nI_cl (by omega), hg]
      cases g with
      | true =>
        rw [if_pos ⟨c3, rfl⟩, if_neg (show ¬ bi true = 0 from by decide)]
        exact ⟨fun y hy => (by cases hy), fun _ => rfl⟩
      | false =>
        rw [if_neg (fun z => by cases z.2), if_pos (show bi false = 0 from rfl)]
        exact ⟨e33, fun hn => (by cases hn)⟩
    · rw [if_neg (show ¬ nI (alev s) = (3 : Int32) from fun z => c3 ((nI_eq (b := 3) (by omega) (by omega)).mp z)), if_neg (fun z => c3 z.1)]
      exact ⟨e33, fun hn => (by cases hn)⟩
theorem close_ok {mi : Int32} {u : xS} {i : Nat} {o : List Nat} {r : List Int32} {f : List Bool} (hC : CM mi u (false, 0, o, r, f)) (hA : AI i (false, 0, o, r, f)) (hi : i < 60) : (∀ y, aClo o r f = some y → ∃ u', f_X7_close u = some (1, u') ∧ CM mi u' y ∧ AI (i + 1) y ∧ ag wQ u u') ∧ (aClo o r f = none → f_X7_close u = some (0, u)) := by
  obtain ⟨m1, m2, m3, m4, m5, m6, m7, m8, m9⟩ := id hC
  obtain ⟨a1, a2, a3, a4, a5, a6⟩ := id hA
  rw [f_X7_close, m3]
  match f, hC, hA, m3, m8, a2, a3 with
  | [], _, _, _, _, _, a3 => simp at a3
  | [g], _, _, _, _, _, _ =>
    refine ⟨fun y hy => (by cases hy), fun _ => ?_⟩
    rw [if_pos (show nI ([g].length - 1) = 0 from rfl)]
  | g :: g2 :: fs, hC, hA, m3, m8, a2, a3 =>
    refine ⟨fun y hy => ?_, fun hn => (by cases hn)⟩
    have ey : (false, 0, (abr 1 o r).1.tail, (abr 1 o r).2, g2 :: fs) = y := Option.some.inj hy
    subst ey
    have hlen : (g :: g2 :: fs).length = fs.length + 1 + 1 := rfl
    rw [hlen] at a2
    obtain ⟨u1, b1, b2, b3⟩ := brC hC hA (by omega) (l := 1) (Nat.le_refl _) (by omega)
    have hal := abr_len 1 o r
    have hme : ∀ x, x ∈ (abr 1 o r).1 → x < 256 ∧ (x = 40 ∨ 1 ≤ alev x) := fun x hx => a6 x (abr_mem _ _ _ hx)
    obtain ⟨o1, ho1⟩ : ∃ o1, o1 = (abr 1 o r).1 := ⟨_, rfl⟩
    obtain ⟨r1, hr1⟩ : ∃ r1, r1 = (abr 1 o r).2 := ⟨_, rfl⟩
    rw [← ho1, ← hr1] at b2 hal
    rw [← ho1] at hme
    rw [← ho1, ← hr1]
    obtain ⟨n1, n2, n3, n4, n5, n6, n7, n8, n9⟩ := b2
    rw [hlen, Nat.add_sub_cancel] at n3
    have fin : ∀ (u2 : xS) (o2 : List Nat), ag wQ u u2 → CM mi u2 (false, 0, o2, r1, g :: g2 :: fs) → o2 = o1.tail → ∃ u', f_X7_close_31 u2 = some (1, u') ∧ CM mi u' (false, 0, o1.tail, r1, g2 :: fs) ∧ AI (i + 1) (false, 0, o1.tail, r1, g2 :: fs) ∧ ag wQ u u' := fun u2 o2 hag hc ho => by
      obtain ⟨k1, k2, k3, k4, k5, k6, k7, k8, k9⟩ := hc
      rw [hlen, Nat.add_sub_cancel] at k3
      rw [ho] at k4 k5
      have ht : o1.tail.length ≤ o1.length := by rw [List.length_tail]; omega
      refine ⟨wr u2 54 5 (nI fs.length), by rw [f_X7_close_31, k3, nI_pred], ⟨(rd_wr_ne (by omega)).trans k1, (rd_wr_ne (by omega)).trans k2, ?_, (rd_wr_ne (by omega)).trans k4, sk_ne k5 (by decide), (rd_wr_ne (by omega)).trans k6, sk_ne k7 (by decide), sk_ne k8.2 (by decide), (rd_wr_ne (by omega)).trans k9⟩, ⟨by omega, by rw [List.length_cons]; omega, by rw [List.length_cons]; omega, by omega, Or.inr (Or.inl rfl), fun x hx => hme x (tail_mem hx)⟩, ag_wr hag rfl⟩
      rw [List.length_cons, Nat.add_sub_cancel, rd_wr, if_pos rfl, if_pos rfl]
    rw [hlen, Nat.add_sub_cancel, if_neg (nI_ne0 (by omega) (by omega)), show (1 : Int32) = nI 1 from rfl, b1, Option.bind_some, n4]
    cases o1 with
    | nil =>
      rw [if_pos (show nI ([] : List Nat).length ≤ 0 from by decide)]
      exact fin u1 [] b3 ⟨n1, n2, by rw [hlen, Nat.add_sub_cancel]; exact n3, n4, n5, n6, n7, n8, n9⟩ rfl
    | cons x t =>
      have hlx : (x :: t).length = t.length + 1 := rfl
      rw [hlx] at hal n4 ⊢
      rw [if_neg (nI_nle (by omega) (by omega)), show nI (t.length + 1) - nI 1 = nI t.length from nI_pred _]
      refine fin _ t (ag_wr b3 rfl) ⟨(rd_wr_ne (by omega)).trans n1, (rd_wr_ne (by omega)).trans n2, ?_, ?_, sk_ne n5.2 (by decide), (rd_wr_ne (by omega)).trans n6, sk_ne n7 (by decide), sk_ne n8 (by decide), (rd_wr_ne (by omega)).trans n9⟩ rfl
      · rw [hlen, Nat.add_sub_cancel]
        exact (rd_wr_ne (by omega)).trans n3
      · rw [rd_wr, if_pos rfl, if_pos rfl]
theorem part_ok {many : Bool} {u : xS} {i : Nat} {o : List Nat} {r : List Int32} {f : List Bool} (hC : CM (bi many) u (false, 0, o, r, f)) (hA : AI i (false, 0, o, r, f)) (hi : i < 60) : (∀ y, aPar many o r f = some y → ∃ u', f_X7_partHere u = some (1, u') ∧ CM (bi many) u' y ∧ AI (i + 1) y ∧ ag wQ u u') ∧ (aPar many o r f = none → f_X7_partHere u = some (0, u)) := by
  obtain ⟨m1, m2, m3, m4, m5, m6, m7, m8, m9⟩ := id hC
  obtain ⟨a1, a2, a3, a4, a5, a6⟩ := id hA
  rw [f_X7_partHere, m9, m3]
  match f, hC, hA, m3, m8, a2, a3 with
  | [], _, _, _, _, _, a3 => simp at a3
  | g :: g2 :: fs, _, _, _, _, a2, _ =>
    have hlen : (g :: g2 :: fs).length = fs.length + 1 + 1 := rfl
    rw [hlen] at a2
    refine ⟨fun y hy => (by cases hy), fun _ => ?_⟩
    cases many with
    | false => rw [if_pos (show bi false = 0 from rfl)]
    | true => rw [if_neg (show ¬ bi true = 0 from by decide), hlen, Nat.add_sub_cancel, if_neg (nI_nle (by omega) (by omega))]
  | [g], hC, hA, m3, m8, a2, a3 =>
    cases many with
    | false =>
      refine ⟨fun y hy => (by cases hy), fun _ => ?_⟩
      rw [if_pos (show bi false = 0 from rfl)]
    | true =>
      refine ⟨fun y hy => ?_, fun hn => (by cases hn)⟩
      have ey : (true, 0, (abr 1 o r).1, -300 :: (abr 1 o r).2, [false]) = y := Option.some.inj hy
      subst ey
      obtain ⟨u1, b1, b2, b3⟩ := brC hC hA (by omega) (l := 1) (Nat.le_refl _) (by omega)
      have hal := abr_len 1 o r
      obtain ⟨n1, n2, n3, n4, n5, n6, n7, n8, n9⟩ := b2
      obtain ⟨u2, e1, e2, e3, e4⟩ := emit_ok (m := -300) (v := -59) n6 (by omega) n7 (by decide)
      have n3' : rd u1 54 5 = nI 0 := n3
      refine ⟨wr (wr u2 57 0 0) 54 7 1, ?_, ⟨rfl, ?_, ?_, ?_, ?_, ?_, ?_, ⟨?_, trivial⟩, ?_⟩, ⟨by rw [List.length_cons]; omega, by show 1 ≤ i + 1 + 1; omega, Nat.le_refl _, by omega, Or.inl rfl, fun x hx => a6 x (abr_mem _ _ _ hx)⟩, ag_wr (ag_wr (ag_trans b3 fun c j hc => e4 c j (ne_W 55 (fun _ => rfl) hc) (fun z => by rw [z.1, z.2] at hc; revert hc; decide)) rfl) rfl⟩
      · rw [if_neg (show ¬ bi true = 0 from by decide), if_pos (show nI ([g].length - 1) ≤ 0 from by show nI 0 ≤ 0; decide), show (1 : Int32) = nI 1 from rfl, b1, Option.bind_some, e1, Option.bind_some]
      · exact (rd_wr_ne (by omega)).trans ((rd_wr_ne (by omega)).trans ((e4 54 6 (by decide) (by omega)).trans n2))
      · exact (rd_wr_ne (by omega)).trans ((rd_wr_ne (by omega)).trans ((e4 54 5 (by decide) (by omega)).trans n3'))
      · exact (rd_wr_ne (by omega)).trans ((rd_wr_ne (by omega)).trans ((e4 54 3 (by decide) (by omega)).trans n4))
      · exact sk_ne (sk_ne (sk_eq n5 fun j => e4 56 j (by decide) (by omega)) (by decide)) (by decide)
      · exact (rd_wr_ne (by omega)).trans ((rd_wr_ne (by omega)).trans e2)
      · exact sk_ne (sk_ne e3 (by decide)) (by decide)
      · rfl
      · exact (rd_wr_ne (by omega)).trans ((rd_wr_ne (by omega)).trans ((e4 54 8 (by decide) (by omega)).trans n9))
theorem goes_ok {many : Bool} {u : xS} {i s d : Nat} {o : List Nat} {r : List Int32} {f : List Bool} (hC : CM (bi many) u (false, d, o, r, f)) (hA : AI i (false, d, o, r, f)) (hi : i < 60) (hs : s < 256) : (∀ y, aOn many s d o r f = some y → ∃ u', f_X7_goesOn (nI s) u = some (1, u') ∧ CM (bi many) u' y ∧ AI (i + 1) y ∧ ag wQ u u') ∧ (aOn many s d o r f = none → ∃ u', f_X7_goesOn (nI s) u = some (0, u') ∧ ag wQ u u') := by
  have hC0 := CM_0 hC
  have hA0 : AI i (false, 0, o, r, f) := ⟨hA.1, hA.2.1, hA.2.2.1, Nat.zero_le _, Or.inr (Or.inl rfl), hA.2.2.2.2.2⟩
  have g0 : ag wQ u (wr u 54 6 0) := ag_wr (ag_refl _ _) rfl
  unfold aOn
  rw [f_X7_goesOn, te_dig s hs, ite_10]
  by_cases c1 : 48 ≤ s ∧ s ≤ 57
  · rw [if_pos c1, if_pos c1]
    obtain ⟨z1, z2⟩ := len_ok hC hA hi hs c1
    refine ⟨fun y hy => ?_, fun hn => ⟨u, ?_, ag_refl _ _⟩⟩
    · obtain ⟨u', e, q⟩ := z1 y hy
      exact ⟨u', by rw [e, Option.bind_some, xb_1], q⟩
    · rw [z2 hn, Option.bind_some, xb_0]
  · rw [if_neg c1, if_neg c1]
    by_cases c2 : s = 41
    · subst c2
      rw [if_pos rfl, if_pos (show nI 41 = (41 : Int32) from rfl)]
      obtain ⟨z1, z2⟩ := close_ok hC0 hA0 hi
      refine ⟨fun y hy => ?_, fun hn => ⟨_, ?_, g0⟩⟩
      · obtain ⟨u', e, q1, q2, q3⟩ := z1 y hy
        exact ⟨u', by rw [e, Option.bind_some, xb_1], q1, q2, ag_trans g0 q3⟩
      · rw [z2 hn, Option.bind_some, xb_0]
    · rw [if_neg c2, if_neg (show ¬ nI s = (41 : Int32) from ne_c (k := 41) c2 hs (by decide))]
      by_cases c3 : s = 59
      · subst c3
        rw [if_pos rfl, if_pos (show nI 59 = (59 : Int32) from rfl)]
        obtain ⟨z1, z2⟩ := part_ok hC0 hA0 hi
        refine ⟨fun y hy => ?_, fun hn => ⟨_, ?_, g0⟩⟩
        · obtain ⟨u', e, q1, q2, q3⟩ := z1 y hy
          exact ⟨u', by rw [e, Option.bind_some, xb_1], q1, q2, ag_trans g0 q3⟩
        · rw [z2 hn, Option.bind_some, xb_0]
      · rw [if_neg c3, if_neg (show ¬ nI s = (59 : Int32) from ne_c (k := 59) c3 hs (by decide)), te_joi s hs, ite_10]
        by_cases c4 : 1 ≤ alev s ∧ alev s ≤ 5
        · rw [if_pos c4, if_pos c4]
          obtain ⟨z1, z2⟩ := join_ok hC0 hA0 hi hs c4.1 c4.2
          refine ⟨fun y hy => ?_, fun hn => ⟨_, ?_, g0⟩⟩
          · obtain ⟨u', e, q1, q2, q3⟩ := z1 y hy
            exact ⟨u', by rw [e, Option.bind_some]; rfl, q1, q2, ag_trans g0 q3⟩
          · rw [z2 hn, Option.bind_some]
            rfl
        · rw [if_neg c4, if_neg c4]
          exact ⟨fun y hy => (by cases hy), fun _ => ⟨_, rfl, g0⟩⟩
