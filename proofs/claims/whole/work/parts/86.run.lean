/-! TEXT: the class reads a whole text -/
section READ
variable {many : Bool} {c : Nat → Nat} {n len : Nat}
/-- what stands before a text is read -/
def RT (u : xS) (c : Nat → Nat) (n len : Nat) : Prop := n ≤ 60 ∧ n ≤ len ∧ len ≤ 100 ∧ (len = n ∨ n = 60) ∧ ∀ i, i < n → rd u 53 i = nI (c i) ∧ c i < 256
theorem RT_fr {u u' : xS} (h : ag wQ u u') (H : RT u c n len) : RT u' c n len := ⟨H.1, H.2.1, H.2.2.1, H.2.2.2.1, fun i hi => ⟨(h 53 i rfl).trans (H.2.2.2.2 i hi).1, (H.2.2.2.2 i hi).2⟩⟩
theorem x53 : xisI 53 = true ∧ xlen 53 = 100 := by decide +kernel
theorem read_step {u : xS} (hT : RT u c n len) {i N : Nat} (hi : i < n) {x : aC} (hC : CM (bi many) u x) (hA : AI i x) : (∀ y, astep many (c i) x = some y → ∃ u', f_X7_read_8 (N + 1) 53 (nI len) (bi many) (nI i) u = f_X7_read_8 N 53 (nI len) (bi many) (nI (i + 1)) u' ∧ CM (bi many) u' y ∧ AI (i + 1) y ∧ ag wQ u u') ∧ (astep many (c i) x = none → ∃ u', f_X7_read_8 (N + 1) 53 (nI len) (bi many) (nI i) u = some (nI i, u') ∧ ag wQ u u') := by
  obtain ⟨t1, t2, t3, t4, t5⟩ := hT
  obtain ⟨e1, e2⟩ := t5 i hi
  have op : f_X7_read_8 (N + 1) 53 (nI len) (bi many) (nI i) u = if rd u 54 7 = 0 then (f_X7_goesOn (nI (c i)) u).bind fun q16 => if q16.1 = 0 then some (nI i, q16.2) else f_X7_read_8 N 53 (nI len) (bi many) (nI (i + 1)) q16.2 else (f_X7_begins (nI (c i)) u).bind fun q25 => if q25.1 = 0 then some (nI i, q25.2) else f_X7_read_8 N 53 (nI len) (bi many) (nI (i + 1)) q25.2 := by
    rw [f_X7_read_8, if_neg (nI_ge (by omega) (by omega)), if_neg (show ¬ (60 : Int32) ≤ nI i from nI_ge (b := 60) (by omega) (by omega)), x53.1, x53.2, gd_t, gd_t, gd_t, if_neg (show ¬ Int32.ofNat 100 ≤ nI i from nI_ge (b := 100) (by omega) (by omega)), gd_nI (by omega) (by omega), gd_nI (by omega) (by omega), nI_cl (by omega), e1]
    unfold f_X7_read_63
    simp only [nI_1]
  match x, hC, hA with
  | (true, d, o, r, f), hC, hA =>
    obtain ⟨z1, z2⟩ := beg_ok hC hA (by omega) e2
    have h7 : rd u 54 7 = bi true := hC.1
    rw [op, h7, if_neg (show ¬ bi true = 0 from by decide)]
    refine ⟨fun y hy => ?_, fun hn => ?_⟩
    · obtain ⟨u', q, q1⟩ := z1 y hy
      exact ⟨u', by rw [q, Option.bind_some]; rfl, q1⟩
    · obtain ⟨u', q, q1⟩ := z2 hn
      exact ⟨u', by rw [q, Option.bind_some]; rfl, q1⟩
  | (false, d, o, r, f), hC, hA =>
    obtain ⟨z1, z2⟩ := goes_ok hC hA (by omega) e2
    have h7 : rd u 54 7 = bi false := hC.1
    rw [op, h7, if_pos (show bi false = 0 from rfl)]
    refine ⟨fun y hy => ?_, fun hn => ?_⟩
    · obtain ⟨u', q, q1⟩ := z1 y hy
      exact ⟨u', by rw [q, Option.bind_some]; rfl, q1⟩
    · obtain ⟨u', q, q1⟩ := z2 hn
      exact ⟨u', by rw [q, Option.bind_some]; rfl, q1⟩
theorem read_run : ∀ (m i N : Nat) (u : xS) (x y : aC), RT u c n len → arun many c m i x = some y → i + m ≤ n → CM (bi many) u x → AI i x → ∃ u', f_X7_read_8 (N + m) 53 (nI len) (bi many) (nI i) u = f_X7_read_8 N 53 (nI len) (bi many) (nI (i + m)) u' ∧ CM (bi many) u' y ∧ AI (i + m) y ∧ ag wQ u u' := by
  intro m
  induction m with
  | zero =>
    intro i N u x y hT h1 h2 h3 h4
    cases h1
    exact ⟨u, rfl, h3, h4, ag_refl _ _⟩
  | succ m ih =>
    intro i N u x y hT h1 h2 h3 h4
    rw [arun] at h1
    cases hq : astep many (c i) x with
    | none => rw [hq] at h1; cases h1
    | some z =>
      rw [hq, Option.bind_some] at h1
      obtain ⟨u1, q1, q2, q3, q4⟩ := (read_step (N := N + m) hT (by omega) h3 h4).1 z hq
      obtain ⟨u', w1, w2, w3, w4⟩ := ih (i + 1) N u1 z y (RT_fr q4 hT) h1 (by omega) q2 q3
      refine ⟨u', ?_, ?_, ?_, ag_trans q4 w4⟩
      · rw [show N + (m + 1) = N + m + 1 by omega, q1, w1, show i + 1 + m = i + (m + 1) by omega]
      · exact w2
      · rw [show i + (m + 1) = i + 1 + m by omega]
        exact w3
theorem begin_ok {u : xS} : ∃ u', f_X7_begin (bi many) u = some u' ∧ CM (bi many) u' (true, 0, [], [], [false]) ∧ AI 0 (true, 0, [], [], [false]) ∧ ag wQ u u' := by
  have exb : xb (bi many) = true := by cases many <;> decide
  refine ⟨_, by rw [f_X7_begin, exb, gd_t], ⟨rfl, rfl, rfl, rfl, trivial, rfl, trivial, ⟨rfl, trivial⟩, rfl⟩, ⟨Nat.le_refl _, Nat.le_refl _, Nat.le_refl _, Nat.zero_le _, Or.inl rfl, fun x hx => (by cases hx)⟩, ?_⟩
  repeat first | exact ag_refl _ _ | refine ag_wr ?_ rfl
/-- the class reads as far as the automaton goes -/
theorem read_bad {u : xS} (hT : RT u c n len) {j : Nat} {y : aC} (hj : j ≤ n) (h : AR many c 0 (true, 0, [], [], [false]) j y) (hs : AS many c n j y) : ∃ u', f_X7_read 53 (nI len) (bi many) u = some (nI j, u') ∧ ag wQ u u' := by
  obtain ⟨u1, b1, b2, b3, b4⟩ := begin_ok (many := many) (u := u)
  obtain ⟨m, em, hr⟩ := h
  have emj : m = j := by omega
  subst emj
  have h60 := hT.1
  have hml := hT.2.1
  have h100 := hT.2.2.1
  obtain ⟨u2, q1, q2, q3, q4⟩ := read_run m 0 (1000000 - m) u1 _ y (RT_fr b4 hT) hr (by omega) b2 b3
  rw [Nat.zero_add] at q1 q3
  have hxN : xN = (1000000 - m) + m := by
    have : xN = 1000000 := rfl
    omega
  have op : f_X7_read 53 (nI len) (bi many) u = f_X7_read_8 (1000000 - m) 53 (nI len) (bi many) (nI m) u2 := by
    rw [f_X7_read, b1, Option.bind_some, l_0, hxN, q1]
  have g : ag wQ u u2 := ag_trans b4 q4
  have hN : 1000000 - m = (999999 - m) + 1 := by omega
  rw [op, hN]
  rcases hs with ⟨ej, hw⟩ | ⟨hjn, hn⟩
  · have e69 : f_X7_read_8 ((999999 - m) + 1) 53 (nI len) (bi many) (nI m) u2 = f_X7_read_69 (nI len) (bi many) u2 := by
      rw [f_X7_read_8]
      by_cases c1 : len ≤ m
      · rw [if_pos (nI_le c1 (by omega))]
      · have : m = 60 := by
          rcases hT.2.2.2.1 with e | e <;> omega
        rw [if_neg (nI_ge (by omega) (by omega)), if_pos (show (60 : Int32) ≤ nI m by rw [this]; exact Int32.le_refl _)]
    rw [e69, f_X7_read_69]
    by_cases c1 : len ≤ 60
    · have elm : len = m := by
        rcases hT.2.2.2.1 with e | e <;> omega
      rw [if_pos (show nI len ≤ (60 : Int32) from nI_le (b := 60) c1 (by omega))]
      match y, q2, q3, hw with
      | (w, d, o, r, f), q2, q3, hw =>
        obtain ⟨m1, m2, m3, -⟩ := q2
        rw [m1, m3]
        cases w with
        | true =>
          rw [if_neg (show ¬ bi true = 0 from by decide), elm]
          exact ⟨u2, rfl, g⟩
        | false =>
          have hf : 1 < f.length := by
            rcases hw with e | e
            · cases e
            · exact e
          have hf2 : f.length ≤ m + 1 := q3.2.1
          rw [if_pos (show bi false = 0 from rfl), if_neg (nI_nle (by omega) (by omega)), elm]
          exact ⟨u2, rfl, g⟩
    · have em60 : m = 60 := by
        rcases hT.2.2.2.1 with e | e <;> omega
      rw [if_neg (show ¬ nI len ≤ (60 : Int32) from nI_ge (a := 60) (by omega) (by omega)), em60]
      exact ⟨u2, rfl, g⟩
  · obtain ⟨u3, z1, z2⟩ := (read_step (N := 999999 - m) (RT_fr g hT) hjn q2 q3).2 hn
    exact ⟨u3, z1, ag_trans g z2⟩
theorem read_good {u : xS} (hT : RT u c n len) {d : Nat} {P : List Nat} {r1 R : List Int32} {f' : Bool} (h : AR many c 0 (true, 0, [], [], [false]) n (false, d, P, r1, [f'])) (hab : abr 1 P r1 = ([], R)) : ∃ u', f_X7_read 53 (nI len) (bi many) u = some (if len ≤ 60 then -1 else nI 60, u') ∧ ag wQ u u' ∧ (len ≤ 60 → rd u' 54 1 = nI ((if many = true then [(-300 : Int32)] else []) ++ R).length ∧ sk u' 55 0 (((if many = true then [(-300 : Int32)] else []) ++ R).map em)) := by
  obtain ⟨u1, b1, b2, b3, b4⟩ := begin_ok (many := many) (u := u)
  obtain ⟨m, em, hr⟩ := h
  have emj : m = n := by omega
  subst emj
  have h60 := hT.1
  have hml := hT.2.1
  have h100 := hT.2.2.1
  obtain ⟨u2, q1, q2, q3, q4⟩ := read_run m 0 (1000000 - m) u1 _ _ (RT_fr b4 hT) hr (by omega) b2 b3
  rw [Nat.zero_add] at q1 q3
  have hxN : xN = (1000000 - m) + m := by
    have : xN = 1000000 := rfl
    omega
  have op : f_X7_read 53 (nI len) (bi many) u = f_X7_read_8 (1000000 - m) 53 (nI len) (bi many) (nI m) u2 := by
    rw [f_X7_read, b1, Option.bind_some, l_0, hxN, q1]
  have g : ag wQ u u2 := ag_trans b4 q4
  have hN : 1000000 - m = (999999 - m) + 1 := by omega
  have e69 : f_X7_read_8 ((999999 - m) + 1) 53 (nI len) (bi many) (nI m) u2 = f_X7_read_69 (nI len) (bi many) u2 := by
    rw [f_X7_read_8]
    by_cases c1 : len ≤ m
    · rw [if_pos (nI_le c1 (by omega))]
    · have : m = 60 := by
        rcases hT.2.2.2.1 with e | e <;> omega
      rw [if_neg (nI_ge (by omega) (by omega)), if_pos (show (60 : Int32) ≤ nI m by rw [this]; exact Int32.le_refl _)]
  rw [op, hN, e69, f_X7_read_69]
  by_cases c1 : len ≤ 60
  · obtain ⟨u3, z1, z2, z3⟩ := brC q2 q3 (by omega) (l := 1) (Nat.le_refl _) (by omega)
    rw [hab] at z2
    have hlen := abr_len 1 P r1
    rw [hab] at hlen
    have hR : R.length ≤ m := by
      have h1 := q3.1
      have h2 : R.length + 0 = r1.length + P.length := hlen
      omega
    obtain ⟨n1, n2, n3, n4, n5, n6, n7, n8, n9⟩ := z2
    have m1 : rd u2 54 7 = bi false := q2.1
    have m3 : rd u2 54 5 = nI 0 := q2.2.2.1
    rw [if_pos (show nI len ≤ (60 : Int32) from nI_le (b := 60) c1 (by omega)), m1, if_pos (show bi false = 0 from rfl), m3, if_pos (show nI 0 ≤ 0 from by decide), show (1 : Int32) = nI 1 from rfl, z1, Option.bind_some, if_pos c1]
    cases many with
    | false =>
      rw [if_pos (show bi false = 0 from rfl)]
      exact ⟨u3, rfl, ag_trans g z3, fun _ => ⟨n6, n7⟩⟩
    | true =>
      obtain ⟨u4, e1, e2, e3, e4⟩ := emit_ok (r := R) (m := -300) (v := -59) n6 (by omega) n7 (by decide)
      rw [if_neg (show ¬ bi true = 0 from by decide), e1, Option.bind_some]
      exact ⟨u4, rfl, ag_trans g (ag_trans z3 fun c j hc => e4 c j (ne_W 55 (fun _ => rfl) hc) (fun z => by rw [z.1, z.2] at hc; revert hc; decide)), fun _ => ⟨e2, e3⟩⟩
  · rw [if_neg (show ¬ nI len ≤ (60 : Int32) from nI_ge (a := 60) (by omega) (by omega)), if_neg c1]
    exact ⟨u2, rfl, g, fun z => absurd z c1⟩
end READ
