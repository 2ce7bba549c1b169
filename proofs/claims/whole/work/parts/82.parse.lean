/-! TEXT: the reference's parser keeps step with the automaton -/
section PARSE2
variable {u0 : xS} {many : Bool} {c : Nat → Nat} {n : Nat}
theorem p_thing (hp : PT u0 c n) {S : Int32 → xS → Option (Int32 × xS)} {lo : Nat} (hS : PP u0 many c n 6 S (lo + 1)) : PP u0 many c n 0 (f_X12_thing S) lo := by
  intro i o f fs r u h1 h2 _ _ h5 h6 hM
  have hn := hp.1
  rw [f_X12_thing, isOf_0 hp hM h2, Option.bind_some, ite_10]
  by_cases c1 : i < n ∧ isL (c i) = true
  · obtain ⟨e1, e2⟩ := hp.2.2 i c1.1
    obtain ⟨t1, t2, t3, t4, t5, -⟩ := tb_L _ e2 c1.2
    have tix := tb_ix _ e2 c1.2
    obtain ⟨u', m1, m2⟩ := marks_ok hp (m := lmk (c i)) hM (by omega)
    have hst : astep many (c i) (true, 0, o, r, f :: fs) = some (false, 0, o, lmk (c i) :: r, f :: fs) := by
      show aBeg (c i) 0 o r (f :: fs) = _
      rw [aBeg, if_neg t1, if_neg t2, if_neg t3, if_neg t4, if_pos c1.2]
    rw [if_pos c1, hM.2.1, gd_nI (by omega) (by omega), nI_cl (by omega), RM_159 hM, e1, tb_0 _ e2, if_pos c1.2, Option.bind_some, show (-1 : Int32) - nI (lts.idxOf (c i)) = lmk (c i) from rfl, m1, Option.bind_some]
    refine ⟨1, _, i + 1, _, rfl, at_ok m2, by omega, by omega, Or.inl ⟨rfl, by omega, 0, [], lmk (c i) :: r, f, [lmk (c i)], AR_s hst, fun x hx => (by cases hx), rfl, rfl, DW_one t5, ?_, fun _ => rfl, fun hj => ⟨fun _ _ => Or.inl rfl, fun q1 q2 => ?_⟩⟩⟩
    · show 1 + i ≤ i + 1
      omega
    · rw [klv_0] at q1
      omega
  · rw [if_neg c1, isOf_1 hp hM h2, Option.bind_some, ite_10]
    by_cases c2 : i < n ∧ (48 ≤ c i ∧ c i ≤ 57)
    · obtain ⟨e1, e2⟩ := hp.2.2 i c2.1
      have hst : astep many (c i) (true, 0, o, r, f :: fs) = some (false, 1, o, nI (c i - 48) :: r, f :: fs) := by
        show aBeg (c i) 0 o r (f :: fs) = _
        rw [aBeg, if_neg (by omega), if_neg (by omega), if_neg (by omega), if_pos c2.2]
      rw [if_pos c2, show xN = 999999 + 1 from rfl, f_X12_thing_59, if_neg (by decide), isOf_1 hp hM h2, Option.bind_some, ite_10, if_pos c2]
      have e33 := hM.2.1
      rw [show gd (xin (rd u 135 33) 100) (f_X12_thing_59 S 999999 (nI n) ((((10 : Int32) * (0 : Int32)) + (rd u 159 (rd u 135 33).toNatClampNeg)) - (48 : Int32)) ((0 : Int32) + (1 : Int32)) (wr u 135 33 ((rd u 135 33) + (1 : Int32)))) = f_X12_thing_59 S 999999 (nI n) (nI (c i - 48)) (nI 1) (wr u 135 33 ((rd u 135 33) + (1 : Int32))) by
        rw [e33, gd_nI (by omega) (by omega), nI_cl (by omega), RM_159 hM, e1, show (10 : Int32) * 0 = nI 0 from rfl, nI_add, Nat.zero_add, show (48 : Int32) = nI 48 from rfl, nI_sub (by omega)]
        rfl]
      exact dig_loop hp h6 3 1 999999 (c i - 48) _ (by omega) (by omega) (by omega) (by omega) (by omega) (at_ok hM) (AR_s hst)
    · rw [if_neg c2, show (40 : Int32) = nI 40 from rfl, isSg hp hM h2 (by omega), Option.bind_some, ite_10]
      by_cases c3 : i < n ∧ c i = 40
      · have hst : astep many (c i) (true, 0, o, r, f :: fs) = some (true, 0, 40 :: o, r, false :: f :: fs) := by
          show aBeg (c i) 0 o r (f :: fs) = _
          rw [aBeg, if_neg (by omega), if_neg (by omega), if_pos c3.2]
        obtain ⟨b, u1, j, R, e, M1, l1, l2, hh⟩ := hS (i + 1) (40 :: o) false (f :: fs) r _ (by omega) (by omega) (fun _ => aLo_c (by decide)) (fun _ => rfl) (fun z => absurd z (by decide)) (by omega) (at_ok hM)
        rw [if_pos c3, e, Option.bind_some]
        dsimp only
        rcases hh with ⟨rfl, g⟩ | ⟨rfl, y, r1, s1⟩
        · obtain ⟨gl, d, P, r1, f', W, ar, hP, eR, eW, dw, wl, -, nx⟩ := g
          rw [if_neg (by decide), show (41 : Int32) = nI 41 from rfl, isSg hp M1 l2 (by omega), Option.bind_some, ite_10]
          by_cases c4 : j < n ∧ c j = 41
          · have hst2 : astep many (c j) (false, d, P ++ 40 :: o, r1, f' :: f :: fs) = some (false, 0, o, R, f :: fs) := by
              show aOn many (c j) d (P ++ 40 :: o) r1 (f' :: f :: fs) = _
              rw [aOn, if_neg (by omega), if_pos c4.2, aClo, abr_P (l := 1) hP (aLo_c (by decide)), eR]
              rfl
            rw [if_pos c4]
            refine ⟨1, _, j + 1, R, rfl, at_ok M1, by omega, by omega, Or.inl ⟨rfl, by omega, 0, [], R, f, W, AR_t (AR_s hst) (AR_t ar (AR_s hst2)), fun x hx => (by cases hx), rfl, eW, dw, by omega, fun _ => rfl, fun hj => ⟨fun _ _ => Or.inl rfl, fun q1 q2 => ?_⟩⟩⟩
            rw [klv_0] at q1
            omega
          · rw [if_neg c4]
            refine ⟨0, u1, j, R, rfl, M1, by omega, l2, Or.inr ⟨rfl, _, AR_t (AR_s hst) ar, ?_⟩⟩
            by_cases ej : j = n
            · refine Or.inl ⟨ej, Or.inr ?_⟩
              show 1 < (f' :: f :: fs).length
              rw [List.length_cons, List.length_cons]
              omega
            · exact Or.inr ⟨by omega, on_none (by omega) nx (fun z => absurd ⟨by omega, z⟩ c4) fun _ => Or.inr (by intro z; cases z)⟩
        · rw [if_pos rfl]
          exact ⟨0, u1, j, R, rfl, M1, by omega, l2, Or.inr ⟨rfl, y, AR_t (AR_s hst) r1, s1⟩⟩
      · rw [if_neg c3]
        refine ⟨0, u, i, r, rfl, hM, Nat.le_refl _, h2, Or.inr ⟨rfl, _, AR_r _ _, ?_⟩⟩
        by_cases ei : i = n
        · exact Or.inl ⟨ei, Or.inl rfl⟩
        · have hin : i < n := by omega
          obtain ⟨q1, q2⟩ := h5 rfl hin
          refine Or.inr ⟨hin, ?_⟩
          show aBeg (c i) 0 o r (f :: fs) = none
          rw [aBeg, if_neg q1, if_neg q2, if_neg (fun z => c3 ⟨hin, z⟩), if_neg (fun z => c2 ⟨hin, z⟩), if_neg (fun z => c1 ⟨hin, z⟩)]
theorem OUT_01 {i : Nat} {o : List Nat} {f : Bool} {fs : List Bool} {r : List Int32} {res : Option (Int32 × xS)} (h : OUT u0 many c n 0 i o f fs r res) : OUT u0 many c n 1 i o f fs r res := by
  obtain ⟨b, u', j, R, e, M, l1, l2, hh⟩ := h
  refine ⟨b, u', j, R, e, M, l1, l2, hh.imp (fun ⟨e1, g⟩ => ⟨e1, ?_⟩) id⟩
  obtain ⟨gl, d, P, r1, f', W, ar, hP, eR, eW, dw, wl, ff, nx⟩ := g
  exact ⟨gl, d, P, r1, f', W, ar, hP, eR, eW, dw, wl, fun _ => ff (by omega), nx⟩
theorem OUT_xb {k i : Nat} {o : List Nat} {f : Bool} {fs : List Bool} {r : List Int32} {res : Option (Int32 × xS)} (h : OUT u0 many c n k i o f fs r res) : OUT u0 many c n k i o f fs r (res.bind fun q => gd (xb q.1) (some (q.1, q.2))) := by
  obtain ⟨b, u', j, R, e, M, l1, l2, hh⟩ := h
  refine ⟨b, u', j, R, ?_, M, l1, l2, hh⟩
  rw [e, Option.bind_some]
  dsimp only
  rcases hh with ⟨rfl, -⟩ | ⟨rfl, -⟩
  · rw [xb_1]
  · rw [xb_0]
theorem p_unary (hp : PT u0 c n) {S1 S0 : Int32 → xS → Option (Int32 × xS)} {lo : Nat} (hS1 : PP u0 many c n 1 S1 (lo + 1)) (hS0 : PP u0 many c n 0 S0 lo) : PP u0 many c n 1 (f_X12_unary S1 S0) lo := by
  intro i o f fs r u h1 h2 _ _ _ h6 hM
  have hn := hp.1
  rw [f_X12_unary, isOf_2 hp hM h2, Option.bind_some, ite_10]
  by_cases c1 : i < n ∧ (c i = 33 ∨ c i = 45)
  · obtain ⟨e1, e2⟩ := hp.2.2 i c1.1
    obtain ⟨sg, hsg, hsg2, hst⟩ : ∃ sg, (sg = 33 ∨ sg = 126) ∧ (if c i = 33 then sg = 33 else sg = 126) ∧ astep many (c i) (true, 0, o, r, f :: fs) = some (true, 0, sg :: o, r, f :: fs) := by
      rcases c1.2 with e | e
      · refine ⟨33, Or.inl rfl, by rw [if_pos e], ?_⟩
        show aBeg (c i) 0 o r (f :: fs) = _
        rw [aBeg, if_pos e]
      · refine ⟨126, Or.inr rfl, by rw [if_neg (by omega)], ?_⟩
        show aBeg (c i) 0 o r (f :: fs) = _
        rw [aBeg, if_neg (by omega), if_pos e]
    obtain ⟨b, u1, j, R, e, M1, l1, l2, hh⟩ := hS1 (i + 1) (sg :: o) f fs r _ (by omega) (by omega) (fun z => absurd z (by decide)) (fun z => absurd z (by decide)) (fun z => absurd z (by decide)) (by omega) (at_ok hM)
    rw [if_pos c1, show gd (xin (rd u 135 33) 100) = fun x : Option (Int32 × xS) => x by
      funext x
      rw [hM.2.1, gd_nI (by omega) (by omega)], e, Option.bind_some]
    dsimp only
    rcases hh with ⟨rfl, g⟩ | ⟨rfl, y, r1, s1⟩
    · have gl2 := GD_len g (by omega)
      obtain ⟨gl, d, P, r1, f', W, ar, hP, eR, eW, dw, wl, ff, nx⟩ := g
      obtain ⟨u2, m1, m2⟩ := marks_ok hp (m := amk sg) M1 (by omega)
      have e61 : (if rd u 159 (rd u 135 33).toNatClampNeg = 33 then f_X12_unary_61 S1 S0 1 33 u1 else f_X12_unary_61 S1 S0 1 126 u1) = some (1, u2) := by
        rw [hM.2.1, nI_cl (by omega), RM_159 hM, e1]
        by_cases c33 : c i = 33
        · rw [if_pos c33] at hsg2
          rw [if_pos (by rw [c33]; rfl), f_X12_unary_61, show f_X12_act 33 = amk sg by rw [hsg2]; rfl, m1, Option.bind_some, xb_1]
        · rw [if_neg c33] at hsg2
          rw [if_neg (show ¬ nI (c i) = (33 : Int32) from fun z => c33 ((nI_eq (b := 33) (by omega) (by omega)).mp z)), f_X12_unary_61, show f_X12_act 126 = amk sg by rw [hsg2]; rfl, m1, Option.bind_some, xb_1]
      rw [if_neg (by decide), e61]
      refine ⟨1, u2, j, _, rfl, m2, by omega, l2, Or.inl ⟨rfl, by omega, d, P ++ [sg], r1, f', W ++ [amk sg], ?_, fun x hx => ?_, ?_, ?_, DW_un dw hsg, ?_, fun _ => ff (by omega), nx⟩⟩
      · rw [List.append_assoc]
        exact AR_t (AR_s hst) ar
      · rcases List.mem_append.mp hx with hx | hx
        · exact hP x hx
        · rw [List.mem_singleton] at hx
          rw [hx]
          rcases hsg with e | e <;> rw [e] <;> decide
      · rw [List.map_append, List.reverse_append, ← eR]
        rfl
      · rw [List.reverse_append, eW]
        rfl
      · rw [List.length_append]
        show W.length + 1 + i ≤ j
        omega
    · rw [if_pos rfl, xb_0]
      exact ⟨0, u1, j, R, rfl, M1, by omega, l2, Or.inr ⟨rfl, y, AR_t (AR_s hst) r1, s1⟩⟩
  · rw [if_neg c1]
    refine OUT_xb (OUT_01 (hS0 i o f fs r u h1 h2 (fun z => absurd z (by decide)) (fun z => absurd z (by decide)) (fun _ hin => ⟨fun z => c1 ⟨hin, Or.inl z⟩, fun z => c1 ⟨hin, Or.inr z⟩⟩) h6 hM))
theorem loopK (hp : PT u0 c n) {k : Nat} (hk : k = 2 ∨ k = 3 ∨ k = 5 ∨ k = 6) {S : Int32 → xS → Option (Int32 × xS)} {F : Nat → Int32 → xS → Option (Int32 × xS)} {lo : Nat} (hS : PP u0 many c n (k - 1) S (lo + 1)) (f0 : ∀ N u, F (N + 1) 0 u = some (0, u)) (f1 : ∀ N u j R, RM u0 j R u → j ≤ n → ¬ (j < n ∧ alev (c j) = klv k) → F (N + 1) 1 u = some (1, u)) (f2 : ∀ N u j R, RM u0 j R u → j < n → alev (c j) = klv k → F (N + 1) 1 u = (S (nI n) (wr u 135 33 (rd u 135 33 + 1))).bind fun q => if q.1 = 0 then F N q.1 q.2 else (f_X12_marks (amk (c j)) q.2).bind fun u' => F N q.1 u') {i : Nat} {o : List Nat} {f : Bool} {fs : List Bool} {r : List Int32} (hlo : lo ≤ i) (ho : aLo (klv k) o) (hf : 4 ≤ k → f = false) (hr : r.length ≤ i) : ∀ (m N j : Nat) (u : xS) (R : List Int32), n - j ≤ m → m + 1 < N → j ≤ n → RM u0 j R u → GD many c n k (k - 1) i o f fs r j R → OUT u0 many c n k i o f fs r (F N 1 u) := by
  have hn := hp.1
  intro m
  induction m with
  | zero =>
    intro N j u R h1 h2 h3 hM g
    obtain ⟨N, rfl⟩ : ∃ M, N = M + 1 := ⟨N - 1, by omega⟩
    obtain ⟨gl, d, P, r1, f', W, ar, hP, eR, eW, dw, wl, ff, nx⟩ := g
    exact ⟨1, u, j, R, f1 N u j R hM h3 (fun z => by omega), hM, by omega, h3, Or.inl ⟨rfl, gl, d, P, r1, f', W, ar, hP, eR, eW, dw, wl, ff, fun hj => by omega⟩⟩
  | succ m ih =>
    intro N j u R h1 h2 h3 hM g
    obtain ⟨N, rfl⟩ : ∃ M, N = M + 1 := ⟨N - 1, by omega⟩
    have gR := GD_len g hr
    obtain ⟨gl, d, P, r1, f', W, ar, hP, eR, eW, dw, wl, ff, nx⟩ := g
    have kl : klv (k - 1) = klv k + 1 := by
      rcases hk with e | e | e | e <;> rw [e] <;> rfl
    have kl1 : 1 ≤ klv k ∧ klv k ≤ 5 ∧ ¬ klv k = 3 := by
      rcases hk with e | e | e | e <;> rw [e] <;> decide
    by_cases ct : j < n ∧ alev (c j) = klv k
    · obtain ⟨hj, hl⟩ := ct
      have kf : k ≤ 3 ∨ (4 ≤ k ∧ klv k ≤ 3) := by
        rcases hk with e | e | e | e <;> rw [e] <;> decide
      have kg : k ≤ 3 → ¬ klv k ≤ 3 := by
        rcases hk with e | e | e | e <;> rw [e] <;> decide
      obtain ⟨f2', hf2⟩ : ∃ g, g = (if alev (c j) ≤ 3 then decide (alev (c j) = 3) else f') := ⟨_, rfl⟩
      have hf2a : k ≤ 3 → f2' = f := fun z => by
        rw [hf2, if_neg (by rw [hl]; exact kg z)]
        exact ff z
      have hf2b : 4 ≤ k → f2' = false := fun z => by
        have : klv k ≤ 3 := by omega
        rw [hf2, if_pos (by rw [hl]; exact this)]
        exact decide_eq_false (by rw [hl]; exact kl1.2.2)
      have hal := alev_5 (x := c j) (by omega) (by omega)
      have hst : astep many (c j) (false, d, P ++ o, r1, f' :: fs) = some (true, 0, c j :: o, R, f2' :: fs) := by
        show aOn many (c j) d (P ++ o) r1 (f' :: fs) = _
        rw [aOn, if_neg (by omega), if_neg (by omega), if_neg (by omega), if_pos ⟨by omega, by omega⟩, aJoi, if_neg (fun z => kl1.2.2 (by rw [← hl]; exact z.1)), hl, abr_P hP ho, eR, hf2, hl]
      obtain ⟨b, u1, j2, R2, e, M1, l1, l2, hh⟩ := hS (j + 1) (c j :: o) f2' fs R _ (by omega) (by omega) (fun _ => aLo_c (by omega)) (fun z => hf2b (by omega)) (fun z => by omega) (by omega) (at_ok hM)
      rw [f2 N u j R hM hj hl, e, Option.bind_some]
      dsimp only
      rcases hh with ⟨rfl, g⟩ | ⟨rfl, y, r2, s2⟩
      · have gl2 := GD_len g (by omega)
        obtain ⟨gl', d2, P2, r2, f3, W2, ar2, hP2, eR2, eW2, dw2, wl2, ff2, nx2⟩ := g
        obtain ⟨u2, m1, m2⟩ := marks_ok hp (m := amk (c j)) M1 (by omega)
        rw [if_neg (by decide), m1, Option.bind_some]
        refine ih N j2 u2 (amk (c j) :: R2) (by omega) (by omega) l2 m2 ⟨by omega, d2, P2 ++ [c j], r2, f3, W ++ (W2 ++ [amk (c j)]), ?_, fun x hx => ?_, ?_, ?_, DW_bi dw dw2 (by omega) (by omega), ?_, fun z => ?_, nx2⟩
        · rw [List.append_assoc]
          exact AR_t ar (AR_t (AR_s hst) ar2)
        · rcases List.mem_append.mp hx with hx | hx
          · have := hP2 x hx
            omega
          · rw [List.mem_singleton] at hx
            rw [hx]
            omega
        · rw [List.map_append, List.reverse_append, ← eR2]
          rfl
        · rw [List.reverse_append, List.reverse_append, eW2, eW, List.append_assoc]
          rfl
        · rw [List.length_append, List.length_append]
          show W.length + (W2.length + 1) + i ≤ j2
          omega
        · rw [ff2 (by omega), hf2a z]
      · obtain ⟨N', rfl⟩ : ∃ M, N = M + 1 := ⟨N - 1, by omega⟩
        rw [if_pos rfl, f0]
        exact ⟨0, u1, j2, R2, rfl, M1, by omega, l2, Or.inr ⟨rfl, y, AR_t ar (AR_t (AR_s hst) r2), s2⟩⟩
    · refine ⟨1, u, j, R, f1 N u j R hM h3 ct, hM, by omega, h3, Or.inl ⟨rfl, gl, d, P, r1, f', W, ar, hP, eR, eW, dw, wl, ff, fun hj => ⟨(nx hj).1, fun q1 q2 => (nx hj).2 ?_ q2⟩⟩⟩
      by_cases e : alev (c j) = klv k
      · exact absurd ⟨hj, e⟩ ct
      · omega
end PARSE2
