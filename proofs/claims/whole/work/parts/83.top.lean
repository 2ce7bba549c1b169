/-! TEXT: the parser's levels, and whole texts -/
section TOP
variable {u0 : xS} {many : Bool} {c : Nat → Nat} {n : Nat}
theorem aLo_k {k : Nat} {o : List Nat} (hk : 2 ≤ k) (hk6 : k ≤ 6) (h : aLo (klv k) o) : aLo (klv (k - 1)) o := aLo_up h (by
  unfold klv
  rw [if_neg (by omega)]
  by_cases e : k - 1 = 0
  · omega
  · rw [if_neg e]; omega)
theorem GD_dn {k i j : Nat} {o : List Nat} {f : Bool} {fs : List Bool} {r R : List Int32} (hk : 2 ≤ k) (hk6 : k ≤ 6) (hf : k = 4 → False) (h : GD many c n (k - 1) (k - 1) i o f fs r j R) : GD many c n k (k - 1) i o f fs r j R := by
  obtain ⟨gl, d, P, r1, f', W, ar, hP, eR, eW, dw, wl, ff, nx⟩ := h
  have kl : klv k ≤ klv (k - 1) := by
    unfold klv
    rw [if_neg (by omega)]
    by_cases e : k - 1 = 0
    · omega
    · rw [if_neg e]; omega
  exact ⟨gl, d, P, r1, f', W, ar, fun x hx => Nat.le_trans kl (hP x hx), eR, eW, dw, wl, fun z => ff (by omega), nx⟩
/-- a method that calls the next one and goes on in a loop -/
theorem levK (hp : PT u0 c n) {k : Nat} (hk : k = 2 ∨ k = 3 ∨ k = 5 ∨ k = 6) {S : Int32 → xS → Option (Int32 × xS)} {F : Nat → Int32 → xS → Option (Int32 × xS)} {M : Int32 → xS → Option (Int32 × xS)} {lo : Nat} (hS : PP u0 many c n (k - 1) S lo) (hM : ∀ u, M (nI n) u = (S (nI n) u).bind fun q => F xN q.1 q.2) (f0 : ∀ N u, F (N + 1) 0 u = some (0, u)) (f1 : ∀ N u j R, RM u0 j R u → j ≤ n → ¬ (j < n ∧ alev (c j) = klv k) → F (N + 1) 1 u = some (1, u)) (f2 : ∀ N u j R, RM u0 j R u → j < n → alev (c j) = klv k → F (N + 1) 1 u = (S (nI n) (wr u 135 33 (rd u 135 33 + 1))).bind fun q => if q.1 = 0 then F N q.1 q.2 else (f_X12_marks (amk (c j)) q.2).bind fun u' => F N q.1 u') : PP u0 many c n k M lo := by
  intro i o f fs r u h1 h2 h3 h4 _ h6 hR
  have hn := hp.1
  have hk2 : 2 ≤ k ∧ k ≤ 6 ∧ (k = 4 → False) := by omega
  obtain ⟨b, u1, j, R, e, M1, l1, l2, hh⟩ := hS i o f fs r u h1 h2 (fun _ => aLo_k hk2.1 hk2.2.1 (h3 hk2.1)) (fun z => h4 (by omega)) (fun z => by omega) h6 hR
  rw [hM, e, Option.bind_some]
  dsimp only
  rcases hh with ⟨rfl, g⟩ | ⟨rfl, y, r1, s1⟩
  · exact loopK hp hk (F := F) (lo := lo) (fun i' o' f' fs' r' u' q1 => hS i' o' f' fs' r' u' (by omega)) f0 f1 f2 h1 (h3 hk2.1) h4 h6 n xN j u1 R (by omega) (xN_lt (by omega)) l2 M1 (GD_dn hk2.1 hk2.2.1 hk2.2.2 g)
  · rw [show xN = 999999 + 1 from rfl, f0]
    exact ⟨0, u1, j, R, rfl, M1, l1, l2, Or.inr ⟨rfl, y, r1, s1⟩⟩
theorem p_product (hp : PT u0 c n) {S : Int32 → xS → Option (Int32 × xS)} {lo : Nat} (hS : PP u0 many c n 1 S lo) : PP u0 many c n 2 (f_X12_product S) lo := by
  have hn := hp.1
  refine levK hp (k := 2) (Or.inl rfl) (F := fun N v2 u => f_X12_product_6 S N (nI n) v2 u) hS (fun u => rfl) (fun N u => ?_) (fun N u j R hM hj hx => ?_) (fun N u j R hM hj hx => ?_)
  · show f_X12_product_6 S (N + 1) (nI n) 0 u = some (0, u)
    rw [f_X12_product_6, if_pos rfl, xb_0]
  · show f_X12_product_6 S (N + 1) (nI n) 1 u = some (1, u)
    rw [f_X12_product_6, if_neg (by decide), isOf_3 hp hM hj, Option.bind_some, ite_10, if_neg (show ¬ (j < n ∧ alev (c j) = 5) from hx), xb_1]
  · obtain ⟨e1, e2⟩ := hp.2.2 j hj
    show f_X12_product_6 S (N + 1) (nI n) 1 u = _
    rw [f_X12_product_6, if_neg (by decide), isOf_3 hp hM (by omega), Option.bind_some, ite_10, if_pos ⟨hj, hx⟩, hM.2.1, gd_nI (by omega) (by omega), nI_cl (by omega), RM_159 hM, e1]
    rfl
theorem p_total (hp : PT u0 c n) {S : Int32 → xS → Option (Int32 × xS)} {lo : Nat} (hS : PP u0 many c n 2 S lo) : PP u0 many c n 3 (f_X12_total S) lo := by
  have hn := hp.1
  refine levK hp (k := 3) (Or.inr (Or.inl rfl)) (F := fun N v2 u => f_X12_total_6 S N (nI n) v2 u) hS (fun u => rfl) (fun N u => ?_) (fun N u j R hM hj hx => ?_) (fun N u j R hM hj hx => ?_)
  · show f_X12_total_6 S (N + 1) (nI n) 0 u = some (0, u)
    rw [f_X12_total_6, if_pos rfl, xb_0]
  · show f_X12_total_6 S (N + 1) (nI n) 1 u = some (1, u)
    rw [f_X12_total_6, if_neg (by decide), isOf_4 hp hM hj, Option.bind_some, ite_10, if_neg (show ¬ (j < n ∧ alev (c j) = 4) from hx), xb_1]
  · obtain ⟨e1, e2⟩ := hp.2.2 j hj
    show f_X12_total_6 S (N + 1) (nI n) 1 u = _
    rw [f_X12_total_6, if_neg (by decide), isOf_4 hp hM (by omega), Option.bind_some, ite_10, if_pos ⟨hj, hx⟩, hM.2.1, gd_nI (by omega) (by omega), nI_cl (by omega), RM_159 hM, e1]
    rfl
theorem alev_2 {x : Nat} : alev x = 2 ↔ x = 38 := by
  constructor
  · intro h
    rcases alev_5 (x := x) (by omega) (by omega) with e | e | e | e | e | e | e | e | e | e <;> first | exact e | (rw [e] at h; exact absurd h (by decide))
  · intro h
    rw [h]
    rfl
theorem alev_1 {x : Nat} : alev x = 1 ↔ x = 124 := by
  constructor
  · intro h
    rcases alev_5 (x := x) (by omega) (by omega) with e | e | e | e | e | e | e | e | e | e <;> first | exact e | (rw [e] at h; exact absurd h (by decide))
  · intro h
    rw [h]
    rfl
theorem p_every (hp : PT u0 c n) {S : Int32 → xS → Option (Int32 × xS)} {lo : Nat} (hS : PP u0 many c n 4 S lo) : PP u0 many c n 5 (f_X12_every S) lo := by
  have hn := hp.1
  refine levK hp (k := 5) (Or.inr (Or.inr (Or.inl rfl))) (F := fun N v2 u => f_X12_every_6 S N (nI n) v2 u) hS (fun u => rfl) (fun N u => ?_) (fun N u j R hM hj hx => ?_) (fun N u j R hM hj hx => ?_)
  · show f_X12_every_6 S (N + 1) (nI n) 0 u = some (0, u)
    rw [f_X12_every_6, if_pos rfl, xb_0]
  · show f_X12_every_6 S (N + 1) (nI n) 1 u = some (1, u)
    rw [f_X12_every_6, if_neg (by decide), show (38 : Int32) = nI 38 from rfl, isSg hp hM hj (by omega), Option.bind_some, ite_10, if_neg (fun z => hx ⟨z.1, alev_2.mpr z.2⟩), xb_1]
  · have e38 := alev_2.mp (show alev (c j) = 2 from hx)
    show f_X12_every_6 S (N + 1) (nI n) 1 u = _
    rw [f_X12_every_6, if_neg (by decide), show f_X12_isSign u (nI n) (38 : Int32) = some 1 by
      rw [show (38 : Int32) = nI 38 from rfl, isSg hp hM (by omega) (by omega), if_pos ⟨hj, e38⟩], Option.bind_some, if_neg (by decide), e38]
    rfl
theorem p_some (hp : PT u0 c n) {S : Int32 → xS → Option (Int32 × xS)} {lo : Nat} (hS : PP u0 many c n 5 S lo) : PP u0 many c n 6 (f_X12_some S) lo := by
  have hn := hp.1
  refine levK hp (k := 6) (Or.inr (Or.inr (Or.inr rfl))) (F := fun N v2 u => f_X12_some_6 S N (nI n) v2 u) hS (fun u => rfl) (fun N u => ?_) (fun N u j R hM hj hx => ?_) (fun N u j R hM hj hx => ?_)
  · show f_X12_some_6 S (N + 1) (nI n) 0 u = some (0, u)
    rw [f_X12_some_6, if_pos rfl, xb_0]
  · show f_X12_some_6 S (N + 1) (nI n) 1 u = some (1, u)
    rw [f_X12_some_6, if_neg (by decide), show (124 : Int32) = nI 124 from rfl, isSg hp hM hj (by omega), Option.bind_some, ite_10, if_neg (fun z => hx ⟨z.1, alev_1.mpr z.2⟩), xb_1]
  · have e124 := alev_1.mp (show alev (c j) = 1 from hx)
    show f_X12_some_6 S (N + 1) (nI n) 1 u = _
    rw [f_X12_some_6, if_neg (by decide), show f_X12_isSign u (nI n) (124 : Int32) = some 1 by
      rw [show (124 : Int32) = nI 124 from rfl, isSg hp hM (by omega) (by omega), if_pos ⟨hj, e124⟩], Option.bind_some, if_neg (by decide), e124]
    rfl
theorem p_compared (hp : PT u0 c n) {S : Int32 → xS → Option (Int32 × xS)} {lo : Nat} (hS : PP u0 many c n 3 S lo) : PP u0 many c n 4 (f_X12_compared S) lo := by
  intro i o f fs r u h1 h2 h3 h4 _ h6 hM
  have hn := hp.1
  have ho := h3 (by omega)
  have hf := h4 (Nat.le_refl _)
  obtain ⟨b, u1, j, R, e, M1, l1, l2, hh⟩ := hS i o f fs r u h1 h2 (fun _ => aLo_k (k := 4) (by omega) (by omega) ho) (fun z => absurd z (by decide)) (fun z => absurd z (by decide)) h6 hM
  rw [f_X12_compared, e, Option.bind_some]
  dsimp only
  rcases hh with ⟨rfl, g⟩ | ⟨rfl, y, r1, s1⟩
  · have gR := GD_len g h6
    obtain ⟨gl, d, P, r1, f', W, ar, hP, eR, eW, dw, wl, ff, nx⟩ := g
    have ef : f' = false := (ff (by omega)).trans hf
    have hP3 : ∀ x, x ∈ P → klv 4 ≤ alev x := fun x hx => Nat.le_trans (by decide) (hP x hx)
    rw [if_neg (by decide), isOf_5 hp M1 l2, Option.bind_some, ite_10]
    by_cases c1 : j < n ∧ alev (c j) = 3
    · obtain ⟨e1, e2⟩ := hp.2.2 j c1.1
      have hal := alev_5 (x := c j) (by omega) (by omega)
      have hst : astep many (c j) (false, d, P ++ o, r1, f' :: fs) = some (true, 0, c j :: o, R, true :: fs) := by
        show aOn many (c j) d (P ++ o) r1 (f' :: fs) = _
        rw [aOn, if_neg (by omega), if_neg (by omega), if_neg (by omega), if_pos ⟨by omega, by omega⟩, aJoi, if_neg (fun z => by rw [ef] at z; cases z.2), c1.2, abr_P (l := 3) hP3 ho, eR]
        rfl
      obtain ⟨b, u2, j2, R2, e', M2, l1', l2', hh⟩ := hS (j + 1) (c j :: o) true fs R _ (by omega) (by omega) (fun _ => aLo_c (by rw [c1.2]; decide)) (fun z => absurd z (by decide)) (fun z => absurd z (by decide)) (by omega) (at_ok M1)
      rw [if_pos c1, show gd (xin (rd u1 135 33) 100) = fun x : Option (Int32 × xS) => x by
        funext x
        rw [M1.2.1, gd_nI (by omega) (by omega)], e', Option.bind_some]
      dsimp only
      rcases hh with ⟨rfl, g⟩ | ⟨rfl, y, r2, s2⟩
      · have gl2 := GD_len g (by omega)
        obtain ⟨gl', d2, P2, r2, f3, W2, ar2, hP2, eR2, eW2, dw2, wl2, ff2, nx2⟩ := g
        obtain ⟨u3, m1, m2⟩ := marks_ok hp (m := amk (c j)) M2 (by omega)
        have eact : f_X12_act (rd u1 159 (rd u1 135 33).toNatClampNeg) = amk (c j) := by
          rw [M1.2.1, nI_cl (by omega), RM_159 M1, e1]
          rfl
        rw [if_neg (by decide), eact, m1, Option.bind_some, xb_1]
        refine ⟨1, u3, j2, _, rfl, m2, by omega, l2', Or.inl ⟨rfl, by omega, d2, P2 ++ [c j], r2, f3, W ++ (W2 ++ [amk (c j)]), ?_, fun x hx => ?_, ?_, ?_, DW_bi dw dw2 (by omega) (by omega), ?_, fun z => absurd z (by decide), fun hj2 => ⟨(nx2 hj2).1, fun q1 q2 => ?_⟩⟩⟩
        · rw [List.append_assoc]
          exact AR_t ar (AR_t (AR_s hst) ar2)
        · rcases List.mem_append.mp hx with hx | hx
          · exact Nat.le_trans (by decide) (hP2 x hx)
          · rw [List.mem_singleton] at hx
            rw [hx, c1.2]
            decide
        · rw [List.map_append, List.reverse_append, ← eR2]
          rfl
        · rw [List.reverse_append, List.reverse_append, eW2, eW, List.append_assoc]
          rfl
        · rw [List.length_append, List.length_append]
          show W.length + (W2.length + 1) + i ≤ j2
          omega
        · have hf3 : f3 = true := ff2 (by omega)
          refine ⟨?_, hf3⟩
          rw [klv_4] at q1
          by_cases e3 : alev (c j2) = 3
          · exact e3
          · exact ((nx2 hj2).2 (by rw [klv_3]; omega) q2).1
      · rw [if_pos rfl, xb_0]
        exact ⟨0, u2, j2, R2, rfl, M2, by omega, l2', Or.inr ⟨rfl, y, AR_t ar (AR_t (AR_s hst) r2), s2⟩⟩
    · rw [if_neg c1, xb_1]
      refine ⟨1, u1, j, R, rfl, M1, l1, l2, Or.inl ⟨rfl, gl, d, P, r1, f', W, ar, hP3, eR, eW, dw, wl, fun z => absurd z (by decide), fun hj => ⟨(nx hj).1, fun q1 q2 => ?_⟩⟩⟩
      rw [klv_4] at q1
      by_cases e3 : alev (c j) = 3
      · exact absurd ⟨hj, e3⟩ c1
      · exact (nx hj).2 (by rw [klv_3]; omega) q2
  · rw [if_pos rfl, xb_0]
    exact ⟨0, u1, j, R, rfl, M1, l1, l2, Or.inr ⟨rfl, y, r1, s1⟩⟩
theorem parse12 (hp : PT u0 c n) : ∀ (F k lo : Nat), k ≤ 6 → lo ≤ n → 8 * (n - lo) + k < F → PP u0 many c n k (fr_parse F k) lo := by
  intro F
  induction F with
  | zero => intro k lo h1 h2 h3; omega
  | succ F ih =>
    intro k lo h1 h2 h3
    have up : ∀ k', k' ≤ 6 → 8 * (n - lo) + k' < F + 8 → PP u0 many c n k' (fr_parse F k') (lo + 1) := fun k' q1 q2 => by
      by_cases e : lo + 1 ≤ n
      · exact ih k' (lo + 1) q1 e (by omega)
      · intro i o f fs r u z1 z2
        omega
    match k, h1, h3 with
    | 0, _, h3 => exact p_thing hp (up 6 (by omega) (by omega))
    | 1, _, h3 => exact p_unary hp (up 1 (by omega) (by omega)) (ih 0 lo (by omega) h2 (by omega))
    | 2, _, h3 => exact p_product hp (ih 1 lo (by omega) h2 (by omega))
    | 3, _, h3 => exact p_total hp (ih 2 lo (by omega) h2 (by omega))
    | 4, _, h3 => exact p_compared hp (ih 3 lo (by omega) h2 (by omega))
    | 5, _, h3 => exact p_every hp (ih 4 lo (by omega) h2 (by omega))
    | 6, _, h3 => exact p_some hp (ih 5 lo (by omega) h2 (by omega))
theorem parse_some (hp : PT u0 c n) : PP u0 many c n 6 f_r_X12_some 0 := parse12 hp 600 6 0 (by omega) (by omega) (by have := hp.1; omega)
/-- what a whole text comes to -/
def TXT (many : Bool) (c : Nat → Nat) (n j : Nat) (R : List Int32) (b : Int32) : Prop := (b = 1 ∧ j = n ∧ ∃ d P r1 f', AR many c 0 (true, 0, [], [], [false]) n (false, d, P, r1, [f']) ∧ abr 1 P r1 = ([], R) ∧ R.length ≤ n ∧ (∀ rest, dep (R.reverse ++ rest) 0 = dep rest 1) ∧ (many = false → ¬ (-300) ∈ R)) ∨ (b = 0 ∧ ∃ y, AR many c 0 (true, 0, [], [], [false]) j y ∧ AS many c n j y)
theorem all_ok (hp : PT u0 c n) {mi : Int32} (hm : mi = if many = true then 1 else 0) {u : xS} (hM : RM u0 0 [] u) : ∃ b u' j R, f_X12_all (nI n) mi u = some (b, u') ∧ RM u0 j R u' ∧ j ≤ n ∧ TXT many c n j R b := by
  have hn := hp.1
  have loop : ∀ (m N i j : Nat) (u : xS) (r0 R : List Int32), n - j ≤ m → m + 1 < N → j ≤ n → RM u0 j R u → AR many c 0 (true, 0, [], [], [false]) i (true, 0, [], r0, [false]) → r0.length ≤ i → (∀ rest, dep (r0.reverse ++ rest) 0 = dep rest 0) → (many = false → ¬ (-300) ∈ r0) → GD many c n 6 6 i [] false [] r0 j R → ∃ b u' j' R', f_X12_all_6 N (nI n) mi 1 u = some (b, u') ∧ RM u0 j' R' u' ∧ j' ≤ n ∧ TXT many c n j' R' b := by
    intro m
    induction m with
    | zero =>
      intro N i j u r0 R h1 h2 h3 hM hA hl hd h300 g
      obtain ⟨N, rfl⟩ : ∃ M, N = M + 1 := ⟨N - 1, by omega⟩
      have gR := GD_len g hl
      obtain ⟨gl, d, P, r1, f', W, ar, hP, eR, eW, dw, wl, ff, nx⟩ := g
      have ej : j = n := by omega
      subst ej
      have e50 : f_X12_all_50 (nI j) 1 u = some (1, u) := by
        rw [f_X12_all_50, if_neg (by decide), hM.2.1, if_pos rfl]
      have e6 : f_X12_all_6 (N + 1) (nI j) mi 1 u = some (1, u) := by
        rw [f_X12_all_6, if_neg (by decide), e50]
        by_cases c0 : mi = 0
        · rw [if_pos c0]
        · rw [if_neg c0, show (59 : Int32) = nI 59 from rfl, isSg hp hM h3 (by omega), if_neg (fun z => absurd z.1 (by omega)), Option.bind_some, if_pos rfl]
      refine ⟨1, u, j, R, e6, hM, h3, Or.inl ⟨rfl, rfl, d, P, r1, f', ?_, ?_, gR, fun rest => ?_, fun hmf hmem => ?_⟩⟩
      · have := AR_t hA ar
        rw [List.append_nil] at this
        exact this
      · have := abr_P (l := 1) (o := []) (r := r1) hP (fun x t z => by cases z)
        rw [List.append_nil, eR] at this
        exact this
      · rw [eW, List.reverse_append, List.reverse_reverse, List.append_assoc, hd, dw.1]
      · rw [eW] at hmem
        rcases List.mem_append.mp hmem with hq | hq
        · exact dw.2 (List.mem_reverse.mp hq)
        · exact h300 hmf hq
    | succ m ih =>
      intro N i j u r0 R h1 h2 h3 hM hA hl hd h300 g
      obtain ⟨N, rfl⟩ : ∃ M, N = M + 1 := ⟨N - 1, by omega⟩
      have gR := GD_len g hl
      have g0 := g
      obtain ⟨gl, d, P, r1, f', W, ar, hP, eR, eW, dw, wl, ff, nx⟩ := g
      have hab : abr 1 P r1 = ([], R) := by
        have := abr_P (l := 1) (o := []) (r := r1) hP (fun x t z => by cases z)
        rw [List.append_nil, eR] at this
        exact this
      rw [List.append_nil] at ar
      have hdep : ∀ rest, dep (R.reverse ++ rest) 0 = dep rest 1 := fun rest => by
        rw [eW, List.reverse_append, List.reverse_reverse, List.append_assoc, hd, dw.1]
      have hno : many = false → ¬ (-300) ∈ R := fun hmf hmem => by
        rw [eW] at hmem
        rcases List.mem_append.mp hmem with hq | hq
        · exact dw.2 (List.mem_reverse.mp hq)
        · exact h300 hmf hq
      by_cases c1 : many = true ∧ j < n ∧ c j = 59
      · obtain ⟨hmt, hj, h59⟩ := c1
        have emi : mi = 1 := by rw [hm, if_pos hmt]
        have hst : astep many (c j) (false, d, P, r1, [f']) = some (true, 0, [], -300 :: R, [false]) := by
          show aOn many (c j) d P r1 [f'] = _
          rw [aOn, if_neg (by omega), if_neg (by omega), if_pos h59, aPar, if_pos hmt, hab]
        obtain ⟨u1, m1, m2⟩ := marks_ok hp (m := -300) (at_ok hM) (by omega)
        obtain ⟨b, u2, j2, R2, e, M2, l1, l2, hh⟩ := parse_some (many := many) hp (j + 1) [] false [] (-300 :: R) u1 (by omega) (by omega) (fun _ x t z => by cases z) (fun _ => rfl) (fun z => absurd z (by decide)) (by rw [List.length_cons]; omega) m2
        have op : f_X12_all_6 (N + 1) (nI n) mi 1 u = f_X12_all_6 N (nI n) mi b u2 := by
          rw [f_X12_all_6, if_neg (by decide), emi, if_neg (by decide), show (59 : Int32) = nI 59 from rfl, isSg hp hM h3 (by omega), if_pos ⟨hj, h59⟩, Option.bind_some, if_neg (by decide), m1, Option.bind_some, e, Option.bind_some]
        rw [op]
        rcases hh with ⟨rfl, g⟩ | ⟨rfl, y, r2, s2⟩
        · exact ih N (j + 1) j2 u2 (-300 :: R) R2 (by omega) (by omega) l2 M2 (AR_t hA (AR_t ar (AR_s hst))) (by rw [List.length_cons]; omega) (fun rest => by
            rw [List.reverse_cons, List.append_assoc, hdep]
            show dep (-300 :: rest) 1 = _
            rw [dep, if_neg (by decide), if_neg (by decide), if_neg (by decide), if_pos rfl, if_pos rfl]) (fun hmf => by rw [hmt] at hmf; cases hmf) g
        · obtain ⟨N, rfl⟩ : ∃ M, N = M + 1 := ⟨N - 1, by omega⟩
          refine ⟨0, u2, j2, R2, ?_, M2, l2, Or.inr ⟨rfl, y, AR_t hA (AR_t ar (AR_t (AR_s hst) r2)), s2⟩⟩
          rw [f_X12_all_6, if_pos rfl, f_X12_all_50, if_pos rfl]
      · have op : f_X12_all_6 (N + 1) (nI n) mi 1 u = f_X12_all_50 (nI n) 1 u := by
          rw [f_X12_all_6, if_neg (by decide)]
          by_cases c0 : mi = 0
          · rw [if_pos c0]
          · have hmt : many = true := by
              by_cases q : many = true
              · exact q
              · rw [if_neg q] at hm
                exact absurd hm c0
            rw [if_neg c0, show (59 : Int32) = nI 59 from rfl, isSg hp hM h3 (by omega), if_neg (fun z => c1 ⟨hmt, z⟩), Option.bind_some, if_pos rfl]
        rw [op, f_X12_all_50, if_neg (by decide), hM.2.1]
        by_cases ej : j = n
        · subst ej
          rw [if_pos rfl]
          exact ⟨1, u, j, R, rfl, hM, h3, Or.inl ⟨rfl, rfl, d, P, r1, f', AR_t hA ar, hab, gR, hdep, hno⟩⟩
        · rw [if_neg (fun z => ej ((nI_eq (by omega) (by omega)).mp z))]
          refine ⟨0, u, j, R, rfl, hM, h3, Or.inr ⟨rfl, _, AR_t hA ar, Or.inr ⟨by omega, ?_⟩⟩⟩
          exact on_none (many := many) (by omega) nx (fun _ => rfl) (fun z => by
            cases hq : many with
            | false => exact Or.inl rfl
            | true => exact absurd ⟨hq, by omega, z⟩ c1)
  obtain ⟨b, u1, j, R, e, M1, l1, l2, hh⟩ := parse_some (many := many) hp 0 [] false [] [] u (Nat.le_refl _) (Nat.zero_le _) (fun _ x t z => by cases z) (fun _ => rfl) (fun z => absurd z (by decide)) (Nat.le_refl _) hM
  rw [f_X12_all, e, Option.bind_some]
  dsimp only
  rcases hh with ⟨rfl, g⟩ | ⟨rfl, y, r2, s2⟩
  · exact loop n xN 0 j u1 [] R (by omega) (xN_lt (by omega)) l2 M1 (AR_r _ _) (Nat.le_refl _) (fun rest => rfl) (fun _ z => by cases z) g
  · refine ⟨0, u1, j, R, ?_, M1, l2, Or.inr ⟨rfl, y, r2, s2⟩⟩
    rw [show xN = 999999 + 1 from rfl, f_X12_all_6, if_pos rfl, f_X12_all_50, if_pos rfl]
end TOP
