/-! TEXT: the reference's tests and marks -/
section PARSE
variable {u0 : xS} {many : Bool} {c : Nat → Nat} {n : Nat}
def PT (u0 : xS) (c : Nat → Nat) (n : Nat) : Prop := n ≤ 60 ∧ rd u0 135 34 = nI 11 ∧ ∀ i, i < n → rd u0 159 i = nI (c i) ∧ c i < 256
def RM (u0 : xS) (j : Nat) (R : List Int32) (u : xS) : Prop := (∀ a i, ¬ (a = 135 ∧ i = 33) → ¬ (a = 155 ∧ 704 ≤ i) → ¬ (a = 156 ∧ i = 11) → rd u a i = rd u0 a i) ∧ rd u 135 33 = nI j ∧ rd u 156 11 = nI R.length ∧ sk u 155 704 R
theorem RM_159 {j : Nat} {R : List Int32} {u : xS} (h : RM u0 j R u) (i : Nat) : rd u 159 i = rd u0 159 i := h.1 159 i (by omega) (by omega) (by omega)
theorem at_ok {j : Nat} {R : List Int32} {u : xS} (h : RM u0 j R u) : RM u0 (j + 1) R (wr u 135 33 (rd u 135 33 + 1)) := by
  obtain ⟨h1, h2, h3, h4⟩ := h
  refine ⟨fun a i q1 q2 q3 => (rd_wr_ne q1).trans (h1 a i q1 q2 q3), ?_, (rd_wr_ne (by omega)).trans h3, sk_ne h4 (by decide)⟩
  rw [rd_wr, if_pos rfl, if_pos rfl, h2, nI_1]
theorem marks_ok (hp : PT u0 c n) {j : Nat} {R : List Int32} {u : xS} {m : Int32} (h : RM u0 j R u) (hR : R.length < 64) : ∃ u', f_X12_marks m u = some u' ∧ RM u0 j (m :: R) u' := by
  obtain ⟨h1, h2, h3, h4⟩ := h
  have e34 : rd u 135 34 = nI 11 := (h1 135 34 (by omega) (by omega) (by omega)).trans hp.2.1
  refine ⟨wr (wr u 155 (704 + R.length) m) 156 11 (nI (R.length + 1)), ?_, fun a i q1 q2 q3 => ?_, (rd_wr_ne (by omega)).trans ((rd_wr_ne (by omega)).trans h2), ?_, sk_ne (sk_push h4) (by decide)⟩
  · rw [f_X12_marks, e34, gd_nI (by omega) (by omega), nI_cl (by omega), h3, show (64 : Int32) * nI 11 = nI 704 from rfl, nI_add, gd_nI (by omega) (by omega), nI_cl (by omega), nI_1]
  · rw [rd_wr_ne q3, rd_wr_ne (by omega)]
    exact h1 a i q1 q2 q3
  · rw [rd_wr, if_pos rfl, if_pos rfl, List.length_cons]
theorem isSg (hp : PT u0 c n) {j x : Nat} {R : List Int32} {u : xS} (h : RM u0 j R u) (hj : j ≤ n) (hx : x < 256) : f_X12_isSign u (nI n) (nI x) = some (if j < n ∧ c j = x then 1 else 0) := by
  have hn := hp.1
  rw [f_X12_isSign, h.2.1]
  by_cases hjn : j < n
  · obtain ⟨e1, e2⟩ := hp.2.2 j hjn
    rw [if_neg (nI_ge hjn (by omega)), gd_nI (by omega) (by omega), nI_cl (by omega), RM_159 h, e1]
    by_cases k : c j = x
    · rw [if_pos (by rw [k]), if_pos ⟨hjn, k⟩]
    · rw [if_neg (fun z => k ((nI_eq (by omega) (by omega)).mp z)), if_neg (fun z => k z.2)]
  · rw [if_pos (nI_le (by omega) (by omega)), if_neg (fun z => hjn z.1)]
theorem isOf_0 (hp : PT u0 c n) {j : Nat} {R : List Int32} {u : xS} (h : RM u0 j R u) (hj : j ≤ n) : f_X12_isOf_t0 u (nI n) = some (if j < n ∧ isL (c j) = true then 1 else 0) := by
  have hn := hp.1
  rw [f_X12_isOf_t0, h.2.1]
  by_cases hjn : j < n
  · obtain ⟨e1, e2⟩ := hp.2.2 j hjn
    rw [if_neg (nI_ge hjn (by omega)), gd_nI (by omega) (by omega), nI_cl (by omega), RM_159 h, e1]
    by_cases c0 : c j = 0
    · rw [c0, if_pos (by decide), if_neg (fun z => absurd z.2 (by decide))]
    · rw [if_neg (nI_nle (by omega) (by omega)), tb_0 _ e2, Option.bind_some]
      by_cases k : isL (c j) = true
      · have := tb_ix _ e2 k
        rw [if_pos k, if_neg (nI_pos (by omega)), if_pos ⟨hjn, k⟩]
      · rw [if_neg k, if_pos (by decide), if_neg (fun z => k z.2)]
  · rw [if_pos (nI_le (by omega) (by omega)), if_neg (fun z => hjn z.1)]
theorem mp_neg {f : Option Int32} {b : Bool} (h : f.map (fun x => decide (x < 0)) = some b) : ∃ x, f = some x ∧ (x < 0 ↔ b = true) := by
  cases f with
  | none => cases h
  | some x =>
    have e : decide (x < 0) = b := Option.some.inj h
    exact ⟨x, rfl, by rw [← e]; exact decide_eq_true_iff.symm⟩
theorem isOf_1 (hp : PT u0 c n) {j : Nat} {R : List Int32} {u : xS} (h : RM u0 j R u) (hj : j ≤ n) : f_X12_isOf_t1 u (nI n) = some (if j < n ∧ (48 ≤ c j ∧ c j ≤ 57) then 1 else 0) := by
  have hn := hp.1
  rw [f_X12_isOf_t1, h.2.1]
  by_cases hjn : j < n
  · obtain ⟨e1, e2⟩ := hp.2.2 j hjn
    rw [if_neg (nI_ge hjn (by omega)), gd_nI (by omega) (by omega), nI_cl (by omega), RM_159 h, e1]
    by_cases c0 : c j = 0
    · rw [c0, if_pos (by decide), if_neg (fun z => absurd z.2 (by decide))]
    · obtain ⟨x, q1, q2⟩ := mp_neg ((tb_1 _ e2).resolve_right c0)
      rw [if_neg (nI_nle (by omega) (by omega)), q1, Option.bind_some]
      by_cases k : (48 ≤ c j ∧ c j ≤ 57)
      · rw [if_neg (fun z => of_decide_eq_true (q2.mp z) k), if_pos ⟨hjn, k⟩]
      · rw [if_pos (q2.mpr (decide_eq_true k)), if_neg (fun z => k z.2)]
  · rw [if_pos (nI_le (by omega) (by omega)), if_neg (fun z => hjn z.1)]
theorem isOf_2 (hp : PT u0 c n) {j : Nat} {R : List Int32} {u : xS} (h : RM u0 j R u) (hj : j ≤ n) : f_X12_isOf_t2 u (nI n) = some (if j < n ∧ (c j = 33 ∨ c j = 45) then 1 else 0) := by
  have hn := hp.1
  rw [f_X12_isOf_t2, h.2.1]
  by_cases hjn : j < n
  · obtain ⟨e1, e2⟩ := hp.2.2 j hjn
    rw [if_neg (nI_ge hjn (by omega)), gd_nI (by omega) (by omega), nI_cl (by omega), RM_159 h, e1]
    by_cases c0 : c j = 0
    · rw [c0, if_pos (by decide), if_neg (fun z => absurd z.2 (by decide))]
    · obtain ⟨x, q1, q2⟩ := mp_neg ((tb_2 _ e2).resolve_right c0)
      rw [if_neg (nI_nle (by omega) (by omega)), q1, Option.bind_some]
      by_cases k : (c j = 33 ∨ c j = 45)
      · rw [if_neg (fun z => of_decide_eq_true (q2.mp z) k), if_pos ⟨hjn, k⟩]
      · rw [if_pos (q2.mpr (decide_eq_true k)), if_neg (fun z => k z.2)]
  · rw [if_pos (nI_le (by omega) (by omega)), if_neg (fun z => hjn z.1)]
theorem isOf_3 (hp : PT u0 c n) {j : Nat} {R : List Int32} {u : xS} (h : RM u0 j R u) (hj : j ≤ n) : f_X12_isOf_t3 u (nI n) = some (if j < n ∧ alev (c j) = 5 then 1 else 0) := by
  have hn := hp.1
  rw [f_X12_isOf_t3, h.2.1]
  by_cases hjn : j < n
  · obtain ⟨e1, e2⟩ := hp.2.2 j hjn
    rw [if_neg (nI_ge hjn (by omega)), gd_nI (by omega) (by omega), nI_cl (by omega), RM_159 h, e1]
    by_cases c0 : c j = 0
    · rw [c0, if_pos (by decide), if_neg (fun z => absurd z.2 (by decide))]
    · obtain ⟨x, q1, q2⟩ := mp_neg ((tb_3 _ e2).resolve_right c0)
      rw [if_neg (nI_nle (by omega) (by omega)), q1, Option.bind_some]
      by_cases k : alev (c j) = 5
      · rw [if_neg (fun z => of_decide_eq_true (q2.mp z) k), if_pos ⟨hjn, k⟩]
      · rw [if_pos (q2.mpr (decide_eq_true k)), if_neg (fun z => k z.2)]
  · rw [if_pos (nI_le (by omega) (by omega)), if_neg (fun z => hjn z.1)]
theorem isOf_4 (hp : PT u0 c n) {j : Nat} {R : List Int32} {u : xS} (h : RM u0 j R u) (hj : j ≤ n) : f_X12_isOf_t4 u (nI n) = some (if j < n ∧ alev (c j) = 4 then 1 else 0) := by
  have hn := hp.1
  rw [f_X12_isOf_t4, h.2.1]
  by_cases hjn : j < n
  · obtain ⟨e1, e2⟩ := hp.2.2 j hjn
    rw [if_neg (nI_ge hjn (by omega)), gd_nI (by omega) (by omega), nI_cl (by omega), RM_159 h, e1]
    by_cases c0 : c j = 0
    · rw [c0, if_pos (by decide), if_neg (fun z => absurd z.2 (by decide))]
    · obtain ⟨x, q1, q2⟩ := mp_neg ((tb_4 _ e2).resolve_right c0)
      rw [if_neg (nI_nle (by omega) (by omega)), q1, Option.bind_some]
      by_cases k : alev (c j) = 4
      · rw [if_neg (fun z => of_decide_eq_true (q2.mp z) k), if_pos ⟨hjn, k⟩]
      · rw [if_pos (q2.mpr (decide_eq_true k)), if_neg (fun z => k z.2)]
  · rw [if_pos (nI_le (by omega) (by omega)), if_neg (fun z => hjn z.1)]
theorem isOf_5 (hp : PT u0 c n) {j : Nat} {R : List Int32} {u : xS} (h : RM u0 j R u) (hj : j ≤ n) : f_X12_isOf_t5 u (nI n) = some (if j < n ∧ alev (c j) = 3 then 1 else 0) := by
  have hn := hp.1
  rw [f_X12_isOf_t5, h.2.1]
  by_cases hjn : j < n
  · obtain ⟨e1, e2⟩ := hp.2.2 j hjn
    rw [if_neg (nI_ge hjn (by omega)), gd_nI (by omega) (by omega), nI_cl (by omega), RM_159 h, e1]
    by_cases c0 : c j = 0
    · rw [c0, if_pos (by decide), if_neg (fun z => absurd z.2 (by decide))]
    · obtain ⟨x, q1, q2⟩ := mp_neg ((tb_5 _ e2).resolve_right c0)
      rw [if_neg (nI_nle (by omega) (by omega)), q1, Option.bind_some]
      by_cases k : alev (c j) = 3
      · rw [if_neg (fun z => of_decide_eq_true (q2.mp z) k), if_pos ⟨hjn, k⟩]
      · rw [if_pos (q2.mpr (decide_eq_true k)), if_neg (fun z => k z.2)]
  · rw [if_pos (nI_le (by omega) (by omega)), if_neg (fun z => hjn z.1)]
/-! what a method of the parser comes to -/
def OUT (u0 : xS) (many : Bool) (c : Nat → Nat) (n k i : Nat) (o : List Nat) (f : Bool) (fs : List Bool) (r : List Int32) (res : Option (Int32 × xS)) : Prop := ∃ b u' j R, res = some (b, u') ∧ RM u0 j R u' ∧ i ≤ j ∧ j ≤ n ∧ ((b = 1 ∧ GD many c n k k i o f fs r j R) ∨ (b = 0 ∧ ∃ y, AR many c i (true, 0, o, r, f :: fs) j y ∧ AS many c n j y))
def PP (u0 : xS) (many : Bool) (c : Nat → Nat) (n k : Nat) (S : Int32 → xS → Option (Int32 × xS)) (lo : Nat) : Prop := ∀ i o f fs r u, lo ≤ i → i ≤ n → (2 ≤ k → aLo (klv k) o) → (4 ≤ k → f = false) → (k = 0 → i < n → ¬ c i = 33 ∧ ¬ c i = 45) → r.length ≤ i → RM u0 i r u → OUT u0 many c n k i o f fs r (S (nI n) u)
theorem GD_len {k kn i j : Nat} {o : List Nat} {f : Bool} {fs : List Bool} {r R : List Int32} (h : GD many c n k kn i o f fs r j R) (hr : r.length ≤ i) : R.length ≤ j := by
  obtain ⟨h1, d, P, r1, f', W, -, -, -, h5, -, h7, -, -⟩ := h
  rw [h5, List.length_append, List.length_reverse]
  omega
theorem xb_1 {α : Type} {o : Option α} : gd (xb (1 : Int32)) o = o := by
  have e : xb (1 : Int32) = true := by decide
  rw [e, gd_t]
theorem xb_0 {α : Type} {o : Option α} : gd (xb (0 : Int32)) o = o := by
  have e : xb (0 : Int32) = true := by decide
  rw [e, gd_t]
theorem on_none {j d : Nat} {o : List Nat} {r : List Int32} {f : Bool} {fs : List Bool} (hjn : j < n) (nx : NX c n 6 j d f) (h41 : c j = 41 → fs = []) (h59 : c j = 59 → many = false ∨ ¬ fs = []) : aOn many (c j) d o r (f :: fs) = none := by
  obtain ⟨n1, n2⟩ := nx hjn
  unfold aOn
  by_cases c1 : 48 ≤ c j ∧ c j ≤ 57
  · rw [if_pos c1]
    cases r with
    | nil => rfl
    | cons v r => rw [aDig, if_pos (n1 c1.1 c1.2)]
  · rw [if_neg c1]
    by_cases c2 : c j = 41
    · rw [if_pos c2, h41 c2]
      rfl
    · rw [if_neg c2]
      by_cases c3 : c j = 59
      · rw [if_pos c3]
        cases fs with
        | nil =>
          rcases h59 c3 with e | e
          · rw [e]; rfl
          · exact absurd rfl e
        | cons g gs => rfl
      · rw [if_neg c3]
        by_cases c4 : 1 ≤ alev (c j) ∧ alev (c j) ≤ 5
        · obtain ⟨q1, q2⟩ := n2 c4.1 c4.2
          rw [if_pos c4, aJoi, if_pos ⟨q1, q2⟩]
        · rw [if_neg c4]
theorem dig_loop (hp : PT u0 c n) {S : Int32 → xS → Option (Int32 × xS)} {i : Nat} {o : List Nat} {f : Bool} {fs : List Bool} {r : List Int32} (hr : r.length ≤ i) : ∀ (t m N k : Nat) (u : xS), m + t = 4 → t < N → 1 ≤ m → k < 10 ^ m → i + m ≤ n → RM u0 (i + m) r u → AR many c i (true, 0, o, r, f :: fs) (i + m) (false, m, o, nI k :: r, f :: fs) → OUT u0 many c n 0 i o f fs r (f_X12_thing_59 S N (nI n) (nI k) (nI m) u) := by
  have hn := hp.1
  have fin : ∀ (m k : Nat) (u : xS), 1 ≤ m → m ≤ 4 → k < 10 ^ m → i + m ≤ n → RM u0 (i + m) r u → AR many c i (true, 0, o, r, f :: fs) (i + m) (false, m, o, nI k :: r, f :: fs) → (i + m < n → 48 ≤ c (i + m) → c (i + m) ≤ 57 → m = 4) → OUT u0 many c n 0 i o f fs r (f_X12_thing_109 S (nI k) u) := fun m k u h1 h2 h3 h4 hM hA hx => by
    have h10 : 10 ^ m ≤ 10 ^ 4 := Nat.pow_le_pow_right (by omega) h2
    obtain ⟨u', m1, m2⟩ := marks_ok hp (m := nI k) hM (by omega)
    refine ⟨1, u', i + m, nI k :: r, ?_, m2, by omega, h4, Or.inl ⟨rfl, by omega, m, [], nI k :: r, f, [nI k], hA, fun x hx => (by cases hx), rfl, rfl, DW_one (Int32.le_trans (by decide) (nI_lo (by omega))), ?_, fun _ => rfl, fun hj => ⟨fun q1 q2 => ?_, fun q1 q2 => ?_⟩⟩⟩
    · rw [f_X12_thing_109, m1, Option.bind_some]
    · show 1 + i ≤ i + m
      omega
    · have := hx hj q1 q2
      omega
    · rw [klv_0] at q1
      omega
  intro t
  induction t with
  | zero =>
    intro m N k u h1 h2 h3 h4 h5 h6 h7
    obtain ⟨N, rfl⟩ : ∃ M, N = M + 1 := ⟨N - 1, by omega⟩
    have em : m = 4 := by omega
    subst em
    rw [f_X12_thing_59, if_pos (show (4 : Int32) ≤ nI 4 from Int32.le_refl _)]
    exact fin 4 k u (by omega) (by omega) h4 h5 h6 h7 fun _ _ _ => rfl
  | succ t ih =>
    intro m N k u h1 h2 h3 h4 h5 h6 h7
    obtain ⟨N, rfl⟩ : ∃ M, N = M + 1 := ⟨N - 1, by omega⟩
    have h10 : 10 ^ m ≤ 10 ^ 3 := Nat.pow_le_pow_right (by omega) (by omega)
    rw [f_X12_thing_59, if_neg (show ¬ (4 : Int32) ≤ nI m from nI_ge (b := 4) (by omega) (by omega)), isOf_1 hp h6 h5, Option.bind_some, ite_10]
    by_cases c2 : i + m < n ∧ (48 ≤ c (i + m) ∧ c (i + m) ≤ 57)
    · obtain ⟨e1, e2⟩ := hp.2.2 (i + m) c2.1
      rw [if_pos c2, h6.2.1, gd_nI (by omega) (by omega), nI_cl (by omega), RM_159 h6, e1, show (10 : Int32) = nI 10 from rfl, pk_mul, nI_add, show (48 : Int32) = nI 48 from rfl, nI_sub (by omega), nI_1, ← h6.2.1]
      have ek : 10 * k + c (i + m) - 48 = k * 10 + (c (i + m) - 48) := by omega
      have hst : astep many (c (i + m)) (false, m, o, nI k :: r, f :: fs) = some (false, m + 1, o, nI (10 * k + c (i + m) - 48) :: r, f :: fs) := by
        show aOn many (c (i + m)) m o (nI k :: r) (f :: fs) = _
        rw [aOn, if_pos c2.2, aDig, if_neg (by omega), show (10 : Int32) = nI 10 from rfl, pk_mul, nI_add, ek]
      have hat := at_ok h6
      rw [← Nat.add_assoc] at *
      exact ih (m + 1) N _ _ (by omega) (by omega) (by omega) (by rw [Nat.pow_succ]; omega) (by omega) hat (AR_t h7 (AR_s hst))
    · rw [if_neg c2]
      exact fin m k u h3 (by omega) h4 h5 h6 h7 fun q1 q2 q3 => absurd ⟨q1, q2, q3⟩ c2
end PARSE
