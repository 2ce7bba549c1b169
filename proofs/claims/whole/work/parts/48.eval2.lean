/-! WHAT A TEXT COMES TO, the other way -/
theorem dep_app : ∀ (A B : List Int32) (d : Nat), dep (A ++ B) d = (dep A d).bind (dep B) := by
  intro A
  induction A with
  | nil => intro B d; rfl
  | cons m A ih =>
    intro B d
    rw [List.cons_append, dep.eq_def, dep.eq_def (m :: A)]
    dsimp only
    by_cases c1 : -16 ≤ m
    · rw [if_pos c1, if_pos c1]; exact ih _ _
    · rw [if_neg c1, if_neg c1]
      by_cases c2 : is1 m = true
      · rw [if_pos c2, if_pos c2]
        by_cases q : 1 ≤ d
        · rw [if_pos q, if_pos q]; exact ih _ _
        · rw [if_neg q, if_neg q]; rfl
      · rw [if_neg c2, if_neg c2]
        by_cases c3 : is2 m = true
        · rw [if_pos c3, if_pos c3]
          by_cases q : 2 ≤ d
          · rw [if_pos q, if_pos q]; exact ih _ _
          · rw [if_neg q, if_neg q]; rfl
        · rw [if_neg c3, if_neg c3]
          by_cases c4 : m = -300
          · rw [if_pos c4, if_pos c4]
            by_cases q : d = 1
            · rw [if_pos q, if_pos q]; exact ih _ _
            · rw [if_neg q, if_neg q]; rfl
          · rw [if_neg c4, if_neg c4]; rfl
theorem nI_am1 {n : Nat} (h : 1 ≤ n) : nI n + -1 = nI (n - 1) := by
  rw [← nI_sub h, Int32.sub_eq_add_neg]
  rfl
theorem evA_len {sd : Nat → Int32} : ∀ (A : List Int32) (st : List Int32) (d : Nat), ¬ (-300) ∈ A → dep A st.length = some d → (evA sd A st).length = d := by
  intro A
  induction A with
  | nil => intro st d _ h; cases h; rfl
  | cons m A ih =>
    intro st d hn h
    rw [evA_c]
    have hm : ¬ m = -300 := fun z => hn (by rw [z]; exact List.mem_cons_self)
    refine ih _ _ (fun z => hn (List.mem_cons_of_mem _ z)) ?_
    rw [dep.eq_def] at h
    dsimp only at h
    unfold ev1
    by_cases c0 : 0 ≤ m
    · rw [if_pos (Int32.le_trans (by decide) c0)] at h
      rw [if_pos c0]; exact h
    · rw [if_neg c0]
      by_cases c1 : -16 ≤ m
      · rw [if_pos c1] at h ⊢; exact h
      · rw [if_neg c1] at h ⊢
        by_cases c2 : is1 m = true
        · rw [if_pos c2] at h
          match st, h with
          | [], h => exact absurd h (by simp)
          | x :: s, h =>
            rw [if_pos (by simp)] at h
            by_cases e : m = -167
            · rw [if_pos e]; exact h
            · rw [if_neg e, if_pos]
              · exact h
              · unfold is1 at c2
                simp only [Bool.or_eq_true, beq_iff_eq] at c2
                exact c2.resolve_left e
        · rw [if_neg c2] at h
          have n1 : ¬ m = -167 := fun z => c2 (by rw [z]; decide)
          have n2 : ¬ m = -74 := fun z => c2 (by rw [z]; decide)
          rw [if_neg n1, if_neg n2]
          by_cases c3 : is2 m = true
          · rw [if_pos c3] at h
            match st, h with
            | [], h => exact absurd h (by simp)
            | [x], h => exact absurd h (by simp)
            | b :: a :: s, h =>
              rw [if_pos (by simp)] at h
              exact h
          · rw [if_neg c3, if_neg hm] at h
            cases h
def fr157 (u u' : xS) : Prop := ∀ c j, ¬ c = 157 → rd u' c j = rd u c j
theorem fr157_w {u u' : xS} {j : Nat} {v : Int32} (h : fr157 u u') : fr157 u (wr u' 157 j v) := fun c i h3 => (rd_wr_ne (fun z => h3 z.1)).trans (h c i h3)
theorem step12 {sd : Nat → Int32} {m : Int32} {st : List Int32} {A : List Int32} {d E i N : Nat} {u : xS} (hs : SL12 u sd) (h : sk u 157 0 st) (hl : st.length < 64) (hm : ¬ m = -300) (hd : dep (m :: A) st.length = some d) (hE : i < E) (hE2 : E ≤ 768) (hr : rd u 155 i = m) : ∃ u', f_X12_worked_5 (N + 1) (nI E) (nI st.length) (nI i) u = f_X12_worked_5 N (nI E) (nI (ev1 sd m st).length) (nI (i + 1)) u' ∧ sk u' 157 0 (ev1 sd m st) ∧ fr157 u u' ∧ dep A (ev1 sd m st).length = some d ∧ (ev1 sd m st).length ≤ st.length + 1 := by
  have op : ∀ k : Int32 → Int32 → Int32 → xS → Option (Int32 × xS), k = f_X12_worked_5 N → f_X12_worked_5 (N + 1) (nI E) (nI st.length) (nI i) u = if m < 0 then (if m < -16 then (if m = f_X12_act 33 then gd (xin (nI st.length - 1) 64) (if rd u 157 (nI st.length - 1).toNatClampNeg = 0 then f_X12_worked_113 k (nI E) (nI st.length) (nI i) (nI st.length - 1) 1 u else f_X12_worked_113 k (nI E) (nI st.length) (nI i) (nI st.length - 1) 0 u) else if m = f_X12_act 126 then gd (xin (nI st.length - 1) 64) (f_X12_worked_184 k (nI E) (nI st.length) (nI i) (wr u 157 (nI st.length - 1).toNatClampNeg (-(rd u 157 (nI st.length - 1).toNatClampNeg)))) else gd (xin ((nI st.length + -1) - 1) 64) (gd (xin (nI st.length + -1) 64) ((f_X12_acted (m + 200) (rd u 157 ((nI st.length + -1) - 1).toNatClampNeg) (rd u 157 (nI st.length + -1).toNatClampNeg)).bind fun x11 => f_X12_worked_184 k (nI E) (nI st.length + -1) (nI i) (wr u 157 ((nI st.length + -1) - 1).toNatClampNeg x11)))) else gd (xin (-1 - m) 16) (gd (xin (nI st.length) 64) (f_X12_worked_184 k (nI E) (nI st.length + 1) (nI i) (wr u 157 (nI st.length).toNatClampNeg (rd u 158 (-1 - m).toNatClampNeg))))) else gd (xin (nI st.length) 64) (f_X12_worked_184 k (nI E) (nI st.length + 1) (nI i) (wr u 157 (nI st.length).toNatClampNeg m)) := by
    intro k hk
    rw [hk, f_X12_worked_5, ite_nle hE (by omega), gd_nI (by omega) (by omega), nI_cl (by omega), hr, if_neg hm]
  rw [op _ rfl]
  clear op
  unfold dep at hd
  have pp : ∀ x : Int32, sk (wr u 157 st.length x) 157 0 (x :: st) := fun x => by
    have := sk_push (x := x) h
    rwa [Nat.zero_add] at this
  by_cases c0 : 0 ≤ m
  · have c1 : -16 ≤ m := Int32.le_trans (by decide) c0
    rw [if_pos c1] at hd
    have e1 : ev1 sd m st = m :: st := by unfold ev1; rw [if_pos c0]
    rw [e1]
    refine ⟨wr u 157 st.length m, ?_, pp m, fr157_w (fun _ _ _ => rfl), hd, Nat.le_refl _⟩
    rw [if_neg (Int32.not_lt.mpr c0), gd_nI hl (by omega), nI_cl (by omega)]
    unfold f_X12_worked_184
    rw [nI_1, nI_1]
    rfl
  · rw [if_pos (Int32.not_le.mp c0)]
    by_cases c1 : -16 ≤ m
    · rw [if_pos c1] at hd
      obtain ⟨j, hj, ej⟩ := let_ix (Int32.not_le.mp c0) (Int32.not_lt.mpr c1)
      have e0 : nv (-1 - m) = j := by rw [ej, nv_nI (by omega)]
      have e1 : ev1 sd m st = sd j :: st := by unfold ev1; rw [if_neg c0, if_pos c1, e0]
      rw [e1]
      refine ⟨wr u 157 st.length (sd j), ?_, pp _, fr157_w (fun _ _ _ => rfl), hd, Nat.le_refl _⟩
      rw [if_neg (Int32.not_lt.mpr c1), ej, gd_nI hj (by omega), gd_nI hl (by omega), nI_cl (by omega), nI_cl (by omega), hs j hj]
      unfold f_X12_worked_184
      rw [nI_1, nI_1]
      rfl
    · rw [if_neg c1] at hd
      rw [if_pos (Int32.not_le.mp c1)]
      by_cases c2 : is1 m = true
      · rw [if_pos c2] at hd
        have hst : 1 ≤ st.length := by
          by_cases q : 1 ≤ st.length
          · exact q
          · rw [if_neg q] at hd
            cases hd
        rw [if_pos hst] at hd
        match st, h, hl, hst, hd with
        | x :: s, h, hl, _, hd =>
        have hl2 : s.length < 64 := by simp only [List.length_cons] at hl; omega
        have en : nI (x :: s).length - 1 = nI s.length := nI_sub (b := 1) (by simp)
        have ex : rd u 157 s.length = x := by
          have := h.1
          rwa [Nat.zero_add] at this
        have pq : ∀ y : Int32, sk (wr u 157 s.length y) 157 0 (y :: s) := fun y => by
          have := sk_push (x := y) h.2
          rwa [Nat.zero_add] at this
        rw [en, gd_nI hl2 (by omega), gd_nI hl2 (by omega), nI_cl (by omega), ex]
        unfold is1 at c2
        simp only [Bool.or_eq_true, beq_iff_eq] at c2
        rcases c2 with c2 | c2
        · subst c2
          have e1 : ev1 sd (-167) (x :: s) = (if x = 0 then 1 else 0) :: s := by unfold ev1; rw [if_neg (by decide), if_neg (by decide), if_pos rfl]
          rw [e1]
          refine ⟨wr u 157 s.length (if x = 0 then 1 else 0), ?_, pq _, fr157_w (fun _ _ _ => rfl), hd, by simp only [List.length_cons]; omega⟩
          rw [if_pos (by decide)]
          have t0 : f_X12_truth 0 = 0 := rfl
          have t1 : f_X12_truth 1 = 1 := rfl
          unfold f_X12_worked_113 f_X12_worked_184
          rw [gd_nI hl2 (by omega), gd_nI hl2 (by omega), nI_cl (by omega), nI_1, t0, t1]
          by_cases q : x = 0
          · rw [if_pos q, if_pos q]; rfl
          · rw [if_neg q, if_neg q]; rfl
        · subst c2
          have e1 : ev1 sd (-74) (x :: s) = (-x) :: s := by unfold ev1; rw [if_neg (by decide), if_neg (by decide), if_neg (by decide), if_pos rfl]
          rw [e1]
          refine ⟨wr u 157 s.length (-x), ?_, pq _, fr157_w (fun _ _ _ => rfl), hd, by simp only [List.length_cons]; omega⟩
          rw [if_neg (by decide), if_pos (by decide)]
          unfold f_X12_worked_184
          rw [nI_1]
          rfl
      · rw [if_neg c2] at hd
        by_cases c3 : is2 m = true
        · rw [if_pos c3] at hd
          have hst : 2 ≤ st.length := by
            by_cases q : 2 ≤ st.length
            · exact q
            · rw [if_neg q] at hd
              cases hd
          rw [if_pos hst] at hd
          match st, h, hl, hst, hd with
          | b :: a :: s, h, hl, _, hd =>
          have hl2 : s.length + 1 < 64 := by simp only [List.length_cons] at hl; omega
          have en : nI (b :: a :: s).length + -1 = nI (s.length + 1) := nI_am1 (by simp)
          have en2 : nI (s.length + 1) - 1 = nI s.length := nI_sub (b := 1) (by omega)
          have eb : rd u 157 (s.length + 1) = b := by
            have := h.1
            rwa [Nat.zero_add] at this
          have ea : rd u 157 s.length = a := by
            have := h.2.1
            rwa [Nat.zero_add] at this
          have pq : ∀ y : Int32, sk (wr u 157 s.length y) 157 0 (y :: s) := fun y => by
            have := sk_push (x := y) h.2.2
            rwa [Nat.zero_add] at this
          obtain ⟨-, o1, o2, o3, o4, o5, o6, o7, o8, o9, o10, -⟩ := is2_o c3
          have n1 : ¬ m = -167 := fun z => c2 (by rw [z]; decide)
          have n2 : ¬ m = -74 := fun z => c2 (by rw [z]; decide)
          have e1 : ev1 sd m (b :: a :: s) = jn (m + 200) a b :: s := by unfold ev1; rw [if_neg c0, if_neg c1, if_neg n1, if_neg n2]
          rw [e1]
          refine ⟨wr u 157 s.length (jn (m + 200) a b), ?_, pq _, fr157_w (fun _ _ _ => rfl), ?_, by simp only [List.length_cons]; omega⟩
          · rw [if_neg o9, if_neg o10, en, en2, gd_nI (by omega) (by omega), gd_nI hl2 (by omega), nI_cl (by omega), nI_cl (by omega), ea, eb, (is2_jn c3 a b).1, Option.bind_some]
            unfold f_X12_worked_184
            rw [nI_1]
            rfl
          · simp only [List.length_cons] at hd ⊢
            exact hd
        · rw [if_neg c3, if_neg hm] at hd
          cases hd
def isMark (u : xS) (i : Nat) (A : List Int32) : Prop := ∀ k m, A[k]? = some m → rd u 155 (i + k) = m
theorem isMark_t {u : xS} {i : Nat} {m : Int32} {A : List Int32} (h : isMark u i (m :: A)) : rd u 155 i = m ∧ isMark u (i + 1) A := by
  refine ⟨h 0 m rfl, fun k x hx => ?_⟩
  have := h (k + 1) x (by simpa using hx)
  rwa [show i + 1 + k = i + (k + 1) by omega]
theorem wk12 {sd : Nat → Int32} {d E : Nat} (hE : E ≤ 768) : ∀ (A : List Int32) (N i : Nat) (st : List Int32) (u : xS), A.length < N → isMark u i A → ¬ (-300) ∈ A → dep A st.length = some d → (E = i + A.length ∨ (i + A.length < E ∧ rd u 155 (i + A.length) = -300)) → SL12 u sd → sk u 157 0 st → st.length + A.length ≤ 64 →
    ∃ u', f_X12_worked_5 N (nI E) (nI st.length) (nI i) u = some (rd u' 157 0, wr u' 135 35 (nI (i + A.length))) ∧ sk u' 157 0 (evA sd A st) ∧ fr157 u u' := by
  intro A
  induction A with
  | nil =>
    intro N i st u h1 h2 h3 h4 h5 h6 h7 h8
    obtain ⟨M, rfl⟩ : ∃ M, N = M + 1 := ⟨N - 1, by omega⟩
    refine ⟨u, ?_, h7, fun _ _ _ => rfl⟩
    simp only [List.length_nil, Nat.add_zero] at h5 ⊢
    rw [f_X12_worked_5]
    rcases h5 with h5 | ⟨h5, h9⟩
    · rw [h5, ite_yle (by omega) (by omega)]
      rfl
    · rw [ite_nle h5 (by omega), gd_nI (by omega) (by omega), nI_cl (by omega), if_pos h9]
      rfl
  | cons m A ih =>
    intro N i st u h1 h2 h3 h4 h5 h6 h7 h8
    simp only [List.length_cons] at h1 h5 h8 ⊢
    obtain ⟨M, rfl⟩ : ∃ M, N = M + 1 := ⟨N - 1, by omega⟩
    obtain ⟨g1, g2⟩ := isMark_t h2
    have hm : ¬ m = -300 := fun z => h3 (by rw [z]; exact List.mem_cons_self)
    obtain ⟨u1, k1, k2, k3, k4, k5⟩ := step12 (N := M) (E := E) h6 h7 (by omega) hm h4 (by omega) hE g1
    have f155 : ∀ j, rd u1 155 j = rd u 155 j := fun j => k3 155 j (by decide)
    obtain ⟨u', q1, q2, q3⟩ := ih M (i + 1) (ev1 sd m st) u1 (by omega) (fun k y hy => (f155 _).trans (g2 k y hy)) (fun z => h3 (List.mem_cons_of_mem _ z)) k4 (by rw [f155, show i + 1 + A.length = i + (A.length + 1) by omega]; exact h5) (fun j hj => (k3 158 j (by decide)).trans (h6 j hj)) k2 (by omega)
    refine ⟨u', ?_, q2, fun c j hc => (q3 c j hc).trans (k3 c j hc)⟩
    rw [k1, q1, show i + 1 + A.length = i + (A.length + 1) by omega]
/-- one text without ; -/
theorem val12 {sd : Nat → Int32} {E i : Nat} {A : List Int32} {u : xS} (hE : E ≤ 768) (hA : A.length ≤ 64) (h2 : isMark u i A) (h3 : ¬ (-300) ∈ A) (h4 : dep A 0 = some 1) (h5 : E = i + A.length ∨ (i + A.length < E ∧ rd u 155 (i + A.length) = -300)) (h6 : SL12 u sd) : ∃ x u', f_X12_worked (nI i) (nI E) u = some (x, wr u' 135 35 (nI (i + A.length))) ∧ evA sd A [] = [x] ∧ fr157 u u' := by
  obtain ⟨u', q1, q2, q3⟩ := wk12 (d := 1) hE A xN i [] u (xN_lt (by omega)) h2 h3 h4 h5 h6 trivial (by simpa using hA)
  have hl := evA_len (sd := sd) A [] 1 h3 h4
  match hx : evA sd A [], hl with
  | [x], _ =>
  rw [hx] at q2
  have e : rd u' 157 0 = x := q2.1
  refine ⟨x, u', ?_, rfl, q3⟩
  rw [f_X12_worked, ← e]
  exact q1
theorem fbk_c {sd : Nat → Int32} {m : Int32} {R : List Int32} {e : Int32} {st : List Int32} (hm : ¬ m = -300) : fbk sd (m :: R) e st = fbk sd R e (ev1 sd m st) := by
  rw [fbk.eq_def]
  dsimp only
  rw [if_neg hm]
theorem fbk_app {sd : Nat → Int32} {R : List Int32} {e x : Int32} : ∀ (A st : List Int32), ¬ (-300) ∈ A → evA sd A st = [x] → fbk sd (A ++ -300 :: R) e st = if x = 0 then some e else fbk sd R (e + 1) [] := by
  intro A
  induction A with
  | nil =>
    intro st h1 h2
    have : st = [x] := h2
    rw [List.nil_append, this, fbk, if_pos rfl]
  | cons m A ih =>
    intro st h1 h2
    rw [List.cons_append, fbk_c (fun z => h1 (by rw [z]; exact List.mem_cons_self))]
    exact ih _ (fun z => h1 (List.mem_cons_of_mem _ z)) h2
theorem semi : ∀ R : List Int32, -300 ∈ R → ∃ A R', R = A ++ -300 :: R' ∧ ¬ (-300) ∈ A := by
  intro R
  induction R with
  | nil => intro h; cases h
  | cons m R ih =>
    intro h
    by_cases hm : m = -300
    · exact ⟨[], R, by rw [hm]; rfl, by simp⟩
    · obtain ⟨A, R', h1, h2⟩ := ih (by
        rcases List.mem_cons.mp h with h | h
        · exact absurd h.symm hm
        · exact h)
      refine ⟨m :: A, R', by rw [h1]; rfl, fun z => ?_⟩
      rcases List.mem_cons.mp z with z | z
      · exact hm z.symm
      · exact h2 z
theorem jd12 {sd : Nat → Int32} {E : Nat} (hE : E ≤ 768) : ∀ (n : Nat) (R : List Int32) (N i : Nat) (e : Int32) (u : xS), R.length ≤ n → R.length < N → (∀ z, R.getLast? = some z → z = -300) → dep R 0 = some 0 → isMark u i R → i + R.length = E → R.length ≤ 64 → SL12 u sd →
    ∃ u', f_X12_judged_163 N (nI i) (nI E) e u = some ((fbk sd R e []).getD (-1), u') ∧ ∀ c j, ¬ c = 157 → ¬ (c = 135 ∧ j = 35) → rd u' c j = rd u c j := by
  intro n
  induction n with
  | zero =>
    intro R N i e u h1 h2 h3 h4 h5 h6 h7 h8
    obtain ⟨M, rfl⟩ : ∃ M, N = M + 1 := ⟨N - 1, by omega⟩
    match R, h1, h6 with
    | [], _, h6 =>
    refine ⟨u, ?_, fun _ _ _ _ => rfl⟩
    simp only [List.length_nil, Nat.add_zero] at h6
    rw [f_X12_judged_163, ite_yle (by omega) (by omega)]
    rfl
  | succ n ih =>
    intro R N i e u h1 h2 h3 h4 h5 h6 h7 h8
    by_cases hR : R = []
    · exact ih R N i e u (by rw [hR]; simp) h2 h3 h4 h5 h6 h7 h8
    obtain ⟨M, rfl⟩ : ∃ M, N = M + 1 := ⟨N - 1, by omega⟩
    have hmem : -300 ∈ R := by
      have hl := List.getLast?_eq_some_getLast hR
      have := h3 _ hl
      rw [← this]
      exact List.getLast_mem hR
    obtain ⟨A, R', eR, hA⟩ := semi R hmem
    have hlen : R.length = A.length + (R'.length + 1) := by rw [eR]; simp
    have hd : dep A 0 = some 1 ∧ dep R' 0 = some 0 := by
      rw [eR, dep_app] at h4
      cases hq : dep A 0 with
      | none => rw [hq] at h4; cases h4
      | some q =>
        rw [hq, Option.bind_some, dep, if_neg (by decide), if_neg (by decide), if_neg (by decide), if_pos rfl] at h4
        by_cases c : q = 1
        · rw [if_pos c] at h4
          exact ⟨by rw [c], h4⟩
        · rw [if_neg c] at h4
          cases h4
    have mk : isMark u i A ∧ rd u 155 (i + A.length) = -300 ∧ isMark u (i + A.length + 1) R' := by
      refine ⟨fun k m hk => h5 k m ?_, h5 A.length (-300) ?_, fun k m hk => ?_⟩
      · rw [eR, List.getElem?_append_left (by
          have := List.getElem?_eq_some_iff.mp hk
          exact this.1)]
        exact hk
      · rw [eR, List.getElem?_append_right (Nat.le_refl _), Nat.sub_self]
        rfl
      · have := h5 (A.length + 1 + k) m (by
          rw [eR, List.getElem?_append_right (by omega), show A.length + 1 + k - A.length = k + 1 by omega]
          simpa using hk)
        rwa [show i + A.length + 1 + k = i + (A.length + 1 + k) by omega]
    obtain ⟨x, u1, q1, q2, q3⟩ := val12 (E := E) (i := i) hE (by omega) mk.1 hA hd.1 (Or.inr ⟨by omega, mk.2.1⟩) h8
    have k4 : ∀ c j, ¬ c = 157 → ¬ (c = 135 ∧ j = 35) → rd (wr u1 135 35 (nI (i + A.length))) c j = rd u c j := fun c j h9 h10 => (rd_wr_ne h10).trans (q3 c j h9)
    rw [f_X12_judged_163, ite_nle (by omega) (by omega), q1, Option.bind_some]
    dsimp only
    rw [eR, fbk_app A [] hA q2]
    by_cases hx : x = 0
    · rw [if_pos hx, if_pos hx]
      exact ⟨_, rfl, k4⟩
    · rw [if_neg hx, if_neg hx, show rd (wr u1 135 35 (nI (i + A.length))) 135 35 = nI (i + A.length) from rfl, nI_1]
      obtain ⟨u', g1, g2⟩ := ih R' M (i + A.length + 1) (e + 1) (wr u1 135 35 (nI (i + A.length))) (by omega) (by omega) (fun z hz => h3 z (by
        rw [eR, List.getLast?_append, List.getLast?_cons, hz]
        rfl)) hd.2 (fun k m hk => (k4 _ _ (by decide) (by omega)).trans (mk.2.2 k m hk)) (by omega) (by omega) (fun j hj => (k4 _ _ (by decide) (by omega)).trans (h8 j hj))
      exact ⟨u', g1, fun c j h9 h10 => (g2 c j h9 h10).trans (k4 c j h9 h10)⟩
