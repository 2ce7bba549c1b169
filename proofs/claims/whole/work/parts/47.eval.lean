/-! WHAT A TEXT COMES TO -/
theorem nI_sub {a b : Nat} (h : b ≤ a) : nI a - nI b = nI (a - b) := by
  have e : nI a = nI (a - b) + nI b := by rw [nI_add]; congr 1; omega
  rw [e, Int32.add_sub_cancel]
def jn (o a b : Int32) : Int32 := (f_X12_acted o a b).getD 0
theorem jn_both {o : Int32} (h : o = 124 ∨ o = 38 ∨ o = 60 ∨ o = 62 ∨ o = 61 ∨ o = 43 ∨ o = 45 ∨ o = 42 ∨ o = 47 ∨ o = 37) (a b : Int32) : f_X12_acted o a b = f_X10_joined o a b ∧ ∃ r, f_X12_acted o a b = some r := by
  have t0 : f_X12_truth 0 = 0 := rfl
  have t1 : f_X12_truth 1 = 1 := rfl
  have hz : ∀ x : Int32, ¬ x = 0 → xnz x = true := fun x hx => by
    unfold xnz
    exact decide_eq_true hx
  have hi : ∀ {α : Type} {c : Prop} {i : Decidable c} {p q : Option α}, p.isSome = true → q.isSome = true → ∃ r, (@ite _ c i p q) = some r := by
    intro α c i p q hp hq
    cases i with
    | isTrue h => exact Option.isSome_iff_exists.mp hp
    | isFalse h => exact Option.isSome_iff_exists.mp hq
  rcases h with h | h | h | h | h | h | h | h | h | h <;> subst h
  all_goals simp (decide := true) only [f_X12_acted, f_X10_joined, f_X12_acted_210, f_X12_acted_211, f_X12_acted_228, f_X12_acted_223, f_X12_acted_166, f_X12_acted_194, f_X12_acted_180, f_X10_joined_92, t0, t1, if_true, if_false]
  all_goals
    by_cases hb : b = 0
    · by_cases ha : a = 0
      · simp [ha, hb]
        try exact hi rfl rfl
      · simp [ha, hb]
        try exact hi rfl rfl
    · by_cases ha : a = 0
      · simp [ha, hb, hz _ hb, gd_t]
        try exact hi rfl rfl
      · simp [ha, hb, hz _ hb, gd_t]
        try exact hi rfl rfl
theorem is2_o {m : Int32} (h : is2 m = true) : (m + 200 = 124 ∨ m + 200 = 38 ∨ m + 200 = 60 ∨ m + 200 = 62 ∨ m + 200 = 61 ∨ m + 200 = 43 ∨ m + 200 = 45 ∨ m + 200 = 42 ∨ m + 200 = 47 ∨ m + 200 = 37) ∧ em m < 0 ∧ f_X11_lies (-(em m)) 97 122 = 0 ∧ ¬ em m = -33 ∧ ¬ em m = -126 ∧ ¬ em m = -59 ∧ -(em m) = m + 200 ∧ m < 0 ∧ m < -16 ∧ ¬ m = f_X12_act 33 ∧ ¬ m = f_X12_act 126 ∧ ¬ m = -300 := by
  unfold is2 at h
  simp only [Bool.or_eq_true, beq_iff_eq] at h
  rcases h with ((((((((h | h) | h) | h) | h) | h) | h) | h) | h) | h <;> subst h <;> decide +kernel
theorem is2_jn {m : Int32} (h : is2 m = true) (a b : Int32) : f_X12_acted (m + 200) a b = some (jn (m + 200) a b) ∧ f_X10_joined (m + 200) a b = some (jn (m + 200) a b) := by
  obtain ⟨e, r, h1⟩ := jn_both (is2_o h).1 a b
  have h2 : jn (m + 200) a b = r := by
    unfold jn
    rw [h1]
    rfl
  rw [h2]
  exact ⟨h1, e.symm.trans h1⟩
theorem let_ix {m : Int32} (h0 : m < 0) (h1 : ¬ m < -16) : ∃ i : Nat, i < 16 ∧ -1 - m = nI i := by
  rw [Int32.lt_iff_toInt_lt] at h0 h1
  have a0 : (0 : Int32).toInt = 0 := rfl
  have a1 : (-16 : Int32).toInt = -16 := by decide
  have a2 : (-1 : Int32).toInt = -1 := by decide
  rw [a0] at h0
  rw [a1] at h1
  refine ⟨(-1 - m.toInt).toNat, by omega, ?_⟩
  apply Int32.toInt_inj.mp
  rw [Int32.toInt_sub, nI_toInt (by omega), a2, Int.bmod_eq_of_le (by omega) (by omega)]
  omega
/-- one mark -/
def ev1 (sd : Nat → Int32) (m : Int32) (st : List Int32) : List Int32 :=
  if 0 ≤ m then m :: st
  else if -16 ≤ m then sd (nv (-1 - m)) :: st
  else if m = -167 then (match st with | x :: s => (if x = 0 then 1 else 0) :: s | [] => [])
  else if m = -74 then (match st with | x :: s => (-x) :: s | [] => [])
  else (match st with | b :: a :: s => jn (m + 200) a b :: s | _ => [])
def evA (sd : Nat → Int32) (A : List Int32) (st : List Int32) : List Int32 := A.foldl (fun s m => ev1 sd m s) st
theorem evA_c (sd : Nat → Int32) (m : Int32) (A st : List Int32) : evA sd (m :: A) st = evA sd A (ev1 sd m st) := rfl
/-- the letters as they were told -/
def SL11 (u : xS) (sd : Nat → Int32) : Prop := ∀ i, i < 16 → rd u 72 (lt i - 97) = sd i
def SL12 (u : xS) (sd : Nat → Int32) : Prop := ∀ i, i < 16 → rd u 158 i = sd i
def up (sd : Nat → Int32) (k : Nat) (v : Int32) : Nat → Int32 := fun i => if i = k then v else sd i
theorem tell {u : xS} {sd : Nat → Int32} {c v : Int32} (k : Nat) (hk : k < 16) (hc : c = nI (lt k)) (h : SL11 u sd) : f_X10_tell c v u = some (wr u 72 (lt k - 97) v) ∧ SL11 (wr u 72 (lt k - 97) v) (up sd k v) := by
  obtain ⟨h1, h2⟩ := lt_rng k hk
  constructor
  · subst hc
    have e : f_X11_lies (nI (lt k)) 97 122 = 1 := by
      rw [lies_eq, if_pos ⟨nI_le (a := 97) h1 (by omega), nI_le (b := 122) h2 (by omega)⟩]
    have e2 : nI (lt k) - 97 = nI (lt k - 97) := nI_sub (b := 97) h1
    rw [f_X10_tell, e, if_neg (by decide), e2, gd_nI (by omega) (by omega), nI_cl (by omega)]
  · intro i hi
    obtain ⟨h3, h4⟩ := lt_rng i hi
    unfold up
    by_cases e : i = k
    · rw [if_pos e, e, rd_wr, if_pos rfl, if_pos rfl]
    · rw [if_neg e, rd_wr_ne]
      · exact h i hi
      · intro z
        exact e (lt_inj i hi k hk (by omega))
theorem says {u : xS} {sd : Nat → Int32} {c v : Int32} (k : Nat) (hk : k < 16) (hc : c = nI (lt k)) (h : SL12 u sd) : f_X12_says c v u = some (wr u 158 k v) ∧ SL12 (wr u 158 k v) (up sd k v) := by
  constructor
  · rw [f_X12_says, hc, lt_ix k hk, Option.bind_some, gd_nI hk (by omega), nI_cl (by omega)]
  · intro i hi
    unfold up
    by_cases e : i = k
    · rw [if_pos e, e, rd_wr, if_pos rfl, if_pos rfl]
    · rw [if_neg e, rd_wr_ne (fun z => e z.2)]
      exact h i hi
theorem clear (u : xS) : ∃ u', f_X10_clearLetters u = some u' ∧ SL11 u' (fun _ => 0) ∧ ∀ c j, ¬ c = 72 → rd u' c j = rd u c j := by
  obtain ⟨u', h1, h2, h3⟩ := fill_ok (c := 72) (L := 26) (by decide +kernel) (by decide +kernel) (by omega) u
  refine ⟨u', ?_, fun i hi => ?_, fun c j hc => h3 c j (fun z => hc z.1)⟩
  · rw [f_X10_clearLetters, h1, Option.bind_some]
  · have := lt_rng i hi
    exact h2 _ (by omega)
theorem hush_key : ∀ (N i : Nat) (u : xS), 16 < N + i → i ≤ 16 → (∀ j, j < i → rd u 158 j = 0) → ∃ u', f_X12_hush_2 N (nI i) u = some u' ∧ (∀ j, j < 16 → rd u' 158 j = 0) ∧ ∀ c j, ¬ c = 158 → rd u' c j = rd u c j := by
  intro N
  induction N with
  | zero => intro i u h1 h2; omega
  | succ N ih =>
    intro i u h1 h2 h3
    by_cases hi : i = 16
    · subst hi
      refine ⟨u, ?_, h3, fun _ _ _ => rfl⟩
      rw [f_X12_hush_2, l_16, ite_yle (by omega) (by omega)]
    · obtain ⟨u', g1, g2, g3⟩ := ih (i + 1) (wr u 158 i 0) (by omega) (by omega) (fun j hj => by
        by_cases e : j = i
        · rw [e, rd_wr, if_pos rfl, if_pos rfl]
        · rw [rd_wr_ne (fun z => e z.2)]
          exact h3 j (by omega))
      refine ⟨u', ?_, g2, fun c j hc => (g3 c j hc).trans (rd_wr_ne (fun z => hc z.1))⟩
      rw [f_X12_hush_2, l_16, ite_nle (by omega) (by omega), gd_nI (by omega) (by omega), nI_cl (by omega), nI_1]
      exact g1
theorem hush (u : xS) : ∃ u', f_X12_hush u = some u' ∧ SL12 u' (fun _ => 0) ∧ ∀ c j, ¬ c = 158 → rd u' c j = rd u c j :=
  hush_key xN 0 u (xN_lt (by omega)) (by omega) (fun j hj => by omega)
/-! the stack of the class -/
theorem pop_c {u : xS} {x : Int32} {st : List Int32} (h : sk u 73 0 (x :: st)) (hn : rd u 58 4 = nI (st.length + 1)) (hl : st.length < 64) : f_X10_pop u = some (x, wr u 58 4 (nI st.length)) := by
  have e : nI (st.length + 1) - 1 = nI st.length := nI_sub (b := 1) (by omega)
  have e2 : rd u 73 st.length = x := by
    have := h.1
    rwa [Nat.zero_add] at this
  rw [f_X10_pop, hn, if_neg, e, gd_nI hl (by omega), nI_cl (by omega), e2]
  intro z
  exact absurd (nI_inj (b := 0) (by omega) (by omega) z) (by omega)
theorem push_c {u : xS} {x : Int32} {n : Nat} (hn : rd u 58 4 = nI n) (hl : n < 64) : f_X10_push x u = some (wr (wr u 73 n x) 58 4 (nI (n + 1))) := by
  rw [f_X10_push, hn, l_64, ite_nle hl (by omega), gd_nI hl (by omega), nI_cl (by omega), nI_1]
/-- all but the stack -/
def fr73 (u u' : xS) : Prop := ∀ c j, ¬ c = 73 → ¬ (c = 58 ∧ j = 4) → rd u' c j = rd u c j
theorem fr73_r (u : xS) : fr73 u u := fun _ _ _ _ => rfl
theorem fr73_t {u u' u'' : xS} (h : fr73 u u') (h2 : fr73 u' u'') : fr73 u u'' := fun c j h3 h4 => (h2 c j h3 h4).trans (h c j h3 h4)
theorem fr73_w {u u' : xS} {j : Nat} {v : Int32} (h : fr73 u u') : fr73 u (wr u' 73 j v) := fun c i h3 h4 => (rd_wr_ne (fun z => h3 z.1)).trans (h c i h3 h4)
theorem fr73_d {u u' : xS} {v : Int32} (h : fr73 u u') : fr73 u (wr u' 58 4 v) := fun c i h3 h4 => (rd_wr_ne h4).trans (h c i h3 h4)
theorem push_k {u : xS} {x : Int32} {st : List Int32} (h : sk u 73 0 st) (hn : rd u 58 4 = nI st.length) (hl : st.length < 64) : ∃ u', f_X10_push x u = some u' ∧ sk u' 73 0 (x :: st) ∧ rd u' 58 4 = nI (x :: st).length ∧ fr73 u u' := by
  refine ⟨_, push_c hn hl, sk_ne ?_ (by decide), rfl, fr73_d (fr73_w (fr73_r u))⟩
  have := sk_push (x := x) h
  rwa [Nat.zero_add] at this
theorem work11 {u : xS} {sd : Nat → Int32} {m : Int32} {st : List Int32} {A : List Int32} {d : Nat} (hs : SL11 u sd) (h : sk u 73 0 st) (hn : rd u 58 4 = nI st.length) (hl : st.length < 64) (hm : ¬ m = -300) (hd : dep (m :: A) st.length = some d) : (∃ u', f_X10_work (em m) u = some u' ∧ sk u' 73 0 (ev1 sd m st) ∧ rd u' 58 4 = nI (ev1 sd m st).length ∧ fr73 u u') ∧ dep A (ev1 sd m st).length = some d ∧ (ev1 sd m st).length ≤ st.length + 1 ∧ ¬ em m = -59 := by
  unfold dep at hd
  by_cases c0 : 0 ≤ m
  · have c1 : -16 ≤ m := Int32.le_trans (by decide) c0
    rw [if_pos c1] at hd
    have e : em m = m := by unfold em; rw [if_pos c0]
    have e1 : ev1 sd m st = m :: st := by unfold ev1; rw [if_pos c0]
    rw [e, e1]
    refine ⟨?_, hd, Nat.le_refl _, fun z => ?_⟩
    · obtain ⟨u', g1, g2⟩ := push_k (x := m) h hn hl
      refine ⟨u', ?_, g2⟩
      rw [f_X10_work, if_neg (Int32.not_lt.mpr c0), g1, Option.bind_some]
    · rw [z] at c0
      exact absurd c0 (by decide)
  · by_cases c1 : -16 ≤ m
    · rw [if_pos c1] at hd
      obtain ⟨i, hi, ei⟩ := let_ix (Int32.not_le.mp c0) (Int32.not_lt.mpr c1)
      obtain ⟨h3, h4⟩ := lt_rng i hi
      have e0 : nv (-1 - m) = i := by rw [ei, nv_nI (by omega)]
      have e : em m = -(nI (lt i)) := by unfold em; rw [if_neg c0, if_pos c1, e0, xb0 i hi]
      have e1 : ev1 sd m st = sd i :: st := by unfold ev1; rw [if_neg c0, if_pos c1, e0]
      have e2 : ∀ k, 97 ≤ k → k ≤ 122 → -(nI k) < 0 ∧ - -(nI k) = nI k ∧ ¬ -(nI k) = -59 := by
        intro k h5 h6
        have e5 : (nI k).toInt = k := nI_toInt (by omega)
        refine ⟨?_, Int32.neg_neg, fun z => ?_⟩
        · rw [Int32.lt_iff_toInt_lt, Int32.toInt_neg, e5, Int.bmod_eq_of_le (by omega) (by omega)]
          show -(k : Int) < 0
          omega
        · have z2 : (-(nI k)).toInt = (-59 : Int32).toInt := by rw [z]
          rw [Int32.toInt_neg, e5, Int.bmod_eq_of_le (by omega) (by omega)] at z2
          have z3 : (-59 : Int32).toInt = -59 := by decide
          omega
      obtain ⟨e6, e7, e8⟩ := e2 _ h3 h4
      rw [e, e1]
      refine ⟨?_, hd, Nat.le_refl _, e8⟩
      obtain ⟨u', g1, g2⟩ := push_k (x := sd i) h hn hl
      refine ⟨u', ?_, g2⟩
      have e9 : f_X11_lies (nI (lt i)) 97 122 = 1 := by
        rw [lies_eq, if_pos ⟨nI_le (a := 97) h3 (by omega), nI_le (b := 122) h4 (by omega)⟩]
      have e10 : nI (lt i) - 97 = nI (lt i - 97) := nI_sub (b := 97) h3
      rw [f_X10_work, if_pos e6, e7, e9, if_neg (by decide), e10, gd_nI (by omega) (by omega), nI_cl (by omega), hs i hi, g1, Option.bind_some]
    · rw [if_neg c1] at hd
      by_cases c2 : is1 m = true
      · rw [if_pos c2] at hd
        have hst : 1 ≤ st.length := by
          by_cases q : 1 ≤ st.length
          · exact q
          · rw [if_neg q] at hd
            cases hd
        rw [if_pos hst] at hd
        match st, h, hn, hl, hst, hd with
        | x :: s, h, hn, hl, _, hd =>
        have hl2 : s.length < 64 := by simp only [List.length_cons] at hl; omega
        have p1 := pop_c h hn hl2
        have h' : sk (wr u 58 4 (nI s.length)) 73 0 s := sk_ne h.2 (by decide)
        unfold is1 at c2
        simp only [Bool.or_eq_true, beq_iff_eq] at c2
        rcases c2 with c2 | c2
        · subst c2
          have e : em (-167) = -33 := by decide +kernel
          have e1 : ev1 sd (-167) (x :: s) = (if x = 0 then 1 else 0) :: s := by unfold ev1; rw [if_neg (by decide), if_neg (by decide), if_pos rfl]
          rw [e, e1]
          obtain ⟨u', g1, g2, g3, g4⟩ := push_k (x := if x = 0 then 1 else 0) h' rfl hl2
          refine ⟨⟨u', ?_, g2, g3, fr73_t (fr73_d (fr73_r u)) g4⟩, hd, by simp only [List.length_cons]; omega, by decide⟩
          rw [f_X10_work, if_pos (by decide), if_pos (by decide), if_pos rfl, p1, Option.bind_some]
          dsimp only
          unfold f_X10_work_60
          by_cases q : x = 0
          · rw [if_pos q] at g1 ⊢
            rw [g1, Option.bind_some]
          · rw [if_neg q] at g1 ⊢
            rw [g1, Option.bind_some]
        · subst c2
          have e : em (-74) = -126 := by decide +kernel
          have e1 : ev1 sd (-74) (x :: s) = (-x) :: s := by unfold ev1; rw [if_neg (by decide), if_neg (by decide), if_neg (by decide), if_pos rfl]
          rw [e, e1]
          obtain ⟨u', g1, g2, g3, g4⟩ := push_k (x := -x) h' rfl hl2
          refine ⟨⟨u', ?_, g2, g3, fr73_t (fr73_d (fr73_r u)) g4⟩, hd, by simp only [List.length_cons]; omega, by decide⟩
          rw [f_X10_work, if_pos (by decide), if_pos (by decide), if_neg (by decide), if_pos rfl, p1, Option.bind_some]
          dsimp only
          rw [g1, Option.bind_some]
      · rw [if_neg c2] at hd
        by_cases c3 : is2 m = true
        · rw [if_pos c3] at hd
          have hst : 2 ≤ st.length := by
            by_cases q : 2 ≤ st.length
            · exact q
            · rw [if_neg q] at hd
              cases hd
          rw [if_pos hst] at hd
          match st, h, hn, hl, hst, hd with
          | b :: a :: s, h, hn, hl, _, hd =>
          have hl2 : s.length + 1 < 64 := by simp only [List.length_cons] at hl; omega
          have p1 := pop_c (st := a :: s) h hn hl2
          have h1 : sk (wr u 58 4 (nI (a :: s).length)) 73 0 (a :: s) := sk_ne h.2 (by decide)
          have p2 := pop_c h1 rfl (by omega)
          have h2 : sk (wr (wr u 58 4 (nI (a :: s).length)) 58 4 (nI s.length)) 73 0 s := sk_ne h1.2 (by decide)
          obtain ⟨-, o1, o2, o3, o4, o5, o6, o7, o8, o9, o10, -⟩ := is2_o c3
          have n1 : ¬ m = -167 := fun z => c2 (by rw [z]; decide)
          have n2 : ¬ m = -74 := fun z => c2 (by rw [z]; decide)
          have e1 : ev1 sd m (b :: a :: s) = jn (m + 200) a b :: s := by unfold ev1; rw [if_neg c0, if_neg c1, if_neg n1, if_neg n2]
          obtain ⟨u', g1, g2, g3, g4⟩ := push_k (x := jn (m + 200) a b) h2 rfl (by omega)
          rw [e1]
          refine ⟨⟨u', ?_, g2, g3, fr73_t (fr73_d (fr73_d (fr73_r u))) g4⟩, ?_, by simp only [List.length_cons]; omega, o5⟩
          · rw [f_X10_work, if_pos o1, if_pos o2, if_neg o3, if_neg o4, p1, Option.bind_some]
            dsimp only
            rw [p2, Option.bind_some]
            dsimp only
            rw [o6, (is2_jn c3 a b).2, Option.bind_some, g1, Option.bind_some]
          · simp only [List.length_cons] at hd ⊢
            exact hd
        · rw [if_neg c3, if_neg hm] at hd
          cases hd
/-! the class's two readers of codes -/
def isCode (u : xS) (c i : Nat) (A : List Int32) : Prop := ∀ k m, A[k]? = some m → rd u c (i + k) = em m
theorem isCode_t {u : xS} {c i : Nat} {m : Int32} {A : List Int32} (h : isCode u c i (m :: A)) : rd u c i = em m ∧ isCode u c (i + 1) A := by
  refine ⟨h 0 m rfl, fun k x hx => ?_⟩
  have := h (k + 1) x (by simpa using hx)
  rwa [show i + 1 + k = i + (k + 1) by omega]
theorem val11 {sd : Nat → Int32} {t d : Nat} (ht : t < 11) : ∀ (A : List Int32) (N i : Nat) (st : List Int32) (u : xS), A.length < N → isCode u (60 + t) i A → rd u 71 t = nI (i + A.length) → i + A.length ≤ 64 → SL11 u sd → sk u 73 0 st → rd u 58 4 = nI st.length → st.length + A.length ≤ 64 → ¬ (-300) ∈ A → dep A st.length = some d → d = 1 →
    ∃ x u', f_X10_valueOf_19 N (nI t) (nI i) u = some (x, u') ∧ evA sd A st = [x] ∧ fr73 u u' := by
  intro A
  induction A with
  | nil =>
    intro N i st u h1 h2 h3 h4 h5 h6 h7 h8 h9 h10 h11
    obtain ⟨M, rfl⟩ : ∃ M, N = M + 1 := ⟨N - 1, by omega⟩
    have e : st.length = 1 := by
      have : some st.length = some d := h10
      cases this
      exact h11
    match st, e, h6, h7 with
    | [x], _, h6, h7 =>
    refine ⟨x, wr u 58 4 (nI 0), ?_, rfl, fr73_d (fr73_r u)⟩
    rw [f_X10_valueOf_19, gd_nI (by omega) (by omega), nI_cl (by omega), h3, ite_yle (by simp) (by simp at h4; omega), pop_c (st := []) h6 h7 (by simp), Option.bind_some]
    rfl
  | cons m A ih =>
    intro N i st u h1 h2 h3 h4 h5 h6 h7 h8 h9 h10 h11
    simp only [List.length_cons] at h1 h3 h4 h8
    obtain ⟨M, rfl⟩ : ∃ M, N = M + 1 := ⟨N - 1, by omega⟩
    obtain ⟨g1, g2⟩ := isCode_t h2
    obtain ⟨⟨u1, k1, k2, k3, k4⟩, k5, k6, -⟩ := work11 (A := A) h5 h6 h7 (by omega) (fun z => h9 (by rw [z]; exact List.mem_cons_self)) h10
    obtain ⟨x, u', q1, q2, q3⟩ := ih M (i + 1) (ev1 sd m st) u1 (by omega) (fun k y hy => (k4 _ _ (by omega) (by omega)).trans (g2 k y hy)) ((k4 _ _ (by omega) (by omega)).trans (by rw [h3]; congr 1; omega)) (by omega) (fun j hj => (k4 _ _ (by omega) (by omega)).trans (h5 j hj)) k2 k3 (by omega) (fun z => h9 (List.mem_cons_of_mem _ z)) k5 h11
    refine ⟨x, u', ?_, q2, fr73_t k4 q3⟩
    rw [f_X10_valueOf_19, gd_nI (by omega) (by omega), nI_cl (by omega), h3, ite_nle (by omega) (by omega), gd_nI (by omega) (by omega), nI_cl (by omega), g1, k1, Option.bind_some, nI_1]
    exact q1
/-- the first of them that is broken -/
def fbk (sd : Nat → Int32) : List Int32 → Int32 → List Int32 → Option Int32
  | [], _, _ => none
  | m :: R, e, st => if m = -300 then (match st with | x :: _ => (if x = 0 then some e else fbk sd R (e + 1) []) | [] => none) else fbk sd R e (ev1 sd m st)
theorem fb11 {sd : Nat → Int32} {r : Nat} (hr : r < 6) : ∀ (R : List Int32) (N i : Nat) (st : List Int32) (e : Int32) (u : xS), R.length < N → isCode u (64 + r) i R → rd u 71 (4 + r) = nI (i + R.length) → i + R.length ≤ 64 → SL11 u sd → sk u 73 0 st → rd u 58 4 = nI st.length → st.length + R.length ≤ 64 → dep R st.length = some 0 →
    ∃ u', f_X10_firstBroken_29 N (nI r) (64 + r) e (nI i) u = some ((fbk sd R e st).getD (-2), u') ∧ fr73 u u' := by
  intro R
  induction R with
  | nil =>
    intro N i st e u h1 h2 h3 h4 h5 h6 h7 h8 h9
    obtain ⟨M, rfl⟩ : ∃ M, N = M + 1 := ⟨N - 1, by omega⟩
    refine ⟨u, ?_, fr73_r u⟩
    rw [f_X10_firstBroken_29, show (4 : Int32) + nI r = nI (4 + r) from nI_add 4 r, gd_nI (by omega) (by omega), nI_cl (by omega), h3, ite_yle (by simp) (by simp at h4; omega)]
    rfl
  | cons m R ih =>
    intro N i st e u h1 h2 h3 h4 h5 h6 h7 h8 h9
    simp only [List.length_cons] at h1 h3 h4 h8
    obtain ⟨M, rfl⟩ : ∃ M, N = M + 1 := ⟨N - 1, by omega⟩
    obtain ⟨g1, g2⟩ := isCode_t h2
    have hx : xisI (64 + r) = true ∧ xlen (64 + r) = 64 := by
      have : ∀ r, r < 6 → xisI (64 + r) = true ∧ xlen (64 + r) = 64 := by decide +kernel
      exact this r hr
    have open1 : f_X10_firstBroken_29 (M + 1) (nI r) (64 + r) e (nI i) u = if em m = -59 then ((f_X10_pop u).bind fun q12 => if q12.1 = 0 then (some (e, q12.2)) else ((f_X10_firstBroken_29 M) (nI r) (64 + r) (e + 1) (nI (i + 1)) q12.2)) else ((f_X10_work (em m) u).bind fun u18 => (f_X10_firstBroken_29 M) (nI r) (64 + r) e (nI (i + 1)) u18) := by
      rw [f_X10_firstBroken_29, show (4 : Int32) + nI r = nI (4 + r) from nI_add 4 r, gd_nI (by omega) (by omega), nI_cl (by omega), h3, ite_nle (by omega) (by omega), hx.1, hx.2, gd_t, gd_t, gd_nI (by omega) (by omega), gd_nI (by omega) (by omega), nI_cl (by omega), g1]
      unfold f_X10_firstBroken_74
      rw [nI_1]
    rw [open1]
    by_cases hm : m = -300
    · subst hm
      have e59 : em (-300) = -59 := by decide +kernel
      have d0 : st.length = 1 ∧ dep R 0 = some 0 := by
        rw [dep, if_neg (by decide), if_neg (by decide), if_neg (by decide), if_pos rfl] at h9
        by_cases q : st.length = 1
        · rw [if_pos q] at h9
          exact ⟨q, h9⟩
        · rw [if_neg q] at h9
          cases h9
      match st, d0, h6, h7 with
      | [x], d0, h6, h7 =>
      rw [if_pos e59, pop_c (st := []) h6 h7 (by simp), Option.bind_some]
      dsimp only
      have ef : fbk sd (-300 :: R) e [x] = if x = 0 then some e else fbk sd R (e + 1) [] := by rw [fbk, if_pos rfl]
      rw [ef]
      by_cases hx0 : x = 0
      · rw [if_pos hx0, if_pos hx0]
        exact ⟨_, rfl, fr73_d (fr73_r u)⟩
      · rw [if_neg hx0, if_neg hx0]
        have k4 : fr73 u (wr u 58 4 (nI 0)) := fr73_d (fr73_r u)
        obtain ⟨u', q1, q2⟩ := ih M (i + 1) [] (e + 1) (wr u 58 4 (nI 0)) (by omega) (fun k y hy => (k4 _ _ (by omega) (by omega)).trans (g2 k y hy)) ((k4 _ _ (by omega) (by omega)).trans (by rw [h3]; congr 1; omega)) (by omega) (fun j hj => (k4 _ _ (by omega) (by omega)).trans (h5 j hj)) trivial rfl (by simp; omega) d0.2
        exact ⟨u', q1, fr73_t k4 q2⟩
    · obtain ⟨⟨u1, k1, k2, k3, k4⟩, k5, k6, k7⟩ := work11 (A := R) h5 h6 h7 (by omega) hm h9
      obtain ⟨u', q1, q2⟩ := ih M (i + 1) (ev1 sd m st) e u1 (by omega) (fun k y hy => (k4 _ _ (by omega) (by omega)).trans (g2 k y hy)) ((k4 _ _ (by omega) (by omega)).trans (by rw [h3]; congr 1; omega)) (by omega) (fun j hj => (k4 _ _ (by omega) (by omega)).trans (h5 j hj)) k2 k3 (by omega) k5
      refine ⟨u', ?_, fr73_t k4 q2⟩
      have ef : fbk sd (m :: R) e st = fbk sd R e (ev1 sd m st) := by
        rw [fbk.eq_def]
        dsimp only
        rw [if_neg hm]
      rw [if_neg k7, k1, Option.bind_some, ef]
      exact q1
