/-! THE CLASS'S CHOICES -/
def stC (s : List Nat) (u : xS) : Prop := ∀ i x, s[i]? = some x → rd u 112 i = nI x
theorem nc39 {n : Nat} (hn : n ≤ 4) : ∀ (N j a : Nat) (u : xS), n < N + j → 1 ≤ j → j ≤ n → rd u 112 (j - 1) = nI a → ∃ u', f_X2_nextChoice_39 N (nI n) (nI j) u = some (1, u') ∧ (∀ i, i < n - j → rd u' 112 (j + i) = nI (a + 1 + i)) ∧ (∀ i, i < j → rd u' 112 i = rd u 112 i) ∧ ∀ c i, ¬ c = 112 → rd u' c i = rd u c i := by
  intro N
  induction N with
  | zero => intro j a u h1 h2; omega
  | succ N ih =>
    intro j a u h1 h2 h3 h4
    by_cases hj : j = n
    · subst hj
      refine ⟨u, ?_, fun i hi => by omega, fun _ _ => rfl, fun _ _ _ => rfl⟩
      rw [f_X2_nextChoice_39, ite_yle (Nat.le_refl _) (by omega)]
    · have e1 : nI j - 1 = nI (j - 1) := nI_sub (b := 1) h2
      obtain ⟨u', z1, z2, z3, z4⟩ := ih (j + 1) (a + 1) (wr u 112 j (nI (a + 1))) (by omega) (by omega) (by omega) (by rw [Nat.add_sub_cancel, rd_wr, if_pos rfl, if_pos rfl])
      refine ⟨u', ?_, fun i hi => ?_, fun i hi => ?_, fun c i hc => (z4 c i hc).trans (rd_wr_ne (fun z => hc z.1))⟩
      · rw [f_X2_nextChoice_39, ite_nle (by omega) (by omega), e1, gd_nI (by omega) (by omega), gd_nI (by omega) (by omega), nI_cl (by omega), nI_cl (by omega), h4, nI_1, nI_1]
        exact z1
      · cases i with
        | zero =>
          rw [Nat.add_zero, z3 j (by omega), rd_wr, if_pos rfl, if_pos rfl]
        | succ i =>
          have := z2 i (by omega)
          rw [show j + (i + 1) = j + 1 + i by omega, this, show a + 1 + 1 + i = a + 1 + (i + 1) by omega]
      · rw [z3 i (by omega), rd_wr_ne (by omega)]
theorem nx_app {M : Nat} {w w' : List Nat} (h : nxc M w = some w') : ∀ pre : List Nat, nxc M (pre ++ w) = some (pre ++ w') := by
  intro pre
  induction pre with
  | nil => exact h
  | cons x pre ih => rw [List.cons_append, nxc, ih]; rfl
theorem nc4 {n M : Nat} (hn : n ≤ 4) (hnM : n ≤ M) (hM : M ≤ 24) : ∀ (i N : Nat) (pre t : List Nat) (u : xS), i < N → pre.length = i → (pre ++ t).length = n → nxc M t = none → stC (pre ++ t) u → (∀ x, x ∈ pre ++ t → x < M) → rd u 87 5 = nI M →
    ∃ r u', f_X2_nextChoice_4 N (nI n) (nI i - 1) u = some (r, u') ∧ (∀ c i, ¬ c = 112 → rd u' c i = rd u c i) ∧ ((r = 0 ∧ nxc M (pre ++ t) = none) ∨ ∃ s', r = 1 ∧ nxc M (pre ++ t) = some s' ∧ stC s' u') := by
  intro i
  induction i with
  | zero =>
    intro N pre t u h1 h2 h3 h4 h5 h6 h7
    obtain ⟨N, rfl⟩ : ∃ M, N = M + 1 := ⟨N - 1, by omega⟩
    refine ⟨0, u, ?_, fun _ _ _ => rfl, Or.inl ⟨rfl, ?_⟩⟩
    · rw [f_X2_nextChoice_4, if_pos (by decide)]
    · rw [List.length_eq_zero_iff.mp h2]
      exact h4
  | succ i ih =>
    intro N pre t u h1 h2 h3 h4 h5 h6 h7
    obtain ⟨N, rfl⟩ : ∃ M, N = M + 1 := ⟨N - 1, by omega⟩
    have hne : ¬ pre = [] := fun z => by rw [z] at h2; simp at h2
    obtain ⟨p, x, rfl⟩ : ∃ p x, pre = p ++ [x] := ⟨pre.dropLast, pre.getLast hne, (List.dropLast_concat_getLast hne).symm⟩
    have hp : p.length = i := by rw [List.length_append] at h2; simpa using h2
    rw [List.append_assoc, List.singleton_append] at h3 h5 h6 ⊢
    have h3' : i + (t.length + 1) = n := by rw [List.length_append, List.length_cons, hp] at h3; exact h3
    have hx : x < M := h6 x (by simp)
    have gx : rd u 112 i = nI x := h5 i x (by rw [List.getElem?_append_right (by omega), hp, Nat.sub_self]; rfl)
    have e1 : nI (i + 1) - 1 = nI i := nI_sub (b := 1) (by omega)
    have e2 : nI M - nI n + nI i = nI (M - n + i) := by rw [pk_sub hnM, nI_add]
    have e3 : nI i + -1 = nI i - 1 := by rw [Int32.sub_eq_add_neg]
    have op : f_X2_nextChoice_4 (N + 1) (nI n) (nI (i + 1) - 1) u = if nI (M - n + i) ≤ nI x then f_X2_nextChoice_4 N (nI n) (nI i - 1) u else f_X2_nextChoice_39 xN (nI n) (nI (i + 1)) (wr u 112 i (nI (x + 1))) := by
      rw [f_X2_nextChoice_4, e1, if_neg (nI_pos (by omega)), gd_nI (by omega) (by omega), h7, e2, nI_cl (by omega), gx, nI_1, nI_1, e3]
    rw [op]
    by_cases c : M - n + i ≤ x
    · rw [ite_yle c (by omega)]
      refine ih N p (x :: t) u (by omega) hp h3 ?_ h5 h6 h7
      rw [nxc, h4]
      dsimp only
      rw [if_neg (by omega)]
    · rw [ite_nle (by omega) (by omega)]
      have hnx : nxc M (x :: t) = some (asc (x + 1) (t.length + 1)) := by
        rw [nxc, h4]
        dsimp only
        rw [if_pos (by omega)]
      obtain ⟨u', z1, z2, z3, z4⟩ := nc39 hn xN (i + 1) (x + 1) (wr u 112 i (nI (x + 1))) (by have : xN = 1000000 := rfl; omega) (by omega) (by omega) (by rw [Nat.add_sub_cancel, rd_wr, if_pos rfl, if_pos rfl])
      refine ⟨1, u', z1, fun c i hc => (z4 c i hc).trans (rd_wr_ne (fun z => hc z.1)), Or.inr ⟨p ++ asc (x + 1) (t.length + 1), rfl, nx_app hnx p, fun k y hk => ?_⟩⟩
      by_cases hk1 : k < i
      · rw [z3 k (by omega), rd_wr_ne (by omega)]
        rw [List.getElem?_append_left (by omega)] at hk
        exact h5 k y (by rw [List.getElem?_append_left (by omega)]; exact hk)
      · rw [List.getElem?_append_right (by omega), hp] at hk
        have hk2 : k - i < t.length + 1 := by
          have := (List.getElem?_eq_some_iff.mp hk).1
          rwa [asc_len] at this
        rw [asc_get _ _ _ hk2] at hk
        have hy : y = x + 1 + (k - i) := by cases hk; rfl
        by_cases hk3 : k = i
        · rw [hk3, z3 i (by omega), rd_wr, if_pos rfl, if_pos rfl, hy, hk3, Nat.sub_self]
        · have := z2 (k - (i + 1)) (by omega)
          rw [show i + 1 + (k - (i + 1)) = k by omega] at this
          rw [this, hy]
          congr 1
          omega
theorem nextC {n M : Nat} (hn : n ≤ 4) (hnM : n ≤ M) (hM : M ≤ 24) {s : List Nat} {u : xS} (hs : s.length = n) (h5 : stC s u) (h6 : ∀ x, x ∈ s → x < M) (h7 : rd u 87 5 = nI M) : ∃ r u', f_X2_nextChoice (nI n) u = some (r, u') ∧ (∀ c i, ¬ c = 112 → rd u' c i = rd u c i) ∧ ((r = 0 ∧ nxc M s = none) ∨ ∃ s', r = 1 ∧ nxc M s = some s' ∧ stC s' u') := by
  have := nc4 hn hnM hM n xN s [] u (xN_lt (by omega)) hs (by rw [List.append_nil]; exact hs) rfl (by rw [List.append_nil]; exact h5) (by rw [List.append_nil]; exact h6) h7
  rw [List.append_nil] at this
  exact this
/-- all that the chosen have -/
def orA (f : Nat → Nat) (s : List Nat) : Nat := s.foldl (fun m x => m ||| f x) 0
theorem or43 {n : Nat} (hn : n ≤ 4) {f : Nat → Nat} {M bad : Nat} (hM : M ≤ 24) {v4 : Int32} {k : Int32 → Int32 → Int32 → Int32 → xS → Option (Int32 × xS)} {s : List Nat} {u : xS} (hs : s.length = n) (h5 : stC s u) (h6 : ∀ x, x ∈ s → x < M) (h7 : ∀ x, x < M → rd u 111 x = nI (f x)) : ∀ (t p : List Nat) (N m : Nat), p ++ t = s → t.length < N → f_X2_chooseRow_43 k N (nI n) (nI bad) v4 (nI m) (nI p.length) u = if nI (t.foldl (fun m x => m ||| f x) m) = nI bad then some (1, u) else (f_X2_nextChoice (nI n) u).bind fun q6 => k (nI n) (nI bad) q6.1 (v4 + 1) q6.2 := by
  intro t
  induction t with
  | nil =>
    intro p N m h1 h2
    obtain ⟨N, rfl⟩ : ∃ M, N = M + 1 := ⟨N - 1, by omega⟩
    rw [List.append_nil] at h1
    rw [f_X2_chooseRow_43, h1, hs, ite_yle (Nat.le_refl _) (by omega)]
    rfl
  | cons x t ih =>
    intro p N m h1 h2
    rw [List.length_cons] at h2
    obtain ⟨N, rfl⟩ : ∃ M, N = M + 1 := ⟨N - 1, by omega⟩
    have hl : p.length < n := by rw [← hs, ← h1, List.length_append, List.length_cons]; omega
    have hx : x < M := h6 x (by rw [← h1]; simp)
    have gx : rd u 112 p.length = nI x := h5 p.length x (by rw [← h1, List.getElem?_append_right (Nat.le_refl _), Nat.sub_self]; rfl)
    have := ih (p ++ [x]) N (m ||| f x) (by rw [List.append_assoc]; exact h1) (by omega)
    rw [List.length_append] at this
    rw [f_X2_chooseRow_43, ite_nle hl (by omega), gd_nI (by omega) (by omega), nI_cl (by omega), gx, gd_nI (by omega) (by omega), nI_cl (by omega), h7 x hx, nI_or, nI_1]
    exact this
theorem orA_lt {f : Nat → Nat} (hf : ∀ x, f x < 2 ^ 20) (s : List Nat) : orA f s < 2 ^ 20 := by
  have : ∀ (s : List Nat) (m : Nat), m < 2 ^ 20 → s.foldl (fun m x => m ||| f x) m < 2 ^ 20 := by
    intro s
    induction s with
    | nil => intro m h; exact h
    | cons x s ih => intro m h; exact ih _ (Nat.or_lt_two_pow h (hf x))
  exact this s 0 (by decide)
/-- cells 87 and 112 aside, nothing changes -/
theorem loop25 {n : Nat} (hn : n ≤ 4) {f : Nat → Nat} {M bad : Nat} (hnM : n ≤ M) (hM : M ≤ 24) (hf : ∀ x, f x < 2 ^ 20) (hbad : bad < 2 ^ 20) : ∀ (l : List (List Nat)) (s : List Nat) (N turn : Nat) (u : xS), l.length + 1 < N → turn + (l.length + 1) ≤ 10626 → CH (nxc M) (s :: l) none → (∀ s', s' ∈ s :: l → s'.length = n ∧ ∀ x, x ∈ s' → x < M) → stC s u → rd u 87 5 = nI M → (∀ x, x < M → rd u 111 x = nI (f x)) →
    ∃ r u', f_X2_chooseRow_25 N (nI n) (nI bad) 1 (nI turn) u = some (r, u') ∧ (∀ c i, ¬ c = 112 → rd u' c i = rd u c i) ∧ ((r = 0 ∧ (s :: l).find? (fun s => decide (orA f s = bad)) = none) ∨ ∃ s', r = 1 ∧ (s :: l).find? (fun s => decide (orA f s = bad)) = some s' ∧ stC s' u') := by
  intro l
  induction l with
  | nil =>
    intro s N turn u h1 h2 h3 h4 h5 h6 h7
    obtain ⟨N, rfl⟩ : ∃ M, N = M + 1 + 1 := ⟨N - 2, by simp at h1; omega⟩
    simp only [List.length_nil] at h2
    obtain ⟨h8, h9⟩ := h4 s List.mem_cons_self
    have h10 := or43 (bad := bad) hn hM (v4 := nI turn) (k := f_X2_chooseRow_25 (N + 1)) h8 h5 h9 h7 s [] xN 0 rfl (xN_lt (by omega))
    rw [f_X2_chooseRow_25, if_neg (by decide), show (10626 : Int32) = nI 10626 from rfl, ite_nle (by omega) (by omega)]
    rw [List.length_nil, nI_zero] at h10
    rw [h10]
    by_cases c : orA f s = bad
    · have e : nI (List.foldl (fun m x => m ||| f x) 0 s) = nI bad := by rw [← c]; rfl
      rw [if_pos e]
      exact ⟨1, u, rfl, fun _ _ _ => rfl, Or.inr ⟨s, rfl, by rw [List.find?_cons, decide_eq_true c], h5⟩⟩
    · have e : ¬ nI (List.foldl (fun m x => m ||| f x) 0 s) = nI bad := fun z => c (nI_inj (Nat.lt_trans (orA_lt hf s) (by decide)) (Nat.lt_trans hbad (by decide)) z)
      rw [if_neg e]
      obtain ⟨r, u1, z1, z2, z3⟩ := nextC hn hnM hM h8 h5 h9 h6
      rcases z3 with ⟨z3, z4⟩ | ⟨s', z3, z4, z5⟩
      · refine ⟨0, u1, ?_, z2, Or.inl ⟨rfl, by rw [List.find?_cons, decide_eq_false c]; rfl⟩⟩
        rw [z1, Option.bind_some]
        dsimp only
        rw [z3, f_X2_chooseRow_25, if_pos rfl]
      · rw [show nxc M s = none from h3.1] at z4
        cases z4
  | cons s2 l ih =>
    intro s N turn u h1 h2 h3 h4 h5 h6 h7
    rw [List.length_cons] at h1 h2
    obtain ⟨N, rfl⟩ : ∃ M, N = M + 1 := ⟨N - 1, by omega⟩
    obtain ⟨h8, h9⟩ := h4 s List.mem_cons_self
    have h10 := or43 (bad := bad) hn hM (v4 := nI turn) (k := f_X2_chooseRow_25 N) h8 h5 h9 h7 s [] xN 0 rfl (xN_lt (by omega))
    rw [f_X2_chooseRow_25, if_neg (by decide), show (10626 : Int32) = nI 10626 from rfl, ite_nle (by omega) (by omega)]
    rw [List.length_nil, nI_zero] at h10
    rw [h10]
    by_cases c : orA f s = bad
    · have e : nI (List.foldl (fun m x => m ||| f x) 0 s) = nI bad := by rw [← c]; rfl
      rw [if_pos e]
      exact ⟨1, u, rfl, fun _ _ _ => rfl, Or.inr ⟨s, rfl, by rw [List.find?_cons, decide_eq_true c], h5⟩⟩
    · have e : ¬ nI (List.foldl (fun m x => m ||| f x) 0 s) = nI bad := fun z => c (nI_inj (Nat.lt_trans (orA_lt hf s) (by decide)) (Nat.lt_trans hbad (by decide)) z)
      rw [if_neg e]
      obtain ⟨r, u1, z1, z2, z3⟩ := nextC hn hnM hM h8 h5 h9 h6
      have hnx : nxc M s = some s2 := h3.1
      rcases z3 with ⟨z3, z4⟩ | ⟨s', z3, z4, z5⟩
      · rw [hnx] at z4
        cases z4
      · rw [hnx] at z4
        cases z4
        obtain ⟨r, u2, y1, y2, y3⟩ := ih s2 N (turn + 1) u1 (by omega) (by omega) h3.2 (fun s' hs' => h4 s' (List.mem_cons_of_mem _ hs')) z5 ((z2 _ _ (by decide)).trans h6) (fun x hx => (z2 _ _ (by decide)).trans (h7 x hx))
        refine ⟨r, u2, ?_, fun c i hc => (y2 c i hc).trans (z2 c i hc), ?_⟩
        · rw [z1, Option.bind_some]
          dsimp only
          rw [z3, nI_1]
          exact y1
        · rw [List.find?_cons, decide_eq_false c]
          exact y3
theorem set2 {n : Nat} (hn : n ≤ 4) {bad : Int32} : ∀ (N i : Nat) (u : xS), n < N + i → i ≤ n → (∀ j, j < i → rd u 112 j = nI j) → ∃ u', f_X2_chooseRow_2 N (nI n) bad (nI i) u = f_X2_chooseRow_25 xN (nI n) bad 1 0 u' ∧ (∀ j, j < n → rd u' 112 j = nI j) ∧ ∀ c i, ¬ c = 112 → rd u' c i = rd u c i := by
  intro N
  induction N with
  | zero => intro i u h1 h2; omega
  | succ N ih =>
    intro i u h1 h2 h3
    by_cases hi : i = n
    · subst hi
      refine ⟨u, ?_, h3, fun _ _ _ => rfl⟩
      rw [f_X2_chooseRow_2, ite_yle (Nat.le_refl _) (by omega)]
    · obtain ⟨u', z1, z2, z3⟩ := ih (i + 1) (wr u 112 i (nI i)) (by omega) (by omega) (fun j hj => by
        by_cases e : j = i
        · rw [e, rd_wr, if_pos rfl, if_pos rfl]
        · rw [rd_wr_ne (by omega)]
          exact h3 j (by omega))
      refine ⟨u', ?_, z2, fun c i hc => (z3 c i hc).trans (rd_wr_ne (fun z => hc z.1))⟩
      rw [f_X2_chooseRow_2, ite_nle (by omega) (by omega), gd_nI (by omega) (by omega), nI_cl (by omega), nI_1]
      exact z1
theorem rowC {n : Nat} (hn : n ≤ 4) {f : Nat → Nat} {M bad : Nat} (hnM : n ≤ M) (hM : M ≤ 24) (hf : ∀ x, f x < 2 ^ 20) (hbad : bad < 2 ^ 20) {u : xS} (h6 : rd u 87 5 = nI M) (h7 : ∀ x, x < M → rd u 111 x = nI (f x)) :
    ∃ r u', f_X2_chooseRow (nI n) (nI bad) u = some (r, u') ∧ (∀ c i, ¬ c = 112 → rd u' c i = rd u c i) ∧ ((r = 0 ∧ (cb M n 0).find? (fun s => decide (orA f s = bad)) = none) ∨ ∃ s', r = 1 ∧ (cb M n 0).find? (fun s => decide (orA f s = bad)) = some s' ∧ stC s' u') := by
  obtain ⟨u1, z1, z2, z3⟩ := set2 hn (bad := nI bad) xN 0 u (xN_lt (by omega)) (Nat.zero_le _) (fun j hj => by omega)
  rw [nI_zero] at z1
  have hh := cb_head M n 0
  rw [if_pos hnM] at hh
  have hc := cb_CH M n 0
  rw [Nat.zero_add] at hc
  have hm := cb_many M hM n hn
  have hl := cb_len M n 0
  have hr := cb_rng M n 0
  generalize cb M n 0 = l at hh hc hm hl hr ⊢
  match l, hh, hc, hm, hl, hr with
  | s :: l, hh, hc, hm, hl, hr =>
  have hs : s = asc 0 n := by
    rw [List.head?_cons] at hh
    cases hh
    rfl
  rw [List.length_cons] at hm
  obtain ⟨r, u2, y1, y2, y3⟩ := loop25 hn hnM hM hf hbad l s xN 0 u1 (xN_lt (by omega)) (by omega) hc (fun s' hs' => ⟨hl s' hs', fun x hx => by
    have := (hr s' hs' x hx).2
    omega⟩) (fun i x hi => by
    rw [hs] at hi
    have hi2 : i < n := by
      have := (List.getElem?_eq_some_iff.mp hi).1
      rwa [asc_len] at this
    rw [asc_get _ _ _ hi2] at hi
    cases hi
    rw [z2 i hi2, Nat.zero_add]) ((z3 _ _ (by decide)).trans h6) (fun x hx => (z3 _ _ (by decide)).trans (h7 x hx))
  refine ⟨r, u2, ?_, fun c i hc => (y2 c i hc).trans (z3 c i hc), y3⟩
  rw [f_X2_chooseRow, z1]
  exact y1
