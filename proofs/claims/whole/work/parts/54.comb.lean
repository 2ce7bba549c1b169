/-! CHOICES IN THEIR ORDER -/
/-- every one is followed by the next, the last one by e -/
def CH {α : Type} (nx : α → Option α) : List α → Option α → Prop
  | [], _ => True
  | s :: r, e => nx s = r.head?.or e ∧ CH nx r e
theorem CH_app {α : Type} {nx : α → Option α} {l2 : List α} {e : Option α} : ∀ {l1 : List α}, CH nx l1 (l2.head?.or e) → CH nx l2 e → CH nx (l1 ++ l2) e
  | [], _, h2 => h2
  | s :: r, h1, h2 => by
    refine ⟨?_, CH_app h1.2 h2⟩
    rw [h1.1]
    cases r with
    | nil => rfl
    | cons a r => rfl
def asc (a : Nat) : Nat → List Nat
  | 0 => []
  | n + 1 => a :: asc (a + 1) n
theorem asc_len : ∀ n a, (asc a n).length = n := by
  intro n
  induction n with
  | zero => intro a; rfl
  | succ n ih => intro a; rw [asc, List.length_cons, ih]
theorem asc_get : ∀ n a i, i < n → (asc a n)[i]? = some (a + i) := by
  intro n
  induction n with
  | zero => intro a i h; omega
  | succ n ih =>
    intro a i h
    cases i with
    | zero => rfl
    | succ i =>
      rw [asc, List.getElem?_cons_succ, ih (a + 1) i (by omega)]
      congr 1
      omega
/-- n of those from a on, d of them -/
def cb : Nat → Nat → Nat → List (List Nat)
  | _, 0, _ => [[]]
  | 0, _ + 1, _ => []
  | d + 1, n + 1, a => (cb d n (a + 1)).map (a :: ·) ++ cb d (n + 1) (a + 1)
theorem cb_0 (d a : Nat) : cb d 0 a = [[]] := by cases d <;> rfl
theorem cb_head : ∀ d n a, (cb d n a).head? = if n ≤ d then some (asc a n) else none := by
  intro d
  induction d with
  | zero =>
    intro n a
    cases n with
    | zero => rfl
    | succ n => rfl
  | succ d ih =>
    intro n a
    cases n with
    | zero => rfl
    | succ n =>
      rw [cb, List.head?_append, List.head?_map, ih n (a + 1), ih (n + 1) (a + 1)]
      by_cases c : n ≤ d
      · rw [if_pos c, if_pos (show n + 1 ≤ d + 1 by omega)]
        rfl
      · rw [if_neg c, if_neg (show ¬ n + 1 ≤ d by omega), if_neg (show ¬ n + 1 ≤ d + 1 by omega)]
        rfl
/-- the next choice -/
def nxc (M : Nat) : List Nat → Option (List Nat)
  | [] => none
  | x :: t => match nxc M t with
    | some t' => some (x :: t')
    | none => if x + (t.length + 1) < M then some (asc (x + 1) (t.length + 1)) else none
theorem cb_len : ∀ d n a s, s ∈ cb d n a → s.length = n := by
  intro d
  induction d with
  | zero =>
    intro n a s h
    cases n with
    | zero => simp [cb] at h; rw [h]; rfl
    | succ n => simp [cb] at h
  | succ d ih =>
    intro n a s h
    cases n with
    | zero => simp [cb] at h; rw [h]; rfl
    | succ n =>
      rw [cb, List.mem_append] at h
      rcases h with h | h
      · obtain ⟨t, ht, rfl⟩ := List.mem_map.mp h
        rw [List.length_cons, ih _ _ _ ht]
      · exact ih _ _ _ h
theorem cb_rng : ∀ d n a s, s ∈ cb d n a → ∀ x, x ∈ s → a ≤ x ∧ x < a + d := by
  intro d
  induction d with
  | zero =>
    intro n a s h x hx
    cases n with
    | zero => simp [cb] at h; rw [h] at hx; cases hx
    | succ n => simp [cb] at h
  | succ d ih =>
    intro n a s h x hx
    cases n with
    | zero => simp [cb] at h; rw [h] at hx; cases hx
    | succ n =>
      rw [cb, List.mem_append] at h
      rcases h with h | h
      · obtain ⟨t, ht, rfl⟩ := List.mem_map.mp h
        rcases List.mem_cons.mp hx with hx | hx
        · omega
        · have := ih _ _ _ ht x hx
          omega
      · have := ih _ _ _ h x hx
        omega
theorem CH_map {M a n : Nat} {e : Option (List Nat)} (he : (if a + (n + 1) < M then some (asc (a + 1) (n + 1)) else none) = e) : ∀ l : List (List Nat), (∀ s, s ∈ l → s.length = n) → CH (nxc M) l none → CH (nxc M) (l.map (a :: ·)) e := by
  intro l
  induction l with
  | nil => intro _ _; trivial
  | cons s r ih =>
    intro h1 h2
    have hs := h1 s List.mem_cons_self
    refine ⟨?_, ih (fun t ht => h1 t (List.mem_cons_of_mem _ ht)) h2.2⟩
    have h3 := h2.1
    rw [nxc, hs]
    cases r with
    | nil =>
      rw [show nxc M s = none from h3]
      exact he
    | cons t r =>
      rw [show nxc M s = some t from h3]
      rfl
theorem cb_CH : ∀ d n a, CH (nxc (a + d)) (cb d n a) none := by
  intro d
  induction d with
  | zero =>
    intro n a
    cases n with
    | zero => exact ⟨rfl, trivial⟩
    | succ n => trivial
  | succ d ih =>
    intro n a
    cases n with
    | zero => exact ⟨rfl, trivial⟩
    | succ n =>
      rw [cb]
      have e : a + (d + 1) = a + 1 + d := by omega
      refine CH_app (CH_map (n := n) ?_ _ (fun s hs => cb_len _ _ _ _ hs) (by rw [e]; exact ih n (a + 1))) (by rw [e]; exact ih (n + 1) (a + 1))
      rw [cb_head]
      by_cases c : n + 1 ≤ d
      · rw [if_pos c, if_pos (by omega)]
        rfl
      · rw [if_neg c, if_neg (by omega)]
        rfl
theorem cb_many : ∀ d, d ≤ 24 → ∀ n, n ≤ 4 → (cb d n 0).length ≤ 10626 := by
  have h : ∀ d n a b, (cb d n a).length = (cb d n b).length := by
    intro d
    induction d with
    | zero => intro n a b; cases n <;> rfl
    | succ d ih =>
      intro n a b
      cases n with
      | zero => rfl
      | succ n => rw [cb, cb, List.length_append, List.length_append, List.length_map, List.length_map, ih n (a + 1) (b + 1), ih (n + 1) (a + 1) (b + 1)]
  have g : ∀ d n, (cb (d + 1) (n + 1) 0).length = (cb d n 0).length + (cb d (n + 1) 0).length := fun d n => by
    rw [cb, List.length_append, List.length_map, h d n 1 0, h d (n + 1) 1 0]
  have i0 : ∀ d n, (cb d n 0).length ≤ (cb (d + 1) n 0).length := by
    intro d n
    cases n with
    | zero => rw [cb_0, cb_0]; exact Nat.le_refl _
    | succ n => rw [g]; omega
  have mono : ∀ k d n, (cb d n 0).length ≤ (cb (d + k) n 0).length := by
    intro k
    induction k with
    | zero => intro d n; exact Nat.le_refl _
    | succ k ih => intro d n; exact Nat.le_trans (ih d n) (by rw [← Nat.add_assoc]; exact i0 _ _)
  intro d hd n hn
  have c24 : ∀ n, n ≤ 4 → (cb 24 n 0).length ≤ 10626 := by
    have t : ∀ d, (cb d 0 0).length = 1 := fun d => by rw [cb_0]; rfl
    let f : Nat → Nat × Nat × Nat × Nat × Nat := fun d => it (fun _ p => (p.1, p.2.1 + p.1, p.2.2.1 + p.2.1, p.2.2.2.1 + p.2.2.1, p.2.2.2.2 + p.2.2.2.1)) (1, 0, 0, 0, 0) d
    have hf : ∀ d, ((cb d 0 0).length, (cb d 1 0).length, (cb d 2 0).length, (cb d 3 0).length, (cb d 4 0).length) = f d := by
      intro d
      induction d with
      | zero => rfl
      | succ d ih =>
        have e : f (d + 1) = ((f d).1, (f d).2.1 + (f d).1, (f d).2.2.1 + (f d).2.1, (f d).2.2.2.1 + (f d).2.2.1, (f d).2.2.2.2 + (f d).2.2.2.1) := rfl
        have g0 : (cb (d + 1) 0 0).length = (cb d 0 0).length := by rw [cb_0, cb_0]
        have g1 : (cb (d + 1) 1 0).length = (cb d 1 0).length + (cb d 0 0).length := (g d 0).trans (Nat.add_comm _ _)
        have g2 : (cb (d + 1) 2 0).length = (cb d 2 0).length + (cb d 1 0).length := (g d 1).trans (Nat.add_comm _ _)
        have g3 : (cb (d + 1) 3 0).length = (cb d 3 0).length + (cb d 2 0).length := (g d 2).trans (Nat.add_comm _ _)
        have g4 : (cb (d + 1) 4 0).length = (cb d 4 0).length + (cb d 3 0).length := (g d 3).trans (Nat.add_comm _ _)
        rw [e, ← ih, g0, g1, g2, g3, g4]
    have h24 : f 24 = (1, 24, 276, 2024, 10626) := by decide +kernel
    have q := (hf 24).trans h24
    injection q with q0 q
    injection q with q1 q
    injection q with q2 q
    injection q with q3 q4
    intro n hn
    match n, hn with
    | 0, _ => rw [q0]; decide
    | 1, _ => rw [q1]; decide
    | 2, _ => rw [q2]; decide
    | 3, _ => rw [q3]; decide
    | 4, _ => rw [q4]; exact Nat.le_refl _
  refine Nat.le_trans (mono (24 - d) d n) ?_
  rw [show d + (24 - d) = 24 by omega]
  exact c24 n hn
/-! sublists of so many -/
def cbL {α : Type} : List α → Nat → List (List α)
  | _, 0 => [[]]
  | [], _ + 1 => []
  | x :: L, n + 1 => (cbL L n).map (x :: ·) ++ cbL L (n + 1)
theorem cbL_0 {α : Type} (L : List α) : cbL L 0 = [[]] := by cases L <;> rfl
theorem cbL_mem {α : Type} {s : List α} : ∀ {L : List α} {n : Nat}, s ∈ cbL L n ↔ List.Sublist s L ∧ s.length = n := by
  intro L
  induction L generalizing s with
  | nil =>
    intro n
    cases n with
    | zero =>
      rw [cbL_0]
      constructor
      · intro h
        rw [List.mem_singleton.mp h]
        exact ⟨List.Sublist.slnil, rfl⟩
      · intro h
        rw [List.length_eq_zero_iff.mp h.2]
        exact List.mem_singleton.mpr rfl
    | succ n =>
      constructor
      · intro h; cases h
      · intro h
        have := h.1.length_le
        rw [h.2] at this
        simp at this
  | cons x L ih =>
    intro n
    cases n with
    | zero =>
      rw [cbL_0]
      constructor
      · intro h
        rw [List.mem_singleton.mp h]
        exact ⟨List.nil_sublist _, rfl⟩
      · intro h
        rw [List.length_eq_zero_iff.mp h.2]
        exact List.mem_singleton.mpr rfl
    | succ n =>
      rw [cbL, List.mem_append]
      constructor
      · intro h
        rcases h with h | h
        · obtain ⟨t, ht, rfl⟩ := List.mem_map.mp h
          obtain ⟨h1, h2⟩ := ih.mp ht
          exact ⟨h1.cons_cons x, by rw [List.length_cons, h2]⟩
        · obtain ⟨h1, h2⟩ := ih.mp h
          exact ⟨h1.cons x, h2⟩
      · rintro ⟨h1, h2⟩
        cases h1 with
        | cons _ h1 => exact Or.inr (ih.mpr ⟨h1, h2⟩)
        | cons_cons _ h1 =>
          refine Or.inl (List.mem_map.mpr ⟨_, ih.mpr ⟨h1, ?_⟩, rfl⟩)
          rw [List.length_cons] at h2
          omega
theorem cbL_filter {α : Type} (f : α → Bool) : ∀ (L : List α) (n : Nat), cbL (L.filter f) n = (cbL L n).filter (fun s => s.all f) := by
  intro L
  induction L with
  | nil => intro n; cases n <;> rfl
  | cons x L ih =>
    intro n
    cases n with
    | zero => rw [cbL_0, cbL_0]; rfl
    | succ n =>
      rw [cbL, List.filter_append, ← ih (n + 1), List.filter_map]
      by_cases hx : f x = true
      · rw [List.filter_cons_of_pos hx, cbL, ih n]
        congr 2
        refine List.filter_congr fun s _ => ?_
        simp [hx]
      · rw [List.filter_cons_of_neg hx]
        have : (cbL L n).filter ((fun s => s.all f) ∘ (x :: ·)) = [] := by
          refine List.filter_eq_nil_iff.mpr fun s _ => ?_
          simp [hx]
        rw [this]
        rfl
/-- indices and what they stand for -/
theorem cbL_ix {α : Type} (g : Nat → α) : ∀ (d n a : Nat), cbL ((asc a d).map g) n = (cb d n a).map (List.map g) := by
  intro d
  induction d with
  | zero => intro n a; cases n <;> rfl
  | succ d ih =>
    intro n a
    cases n with
    | zero => rw [cbL_0, cb_0]; rfl
    | succ n =>
      rw [asc, List.map_cons, cbL, cb, ih n, ih (n + 1), List.map_append, List.map_map, List.map_map]
      rfl
theorem find_filter {α : Type} {P g : α → Bool} : ∀ l : List α, (∀ s, s ∈ l → P s = true → g s = true) → (l.filter g).find? P = l.find? P := by
  intro l
  induction l with
  | nil => intro _; rfl
  | cons s l ih =>
    intro h
    have h2 := ih fun t ht => h t (List.mem_cons_of_mem _ ht)
    by_cases hg : g s = true
    · rw [List.filter_cons_of_pos hg, List.find?_cons, List.find?_cons, h2]
    · have hP : P s = false := by
        cases hq : P s with
        | false => rfl
        | true => exact absurd (h s List.mem_cons_self hq) hg
      rw [List.filter_cons_of_neg hg, h2, List.find?_cons, hP]
