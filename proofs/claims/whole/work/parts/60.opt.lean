/-! SHARE: the greatest of all ways -/
theorem nsum_add (f g : Nat → Nat) (n : Nat) : nsum (fun i => f i + g i) n = nsum f n + nsum g n := by
  induction n with
  | zero => rfl
  | succ n ih => rw [nsum, nsum, nsum, ih]; omega
/-- a set of those below Q, as a mask -/
def msk (p : Nat → Bool) (n : Nat) : Nat := it (fun c m => if p c = true then m ||| 2 ^ c else m) 0 n
theorem msk_bit (p : Nat → Bool) (i : Nat) : ∀ n, (msk p n).testBit i = (decide (i < n) && p i) := by
  intro n
  induction n with
  | zero => simp [msk, it]
  | succ n ih =>
    show (if p n = true then msk p n ||| 2 ^ n else msk p n).testBit i = _
    by_cases c : p n = true
    · rw [if_pos c, Nat.testBit_or, ih, Nat.testBit_two_pow]
      by_cases e : n = i
      · subst e; simp [c]
      · by_cases l : i < n
        · simp [e, l, show i < n + 1 by omega]
        · simp [e, l, show ¬ i < n + 1 by omega]
    · rw [if_neg c, ih]
      by_cases e : n = i
      · subst e; simp [c]
      · by_cases l : i < n
        · simp [l, show i < n + 1 by omega]
        · simp [l, show ¬ i < n + 1 by omega]
/-- a way a gives the packs of the set m to lands below L -/
def Fea (K : Nat → Nat → Bool) (rm : Nat → Nat) (Q L : Nat) (m : Nat → Bool) (a : Nat → Nat) : Prop := (∀ i, i < Q → m i = true → a i < L → K (a i) i = true) ∧ ∀ l, l < L → nsum (fun i => if m i = true ∧ a i = l then 1 else 0) Q ≤ rm l
def Va (G : Nat → Nat → Nat) (Q L : Nat) (m : Nat → Bool) (a : Nat → Nat) : Nat := nsum (fun i => if m i = true ∧ a i < L then G (a i) i else 0) Q
/-- a land may have the set t, and what it gives for it -/
def Wo (K : Nat → Nat → Bool) (rm : Nat → Nat) (Q l : Nat) (t : Nat → Bool) : Prop := (∀ i, i < Q → t i = true → K l i = true) ∧ nsum (fun i => if t i = true then 1 else 0) Q ≤ rm l
def Wv (G : Nat → Nat → Nat) (Q l : Nat) (t : Nat → Bool) : Nat := nsum (fun i => if t i = true then G l i else 0) Q
/-- split off what the last land has -/
theorem opt_split {K : Nat → Nat → Bool} {rm : Nat → Nat} {G : Nat → Nat → Nat} {Q L : Nat} {m : Nat → Bool} {a : Nat → Nat} (h : Fea K rm Q (L + 1) m a) : Wo K rm Q L (fun i => m i && decide (a i = L)) ∧ Fea K rm Q L (fun i => m i && !decide (a i = L)) a ∧ Va G Q (L + 1) m a = Wv G Q L (fun i => m i && decide (a i = L)) + Va G Q L (fun i => m i && !decide (a i = L)) a := by
  obtain ⟨h1, h2⟩ := h
  refine ⟨⟨fun i hi ht => ?_, ?_⟩, ⟨fun i hi ht hl => ?_, fun l hl => ?_⟩, ?_⟩
  · rw [Bool.and_eq_true] at ht
    have e := of_decide_eq_true ht.2
    have := h1 i hi ht.1 (by omega)
    rwa [e] at this
  · refine Nat.le_trans (Nat.le_of_eq (nsum_congr fun i hi => ?_)) (h2 L (by omega))
    by_cases c1 : m i = true <;> by_cases c2 : a i = L <;> simp [c1, c2]
  · rw [Bool.and_eq_true] at ht
    exact h1 i hi ht.1 (by omega)
  · refine Nat.le_trans (nsum_le fun i hi => ?_) (h2 l (by omega))
    by_cases c : (m i && !decide (a i = L)) = true ∧ a i = l
    · rw [if_pos c, if_pos ⟨(Bool.and_eq_true _ _ ▸ c.1).1, c.2⟩]
      exact Nat.le_refl _
    · rw [if_neg c]
      exact Nat.zero_le _
  · unfold Va Wv
    rw [← nsum_add]
    refine nsum_congr fun i hi => ?_
    by_cases c1 : m i = true
    · by_cases c2 : a i = L
      · simp [c1, c2]
      · by_cases c3 : a i < L
        · simp [c1, c2, c3, show a i < L + 1 by omega]
        · simp [c1, c2, c3, show ¬ a i < L + 1 by omega]
    · simp [c1]
/-- and put it on again -/
theorem opt_join {K : Nat → Nat → Bool} {rm : Nat → Nat} {G : Nat → Nat → Nat} {Q L : Nat} {m t : Nat → Bool} {a : Nat → Nat} (ht : ∀ i, t i = true → m i = true) (hw : Wo K rm Q L t) (h : Fea K rm Q L (fun i => m i && !t i) a) : ∃ a', Fea K rm Q (L + 1) m a' ∧ Va G Q (L + 1) m a' = Wv G Q L t + Va G Q L (fun i => m i && !t i) a := by
  obtain ⟨h1, h2⟩ := h
  obtain ⟨w1, w2⟩ := hw
  refine ⟨fun i => if t i = true then L else if a i < L then a i else L + 1, ⟨fun i hi hm hl => ?_, fun l hl => ?_⟩, ?_⟩
  · by_cases c : t i = true
    · simp only [if_pos c]
      exact w1 i hi c
    · simp only [if_neg c] at hl ⊢
      by_cases c2 : a i < L
      · simp only [if_pos c2]
        refine h1 i hi ?_ c2
        simp [hm, c]
      · simp only [if_neg c2] at hl
        omega
  · by_cases e : l = L
    · subst e
      refine Nat.le_trans (nsum_le fun i hi => ?_) w2
      by_cases c : t i = true
      · simp only [if_pos c]
        split <;> omega
      · simp only [if_neg c]
        by_cases c2 : a i < l
        · simp only [if_pos c2]
          rw [if_neg (by omega)]
          exact Nat.le_refl _
        · simp only [if_neg c2]
          rw [if_neg (by omega)]
          exact Nat.le_refl _
    · refine Nat.le_trans (nsum_le fun i hi => ?_) (h2 l (by omega))
      by_cases c : t i = true
      · simp only [if_pos c]
        rw [if_neg (by omega)]
        exact Nat.zero_le _
      · simp only [if_neg c]
        by_cases c2 : a i < L
        · simp only [if_pos c2]
          by_cases c3 : m i = true ∧ a i = l
          · rw [if_pos c3, if_pos (by simp [c3.1, c, c3.2])]
            exact Nat.le_refl _
          · rw [if_neg c3]
            exact Nat.zero_le _
        · simp only [if_neg c2]
          rw [if_neg (by omega)]
          exact Nat.zero_le _
  · unfold Va Wv
    rw [← nsum_add]
    refine nsum_congr fun i hi => ?_
    by_cases c : t i = true
    · simp [c, ht i c]
    · by_cases c2 : a i < L
      · by_cases c1 : m i = true
        · simp [c, c2, c1, show a i < L + 1 by omega]
        · simp [c, c2, c1]
      · by_cases c1 : m i = true
        · simp [c, c2, c1]
        · simp [c, c2, c1]
/-- v is the greatest -/
def Opt (K : Nat → Nat → Bool) (rm : Nat → Nat) (G : Nat → Nat → Nat) (Q L : Nat) (m : Nat → Bool) (v : Nat) : Prop := (∃ a, Fea K rm Q L m a ∧ Va G Q L m a = v) ∧ ∀ a, Fea K rm Q L m a → Va G Q L m a ≤ v
theorem Opt_uni {K : Nat → Nat → Bool} {rm : Nat → Nat} {G : Nat → Nat → Nat} {Q L : Nat} {m : Nat → Bool} {v w : Nat} (h1 : Opt K rm G Q L m v) (h2 : Opt K rm G Q L m w) : v = w := by
  obtain ⟨⟨a, f1, e1⟩, g1⟩ := h1
  obtain ⟨⟨b, f2, e2⟩, g2⟩ := h2
  have := g1 b f2
  have := g2 a f1
  omega
theorem Opt_0 {K : Nat → Nat → Bool} {rm : Nat → Nat} {G : Nat → Nat → Nat} {Q : Nat} {m : Nat → Bool} : Opt K rm G Q 0 m 0 := by
  have z : ∀ a, Va G Q 0 m a = 0 := fun a => by
    unfold Va
    have : ∀ n, nsum (fun i => if m i = true ∧ a i < 0 then G (a i) i else 0) n = 0 := by
      intro n
      induction n with
      | zero => rfl
      | succ n ih => rw [nsum, ih]; simp
    exact this Q
  exact ⟨⟨fun _ => 0, ⟨fun i _ _ h => by omega, fun l hl => by omega⟩, z _⟩, fun a _ => by rw [z a]; exact Nat.le_refl _⟩
