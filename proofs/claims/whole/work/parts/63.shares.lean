/-! SHARE: the reference's ways -/
def cd (x : Nat) : Int32 := if x < 4 then nI x else -1
def kG (u : xS) (l i : Nat) : Bool := decide (¬ gv u l i < 0)
def gN (u : xS) (l i : Nat) : Nat := nv (gv u l i)
def cnt (a : Nat → Nat) (l n : Nat) : Nat := nsum (fun j => if a j = l then 1 else 0) n
def smN (u : xS) (a : Nat → Nat) (n : Nat) : Nat := nsum (fun j => if a j < 4 then gN u (a j) j else 0) n
def vv (u : xS) (a : Nat → Nat) (Q : Nat) : Nat := smN u a Q * 390625 + digs a Q
theorem gv_N {u : xS} (hA : i_A u) {l i : Nat} (hl : l < 4) (hi : i < nQ u) (h : kG u l i = true) : gv u l i = nI (gN u l i) ∧ gN u l i ≤ 19980000 := by
  obtain ⟨-, -, -, q4, q5⟩ := hA
  obtain ⟨-, -, -, -, s, p, o, q, hs, hp, ho, hq, -, z1, z2, z3, z4⟩ := q5 i hi
  obtain ⟨-, w1⟩ := (q4 l hl).2.2.2 s hs
  obtain ⟨-, w2⟩ := (q4 l hl).2.2.2 o ho
  have hk := of_decide_eq_true h
  have e : ∃ n, n ≤ 19980000 ∧ gv u l i = nI n := by
    unfold gv at hk ⊢
    rw [z1, z2, z3, z4, nv_nI (by omega), nv_nI (by omega)] at hk ⊢
    rcases w1 with w1 | ⟨v1, hv1, w1⟩
    · rw [w1, if_pos (Or.inl (by decide))] at hk
      exact absurd (by decide) hk
    · rcases w2 with w2 | ⟨v2, hv2, w2⟩
      · rw [w2, if_pos (Or.inr (by decide))] at hk
        exact absurd (by decide) hk
      · rw [w1, w2, if_neg (fun z => z.elim (nI_pos (by omega)) (nI_pos (by omega))), pk_mul, pk_mul, nI_add]
        refine ⟨v1 * p + v2 * q, ?_, rfl⟩
        have h1 : v1 * p ≤ 999 * 9999 := Nat.mul_le_mul hv1 hp
        have h2 : v2 * q ≤ 999 * 9999 := Nat.mul_le_mul hv2 hq
        omega
  obtain ⟨n, hn, e⟩ := e
  unfold gN
  rw [e, nv_nI (by omega)]
  exact ⟨rfl, hn⟩
theorem smN_le {u : xS} (hA : i_A u) (a : Nat → Nat) : ∀ n, n ≤ nQ u → (∀ j, j < n → a j < 4 → kG u (a j) j = true) → smN u a n ≤ 19980000 * n := by
  intro n
  induction n with
  | zero => intro _ _; exact Nat.le_refl _
  | succ n ih =>
    intro h1 h2
    have := ih (by omega) fun j hj => h2 j (by omega)
    show smN u a n + (if a n < 4 then gN u (a n) n else 0) ≤ _
    by_cases c : a n < 4
    · rw [if_pos c]
      have := (gv_N hA (i := n) c (by omega) (h2 n (by omega) c)).2
      omega
    · rw [if_neg c]; omega
theorem given_fr {u u' : xS} (h : ∀ c j, ¬ c = 178 → ¬ c = 179 → ¬ c = 180 → ¬ (c = 135 ∧ j = 62) → rd u' c j = rd u c j) (x y : Int32) : f_X12_given u' x y = f_X12_given u x y := by
  have q : ∀ c j, ¬ c = 178 → ¬ c = 179 → ¬ c = 180 → ¬ c = 135 → rd u' c j = rd u c j := fun c j h1 h2 h3 h4 => h c j h1 h2 h3 (fun z => h4 z.1)
  have q0 : ∀ j, rd u' 172 j = rd u 172 j := fun j => q 172 j (by decide) (by decide) (by decide) (by decide)
  have q1 : ∀ j, rd u' 174 j = rd u 174 j := fun j => q 174 j (by decide) (by decide) (by decide) (by decide)
  have q2 : ∀ j, rd u' 175 j = rd u 175 j := fun j => q 175 j (by decide) (by decide) (by decide) (by decide)
  have q3 : ∀ j, rd u' 176 j = rd u 176 j := fun j => q 176 j (by decide) (by decide) (by decide) (by decide)
  have q4 : ∀ j, rd u' 177 j = rd u 177 j := fun j => q 177 j (by decide) (by decide) (by decide) (by decide)
  rw [f_X12_given, f_X12_given]
  unfold f_X12_given_44
  simp only [q0, q1, q2, q3, q4]
/-- the state of the search: a is chosen below i -/
def sh (u : xS) (a : Nat → Nat) (i : Nat) (u' : xS) : Prop := (∀ c j, ¬ c = 178 → ¬ c = 179 → ¬ c = 180 → ¬ (c = 135 ∧ j = 62) → rd u' c j = rd u c j) ∧ (∀ j, j < i → rd u' 178 j = cd (a j)) ∧ (∀ l, l < 4 → rd u' 180 l = nI (cnt a l i))
def bst (u : xS) (Q : Nat) (b : Option (Nat → Nat)) (u' : xS) : Prop := match b with
  | none => rd u' 135 62 = -1
  | some b => rd u' 135 62 = nI (smN u b Q) ∧ (∀ j, j < Q → rd u' 179 j = cd (b j)) ∧ smN u b Q < 2147483648
theorem copy23 {k : Int32 → Int32 → xS → Option xS} {Q : Nat} {a : Nat → Nat} (hQ : Q ≤ 8) : ∀ (N i : Nat) (u : xS), Q < N + i → i ≤ Q → rd u 135 54 = nI Q → (∀ j, j < Q → rd u 178 j = cd (a j)) → (∀ j, j < i → rd u 179 j = cd (a j)) → ∃ u', f_X12_shares_23 k N (nI i) u = some u' ∧ (∀ j, j < Q → rd u' 179 j = cd (a j)) ∧ ∀ c j, ¬ c = 179 → rd u' c j = rd u c j := by
  intro N
  induction N with
  | zero => intro i u h1 h2; omega
  | succ N ih =>
    intro i u h1 h2 h3 h4 h5
    by_cases hi : i = Q
    · subst hi
      refine ⟨u, ?_, h5, fun _ _ _ => rfl⟩
      rw [f_X12_shares_23, h3, ite_yle (Nat.le_refl _) (by omega)]
    · obtain ⟨u', z1, z2, z3⟩ := ih (i + 1) (wr u 179 i (cd (a i))) (by omega) (by omega) h3 (fun j hj => (rd_wr_ne (by omega)).trans (h4 j hj)) (fun j hj => by
        by_cases e : j = i
        · rw [e, rd_wr, if_pos rfl, if_pos rfl]
        · rw [rd_wr_ne (by omega)]
          exact h5 j (by omega))
      refine ⟨u', ?_, z2, fun c j hc => (z3 c j hc).trans (rd_wr_ne (fun z => hc z.1))⟩
      rw [f_X12_shares_23, h3, ite_nle (by omega) (by omega), gd_nI (by omega) (by omega), nI_cl (by omega), h4 i (by omega), nI_1]
      exact z1
