/-! SHARE: the reference finds the greatest -/
def rmN (u : xS) (l : Nat) : Nat := nv (rd u 173 l)
def FE (u : xS) (e : Nat → Nat) : Prop := (∀ i, i < nQ u → e i < 4 → kG u (e i) i = true) ∧ ∀ l, l < 4 → cnt e l (nQ u) ≤ rmN u l
def agr (e a : Nat → Nat) (i : Nat) : Prop := ∀ j, j < i → e j = a j
theorem vv_agr {u : xS} {e a : Nat → Nat} {Q : Nat} (h : agr e a Q) : vv u e Q = vv u a Q := by
  have h1 : smN u e Q = smN u a Q := nsum_congr fun j hj => by rw [h j hj]
  have h2 : digs e Q = digs a Q := nsum_congr fun j hj => by rw [h j hj]
  unfold vv
  rw [h1, h2]
theorem sm_agr {u : xS} {e a : Nat → Nat} {n : Nat} (h : agr e a n) : smN u e n = smN u a n := nsum_congr fun j hj => by rw [h j hj]
theorem cnt_agr {e a : Nat → Nat} {n l : Nat} (h : agr e a n) : cnt e l n = cnt a l n := nsum_congr fun j hj => by rw [h j hj]
def SP (u : xS) (i : Nat) (a : Nat → Nat) (b : Option (Nat → Nat)) (r : Option xS) : Prop := ∃ u'' b', r = some u'' ∧ sh u a i u'' ∧ bst u (nQ u) (some b') u'' ∧ (b = some b' ∨ (agr b' a i ∧ FE u b')) ∧ (∀ e, agr e a i → FE u e → vv u e (nQ u) ≤ vv u b' (nQ u)) ∧ (∀ old, b = some old → vv u old (nQ u) ≤ vv u b' (nQ u))
def PR (u : xS) (i : Nat) (a : Nat → Nat) (b : Option (Nat → Nat)) (u' : xS) : Prop := sh u a i u' ∧ bst u (nQ u) b u' ∧ (∀ old, b = some old → ∀ e, agr e a i → digs e (nQ u) < digs old (nQ u)) ∧ (∀ j, j < i → a j < 4 → kG u (a j) j = true) ∧ (∀ l, l < 4 → cnt a l i ≤ rmN u l)
theorem leaf12 {u : xS} (hA : i_A u) {a : Nat → Nat} {b : Option (Nat → Nat)} {u' : xS} {k : Int32 → Int32 → xS → Option xS} (h : PR u (nQ u) a b u') : SP u (nQ u) a b (f_X12_shares k (nI (nQ u)) (nI (smN u a (nQ u))) u') := by
  obtain ⟨h1, h2, h3, h4, h5⟩ := h
  have hQ : nQ u ≤ 8 := hA.2.2.1
  have e54 : rd u' 135 54 = nI (nQ u) := (h1.1 135 54 (by decide) (by decide) (by decide) (by decide)).trans hA.2.1
  have hs := smN_le hA a (nQ u) (Nat.le_refl _) h4
  have fe : FE u a := ⟨h4, h5⟩
  have save : ¬ nI (smN u a (nQ u)) ≤ rd u' 135 62 → (∀ old, b = some old → vv u old (nQ u) ≤ vv u a (nQ u)) → SP u (nQ u) a b (f_X12_shares k (nI (nQ u)) (nI (smN u a (nQ u))) u') := by
    intro hn ho
    obtain ⟨u'', z1, z2, z3⟩ := copy23 (k := k) (a := a) hQ xN 0 (wr u' 135 62 (nI (smN u a (nQ u)))) (xN_lt (by omega)) (Nat.zero_le _) e54 h1.2.1 (fun j hj => by omega)
    refine ⟨u'', a, ?_, ⟨fun c j q1 q2 q3 q4 => (z3 c j q2).trans ((rd_wr_ne q4).trans (h1.1 c j q1 q2 q3 q4)), fun j hj => (z3 178 j (by decide)).trans (h1.2.1 j hj), fun l hl => (z3 180 l (by decide)).trans (h1.2.2 l hl)⟩, ⟨(z3 135 62 (by decide)).trans rfl, z2, by omega⟩, Or.inr ⟨fun j hj => rfl, fe⟩, fun e he _ => Nat.le_of_eq (vv_agr he), ho⟩
    rw [f_X12_shares, e54, if_pos rfl, if_neg hn]
    exact z1
  cases b with
  | none =>
    refine save ?_ (fun old ho => by cases ho)
    rw [show rd u' 135 62 = -1 from h2]
    intro z
    exact absurd (Int32.le_trans (nI_lo (by omega)) z) (by decide)
  | some old =>
    obtain ⟨q1, q2, q3⟩ := h2
    have hd := h3 old rfl a (fun j hj => rfl)
    by_cases c : smN u a (nQ u) ≤ smN u old (nQ u)
    · refine ⟨u', old, ?_, h1, ⟨q1, q2, q3⟩, Or.inl rfl, fun e he _ => ?_, fun o ho => by cases ho; exact Nat.le_refl _⟩
      · rw [f_X12_shares, e54, if_pos rfl, q1, if_pos (nI_le c q3)]
      · rw [vv_agr he]
        unfold vv
        omega
    · refine save ?_ (fun o ho => ?_)
      · rw [q1]
        exact nI_ge (by omega) (by omega)
      · cases ho
        have := digs_lt8 (a := old) hQ
        unfold vv
        omega
