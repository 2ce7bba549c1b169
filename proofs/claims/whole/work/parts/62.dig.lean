/-! SHARE: the digits of a row -/
def dg (x : Nat) : Nat := if x < 4 then 4 - x else 0
theorem dg_le (x : Nat) : dg x ≤ 4 := by
  unfold dg
  split <;> omega
def digs (a : Nat → Nat) (n : Nat) : Nat := nsum (fun j => dg (a j) * 5 ^ (7 - j)) n
theorem digs_s (a : Nat → Nat) (n : Nat) : digs a (n + 1) = digs a n + dg (a n) * 5 ^ (7 - n) := rfl
theorem digs_up (a : Nat → Nat) (i : Nat) : ∀ k, i + k ≤ 8 → digs a (i + k) + 5 ^ (8 - (i + k)) ≤ digs a i + 5 ^ (8 - i) := by
  intro k
  induction k with
  | zero => intro _; exact Nat.le_refl _
  | succ k ih =>
    intro h
    refine Nat.le_trans ?_ (ih (by omega))
    rw [← Nat.add_assoc, digs_s]
    have e1 : 8 - (i + k + 1) = 7 - (i + k) := by omega
    have e2 : 8 - (i + k) = (7 - (i + k)) + 1 := by omega
    rw [e1, e2, Nat.pow_succ]
    have h1 : dg (a (i + k)) * 5 ^ (7 - (i + k)) ≤ 4 * 5 ^ (7 - (i + k)) := Nat.mul_le_mul_right _ (dg_le _)
    omega
theorem digs_lt8 {a : Nat → Nat} {Q : Nat} (hQ : Q ≤ 8) : digs a Q < 390625 := by
  have := digs_up a 0 Q (by omega)
  rw [Nat.zero_add] at this
  have h2 : 0 < 5 ^ (8 - Q) := Nat.pow_pos (by decide)
  have h3 : digs a 0 = 0 := rfl
  have h4 : (5 : Nat) ^ (8 - 0) = 390625 := by decide
  omega
/-- the greater digit goes before -/
theorem digs_lt {b e : Nat → Nat} {i Q : Nat} (hi : i < Q) (hQ : Q ≤ 8) (h : ∀ j, j < i → e j = b j) (h2 : dg (e i) < dg (b i)) : digs e Q < digs b Q := by
  have h3 := digs_up e (i + 1) (Q - (i + 1)) (by omega)
  rw [show i + 1 + (Q - (i + 1)) = Q by omega, digs_s, show 8 - (i + 1) = 7 - i by omega] at h3
  have h4 : digs e i = digs b i := nsum_congr fun j hj => by rw [h j hj]
  have h5 : digs b (i + 1) ≤ digs b Q := nsum_mono (by omega)
  rw [digs_s] at h5
  have h6 : (dg (e i) + 1) * 5 ^ (7 - i) ≤ dg (b i) * 5 ^ (7 - i) := Nat.mul_le_mul_right _ h2
  rw [Nat.add_mul, Nat.one_mul] at h6
  have h7 : 0 < 5 ^ (8 - Q) := Nat.pow_pos (by decide)
  omega
theorem digs_mul (a : Nat → Nat) : ∀ n, n ≤ 8 → ∃ k, digs a n = 5 ^ (8 - n) * k := by
  intro n
  induction n with
  | zero => intro _; exact ⟨0, rfl⟩
  | succ n ih =>
    intro h
    obtain ⟨k, e⟩ := ih (by omega)
    refine ⟨5 * k + dg (a n), ?_⟩
    rw [digs_s, e, show 8 - n = (7 - n) + 1 by omega, show 8 - (n + 1) = 7 - n by omega, Nat.pow_succ, Nat.mul_add, Nat.mul_assoc, Nat.mul_comm (dg (a n))]
/-- a digit read back -/
theorem digs_get {a : Nat → Nat} {j Q : Nat} (hj : j < Q) (hQ : Q ≤ 8) : digs a Q / 5 ^ (7 - j) % 5 = dg (a j) := by
  have h3 := digs_up a (j + 1) (Q - (j + 1)) (by omega)
  rw [show j + 1 + (Q - (j + 1)) = Q by omega, digs_s, show 8 - (j + 1) = 7 - j by omega] at h3
  obtain ⟨k, e⟩ := digs_mul a j (by omega)
  have h5 : digs a (j + 1) ≤ digs a Q := nsum_mono (by omega)
  rw [digs_s] at h5
  have h7 : 0 < 5 ^ (8 - Q) := Nat.pow_pos (by decide)
  have hp : 0 < 5 ^ (7 - j) := Nat.pow_pos (by decide)
  rw [show 8 - j = (7 - j) + 1 by omega, Nat.pow_succ, Nat.mul_assoc] at e
  obtain ⟨r, hr⟩ : ∃ r, digs a Q = 5 ^ (7 - j) * (5 * k + dg (a j)) + r ∧ r < 5 ^ (7 - j) := by
    refine ⟨digs a Q - 5 ^ (7 - j) * (5 * k + dg (a j)), ?_, ?_⟩
    · rw [Nat.mul_add, ← e, Nat.mul_comm (5 ^ (7 - j)) (dg (a j))]
      omega
    · rw [Nat.mul_add, ← e, Nat.mul_comm (5 ^ (7 - j)) (dg (a j))]
      omega
  rw [hr.1, Nat.mul_add_div hp, Nat.div_eq_of_lt hr.2, Nat.add_zero]
  have := dg_le (a j)
  omega
