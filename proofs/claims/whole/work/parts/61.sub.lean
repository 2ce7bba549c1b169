/-! SHARE: sets within a set -/
theorem and_half (x y : Nat) : (x &&& y) / 2 = (x / 2 &&& y / 2) := by
  apply Nat.eq_of_testBit_eq
  intro i
  rw [Nat.testBit_div_two, Nat.testBit_and, Nat.testBit_and, Nat.testBit_div_two, Nat.testBit_div_two]
theorem and_low (x y : Nat) : (x &&& y) % 2 = (x % 2) * (y % 2) := by
  have h : ∀ z : Nat, z % 2 = if z.testBit 0 = true then 1 else 0 := fun z => by
    rw [Nat.testBit_zero]
    by_cases c : z % 2 = 1
    · simp [c]
    · simp [c]; omega
  rw [h x, h y, h (x &&& y), Nat.testBit_and]
  cases x.testBit 0 <;> cases y.testBit 0 <;> rfl
/-- the next set within m below t skips none -/
theorem sub_pred : ∀ (n t m s : Nat), t ≤ n → s &&& m = s → t &&& m = t → s < t → s ≤ ((t - 1) &&& m) := by
  intro n
  induction n with
  | zero => intro t m s h1 h2 h3 h4; omega
  | succ n ih =>
    intro t m s h1 h2 h3 h4
    have s2 : s / 2 &&& m / 2 = s / 2 := by rw [← and_half, h2]
    have t2 : t / 2 &&& m / 2 = t / 2 := by rw [← and_half, h3]
    have s0 : s % 2 = (s % 2) * (m % 2) := by rw [← and_low, h2]
    have t0 : t % 2 = (t % 2) * (m % 2) := by rw [← and_low, h3]
    have r2 := and_half (t - 1) m
    have r0 := and_low (t - 1) m
    obtain ⟨r, hr⟩ : ∃ r, r = ((t - 1) &&& m) := ⟨_, rfl⟩
    rw [← hr] at r2 r0 ⊢
    by_cases c : t % 2 = 1
    · have e : (t - 1) / 2 = t / 2 := by omega
      rw [e, t2] at r2
      omega
    · have e : (t - 1) / 2 = t / 2 - 1 := by omega
      have e0 : (t - 1) % 2 = 1 := by omega
      rw [e] at r2
      rw [e0, Nat.one_mul] at r0
      have hlt : s / 2 < t / 2 := by omega
      have := ih (t / 2) (m / 2) (s / 2) (by omega) s2 t2 hlt
      rw [← r2] at this
      have hs : s % 2 ≤ m % 2 := by
        rcases Nat.mod_two_eq_zero_or_one m with hm | hm
        · rw [hm, Nat.mul_zero] at s0; omega
        · omega
      omega
theorem sub_in (t m : Nat) : ((t - 1) &&& m) &&& m = ((t - 1) &&& m) := by
  rw [Nat.and_assoc, Nat.and_self]
theorem sub_lt {t : Nat} (m : Nat) (h : 0 < t) : ((t - 1) &&& m) < t := by
  have : ((t - 1) &&& m) ≤ t - 1 := Nat.and_le_left
  omega
