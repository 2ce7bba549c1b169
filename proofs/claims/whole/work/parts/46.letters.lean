/-! LETTERS -/
def lts : List Nat := [108, 100, 107, 111, 113, 114, 103, 98, 115, 119, 118, 110, 109, 112, 122, 101]
def lt (i : Nat) : Nat := lts.getD i 0
theorem xb0 : ∀ i, i < 16 → xbyte 0 i = nI (lt i) := by decide +kernel
theorem lt_rng : ∀ i, i < 16 → 97 ≤ lt i ∧ lt i ≤ 122 := by decide +kernel
theorem lt_inj : ∀ i, i < 16 → ∀ j, j < 16 → lt i = lt j → i = j := by decide +kernel
theorem lt_ix : ∀ i, i < 16 → f_J0_indexOf_0f7a4_t0 (nI (lt i)) = some (nI i) := by decide +kernel
