/-! RING -/
def stN (m a b : Nat) : Nat := if m &&& (2 ^ a ||| 2 ^ b) = 0 then m else m ||| (2 ^ a ||| 2 ^ b)
def cnt6 (m : Nat) : Nat := m % 2 + m / 2 % 2 + m / 4 % 2 + m / 8 % 2 + m / 16 % 2 + m / 32 % 2
theorem cnt6_le (m : Nat) : cnt6 m ≤ 6 := by
  unfold cnt6
  omega
theorem shl1 : ∀ a, a < 6 → (1 : Int32) <<< (nI a &&& 31) = nI (2 ^ a) := by decide +kernel
theorem stN_lt : ∀ m, m < 64 → ∀ a, a < 6 → ∀ b, b < 6 → stN m a b < 64 ∧ (stN m a b = m ∨ cnt6 m < cnt6 (stN m a b)) := by decide +kernel
theorem stN_i : ∀ m, m < 64 → ∀ a, a < 6 → ∀ b, b < 6 → (nI m &&& (nI (2 ^ a) ||| nI (2 ^ b)) = 0 ↔ m &&& (2 ^ a ||| 2 ^ b) = 0) ∧ nI m ||| (nI (2 ^ a) ||| nI (2 ^ b)) = nI (m ||| (2 ^ a ||| 2 ^ b)) := by decide +kernel
theorem stN_eq : ∀ m, m < 64 → ∀ a, a < 6 → ∀ b, b < 6 → m.testBit a = m.testBit b → stN m a b = m := by decide +kernel
theorem stN_ne : ∀ m, m < 64 → ∀ a, a < 6 → ∀ b, b < 6 → ¬ m.testBit a = m.testBit b → cnt6 m < cnt6 (stN m a b) ∧ ∀ i, i < 6 → (stN m a b).testBit i = (Nat.beq i a || Nat.beq i b || m.testBit i) := by decide +kernel
theorem shr_bit : ∀ m, m < 64 → ∀ i, i < 6 → ((nI m >>> (nI i &&& 31)) &&& 1 = 1 ↔ m.testBit i = true) := by decide +kernel
theorem pow_bit : ∀ s, s < 6 → ∀ i, i < 6 → ((2 ^ s).testBit i = true ↔ i = s) := by decide +kernel
theorem pow_lt6 : ∀ s, s < 6 → 2 ^ s < 64 := by decide +kernel
def rnd (u : xS) (m : Nat) : Nat := it (fun i m => stN m (nv (rd u 167 i)) (nv (rd u 168 i))) m (nD u)
theorem dbl_ix {u : xS} (hD : i_D u) {i : Nat} (hi : i < nD u) : nv (rd u 167 i) < 6 ∧ nv (rd u 168 i) < 6 ∧ rd u 167 i = nI (nv (rd u 167 i)) ∧ rd u 168 i = nI (nv (rd u 168 i)) := by
  obtain ⟨-, -, -, -, a, b, x, y, ha, hb, -, -, -, w1, w2, -, -⟩ := hD.2.2.2 i hi
  rw [w1, w2, nv_nI (by omega), nv_nI (by omega)]
  exact ⟨ha, hb, rfl, rfl⟩
theorem rnd_P {u : xS} (hD : i_D u) {m : Nat} (hm : m < 64) : rnd u m < 64 ∧ (rnd u m = m ∨ cnt6 m < cnt6 (rnd u m)) := by
  refine it_P (f := fun i m => stN m (nv (rd u 167 i)) (nv (rd u 168 i))) (P := fun i x => x < 64 ∧ (x = m ∨ cnt6 m < cnt6 x)) (S := nD u) ⟨hm, Or.inl rfl⟩ (fun i x hi hx => ?_) (nD u) (Nat.le_refl _)
  obtain ⟨h1, h2, -, -⟩ := dbl_ix hD hi
  obtain ⟨h3, h4⟩ := stN_lt x hx.1 _ h1 _ h2
  refine ⟨h3, ?_⟩
  rcases h4 with h4 | h4
  · rw [h4]
    exact hx.2
  · right
    rcases hx.2 with h5 | h5
    · rw [h5] at h4 ⊢; exact h4
    · exact Nat.lt_trans h5 h4
theorem ht15 {u : xS} (hD : i_D u) {m : Nat} (hm : m < 64) (k : Int32 → Int32 → Option Int32) (v3 : Int32) : f_X3_hangingTogether_15 k u xN (nI m) v3 0 = k (nI (rnd u m)) (v3 + 1) := by
  have hD3 := hD.2.2.1
  refine it_loopP (S := nD u) (F := fun N i m => f_X3_hangingTogether_15 k u N (nI m) v3 (nI i)) (a := m) (fun i m => stN m (nv (rd u 167 i)) (nv (rd u 168 i))) (fun _ x => x < 64) (fun m => k (nI m) (v3 + 1)) hm (fun i x hi hx => ?_) (fun n i x hi hx => ?_) (fun n x _ => ?_) (xN_lt (by omega))
  · obtain ⟨h1, h2, -, -⟩ := dbl_ix hD hi
    exact (stN_lt x hx _ h1 _ h2).1
  · obtain ⟨h1, h2, h3, h4⟩ := dbl_ix hD hi
    obtain ⟨y1, y2, -⟩ := hD.2.2.2 i hi
    obtain ⟨z1, z2⟩ := stN_i x hx _ h1 _ h2
    rw [f_X3_hangingTogether_15, hD.1, ite_nle hi (by omega), gd_nI (by omega) (by omega), nI_cl (by omega), y1, y2, h3, h4, shl1 _ h1, shl1 _ h2, nv_nI (by omega), nv_nI (by omega)]
    unfold f_X3_hangingTogether_61 stN
    rw [z2, nI_1]
    by_cases c : x &&& (2 ^ nv (rd u 167 i) ||| 2 ^ nv (rd u 168 i)) = 0
    · rw [if_pos c, if_pos (z1.mpr c)]
    · rw [if_neg c, if_neg (fun z => c (z1.mp z))]
  · rw [f_X3_hangingTogether_15, hD.1, ite_yle (Nat.le_refl _) (by omega)]
def rk (u : xS) (m k : Nat) : Nat := it (fun _ m => rnd u m) m k
theorem ht6 {u : xS} (hD : i_D u) {s : Nat} (hs : s < 6) : f_X3_hangingTogether u (nI s) = some (nI (rk u (2 ^ s) 6)) := by
  rw [f_X3_hangingTogether, shl1 s hs]
  refine it_loopP (S := 6) (F := fun N i m => f_X3_hangingTogether_6 u N (nI m) (nI i)) (a := 2 ^ s) (fun _ m => rnd u m) (fun _ x => x < 64) (fun m => some (nI m)) (pow_lt6 s hs) (fun i x hi hx => (rnd_P hD hx).1) (fun n i x hi hx => ?_) (fun n x _ => ?_) (xN_lt (by omega))
  · rw [f_X3_hangingTogether_6, l_6, ite_nle hi (by omega), ht15 hD hx, nI_1]
  · rw [f_X3_hangingTogether_6, l_6, ite_yle (Nat.le_refl _) (by omega)]
theorem rk_s (u : xS) (m k : Nat) : rk u m (k + 1) = rnd u (rk u m k) := rfl
theorem rk_s' (u : xS) (m : Nat) : ∀ k, rk u (rnd u m) k = rk u m (k + 1) := by
  intro k
  induction k with
  | zero => rfl
  | succ k ih => rw [rk_s, ih, ← rk_s]
theorem rk_fix {u : xS} {m k : Nat} (h : rnd u (rk u m k) = rk u m k) : ∀ n, rk u m (k + n) = rk u m k := by
  intro n
  induction n with
  | zero => rfl
  | succ n ih => rw [← Nat.add_assoc, rk_s, ih, h]
theorem rk_P {u : xS} (hD : i_D u) {m : Nat} (hm : m < 64) : ∀ k, rk u m k < 64 ∧ (rnd u (rk u m k) = rk u m k ∨ k ≤ cnt6 (rk u m k)) := by
  intro k
  induction k with
  | zero => exact ⟨hm, Or.inr (Nat.zero_le _)⟩
  | succ k ih =>
    obtain ⟨h1, h2⟩ := ih
    obtain ⟨h3, h4⟩ := rnd_P hD h1
    rw [rk_s]
    refine ⟨h3, ?_⟩
    rcases h2 with h2 | h2
    · left; rw [h2, h2]
    · rcases h4 with h4 | h4
      · left; rw [h4, h4]
      · right; omega
theorem rk_6 {u : xS} (hD : i_D u) {m : Nat} (hm : m < 64) : rnd u (rk u m 6) = rk u m 6 := by
  obtain ⟨h1, h2⟩ := rk_P hD hm 6
  rcases h2 with h2 | h2
  · exact h2
  · rcases (rnd_P hD h1).2 with h | h
    · exact h
    · have := cnt6_le (rnd u (rk u m 6))
      omega
def F171 (u : xS) (m : Nat) : Prop := ∀ i, i < 6 → rd u 171 i = if m.testBit i = true then 1 else 0
theorem r54 {u : xS} (hD : i_D u) {k : Int32 → xS → Option (Int32 × xS)} {m0 : Nat} (hm0 : m0 < 64) {u0 : xS} (h0 : ag wX u u0) (hF0 : F171 u0 m0) : ∃ c u', f_X12_ring_54 k xN 0 0 u0 = k c u' ∧ ag wX u u' ∧ F171 u' (rnd u m0) ∧ ((c = 0 ∧ rnd u m0 = m0) ∨ (c = 1 ∧ cnt6 m0 < cnt6 (rnd u m0))) := by
  have hD3 := hD.2.2.1
  have key : ∀ (N i : Nat) (c : Int32) (u' : xS), nD u < N + i → i ≤ nD u → ag wX u u' → F171 u' (it (fun i m => stN m (nv (rd u 167 i)) (nv (rd u 168 i))) m0 i) → it (fun i m => stN m (nv (rd u 167 i)) (nv (rd u 168 i))) m0 i < 64 → ((c = 0 ∧ it (fun i m => stN m (nv (rd u 167 i)) (nv (rd u 168 i))) m0 i = m0) ∨ (c = 1 ∧ cnt6 m0 < cnt6 (it (fun i m => stN m (nv (rd u 167 i)) (nv (rd u 168 i))) m0 i))) → ∃ c' u'', f_X12_ring_54 k N c (nI i) u' = k c' u'' ∧ ag wX u u'' ∧ F171 u'' (rnd u m0) ∧ ((c' = 0 ∧ rnd u m0 = m0) ∨ (c' = 1 ∧ cnt6 m0 < cnt6 (rnd u m0))) := by
    intro N
    induction N with
    | zero => intro i c u' h1 h2; omega
    | succ N ih =>
      intro i c u' h1 h2 h3 h4 h5 h6
      have e46 : rd u' 135 46 = nI (nD u) := (h3 135 46 rfl).trans hD.2.1
      by_cases hi : i = nD u
      · refine ⟨c, u', ?_, h3, by rw [hi] at h4; exact h4, by rw [hi] at h6; exact h6⟩
        rw [f_X12_ring_54, e46, ite_yle (by omega) (by omega)]
      · obtain ⟨q1, q2, q3, q4⟩ := dbl_ix hD (i := i) (by omega)
        generalize hm : it (fun i m => stN m (nv (rd u 167 i)) (nv (rd u 168 i))) m0 i = m at h4 h5 h6
        have es : it (fun i m => stN m (nv (rd u 167 i)) (nv (rd u 168 i))) m0 (i + 1) = stN m (nv (rd u 167 i)) (nv (rd u 168 i)) := by rw [it_s, hm]
        generalize nv (rd u 167 i) = a at q1 q3 es
        generalize nv (rd u 168 i) = b at q2 q4 es
        have e7 : rd u' 167 i = nI a := (h3 167 i rfl).trans q3
        have e8 : rd u' 168 i = nI b := (h3 168 i rfl).trans q4
        have op : f_X12_ring_54 k (N + 1) c (nI i) u' = if rd u' 171 a = rd u' 171 b then f_X12_ring_54 k N c (nI (i + 1)) u' else f_X12_ring_54 k N 1 (nI (i + 1)) (wr (wr u' 171 a 1) 171 b 1) := by
          rw [f_X12_ring_54, e46, ite_nle (by omega) (by omega), gd_nI (by omega) (by omega), nI_cl (by omega), e7, e8, gd_nI q1 (by omega), gd_nI q2 (by omega), nI_cl (by omega), nI_cl (by omega)]
          unfold f_X12_ring_113
          rw [nI_1]
        rw [op, h4 a q1, h4 b q2]
        by_cases ce : m.testBit a = m.testBit b
        · rw [ce, if_pos rfl]
          have e9 := stN_eq m h5 a q1 b q2 ce
          rw [e9] at es
          exact ih (i + 1) c u' (by omega) (by omega) h3 (by rw [es]; exact h4) (by rw [es]; exact h5) (by rw [es]; exact h6)
        · have hne : ¬ ((if m.testBit a = true then (1 : Int32) else 0) = if m.testBit b = true then 1 else 0) := by
            cases ha : m.testBit a <;> cases hb : m.testBit b
            · rw [ha, hb] at ce; exact absurd rfl ce
            · simp
            · simp
            · rw [ha, hb] at ce; exact absurd rfl ce
          rw [if_neg hne]
          obtain ⟨e9, e10⟩ := stN_ne m h5 a q1 b q2 ce
          refine ih (i + 1) 1 _ (by omega) (by omega) (ag_wr (ag_wr h3 rfl) rfl) (fun j hj => ?_) (by rw [es]; exact (stN_lt m h5 a q1 b q2).1) (Or.inr ⟨rfl, by
            rw [es]
            rcases h6 with h6 | h6
            · rw [← h6.2]; exact e9
            · exact Nat.lt_trans h6.2 e9⟩)
          rw [es, e10 j hj]
          by_cases cb : j = b
          · rw [cb, rd_wr, if_pos rfl, if_pos rfl, show Nat.beq b b = true from Nat.beq_refl b]
            simp
          · by_cases ca : j = a
            · rw [rd_wr_ne (by omega), ca, rd_wr, if_pos rfl, if_pos rfl, show Nat.beq a a = true from Nat.beq_refl a]
              simp
            · have na : Nat.beq j a = false := by
                cases hq : Nat.beq j a with
                | false => rfl
                | true => exact absurd (Nat.eq_of_beq_eq_true hq) ca
              have nb : Nat.beq j b = false := by
                cases hq : Nat.beq j b with
                | false => rfl
                | true => exact absurd (Nat.eq_of_beq_eq_true hq) cb
              rw [rd_wr_ne (by omega), rd_wr_ne (by omega), h4 j hj, na, nb]
              simp
  exact key xN 0 0 u0 (xN_lt (by omega)) (Nat.zero_le _) h0 hF0 hm0 (Or.inl ⟨rfl, rfl⟩)
theorem r46 {u : xS} (hD : i_D u) : ∀ (j N m : Nat) (u' : xS), m < 64 → 6 - cnt6 m ≤ j → j + 2 < N → ag wX u u' → F171 u' m → ∃ u'' m' k, f_X12_ring_46 N 1 u' = f_X12_ring_129 xN 0 (wr u'' 135 43 0) ∧ ag wX u u'' ∧ F171 u'' m' ∧ m' = rk u m k ∧ rnd u m' = m' := by
  intro j
  induction j with
  | zero =>
    intro N m u' h1 h2 h3 h4 h5
    obtain ⟨M, rfl⟩ : ∃ M, N = M + 1 + 1 := ⟨N - 2, by omega⟩
    obtain ⟨c, u1, q1, q2, q3, q4⟩ := r54 hD (k := f_X12_ring_46 (M + 1)) h1 h4 h5
    rcases q4 with ⟨q4, q5⟩ | ⟨q4, q5⟩
    · rw [q5] at q3
      refine ⟨u1, m, 0, ?_, q2, q3, rfl, q5⟩
      rw [f_X12_ring_46, if_neg (by decide), q1, q4, f_X12_ring_46, if_pos rfl]
    · have := cnt6_le (rnd u m)
      omega
  | succ j ih =>
    intro N m u' h1 h2 h3 h4 h5
    obtain ⟨M, rfl⟩ : ∃ M, N = M + 1 + 1 := ⟨N - 2, by omega⟩
    obtain ⟨c, u1, q1, q2, q3, q4⟩ := r54 hD (k := f_X12_ring_46 (M + 1)) h1 h4 h5
    rcases q4 with ⟨q4, q5⟩ | ⟨q4, q5⟩
    · rw [q5] at q3
      refine ⟨u1, m, 0, ?_, q2, q3, rfl, q5⟩
      rw [f_X12_ring_46, if_neg (by decide), q1, q4, f_X12_ring_46, if_pos rfl]
    · obtain ⟨u2, m', k, z1, z2, z3, z4, z5⟩ := ih (M + 1) (rnd u m) u1 (rnd_P hD h1).1 (by omega) (by omega) q2 q3
      refine ⟨u2, m', k + 1, ?_, z2, z3, by rw [z4, rk_s'], z5⟩
      rw [f_X12_ring_46, if_neg (by decide), q1, q4, z1]
theorem rk_uni {u : xS} (hD : i_D u) {m k m' : Nat} (hm : m < 64) (h1 : m' = rk u m k) (h2 : rnd u m' = m') : m' = rk u m 6 := by
  by_cases c : k ≤ 6
  · have := rk_fix (u := u) (m := m) (k := k) (by rw [← h1]; exact h2) (6 - k)
    rw [show k + (6 - k) = 6 by omega] at this
    rw [this, h1]
  · have := rk_fix (u := u) (m := m) (k := 6) (rk_6 hD hm) (k - 6)
    rw [show 6 + (k - 6) = k by omega] at this
    rw [h1, this]
/-- the row of a set -/
def rowl (m : Nat) : Nat → List Int32
  | 0 => []
  | n + 1 => if m.testBit n = true then rowl m n ++ [nI n] else rowl m n
theorem rowl_len (m : Nat) : ∀ n, (rowl m n).length ≤ n := by
  intro n
  induction n with
  | zero => exact Nat.le_refl _
  | succ n ih =>
    unfold rowl
    by_cases h : m.testBit n = true
    · rw [if_pos h, List.length_append]
      simp only [List.length_cons, List.length_nil]
      omega
    · rw [if_neg h]; omega
theorem row11 {m : Nat} (hm : m < 64) : ∀ (N i : Nat) (u : xS), 6 < N + i → i ≤ 6 → r11 u (rowl m i) → ∃ u', f_X11_ring_25 N (nI m) (nI i) u = some (nI (rowl m 6).length, u') ∧ r11 u' (rowl m 6) ∧ ag [(0, 13), (134, 0)] u u' := by
  intro N
  induction N with
  | zero => intro i u h1 h2; omega
  | succ N ih =>
    intro i u h1 h2 h3
    by_cases hi : i = 6
    · subst hi
      refine ⟨u, ?_, h3, ag_refl _ _⟩
      rw [f_X11_ring_25, l_6, ite_yle (by omega) (by omega), h3.1]
    · have hb := shr_bit m hm i (by omega)
      have hl := rowl_len m i
      have op : f_X11_ring_25 (N + 1) (nI m) (nI i) u = if (nI m >>> (nI i &&& 31)) &&& 1 = 1 then (f_X11_tell (nI i) u).bind fun u4 => f_X11_ring_25 N (nI m) (nI (i + 1)) u4 else f_X11_ring_25 N (nI m) (nI (i + 1)) u := by
        rw [f_X11_ring_25, l_6, ite_nle (by omega) (by omega)]
        unfold f_X11_ring_45
        rw [nI_1]
      rw [op]
      by_cases c : m.testBit i = true
      · have e : rowl m (i + 1) = rowl m i ++ [nI i] := by rw [rowl, if_pos c]
        obtain ⟨u1, t1, t2, t3⟩ := tell_ok (nI i) h3 (by omega)
        obtain ⟨u', z1, z2, z3⟩ := ih (i + 1) u1 (by omega) (by omega) (by rw [e]; exact t2)
        refine ⟨u', ?_, z2, ag_trans t3 z3⟩
        rw [if_pos (hb.mpr c), t1, Option.bind_some, z1]
      · have e : rowl m (i + 1) = rowl m i := by rw [rowl, if_neg c]
        rw [if_neg (fun z => c (hb.mp z))]
        exact ih (i + 1) u (by omega) (by omega) (by rw [e]; exact h3)
theorem row12 {m : Nat} : ∀ (N i : Nat) (u : xS), 6 < N + i → i ≤ 6 → F171 u m → r12 u (rowl m i) → ∃ u', f_X12_ring_129 N (nI i) u = some (nI (rowl m 6).length, u') ∧ r12 u' (rowl m 6) ∧ ag [(135, 44), (165, 0)] u u' := by
  intro N
  induction N with
  | zero => intro i u h1 h2; omega
  | succ N ih =>
    intro i u h1 h2 hF h3
    by_cases hi : i = 6
    · subst hi
      refine ⟨u, ?_, h3, ag_refl _ _⟩
      rw [f_X12_ring_129, l_6, ite_yle (by omega) (by omega), h3.1]
    · have hl := rowl_len m i
      have op : f_X12_ring_129 (N + 1) (nI i) u = if rd u 171 i = 0 then f_X12_ring_129 N (nI (i + 1)) u else (f_X12_enters (nI i) u).bind fun u5 => f_X12_ring_129 N (nI (i + 1)) u5 := by
        rw [f_X12_ring_129, l_6, ite_nle (by omega) (by omega), gd_nI (by omega) (by omega), nI_cl (by omega)]
        unfold f_X12_ring_149
        rw [nI_1]
      rw [op, hF i (by omega)]
      by_cases c : m.testBit i = true
      · have e : rowl m (i + 1) = rowl m i ++ [nI i] := by rw [rowl, if_pos c]
        obtain ⟨u1, t1, t2, t3⟩ := enters_ok (nI i) h3 (by omega)
        obtain ⟨u', z1, z2, z3⟩ := ih (i + 1) u1 (by omega) (by omega) (fun j hj => (t3 171 j rfl).trans (hF j hj)) (by rw [e]; exact t2)
        refine ⟨u', ?_, z2, ag_trans t3 z3⟩
        rw [if_pos c, if_neg (by decide), t1, Option.bind_some, z1]
      · have e : rowl m (i + 1) = rowl m i := by rw [rowl, if_neg c]
        rw [if_neg c, if_pos rfl]
        exact ih (i + 1) u (by omega) (by omega) hF (by rw [e]; exact h3)
/-- the row and scratch -/
abbrev wRX : List (Nat × Nat) := (0, 13) :: (134, 0) :: (135, 44) :: (165, 0) :: wX
theorem Inv_rowX {u u' : xS} (H : Inv u) (hag : ag wRX u u') {l : List Int32} (h1 : r11 u' l) (h2 : r12 u' l) (hl : l.length ≤ 48) : Inv u' :=
  ⟨fr_S (ag_sm hag rfl) H.S, fr_P (ag_sm hag rfl) H.P, fr_B (ag_sm hag rfl) H.B, fr_H (ag_sm hag rfl) H.H, fr_L (ag_sm hag rfl) H.L, fr_K (ag_sm hag rfl) H.K, fr_T (ag_sm hag rfl) H.T, fr_X (ag_sm hag rfl) H.X, fr_F (ag_sm hag rfl) H.F, fr_C (ag_sm hag rfl) H.C, fr_D (ag_sm hag rfl) H.D, fr_A (ag_sm hag rfl) H.A, i_W_of h1 h2 hl⟩
theorem r16 {s : Nat} (hs : s < 6) : ∀ (N i : Nat) (u : xS), 6 < N + i → i ≤ 6 → (∀ j, j < i → rd u 171 j = if (2 ^ s).testBit j = true then 1 else 0) → ∃ u', f_X12_ring_16 N (nI s) (nI i) u = f_X12_ring_46 xN 1 u' ∧ F171 u' (2 ^ s) ∧ ag [(171, 0)] u u' := by
  intro N
  induction N with
  | zero => intro i u h1 h2; omega
  | succ N ih =>
    intro i u h1 h2 h3
    by_cases hi : i = 6
    · subst hi
      refine ⟨u, ?_, h3, ag_refl _ _⟩
      rw [f_X12_ring_16, l_6, ite_yle (by omega) (by omega)]
    · have hb := pow_bit s hs i (by omega)
      have hx0 : xb (0 : Int32) = true := by decide
      have hx1 : xb (1 : Int32) = true := by decide
      have op : f_X12_ring_16 (N + 1) (nI s) (nI i) u = f_X12_ring_16 N (nI s) (nI (i + 1)) (wr u 171 i (if (2 ^ s).testBit i = true then 1 else 0)) := by
        rw [f_X12_ring_16, l_6, ite_nle (by omega) (by omega)]
        unfold f_X12_ring_37
        rw [gd_nI (by omega) (by omega), gd_nI (by omega) (by omega), nI_cl (by omega), hx0, hx1, gd_t, gd_t, nI_1]
        by_cases c : i = s
        · rw [if_pos (hb.mpr c), c, if_pos rfl]
        · rw [if_neg (fun z => c (hb.mp z)), if_neg (fun z => c (nI_inj (by omega) (by omega) z))]
      obtain ⟨u', z1, z2, z3⟩ := ih (i + 1) (wr u 171 i (if (2 ^ s).testBit i = true then 1 else 0)) (by omega) (by omega) (fun j hj => by
        by_cases e : j = i
        · rw [e, rd_wr, if_pos rfl, if_pos rfl]
        · rw [rd_wr_ne (by omega)]
          exact h3 j (by omega))
      refine ⟨u', ?_, z2, ag_trans (ag_wr (ag_refl _ u) rfl) z3⟩
      rw [op, z1]
theorem s_ring : xS_ring Inv := by
  intro u a1 hI
  apply st_W
  have hJ := Inv_thr hI
  simp only [f_X11_ring, f_X11_isSorter, lies_eq, f_X12_ring, f_X12_isSorter, L_0, L_5, in_eq, ite_10]
  by_cases h1 : 0 ≤ a1 ∧ a1 ≤ 5
  · obtain ⟨s, hs, rfl⟩ := nI_ixl (S := 5) (by omega) h1.1 h1.2
    have hm := pow_lt6 s (by omega)
    obtain ⟨mm, hmm⟩ : ∃ mm, mm = rk u (2 ^ s) 6 := ⟨_, rfl⟩
    have hm6 : mm < 64 := by rw [hmm]; exact (rk_P hI.D hm 6).1
    rw [if_pos h1, ht6 hI.D (by omega), Option.bind_some, ← hmm]
    obtain ⟨u1, t1, t2, t3⟩ := row11 hm6 xN 0 (wr u 0 12 0) (xN_lt (by omega)) (by omega) (r11_0 u)
    rw [nI_zero] at t1
    refine ok_is t1 ?_
    dsimp only
    rw [if_pos h1]
    have g1 : ag [(0, 13), (134, 0)] u u1 := ag_trans (ag_wr (ag_refl _ u) rfl) t3
    have hD1 : i_D u1 := fr_D (ag_sm g1 rfl) hI.D
    obtain ⟨u2, q1, q2, q3⟩ := r16 (s := s) (by omega) xN 0 (wr u1 135 0 0) (xN_lt (by omega)) (by omega) (fun j hj => by omega)
    have g2 : ag wX u1 u2 := ag_trans (ag_wr (ag_refl _ u1) rfl) (ag_sub rfl q3)
    obtain ⟨u3, m', k, z1, z2, z3, z4, z5⟩ := r46 hD1 6 xN (2 ^ s) u2 hm (by omega) (xN_lt (by omega)) g2 q2
    have em : m' = mm := by
      have er : ∀ m, rnd u1 m = rnd u m := fun m => by
        have e0 : nD u1 = nD u := congrArg nv (g1 135 46 rfl)
        have e1 : ∀ i, rd u1 167 i = rd u 167 i := fun i => g1 167 i rfl
        have e2 : ∀ i, rd u1 168 i = rd u 168 i := fun i => g1 168 i rfl
        unfold rnd
        simp only [e0, e1, e2]
      have er2 : ∀ k, rk u1 (2 ^ s) k = rk u (2 ^ s) k := fun k => by
        unfold rk
        simp only [er]
      rw [hmm, ← er2 6]
      exact rk_uni hD1 hm z4 z5
    subst em
    obtain ⟨u4, y1, y2, y3⟩ := row12 (m := m') xN 0 (wr u3 135 43 0) (xN_lt (by omega)) (by omega) z3 (r12_0 u3)
    rw [nI_zero] at q1 y1
    have g3 : ag wX u1 u3 := z2
    have g4 : ag wRX u u4 := ag_trans (ag_sub rfl g1) (ag_trans (ag_trans (ag_sub rfl g3) (ag_wr (ag_refl _ u3) rfl)) (ag_sub rfl y3))
    refine ok_is (r := (nI (rowl m' 6).length, u4)) ?_ ⟨rfl, ?_⟩
    · rw [q1, z1, y1]
    · have hl := rowl_len m' 6
      refine Inv_rowX hI g4 (r11_fr (u := u1) (fun c j hc => ?_) t2) y2 (by omega)
      have n1 : inW wX (lc c j) = false := inW_no (K := [(0, 13), (134, 0)]) rfl hc
      have n2 : inW [(135, 44), (165, 0)] (lc c j) = false := inW_no (K := [(0, 13), (134, 0)]) rfl hc
      have n3 := (ag_wr (ag_refl [(135, 44), (165, 0)] u3) rfl : ag [(135, 44), (165, 0)] u3 (wr u3 135 43 0)) c j n2
      exact (y3 c j n2).trans (n3.trans (g3 c j n1))
  · rw [if_neg h1, ok_some]
    dsimp only
    rw [if_neg h1, ok_some]
    exact ⟨rfl, hJ⟩
