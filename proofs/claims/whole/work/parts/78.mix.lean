/-! MIX: the sorts chosen, and all together -/
abbrev wV : List (Nat × Nat) := [(79, 6), (82, 0), (83, 0), (84, 0)]
def CHO (u : xS) (ch : Nat → Bool) (q : Nat) (w : Int32) (n : Nat) (u' : xS) : Prop := ag wV u u' ∧ rd u' 79 5 = nI (clb ch n).length ∧ ∀ s, s < n → ch s = true → rd u' 82 (clb ch s).length = nI s ∧ rd u' 83 (clb ch s).length = prc u (nI s) w ∧ rd u' 84 (clb ch s).length = nI (mMn u q s)
theorem clb_lt {ch : Nat → Bool} {s n : Nat} (h : ch s = true) (hs : s < n) : (clb ch s).length < (clb ch n).length := (List.getElem?_eq_some_iff.mp (clb_at h hs)).1
theorem choose11 {u : xS} (hI : Inv u) {ch : Nat → Bool} {q : Nat} {w a1 bits : Int32} (hq : q ≤ 833) (hbits : ∀ s, s < 16 → (((bits >>> (nI s &&& 31)) &&& (1 : Int32)) = (1 : Int32) ↔ ch s = true)) (hk : (clb ch (nS u)).length ≤ 6) : ∀ (d n N : Nat) (u' : xS), n + d = nS u → d < N → CHO u ch q w n u' → ∃ u'', f_X11_mix_102 N a1 bits (nI (12 * q)) w (nI n) u' = ((f_X11_cheapest a1 u'').bind fun q8 => if q8.1 < 0 then (some (q8.1, q8.2)) else ((f_X1_settle q8.2).bind fun u7 => some (q8.1, u7))) ∧ CHO u ch q w (nS u) u'' := by
  have hS := hI.S.2.2.1
  intro d
  induction d with
  | zero =>
    intro n N u' h1 h2 h3
    obtain ⟨N, rfl⟩ : ∃ M, N = M + 1 := ⟨N - 1, by omega⟩
    have en : n = nS u := by omega
    subst en
    refine ⟨u', ?_, h3⟩
    rw [f_X11_mix_102, (h3.1 1 2 rfl).trans hI.S.1, if_pos (nI_le (Nat.le_refl _) (by omega))]
  | succ d ih =>
    intro n N u' h1 h2 h3
    obtain ⟨N, rfl⟩ : ∃ M, N = M + 1 := ⟨N - 1, by omega⟩
    obtain ⟨g, c1, c2⟩ := h3
    have s1 : rd u' 1 2 = nI (nS u) := (g 1 2 rfl).trans hI.S.1
    have hn : n < nS u := by omega
    by_cases c : ch n = true
    · have hlt := clb_lt c hn
      have ek : (clb ch (n + 1)).length = (clb ch n).length + 1 := by
        rw [clb, if_pos c, List.length_append]
        rfl
      have hM := mMn_le u q n
      have hst := stoN_le hI.to4 (s := n) (by omega)
      have est : f_X6_ofSort u' (nI n) = some (nI (stoN u n)) := by
        rw [c_ofSort (fr_L (ag_sm g rfl) hI.L) (fr_H (ag_sm g rfl) hI.H) (fr_B (ag_sm g rfl) hI.B) (by omega), sto_fr (g 135 7 rfl) (fun i => g 147 i rfl)]
        exact congrArg some (sto_nI hI.L hI.B (by omega))
      have op : f_X11_mix_102 (N + 1) a1 bits (nI (12 * q)) w (nI n) u' = f_X11_mix_152 (f_X11_mix_102 N) a1 bits (nI (12 * q)) w (nI n) (nI (mMn u q n)) u' := by
        rw [f_X11_mix_102, s1, if_neg (nI_ge hn (by omega)), if_pos ((hbits n (by omega)).mpr c)]
        by_cases q0 : q = 0
        · subst q0
          rw [if_pos (show nI (12 * 0) = 0 from rfl)]
          rfl
        · have x1 : xnz (nI q) = true := by
            unfold xnz
            exact decide_eq_true (nI_ne0 (by omega) (by omega))
          rw [if_neg (nI_ne0 (by omega) (by omega)), est, Option.bind_some, l_12, pk_div (by omega) (by omega) (by omega), show 12 * q / 12 = q by omega, x1, gd_t, pk_div (by omega) (by omega) (by omega), imin_nI (by omega) (by
            have : stoN u n / q ≤ stoN u n := Nat.div_le_self _ _
            omega)]
          unfold mMn
          rw [if_neg q0]
      obtain ⟨u2, hu2⟩ : ∃ u2, u2 = wr (wr (wr (wr u' 82 (clb ch n).length (nI n)) 83 (clb ch n).length (prc u (nI n) w)) 84 (clb ch n).length (nI (mMn u q n))) 79 5 (nI ((clb ch n).length + 1)) := ⟨_, rfl⟩
      have op2 : f_X1_choose (nI n) (prc u (nI n) w) (nI (mMn u q n)) u' = some u2 := by
        rw [f_X1_choose, c1, if_neg (show ¬ (6 : Int32) ≤ nI (clb ch n).length from nI_ge (b := 6) (by omega) (by omega)), gd_nI (by omega) (by omega), nI_cl (by omega), nI_1, hu2]
      have h3' : CHO u ch q w (n + 1) u2 := by
        refine ⟨by rw [hu2]; exact ag_wr (ag_wr (ag_wr (ag_wr g rfl) rfl) rfl) rfl, by rw [ek, hu2]; rfl, fun s hs hc => ?_⟩
        by_cases e : s = n
        · subst e
          rw [hu2]
          refine ⟨?_, ?_, ?_⟩
          · rw [rd_wr_ne (by omega), rd_wr_ne (by omega), rd_wr_ne (by omega), rd_wr, if_pos rfl, if_pos rfl]
          · rw [rd_wr_ne (by omega), rd_wr_ne (by omega), rd_wr, if_pos rfl, if_pos rfl]
          · rw [rd_wr_ne (by omega), rd_wr, if_pos rfl, if_pos rfl]
        · have hl := clb_lt (n := n) hc (by omega)
          obtain ⟨q1, q2, q3⟩ := c2 s (by omega) hc
          rw [hu2]
          refine ⟨?_, ?_, ?_⟩
          · rw [rd_wr_ne (by omega), rd_wr_ne (by omega), rd_wr_ne (by omega), rd_wr_ne (by omega)]
            exact q1
          · rw [rd_wr_ne (by omega), rd_wr_ne (by omega), rd_wr_ne (by omega), rd_wr_ne (by omega)]
            exact q2
          · rw [rd_wr_ne (by omega), rd_wr_ne (by omega), rd_wr_ne (by omega), rd_wr_ne (by omega)]
            exact q3
      obtain ⟨u'', z1, z2⟩ := ih (n + 1) N u2 (by omega) (by omega) h3'
      refine ⟨u'', ?_, z2⟩
      rw [op, f_X11_mix_152, c_priceIn (fr_P (ag_sm g rfl) hI.P), prc_fr (ag_sm g rfl), Option.bind_some, op2, Option.bind_some, f_X11_mix_176, nI_1]
      exact z1
    · have ek : clb ch (n + 1) = clb ch n := by rw [clb, if_neg c]
      obtain ⟨u'', z1, z2⟩ := ih (n + 1) N u' (by omega) (by omega) ⟨g, by rw [ek]; exact c1, fun s hs hc => by
        by_cases e : s = n
        · subst e; exact absurd hc c
        · exact c2 s (by omega) hc⟩
      refine ⟨u'', ?_, z2⟩
      rw [f_X11_mix_102, s1, if_neg (nI_ge hn (by omega)), if_neg (fun z => c ((hbits n (by omega)).mp z)), f_X11_mix_176, nI_1]
      exact z1
/-! the conditions -/
abbrev mG (u : xS) (a1 a2 a3 a4 : Int32) : Prop := (0 ≤ a1 ∧ a1 < nI (nR u)) ∧ (1 ≤ a2 ∧ a2 ≤ nI (2 ^ nS u - 1)) ∧ ¬ 6 < f_J6_bitCount_0f7a4 a2 ∧ (0 ≤ a3 ∧ a3 ≤ 9996) ∧ irem a3 12 = 0 ∧ (0 ≤ a4 ∧ a4 ≤ 99)
theorem sh_S {S : Nat} (hS : S ≤ 16) : ((1 : Int32) <<< (nI S &&& 31)) - 1 = nI (2 ^ S - 1) := by
  have : 0 < 2 ^ S := Nat.pow_pos (by decide)
  rw [shl20 S (by omega), l_1, nI_sub (by omega)]
theorem e58 {u : xS} {a1 a2 a3 a4 v s0 : Int32} {R : Nat} (x1 : rd u 58 5 = nI R) : f_X11_mix_58 a1 a2 a3 a4 v s0 u = if (0 ≤ a1 ∧ a1 < nI R) ∧ ¬ v = 0 ∧ ¬ s0 = 0 ∧ (0 ≤ a4 ∧ a4 ≤ 99) then f_X11_mix_102 xN a1 a2 a3 a4 0 (wr u 79 5 0) else some (-1, u) := by
  rw [f_X11_mix_58, hasR x1, ite_10, f_X11_isDay, lies_eq, ite_10]
  by_cases h1 : 0 ≤ a1 ∧ a1 < nI R
  · rw [if_pos h1]
    by_cases h2 : v = 0
    · rw [if_pos h2, if_neg (fun z => z.2.1 h2)]
    · rw [if_neg h2]
      by_cases h3 : s0 = 0
      · rw [if_pos h3, if_neg (fun z => z.2.2.1 h3)]
      · rw [if_neg h3]
        by_cases h4 : 0 ≤ a4 ∧ a4 ≤ 99
        · rw [if_pos h4, if_pos ⟨h1, h2, h3, h4⟩]
        · rw [if_neg h4, if_neg (fun z => h4 z.2.2.2)]
  · rw [if_neg h1, if_neg (fun z => h1 z.1)]
theorem e33 {u : xS} {a1 a2 a3 a4 v : Int32} {R : Nat} (x1 : rd u 58 5 = nI R) : f_X11_mix_33 a1 a2 a3 a4 v u = if (0 ≤ a1 ∧ a1 < nI R) ∧ ¬ v = 0 ∧ ((0 ≤ a3 ∧ a3 ≤ 9996) ∧ irem a3 12 = 0) ∧ (0 ≤ a4 ∧ a4 ≤ 99) then f_X11_mix_102 xN a1 a2 a3 a4 0 (wr u 79 5 0) else some (-1, u) := by
  rw [f_X11_mix_33, lies_eq, ite_10]
  by_cases h1 : 0 ≤ a3 ∧ a3 ≤ 9996
  · rw [if_pos h1]
    by_cases h2 : irem a3 12 = 0
    · rw [if_pos h2, e58 x1]
      by_cases h3 : (0 ≤ a1 ∧ a1 < nI R) ∧ ¬ v = 0 ∧ ¬ (1 : Int32) = 0 ∧ (0 ≤ a4 ∧ a4 ≤ 99)
      · rw [if_pos h3, if_pos ⟨h3.1, h3.2.1, ⟨h1, h2⟩, h3.2.2.2⟩]
      · rw [if_neg h3, if_neg (fun z => h3 ⟨z.1, z.2.1, by decide, z.2.2.2⟩)]
    · rw [if_neg h2, f_X11_mix_57, e58 x1, if_neg (fun z => z.2.2.1 rfl), if_neg (fun z => h2 z.2.2.1.2)]
  · rw [if_neg h1, f_X11_mix_57, e58 x1, if_neg (fun z => z.2.2.1 rfl), if_neg (fun z => h1 z.2.2.1.1)]
theorem c11_mix {u : xS} {a1 a2 a3 a4 : Int32} (s1 : rd u 1 2 = nI (nS u)) (hS : nS u ≤ 16) (x1 : rd u 58 5 = nI (nR u)) : f_X11_mix a1 a2 a3 a4 u = if mG u a1 a2 a3 a4 then f_X11_mix_102 xN a1 a2 a3 a4 0 (wr u 79 5 0) else some (-1, u) := by
  rw [f_X11_mix, s1, sh_S hS, lies_eq, ite_10]
  by_cases h1 : 1 ≤ a2 ∧ a2 ≤ nI (2 ^ nS u - 1)
  · rw [if_pos h1]
    by_cases h2 : 6 < f_J6_bitCount_0f7a4 a2
    · rw [if_pos h2, f_X11_mix_32, e33 x1, if_neg (fun z => z.2.1 rfl), if_neg (fun z => z.2.2.1 h2)]
    · rw [if_neg h2, e33 x1]
      by_cases h3 : (0 ≤ a1 ∧ a1 < nI (nR u)) ∧ ¬ (1 : Int32) = 0 ∧ ((0 ≤ a3 ∧ a3 ≤ 9996) ∧ irem a3 12 = 0) ∧ (0 ≤ a4 ∧ a4 ≤ 99)
      · rw [if_pos h3, if_pos ⟨h3.1, h1, h2, h3.2.2.1.1, h3.2.2.1.2, h3.2.2.2⟩]
      · rw [if_neg h3, if_neg (fun z => h3 ⟨z.1, by decide, ⟨z.2.2.2.1, z.2.2.2.2.1⟩, z.2.2.2.2.2⟩)]
  · rw [if_neg h1, f_X11_mix_32, e33 x1, if_neg (fun z => z.2.1 rfl), if_neg (fun z => h1 z.2.1)]
theorem c12_mix {u v : xS} {a1 a2 a3 a4 : Int32} (s1 : rd v 135 1 = nI (nS u)) (hS : nS u ≤ 16) (x1 : rd v 135 28 = nI (nR u)) (hR : nR u ≤ 6) : f_X12_mix a1 a2 a3 a4 v = if mG u a1 a2 a3 a4 then f_X12_mix_84 xN a1 a2 a3 a4 0 (wr v 135 0 0) else some (-1, wr v 135 0 0) := by
  have e : f_X12_isRecipe (wr v 135 0 0) a1 = if 0 ≤ a1 ∧ a1 < nI (nR u) then 1 else 0 := isR (u := wr v 135 0 0) x1 (by omega)
  have no : f_X12_mix_71 a1 a2 a3 a4 (wr v 135 0 0) = some (-1, wr v 135 0 0) := by rw [f_X12_mix_71, f_X12_mix_72, if_pos rfl]
  rw [f_X12_mix, e, ite_10, s1, sh_S hS, no, L_1, in_eq, ite_10, L_0, L_9996, in_eq, ite_10, f_X12_isWeek, L_0, L_99, in_eq, ite_10]
  by_cases h1 : 0 ≤ a1 ∧ a1 < nI (nR u)
  · rw [if_pos h1]
    by_cases h2 : 1 ≤ a2 ∧ a2 ≤ nI (2 ^ nS u - 1)
    · rw [if_pos h2]
      by_cases h3 : 6 < f_J6_bitCount_0f7a4 a2
      · rw [if_pos h3, if_neg (fun z => z.2.2.1 h3)]
      · rw [if_neg h3]
        by_cases h4 : 0 ≤ a3 ∧ a3 ≤ 9996
        · rw [if_pos h4]
          by_cases h5 : irem a3 12 = 0
          · rw [if_pos h5]
            by_cases h6 : 0 ≤ a4 ∧ a4 ≤ 99
            · rw [if_pos h6, if_pos ⟨h1, h2, h3, h4, h5, h6⟩, f_X12_mix_72, if_neg (by decide)]
            · rw [if_neg h6, if_neg (fun z => h6 z.2.2.2.2.2)]
          · rw [if_neg h5, if_neg (fun z => h5 z.2.2.2.2.1)]
        · rw [if_neg h4, if_neg (fun z => h4 z.2.2.2.1)]
    · rw [if_neg h2, if_neg (fun z => h2 z.2.1)]
  · rw [if_neg h1, if_neg (fun z => h1 z.1)]
/-! the reference's loops ahead and behind -/
theorem was84 {S : Nat} (hS : S ≤ 16) {a1 a2 a3 a4 : Int32} {v : xS} (s1 : rd v 135 1 = nI S) : ∀ (d n N : Nat) (v' : xS), n + d = S → d < N → ag [(160, 0), (163, 0)] v v' → (∀ s, s < n → rd v' 163 s = rd v 160 s ∧ rd v' 160 s = 0) → (∀ s, n ≤ s → rd v' 160 s = rd v 160 s) → ∃ v'', f_X12_mix_84 N a1 a2 a3 a4 (nI n) v' = ((f_r_X12_mixes a1 a2 a3 a4 (0 : Int32) (12 : Int32) (wr v'' 135 42 (-1 : Int32))).bind fun u3 => (f_X12_mix_141 xN (0 : Int32) u3)) ∧ ag [(160, 0), (163, 0)] v v'' ∧ (∀ s, s < S → rd v'' 163 s = rd v 160 s ∧ rd v'' 160 s = 0) ∧ (∀ s, S ≤ s → rd v'' 160 s = rd v 160 s) := by
  intro d
  induction d with
  | zero =>
    intro n N v' h1 h2 h3 h4 h5
    obtain ⟨N, rfl⟩ : ∃ M, N = M + 1 := ⟨N - 1, by omega⟩
    have en : n = S := by omega
    subst en
    refine ⟨v', ?_, h3, h4, h5⟩
    rw [f_X12_mix_84, (h3 135 1 rfl).trans s1, if_pos (nI_le (Nat.le_refl _) (by omega))]
  | succ d ih =>
    intro n N v' h1 h2 h3 h4 h5
    obtain ⟨N, rfl⟩ : ∃ M, N = M + 1 := ⟨N - 1, by omega⟩
    obtain ⟨v'', z1, z2⟩ := ih (n + 1) N (wr (wr v' 163 n (rd v' 160 n)) 160 n 0) (by omega) (by omega) (ag_wr (ag_wr h3 rfl) rfl) (fun s hs => by
      by_cases e : s = n
      · subst e
        refine ⟨?_, ?_⟩
        · rw [rd_wr_ne (by omega), rd_wr, if_pos rfl, if_pos rfl, h5 s (Nat.le_refl _)]
        · rw [rd_wr, if_pos rfl, if_pos rfl]
      · obtain ⟨q1, q2⟩ := h4 s (by omega)
        refine ⟨?_, ?_⟩
        · rw [rd_wr_ne (by omega), rd_wr_ne (by omega)]
          exact q1
        · rw [rd_wr_ne (by omega), rd_wr_ne (by omega)]
          exact q2) (fun s hs => by
        rw [rd_wr_ne (by omega), rd_wr_ne (by omega)]
        exact h5 s (by omega))
    refine ⟨v'', ?_, z2⟩
    rw [f_X12_mix_84, (h3 135 1 rfl).trans s1, if_neg (nI_ge (by omega) (by omega)), gd_nI (by omega) (by omega), nI_cl (by omega), nI_1]
    exact z1
theorem back141 {S : Nat} (hS : S ≤ 16) {v : xS} (s1 : rd v 135 1 = nI S) {x : Nat → Int32} (hx : ∀ s, s < S → x s = if 0 ≤ rd v 135 42 then rd v 164 s else rd v 163 s) : ∀ (d n N : Nat) (v' : xS), n + d = S → d < N → ag [(160, 0)] v v' → (∀ s, s < n → rd v' 160 s = x s) → (∀ s, n ≤ s → rd v' 160 s = rd v 160 s) → ∃ v'', f_X12_mix_141 N (nI n) v' = some (if 0 ≤ rd v 135 42 then rd v 135 42 else -2, v'') ∧ ag [(160, 0)] v v'' ∧ (∀ s, s < S → rd v'' 160 s = x s) ∧ (∀ s, S ≤ s → rd v'' 160 s = rd v 160 s) := by
  intro d
  induction d with
  | zero =>
    intro n N v' h1 h2 h3 h4 h5
    obtain ⟨N, rfl⟩ : ∃ M, N = M + 1 := ⟨N - 1, by omega⟩
    have en : n = S := by omega
    subst en
    refine ⟨v', ?_, h3, h4, h5⟩
    rw [f_X12_mix_141, (h3 135 1 rfl).trans s1, if_pos (nI_le (Nat.le_refl _) (by omega)), h3 135 42 rfl]
    by_cases c : 0 ≤ rd v 135 42
    · rw [if_pos c, if_pos c]
    · rw [if_neg c, if_neg c]
  | succ d ih =>
    intro n N v' h1 h2 h3 h4 h5
    obtain ⟨N, rfl⟩ : ∃ M, N = M + 1 := ⟨N - 1, by omega⟩
    obtain ⟨v'', z1, z2⟩ := ih (n + 1) N (wr v' 160 n (x n)) (by omega) (by omega) (ag_wr h3 rfl) (fun s hs => by
      by_cases e : s = n
      · rw [e, rd_wr, if_pos rfl, if_pos rfl]
      · rw [rd_wr_ne (by omega)]
        exact h4 s (by omega)) (fun s hs => by
        rw [rd_wr_ne (by omega)]
        exact h5 s (by omega))
    refine ⟨v'', ?_, z2⟩
    rw [f_X12_mix_141, (h3 135 1 rfl).trans s1, if_neg (nI_ge (by omega) (by omega)), h3 135 42 rfl, nI_cl (show n < 2147483648 by omega), h3 164 n rfl, h3 163 n rfl]
    have hxn := hx n (by omega)
    by_cases c : 0 ≤ rd v 135 42
    · rw [if_pos c] at hxn
      rw [if_pos c, gd_nI (by omega) (by omega), f_X12_mix_180, gd_nI (by omega) (by omega), nI_cl (by omega), nI_1, ← hxn]
      exact z1
    · rw [if_neg c] at hxn
      rw [if_neg c, gd_nI (by omega) (by omega), f_X12_mix_180, gd_nI (by omega) (by omega), nI_cl (by omega), nI_1, ← hxn]
      exact z1
theorem mup_mem {T : (Nat → Nat) → Bool} {C : (Nat → Nat) → Nat} : ∀ (l : List (Nat → Nat)) (b : Option (Nat → Nat)) (p : Nat → Nat), l.foldl (mup T C) b = some p → b = some p ∨ p ∈ l := by
  intro l
  induction l with
  | nil => intro b p h; exact Or.inl h
  | cons a l ih =>
    intro b p h
    rw [List.foldl_cons] at h
    rcases ih _ p h with h | h
    · cases b with
      | none =>
        rw [mup] at h
        by_cases c : T a = true
        · rw [if_pos c] at h
          cases h
          exact Or.inr List.mem_cons_self
        · rw [if_neg c] at h
          cases h
      | some q =>
        rw [mup] at h
        by_cases c : T a = true ∧ C a < C q
        · rw [if_pos c] at h
          cases h
          exact Or.inr List.mem_cons_self
        · rw [if_neg c] at h
          exact Or.inl h
    · exact Or.inr (List.mem_cons_of_mem _ h)
theorem mT_fr {u u' : xS} (h : ∀ i, rd u' 136 i = rd u 136 i) (ch : Nat → Bool) (S : Nat) (Mn : Nat → Nat) (L : List Int32) : mT u' ch S Mn L = mT u ch S Mn L := by
  funext a
  unfold mT
  rw [jgv_fr h]
theorem mMn_fr {u u' : xS} (h1 : rd u' 135 7 = rd u 135 7) (h2 : ∀ i, rd u' 147 i = rd u 147 i) (q : Nat) : mMn u' q = mMn u q := by
  have q1 : nB u' = nB u := congrArg nv h1
  have q2 : eL u' = eL u := by funext b s; simp only [eL, h2]
  funext s
  unfold mMn stoN
  rw [q1, q2]
abbrev wZ : List (Nat × Nat) := (80, 0) :: (160, 0) :: wX
theorem Inv_blend {u u' : xS} (H : Inv u) (hag : ag wZ u u') (hF : i_F u') : Inv u' :=
  ⟨fr_S (ag_sm hag rfl) H.S, fr_P (ag_sm hag rfl) H.P, fr_B (ag_sm hag rfl) H.B, fr_H (ag_sm hag rfl) H.H, fr_L (ag_sm hag rfl) H.L, fr_K (ag_sm hag rfl) H.K, fr_T (ag_sm hag rfl) H.T, fr_X (ag_sm hag rfl) H.X, hF, fr_C (ag_sm hag rfl) H.C, fr_D (ag_sm hag rfl) H.D, fr_A (ag_sm hag rfl) H.A, fr_W (ag_sm hag rfl) H.W⟩
def msel (d : Nat → Int32) : Option (Nat → Nat) → Nat → Int32
  | none => d
  | some p => fun s => nI (p s)
theorem ref_mix {u v : xS} (hI : Inv u) (hag : ag ((80, 0) :: wX) u v) {r q m : Nat} {w : Int32} {L : List Int32} {pr : Nat → Nat} (hr : r < nR u) (hL : rcp u r L) (hq : q ≤ 833) (hm : m < 65536) (hp : ∀ s, prc u (nI s) w = nI (pr s)) (hpr : ∀ s, pr s ≤ 999) {b : Option (Nat → Nat)} (hb : b = (lvs m.testBit (nS u) 0 12 (fun _ => 0)).foldl (mup (rT u m.testBit q L) (mC pr (nS u))) none) :
    ∃ v', f_X12_mix_84 xN (nI r) (nI m) (nI (12 * q)) w 0 (wr v 135 0 0) = some (mls (mC pr (nS u)) (-2) b, v') ∧ ag ((160, 0) :: wX) v v' ∧ (∀ s, s < nS u → rd v' 160 s = msel (rd u 160) b s) ∧ (∀ s, nS u ≤ s → s < 16 → rd v' 160 s = rd u 160 s) := by
  have hS := hI.S.2.2.1
  have hR := hI.X.2.2.1
  obtain ⟨v0, hv0⟩ : ∃ v0, v0 = wr v 135 0 0 := ⟨_, rfl⟩
  have gv0 : ag wX v v0 := by rw [hv0]; exact ag_wr (ag_refl _ _) rfl
  have g0 : ag ((80, 0) :: wX) u v0 := ag_trans hag (ag_sub rfl gv0)
  have s10 : rd v0 135 1 = nI (nS u) := (g0 135 1 rfl).trans hI.S.2.1
  obtain ⟨v1, z1, z2, z3, z4⟩ := was84 (v := v0) (a1 := nI r) (a2 := nI m) (a3 := nI (12 * q)) (a4 := w) hS s10 (nS u) 0 xN v0 (by omega) (xN_lt (by omega)) (ag_refl _ _) (fun s hs => by omega) (fun s _ => rfl)
  obtain ⟨v2, hv2⟩ : ∃ v2, v2 = wr v1 135 42 (-1) := ⟨_, rfl⟩
  have g1 : ag wZ u v1 := ag_trans (ag_sub rfl g0) (ag_sub rfl z2)
  have g2 : ag wZ u v2 := by rw [hv2]; exact ag_wr g1 rfl
  have enS : nS v2 = nS u := congrArg nv (g2 135 1 rfl)
  have hB : rB v2 r q L pr w := ⟨fr_S (ag_sm g2 rfl) hI.S, fr_P (ag_sm g2 rfl) hI.P, ⟨fr_S (ag_sm g2 rfl) hI.S, fr_B (ag_sm g2 rfl) hI.B, fr_H (ag_sm g2 rfl) hI.H, fr_L (ag_sm g2 rfl) hI.L⟩, by omega, rcp_fr (by omega) (ag_sm g2 rfl) hL, hq, fun s => (prc_fr (ag_sm g2 rfl) _ _).trans (hp s), hpr⟩
  have eT : rT v2 m.testBit q L = rT u m.testBit q L := by
    show mT v2 m.testBit (nS v2) (mMn v2 q) L = mT u m.testBit (nS u) (mMn u q) L
    rw [mT_fr (fun i => g2 136 i rfl), enS, mMn_fr (g2 135 7 rfl) (fun i => g2 147 i rfl)]
  have hms : MS v2 (mC pr (nS v2)) (fun _ => 0) none v2 := ⟨ag_refl _ _, fun s hs => by
    rw [hv2, rd_wr_ne (by omega)]
    by_cases c : s < nS u
    · exact (z3 s c).2
    · rw [z4 s (by omega), g0 160 s rfl]
      exact (hI.F s hs).2.2 (by omega), by rw [hv2]; rfl, fun p hp => by cases hp⟩
  obtain ⟨v3, y1, y2, y3⟩ := mixes12 hB (ch := m.testBit) (bits := nI m) (fun s hs => mbit hm hs) (nS v2) 0 12 20 (fun _ => 0) none v2 (by omega) (by omega) (Nat.le_refl _) (fun _ => Nat.zero_le _) (fun s hs => by omega) (fun _ _ => rfl) (fun p hp => by cases hp) hms
  rw [eT, enS, ← hb] at y2 y3
  obtain ⟨k1, k2, k3, k4⟩ := y2
  have hCp : ∀ p, b = some p → mC pr (nS u) p ≤ 200000 := fun p hp => mC_le hS hpr (y3 p hp)
  have s13 : rd v3 135 1 = nI (nS u) := ((k1 135 1 rfl).trans (g2 135 1 rfl)).trans hI.S.2.1
  obtain ⟨v4, x1, x2, x3, x4⟩ := back141 (v := v3) hS s13 (x := fun s => if 0 ≤ rd v3 135 42 then rd v3 164 s else rd v3 163 s) (fun s hs => rfl) (nS u) 0 xN v3 (by omega) (xN_lt (by omega)) (ag_refl _ _) (fun s hs => by omega) (fun s _ => rfl)
  have g163 : ∀ s, s < nS u → rd v3 163 s = rd u 160 s := fun s hs => by
    rw [k1 163 s rfl, hv2, rd_wr_ne (by omega), (z3 s hs).1, g0 160 s rfl]
  have ev : (if 0 ≤ rd v3 135 42 then rd v3 135 42 else (-2 : Int32)) = mls (mC pr (nS u)) (-2) b := by
    rw [k3]
    cases b with
    | none =>
      rw [show mls (mC pr (nS u)) (-1) none = -1 from rfl, if_neg (by decide)]
      rfl
    | some p =>
      rw [show mls (mC pr (nS u)) (-1) (some p) = nI (mC pr (nS u) p) from rfl, if_pos (nI_lo (by have := hCp p rfl; omega))]
      rfl
  refine ⟨v4, ?_, ?_, fun s hs => ?_, fun s hs hs2 => ?_⟩
  · rw [← hv0, l_0, z1, ← hv2]
    have e0 : f_r_X12_mixes (nI r) (nI m) (nI (12 * q)) w (0 : Int32) (12 : Int32) v2 = some v3 := y1
    have e1 : f_X12_mix_141 xN (0 : Int32) v3 = some (if 0 ≤ rd v3 135 42 then rd v3 135 42 else -2, v4) := x1
    rw [e0, Option.bind_some, e1, ev]
  · exact ag_trans (ag_sub rfl gv0) (ag_trans (ag_sub rfl z2) (ag_trans (by rw [hv2]; exact ag_wr (ag_refl _ _) rfl) (ag_trans (ag_sub rfl k1) (ag_sub rfl x2))))
  · rw [x3 s hs, k3]
    cases b with
    | none =>
      rw [show mls (mC pr (nS u)) (-1) none = -1 from rfl, if_neg (by decide)]
      exact g163 s hs
    | some p =>
      rw [show mls (mC pr (nS u)) (-1) (some p) = nI (mC pr (nS u) p) from rfl, if_pos (nI_lo (by have := hCp p rfl; omega))]
      exact k4 p rfl s (by omega)
  · rw [x4 s hs, k2 s hs2, (hI.F s hs2).2.2 hs]
    rfl
theorem s_mix : xS_mix Inv := by
  intro u a1 a2 a3 a4 hI
  obtain ⟨x1, x2, x3, x4, x5⟩ := hI.X
  have hS := hI.S.2.2.1
  by_cases hG : mG u a1 a2 a3 a4
  · obtain ⟨h1, h2, h3, h4, h5, h6⟩ := id hG
    have p2 : 2 ^ nS u ≤ 65536 := Nat.pow_le_pow_right (n := 2) (j := 16) (by omega) hS
    have p0 : 0 < 2 ^ nS u := Nat.pow_pos (by decide)
    obtain ⟨r, hr, rfl⟩ := nI_ix (by omega) h1.1 h1.2
    obtain ⟨m, hm, rfl⟩ := nI_ixl (S := 2 ^ nS u - 1) (by omega) (Int32.le_trans (by decide) h2.1) h2.2
    obtain ⟨p, hp, rfl⟩ := nI_ixl (S := 9996) (by omega) h4.1 h4.2
    have hp12 : p % 12 = 0 := by
      rw [irem12 (by omega)] at h5
      exact (nI_eq (a := p % 12) (b := 0) (by omega) (by omega)).mp h5
    obtain ⟨q, rfl⟩ : ∃ q, p = 12 * q := ⟨p / 12, by omega⟩
    have hm1 : 1 ≤ m := (nI_leI (a := 1) (b := m) (by omega) (by omega)).mp h2.1
    have hm2 : m < 65536 := by omega
    have hbits : ∀ s, s < 16 → (((nI m >>> (nI s &&& 31)) &&& (1 : Int32)) = (1 : Int32) ↔ m.testBit s = true) := fun s hs => mbit hm2 hs
    have hkk : (clb m.testBit (nS u)).length ≤ 6 := by
      rw [clb_len]
      have e := bits_below (t := m) (S := nS u) (by omega) (16 - nS u)
      rw [show nS u + (16 - nS u) = 16 by omega] at e
      rw [bc_eq hm2, e] at h3
      have hb16 := nsum_bd (f := fun i => if m.testBit i = true then 1 else 0) (c := 1) (n := nS u) fun i _ => by
        by_cases c : m.testBit i = true
        · rw [if_pos c]; exact Nat.le_refl _
        · rw [if_neg c]; exact Nat.zero_le _
      apply Classical.byContradiction
      intro hn
      exact h3 (nI_lt (a := 6) (by omega) (by omega))
    have hk0 : 0 < (clb m.testBit (nS u)).length := by
      apply Classical.byContradiction
      intro hn
      have hz : ∀ s, m.testBit s = false := fun s => by
        by_cases c : s < nS u
        · cases hq : m.testBit s with
          | false => rfl
          | true =>
            have := clb_lt (ch := m.testBit) hq c
            omega
        · exact bit_hi (t := m) (i := nS u) (by omega) (by omega)
      have : m = 0 := Nat.eq_of_testBit_eq fun i => by rw [hz, Nat.zero_testBit]
      omega
    obtain ⟨L, hL⟩ := rcp_at hI.X hr
    have hpr : ∀ s, prc u (nI s) a4 = nI (nv (prc u (nI s) a4)) ∧ nv (prc u (nI s) a4) ≤ 999 := fun s => by
      obtain ⟨-, -, k, hk, ek⟩ := c_price hI.P (nI s) a4
      rw [ek, nv_nI (by omega)]
      exact ⟨rfl, hk⟩
    obtain ⟨u2, c1, c2, c3, c4⟩ := choose11 (a1 := nI r) hI (ch := m.testBit) (q := q) (w := a4) (bits := nI m) (by omega) hbits hkk (nS u) 0 xN (wr u 79 5 0) (by omega) (xN_lt (by omega)) ⟨ag_wr (ag_refl _ _) rfl, rfl, fun s hs => by omega⟩
    have hB : mB u2 (nS u) r (nR u) L := ⟨hS, (c2 1 2 rfl).trans hI.S.1, fun s hs f hf => by
      rw [c2 (3 + f) s (by rw [lc_3 hf]; rfl), c2 136 _ rfl]
      exact (hI.S.2.2.2 s hs).1 f hf, (c2 58 5 rfl).trans x1, hr, x3, rcp_fr (by omega) (ag_sm c2 rfl) hL⟩
    have hD : mD u2 (nS u) m.testBit (mMn u q) (fun s => prc u (nI s) a4) := ⟨c3, hkk, hk0, fun s => mMn_le u q s, c4⟩
    obtain ⟨u3, b, w1, w2, w3, w4, w5⟩ := cheap_ok hB hD (pr := fun s => nv (prc u (nI s) a4)) (fun s => (hpr s).1) (fun s => (hpr s).2)
    have eb : b = (lvs m.testBit (nS u) 0 12 (fun _ => 0)).foldl (mup (rT u m.testBit q L) (mC (fun s => nv (prc u (nI s) a4)) (nS u))) none := by
      rw [w1, mT_fr (fun i => c2 136 i rfl)]
    have g3 : ag wX u u3 := ag_trans (ag_sub rfl c2) (ag_sub rfl w3)
    obtain ⟨u4, y1, y2, y3⟩ : ∃ u4, f_X11_mix (nI r) (nI m) (nI (12 * q)) a4 u = some (mls (mC (fun s => nv (prc u (nI s) a4)) (nS u)) (-2) b, u4) ∧ ag ((80, 0) :: wX) u u4 ∧ ∀ s, s < 16 → rd u4 80 s = msel (rd u 80) b s := by
      have e0 : f_X11_mix_102 xN (nI r) (nI m) (nI (12 * q)) a4 (0 : Int32) (wr u 79 5 0) = _ := c1
      rw [c11_mix hI.S.1 hS x1, if_pos hG, e0, w2, Option.bind_some]
      cases b with
      | none =>
        refine ⟨u3, ?_, ag_sub rfl g3, fun s hs => g3 80 s rfl⟩
        dsimp only
        rw [show mls (mC (fun s => nv (prc u (nI s) a4)) (nS u)) (-2) none = -2 from rfl, if_pos (by decide)]
      | some p =>
        obtain ⟨u4, k1, k2, k3⟩ := settleT u3
        have hC := mC_le (S := nS u) hS (fun s => (hpr s).2) (w4 p rfl)
        refine ⟨u4, ?_, fun c j hc => (k3 c j (ne_W 80 (fun _ => rfl) hc)).trans ((ag_sub rfl g3 : ag ((80, 0) :: wX) u u3) c j hc), fun s hs => ?_⟩
        · dsimp only
          rw [show mls (mC (fun s => nv (prc u (nI s) a4)) (nS u)) (-2) (some p) = nI (mC (fun s => nv (prc u (nI s) a4)) (nS u) p) from rfl, if_neg (nI_pos (by omega)), k1, Option.bind_some]
        · rw [k2 s hs]
          exact w5 p rfl s hs
    obtain ⟨v', z1, z2, z3, z4⟩ := ref_mix (v := u4) hI y2 hr hL (by omega) hm2 (fun s => (hpr s).1) (fun s => (hpr s).2) eb
    refine ⟨_, u4, v', y1, ?_, ?_⟩
    · rw [c12_mix (u := u) ((y2 135 1 rfl).trans hI.S.2.1) hS ((y2 135 28 rfl).trans x2) x3, if_pos hG]
      exact z1
    · have gg : ag wZ u v' := ag_trans (ag_sub rfl y2) (ag_sub rfl z2)
      refine Inv_blend hI gg fun s hs => ?_
      have enS : nS v' = nS u := congrArg nv (gg 135 1 rfl)
      have e80 : rd v' 80 s = rd u4 80 s := z2 80 s rfl
      rw [enS, e80, y3 s hs]
      obtain ⟨f1, f2, f3⟩ := hI.F s hs
      cases b with
      | none =>
        have e : rd v' 160 s = rd u 160 s := by
          by_cases c : s < nS u
          · exact z3 s c
          · exact z4 s (by omega) hs
        rw [e]
        exact ⟨f1, f2, f3⟩
      | some p =>
        have hpz : nS u ≤ s → p s = 0 := fun hn => by
          obtain ⟨x, cs, hcl⟩ : ∃ x cs, clb m.testBit (nS u) = x :: cs := by
            cases hq : clb m.testBit (nS u) with
            | nil => rw [hq] at hk0; exact absurd hk0 (by decide)
            | cons x cs => exact ⟨x, cs, rfl⟩
          rcases mup_mem _ _ _ eb.symm with h | h
          · cases h
          · rw [lvs_all (x := x) (cs := cs) (by rw [clf_all, hcl]), ← hcl] at h
            obtain ⟨l, -, el⟩ := List.mem_map.mp h
            rw [← el]
            refine mval_no _ _ fun hc => ?_
            have := (clb_rng hc).1
            omega
        have e : rd v' 160 s = nI (p s) := by
          by_cases c : s < nS u
          · exact z3 s c
          · rw [z4 s (by omega) hs, f3 (by omega), hpz (by omega)]
            rfl
        rw [e]
        exact ⟨rfl, ⟨p s, w4 p rfl s, rfl⟩, fun hn => by rw [hpz hn]; rfl⟩
  · refine ⟨-1, u, wr u 135 0 0, ?_, ?_, Inv_thr hI⟩
    · rw [c11_mix hI.S.1 hS x1, if_neg hG]
    · rw [c12_mix (u := u) hI.S.2.1 hS x2 x3, if_neg hG]
