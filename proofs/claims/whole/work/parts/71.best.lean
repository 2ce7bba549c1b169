/-! SHARE: the best of the lands -/
theorem lmax_N {a b : Nat} (ha : a < 2 ^ 63) (hb : b < 2 ^ 63) : lmax (lN a) (lN b) = lN (max a b) := by
  unfold lmax
  by_cases c : b < a
  · rw [if_pos ((pk_lLT hb ha).mpr c), Nat.max_eq_left (by omega)]
  · rw [if_neg (fun z => c ((pk_lLT hb ha).mp z)), Nat.max_eq_right (by omega)]
theorem and_sm {a b : Nat} (ha : a < 256) (hb : b < 256) : nI a &&& nI b = nI (a &&& b) := by
  apply Int32.toBitVec_inj.mp
  rw [Int32.toBitVec_and]
  show BitVec.ofNat 32 a &&& BitVec.ofNat 32 b = BitVec.ofNat 32 (a &&& b)
  apply BitVec.eq_of_toNat_eq
  rw [BitVec.toNat_and, BitVec.toNat_ofNat, BitVec.toNat_ofNat, BitVec.toNat_ofNat]
  have h1 : a &&& b ≤ a := Nat.and_le_left
  rw [Nat.mod_eq_of_lt (by omega), Nat.mod_eq_of_lt (by omega), Nat.mod_eq_of_lt (by omega)]
/-- the best of lands below l for each set below n -/
def BS (u : xS) (l : Nat) (p : Nat → Prop) (w : xS) : Prop := ∀ s, p s → ∃ v, rl w 133 s = lN v ∧ Opt (kG u) (rmN u) (gG u) (nQ u) l s.testBit v
theorem with_in {u : xS} (hA : i_A u) {l m : Nat} {w : xS} {B : Nat → Nat} (hl : l < 4) (hm : m < 2 ^ nQ u) (hw : WS u l (2 ^ nQ u) w) (hB : ∀ s, s ≤ m → rl w 133 s = lN (B s) ∧ Opt (kG u) (rmN u) (gG u) (nQ u) l s.testBit (B s)) : ∀ (n t N v : Nat), t ≤ n → t &&& m = t → n < N → v ≤ 200000000000000 → B m ≤ v → (∀ s, t < s → s &&& m = s → Wo (kG u) (rmN u) (nQ u) l s.testBit → Wv (gG u) (nQ u) l s.testBit + B (m - s) ≤ v) → (v = B m ∨ ∃ s, s &&& m = s ∧ Wo (kG u) (rmN u) (nQ u) l s.testBit ∧ v = Wv (gG u) (nQ u) l s.testBit + B (m - s)) → ∃ v', f_X4_bestWith_10 w N (nI m) (lN v) (nI t) = some (lN v') ∧ B m ≤ v' ∧ (∀ s, 0 < s → s &&& m = s → Wo (kG u) (rmN u) (nQ u) l s.testBit → Wv (gG u) (nQ u) l s.testBit + B (m - s) ≤ v') ∧ (v' = B m ∨ ∃ s, s &&& m = s ∧ Wo (kG u) (rmN u) (nQ u) l s.testBit ∧ v' = Wv (gG u) (nQ u) l s.testBit + B (m - s)) := by
  have hQ : nQ u ≤ 8 := hA.2.2.1
  have h256 : 2 ^ nQ u ≤ 256 := p2_le hQ
  intro n
  induction n with
  | zero =>
    intro t N v h1 h2 h3 h4 h5 h6 h7
    obtain ⟨N, rfl⟩ : ∃ M, N = M + 1 := ⟨N - 1, by omega⟩
    have et : t = 0 := by omega
    subst et
    refine ⟨v, ?_, h5, h6, h7⟩
    rw [f_X4_bestWith_10, if_pos (show nI 0 ≤ 0 from by decide)]
  | succ n ih =>
    intro t N v h1 h2 h3 h4 h5 h6 h7
    obtain ⟨N, rfl⟩ : ∃ M, N = M + 1 := ⟨N - 1, by omega⟩
    by_cases c0 : t = 0
    · subst c0
      refine ⟨v, ?_, h5, h6, h7⟩
      rw [f_X4_bestWith_10, if_pos (show nI 0 ≤ 0 from by decide)]
    · have htm : t ≤ m := by rw [← h2]; exact Nat.and_le_right
      have hlt := sub_lt m (t := t) (by omega)
      have nxt : ∀ x, f_X4_bestWith_49 (f_X4_bestWith_10 w N) w (nI m) x (nI t) = f_X4_bestWith_10 w N (nI m) x (nI ((t - 1) &&& m)) := fun x => by
        rw [f_X4_bestWith_49, l_1, nI_sub (by omega), and_sm (by omega) (by omega)]
      have skip : ∀ s, (t - 1) &&& m < s → s &&& m = s → s = t ∨ t < s := fun s hs hsm => by
        by_cases c : s < t
        · have := sub_pred t t m s (Nat.le_refl _) hsm h2 c
          omega
        · omega
      rw [f_X4_bestWith_10, if_neg (nI_nle (by omega) (by omega)), gd_nI (by omega) (by omega), nI_cl (by omega)]
      by_cases c1 : Wo (kG u) (rmN u) (nQ u) l t.testBit
      · have e1 := (hw t (by omega)).1 c1
        have b1 := Wv_le hA hl c1
        obtain ⟨e2, e3⟩ := hB (m - t) (by omega)
        have b2 := Opt_le hA (by omega) e3
        have n1 : ¬ lg_cmp (lN (Wv (gG u) (nQ u) l t.testBit)) (0 : Int64) < 0 := fun z => by
          have := (cmp_neg _ _).mp z
          have := (pk_lLT (a := Wv (gG u) (nQ u) l t.testBit) (b := 0) (by omega) (by omega)).mp this
          omega
        rw [e1, if_neg n1, nI_sub htm, gd_nI (by omega) (by omega), nI_cl (by omega), e2, lN_add, lmax_N (by omega) (by omega), nxt]
        refine ih _ N _ (by omega) (sub_in t m) (by omega) ?_ ?_ (fun s hs hsm hws => ?_) ?_
        · omega
        · omega
        · rcases skip s hs hsm with c | c
          · subst c; omega
          · have := h6 s c hsm hws
            omega
        · by_cases c : Wv (gG u) (nQ u) l t.testBit + B (m - t) ≤ v
          · rw [Nat.max_eq_left c]
            exact h7
          · rw [Nat.max_eq_right (by omega)]
            exact Or.inr ⟨t, h2, c1, rfl⟩
      · have e1 := (hw t (by omega)).2 c1
        rw [e1, if_pos (show lg_cmp (-1 : Int64) (0 : Int64) < 0 from (cmp_neg _ _).mpr (by decide)), nxt]
        refine ih _ N _ (by omega) (sub_in t m) (by omega) h4 h5 (fun s hs hsm hws => ?_) h7
        rcases skip s hs hsm with c | c
        · subst c; exact (c1 hws).elim
        · exact h6 s c hsm hws
theorem and_sub_le {s m : Nat} (h : s &&& m = s) : s ≤ m := by rw [← h]; exact Nat.and_le_right
theorem with_ok {u : xS} (hA : i_A u) {l m : Nat} {w : xS} (hl : l < 4) (hm : m < 2 ^ nQ u) (hw : WS u l (2 ^ nQ u) w) (hB : BS u l (fun s => s ≤ m) w) : ∃ v, f_X4_bestWith w (nI m) = some (lN v) ∧ Opt (kG u) (rmN u) (gG u) (nQ u) (l + 1) m.testBit v := by
  have h256 : 2 ^ nQ u ≤ 256 := p2_le hA.2.2.1
  have hc : ∀ s, ∃ v, s ≤ m → rl w 133 s = lN v ∧ Opt (kG u) (rmN u) (gG u) (nQ u) l s.testBit v := fun s => by
    by_cases c : s ≤ m
    · obtain ⟨v, z⟩ := hB s c
      exact ⟨v, fun _ => z⟩
    · exact ⟨0, fun h => (c h).elim⟩
  obtain ⟨B, hB'⟩ := Classical.axiomOfChoice hc
  obtain ⟨e1, e2⟩ := hB' m (Nat.le_refl _)
  have b1 := Opt_le hA (by omega) e2
  obtain ⟨v', z1, z2, z3, z4⟩ := with_in hA hl hm hw hB' m m xN (B m) (Nat.le_refl _) (Nat.and_self m) (xN_lt (by omega)) (by omega) (Nat.le_refl _) (fun s hs hsm => by have := and_sub_le hsm; omega) (Or.inl rfl)
  refine ⟨v', ?_, opt_step (B := B) (fun s hs => (hB' s (and_sub_le hs)).2) z2 z3 z4⟩
  rw [f_X4_bestWith, gd_nI (by omega) (by omega), nI_cl (by omega), e1]
  exact z1
theorem down29 {u : xS} (hA : i_A u) {l : Nat} (hl : l < 4) (k10 : Int32 → xS → Option (Int64 × xS)) : ∀ (m N : Nat) (w : xS), m < 2 ^ nQ u → m < N → (∀ c j, rd w c j = rd u c j) → WS u l (2 ^ nQ u) w → BS u l (fun s => s ≤ m) w → BS u (l + 1) (fun s => m < s ∧ s < 2 ^ nQ u) w → ∃ w', f_X4_bestShare_29 k10 N (nI l) (nI m) w = k10 (nI (l + 1)) w' ∧ (∀ c j, rd w' c j = rd u c j) ∧ BS u (l + 1) (fun s => s < 2 ^ nQ u) w' := by
  have h256 : 2 ^ nQ u ≤ 256 := p2_le hA.2.2.1
  intro m
  induction m with
  | zero =>
    intro N w h1 h2 h3 h4 h5 h6
    obtain ⟨N, rfl⟩ : ∃ M, N = M + 1 := ⟨N - 1, by omega⟩
    refine ⟨w, ?_, h3, fun s hs => ?_⟩
    · rw [f_X4_bestShare_29, if_pos (show nI 0 ≤ 0 from by decide), nI_1]
    · by_cases c : s = 0
      · subst c
        obtain ⟨v, e1, e2⟩ := h5 0 (Nat.le_refl _)
        refine ⟨0, ?_, Opt_e⟩
        rw [e1, Opt_uni e2 Opt_e]
      · exact h6 s ⟨by omega, hs⟩
  | succ m ih =>
    intro N w h1 h2 h3 h4 h5 h6
    obtain ⟨N, rfl⟩ : ∃ M, N = M + 1 := ⟨N - 1, by omega⟩
    obtain ⟨v, z1, z2⟩ := with_ok hA hl h1 h4 h5
    obtain ⟨w', y1, y2, y3⟩ := ih N (wl w 133 (m + 1) (lN v)) (by omega) (by omega) (fun c j => (rd_wl w 133 _ c j _).trans (h3 c j)) (fun s hs => by
        rw [rl_wl, if_neg (by decide)]
        exact h4 s hs) (fun s hs => by
        obtain ⟨v2, q1, q2⟩ := h5 s (by omega)
        refine ⟨v2, ?_, q2⟩
        rw [rl_wl, if_pos rfl, if_neg (by omega)]
        exact q1) (fun s hs => by
        by_cases c : s = m + 1
        · subst c
          refine ⟨v, ?_, z2⟩
          rw [rl_wl, if_pos rfl, if_pos rfl]
        · obtain ⟨v2, q1, q2⟩ := h6 s ⟨by omega, hs.2⟩
          refine ⟨v2, ?_, q2⟩
          rw [rl_wl, if_pos rfl, if_neg c]
          exact q1)
    refine ⟨w', ?_, y2, y3⟩
    rw [f_X4_bestShare_29, if_neg (nI_nle (by omega) (by omega)), z1, Option.bind_some, gd_nI (by omega) (by omega), nI_cl (by omega), pk_m1]
    exact y1
theorem lands10 {u : xS} (hA : i_A u) : ∀ (d l N : Nat) (w : xS), l + d = 4 → d < N → (∀ c j, rd w c j = rd u c j) → BS u l (fun s => s < 2 ^ nQ u) w → ∃ v w', f_X4_bestShare_10 N (nI l) w = some (lN v, w') ∧ (∀ c j, rd w' c j = rd u c j) ∧ Opt (kG u) (rmN u) (gG u) (nQ u) 4 (2 ^ nQ u - 1).testBit v := by
  have hQ : nQ u ≤ 8 := hA.2.2.1
  have h256 : 2 ^ nQ u ≤ 256 := p2_le hA.2.2.1
  have hpos : 0 < 2 ^ nQ u := Nat.pow_pos (by decide)
  intro d
  induction d with
  | zero =>
    intro l N w h1 h2 h3 h4
    obtain ⟨N, rfl⟩ : ∃ M, N = M + 1 := ⟨N - 1, by omega⟩
    have el : l = 4 := by omega
    subst el
    obtain ⟨v, e1, e2⟩ := h4 (2 ^ nQ u - 1) (by omega)
    refine ⟨v, w, ?_, h3, e2⟩
    rw [f_X4_bestShare_10, l_4, if_pos (nI_le (Nat.le_refl 4) (by omega)), h3, hA.1, shl20 _ (by omega), l_1, nI_sub (by omega), gd_nI (by omega) (by omega), nI_cl (by omega), e1]
  | succ d ih =>
    intro l N w h1 h2 h3 h4
    obtain ⟨N, rfl⟩ : ∃ M, N = M + 1 := ⟨N - 1, by omega⟩
    obtain ⟨w1, z1, z2, z3, z4⟩ := weigh_all hA (l := l) (by omega) h3
    obtain ⟨w2, y1, y2, y3⟩ := down29 hA (l := l) (by omega) (f_X4_bestShare_10 N) (2 ^ nQ u - 1) xN w1 (by omega) (xN_lt (by omega)) z2 z4 (fun s hs => by
        obtain ⟨v, q1, q2⟩ := h4 s (by omega)
        exact ⟨v, (z3 133 s (by decide)).trans q1, q2⟩) (fun s hs => by omega)
    obtain ⟨v, w3, x1, x2, x3⟩ := ih (l + 1) N w2 (by omega) (by omega) y2 y3
    refine ⟨v, w3, ?_, x2, x3⟩
    rw [f_X4_bestShare_10, l_4, if_neg (nI_ge (by omega) (by omega)), z1, Option.bind_some, z2, hA.1, shl20 _ (by omega), l_1, nI_sub (by omega), y1]
    exact x1
theorem fill6 {u : xS} : ∀ (d i N : Nat) (w : xS), i + d = 256 → d < N → (∀ c j, rd w c j = rd u c j) → (∀ j, j < i → rl w 133 j = 0) → ∃ w', f_J7_fill_d0a16_6 N 133 0 (nI i) (nI 256) w = some w' ∧ (∀ c j, rd w' c j = rd u c j) ∧ (∀ j, j < 256 → rl w' 133 j = 0) := by
  have x1 : xisJ 133 = true := by decide +kernel
  have x2 : xlen 133 = 256 := by decide +kernel
  intro d
  induction d with
  | zero =>
    intro i N w h1 h2 h3 h4
    obtain ⟨N, rfl⟩ : ∃ M, N = M + 1 := ⟨N - 1, by omega⟩
    have ei : i = 256 := by omega
    subst ei
    refine ⟨w, ?_, h3, h4⟩
    rw [f_J7_fill_d0a16_6, if_pos (nI_le (Nat.le_refl _) (by omega))]
  | succ d ih =>
    intro i N w h1 h2 h3 h4
    obtain ⟨N, rfl⟩ : ∃ M, N = M + 1 := ⟨N - 1, by omega⟩
    obtain ⟨w', y1, y2, y3⟩ := ih (i + 1) N (wl w 133 i 0) (by omega) (by omega) (fun c j => (rd_wl w 133 _ c j _).trans (h3 c j)) (fun j hj => by
      rw [rl_wl, if_pos rfl]
      by_cases c : j = i
      · rw [if_pos c]
      · rw [if_neg c]
        exact h4 j (by omega))
    refine ⟨w', ?_, y2, y3⟩
    rw [f_J7_fill_d0a16_6, if_neg (nI_ge (by omega) (by omega)), x1, gd_t, x2, gd_nI (by omega) (by omega), nI_cl (by omega), nI_1]
    exact y1
theorem best_ok {u : xS} (hA : i_A u) : ∃ v w, f_X4_bestShare u = some (lN v, w) ∧ (∀ c j, rd w c j = rd u c j) ∧ Opt (kG u) (rmN u) (gG u) (nQ u) 4 (fun _ => true) v := by
  have hQ : nQ u ≤ 8 := hA.2.2.1
  have h256 : 2 ^ nQ u ≤ 256 := p2_le hA.2.2.1
  have x1 : xisJ 133 = true := by decide +kernel
  have x2 : xlen 133 = 256 := by decide +kernel
  obtain ⟨w1, z1, z2, z3⟩ := fill6 (u := u) 256 0 xN u (by omega) (xN_lt (by omega)) (fun _ _ => rfl) (fun j hj => by omega)
  obtain ⟨v, w2, y1, y2, y3⟩ := lands10 hA 4 0 xN w1 (by omega) (xN_lt (by omega)) z2 (fun s hs => ⟨0, z3 s (by omega), Opt_0⟩)
  refine ⟨v, w2, ?_, y2, Opt_congr (fun i hi => ?_) y3⟩
  · rw [f_X4_bestShare, f_J7_fill_d0a16, x1, gd_t, x2]
    have e : f_J7_fill_d0a16_6 xN 133 0 0 (Int32.ofNat 256) u = some w1 := z1
    rw [e, Option.bind_some]
    exact y1
  · rw [Nat.testBit_two_pow_sub_one]
    exact decide_eq_true hi
