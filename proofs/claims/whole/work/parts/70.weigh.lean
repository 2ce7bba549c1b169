/-! SHARE: what a land gives for a set -/
def gG (u : xS) (l i : Nat) : Nat := gN u l i * 390625 + (4 - l) * 5 ^ (7 - i)
theorem nsum_mulr (f : Nat → Nat) (c : Nat) : ∀ n, nsum f n * c = nsum (fun j => f j * c) n := by
  intro n
  induction n with
  | zero => exact Nat.zero_mul c
  | succ n ih => rw [nsum, nsum, Nat.add_mul, ih]
theorem Va_vv (u : xS) (Q : Nat) (a : Nat → Nat) : Va (gG u) Q 4 (fun _ => true) a = vv u a Q := by
  unfold vv
  have h1 : smN u a Q * 390625 = nsum (fun j => (if a j < 4 then gN u (a j) j else 0) * 390625) Q := nsum_mulr _ _ _
  unfold digs
  rw [h1, ← nsum_add]
  refine nsum_congr fun j hj => ?_
  unfold gG dg
  by_cases c : a j < 4
  · simp [c]
  · simp [c]
theorem FE_Fea {u : xS} {a : Nat → Nat} : FE u a ↔ Fea (kG u) (rmN u) (nQ u) 4 (fun _ => true) a := by
  have e : ∀ l, cnt a l (nQ u) = nsum (fun i => if (fun _ => true) i = true ∧ a i = l then 1 else 0) (nQ u) := fun l => nsum_congr fun i hi => by simp
  constructor
  · rintro ⟨h1, h2⟩
    exact ⟨fun i hi _ h => h1 i hi h, fun l hl => by rw [← e]; exact h2 l hl⟩
  · rintro ⟨h1, h2⟩
    exact ⟨fun i hi h => h1 i hi rfl h, fun l hl => by rw [e]; exact h2 l hl⟩
theorem gG_le {u : xS} (hA : i_A u) {l i : Nat} (hl : l < 4) (hi : i < nQ u) (h : kG u l i = true) : gG u l i ≤ 7804700000000 := by
  have h1 := (gv_N hA hl hi h).2
  have h2 : 5 ^ (7 - i) ≤ 5 ^ 7 := Nat.pow_le_pow_right (by omega) (by omega)
  have h3 : (4 - l) * 5 ^ (7 - i) ≤ 4 * 5 ^ 7 := Nat.mul_le_mul (by omega) h2
  have h4 : (4 : Nat) * 5 ^ 7 = 312500 := by decide
  unfold gG
  omega
theorem Va_le {u : xS} (hA : i_A u) {L : Nat} {m : Nat → Bool} {a : Nat → Nat} (hL : L ≤ 4) (h : Fea (kG u) (rmN u) (nQ u) L m a) : Va (gG u) (nQ u) L m a ≤ 62437600000000 := by
  have hQ : nQ u ≤ 8 := hA.2.2.1
  have := nsum_bd (f := fun i => if m i = true ∧ a i < L then gG u (a i) i else 0) (c := 7804700000000) (n := nQ u) (fun i hi => by
    by_cases c : m i = true ∧ a i < L
    · rw [if_pos c]
      exact gG_le hA (by omega) hi (h.1 i hi c.1 c.2)
    · rw [if_neg c]
      exact Nat.zero_le _)
  unfold Va
  omega
theorem Opt_le {u : xS} (hA : i_A u) {L v : Nat} {m : Nat → Bool} (hL : L ≤ 4) (h : Opt (kG u) (rmN u) (gG u) (nQ u) L m v) : v ≤ 62437600000000 := by
  obtain ⟨⟨a, f, e⟩, -⟩ := h
  rw [← e]
  exact Va_le hA hL f
theorem Wv_le {u : xS} (hA : i_A u) {l : Nat} {t : Nat → Bool} (hl : l < 4) (h : Wo (kG u) (rmN u) (nQ u) l t) : Wv (gG u) (nQ u) l t ≤ 62437600000000 := by
  have hQ : nQ u ≤ 8 := hA.2.2.1
  have := nsum_bd (f := fun i => if t i = true then gG u l i else 0) (c := 7804700000000) (n := nQ u) (fun i hi => by
    by_cases c : t i = true
    · rw [if_pos c]
      exact gG_le hA hl hi (h.1 i hi c)
    · rw [if_neg c]
      exact Nat.zero_le _)
  unfold Wv
  omega
theorem bc8 : ∀ t, t < 256 → f_J6_bitCount_0f7a4 (nI t) = nI (cS t 8) := by decide +kernel
theorem cS_Q {t Q : Nat} (hQ : Q ≤ 8) (ht : t < 2 ^ Q) : cS t 8 = cS t Q := by
  obtain ⟨k, hk⟩ : ∃ k, 8 = Q + k := ⟨8 - Q, by omega⟩
  rw [hk]
  clear hk
  induction k with
  | zero => rfl
  | succ k ih =>
    show cS t (Q + k) + (if t.testBit (Q + k) = true then 1 else 0) = _
    rw [ih, bit_hi ht (by omega)]
    simp
theorem xWt_eq : ∀ i, i < 8 → xWt i = nI (5 ^ (7 - i)) := by decide +kernel
theorem p5_le (i : Nat) : 5 ^ (7 - i) ≤ 78125 := Nat.pow_le_pow_right (n := 5) (j := 7) (by omega) (by omega)
theorem p2_le {i : Nat} (h : i ≤ 8) : 2 ^ i ≤ 256 := Nat.pow_le_pow_right (n := 2) (j := 8) (by omega) h
/-- the worths of the sets below n -/
def WS (u : xS) (l n : Nat) (w : xS) : Prop := ∀ s, s < n → (Wo (kG u) (rmN u) (nQ u) l s.testBit → rl w 132 s = lN (Wv (gG u) (nQ u) l s.testBit)) ∧ (¬ Wo (kG u) (rmN u) (nQ u) l s.testBit → rl w 132 s = -1)
theorem A_rd {u w : xS} (h : ∀ c j, rd w c j = rd u c j) (hA : i_A u) : i_A w := fr_A (fun c j _ => h c j) hA
theorem nQ_rd {u w : xS} (h : ∀ c j, rd w c j = rd u c j) : nQ w = nQ u := congrArg nv (h 135 54)
theorem gv_rd {u w : xS} (h : ∀ c j, rd w c j = rd u c j) (l i : Nat) : gv w l i = gv u l i := by
  unfold gv
  simp only [h]
theorem WS_s {u w : xS} {l i t : Nat} {v : Int64} (h : WS u l (2 ^ i + t) w) (hv : (Wo (kG u) (rmN u) (nQ u) l (2 ^ i + t).testBit → v = lN (Wv (gG u) (nQ u) l (2 ^ i + t).testBit)) ∧ (¬ Wo (kG u) (rmN u) (nQ u) l (2 ^ i + t).testBit → v = -1)) : WS u l (2 ^ i + (t + 1)) (wl w 132 (2 ^ i + t) v) := by
  intro s hs
  rw [rl_wl, if_pos rfl]
  by_cases c : s = 2 ^ i + t
  · rw [if_pos c, c]
    exact hv
  · rw [if_neg c]
    exact h s (by omega)
theorem weigh_in {u : xS} (hA : i_A u) {l i : Nat} (hl : l < 4) (hi : i < nQ u) (k9 : Int32 → Int32 → xS → Option xS) : ∀ (d t N : Nat) (w : xS), t + d = 2 ^ i → d < N → (∀ c j, rd w c j = rd u c j) → WS u l (2 ^ i + t) w → ∃ w', f_X4_weigh_45 k9 N (nI l) (nI i) (gv u l i) (lN ((4 - l) * 5 ^ (7 - i))) (nI (2 ^ i)) (nI t) w = k9 (nI l) (nI (i + 1)) w' ∧ (∀ c j, rd w' c j = rd u c j) ∧ (∀ c j, ¬ c = 132 → rl w' c j = rl w c j) ∧ WS u l (2 ^ (i + 1)) w' := by
  have hQ : nQ u ≤ 8 := hA.2.2.1
  have h2i : 2 ^ i ≤ 128 := Nat.pow_le_pow_right (n := 2) (j := 7) (by omega) (by omega)
  intro d
  induction d with
  | zero =>
    intro t N w h1 h2 h3 h4
    obtain ⟨N, rfl⟩ : ∃ M, N = M + 1 := ⟨N - 1, by omega⟩
    have et : t = 2 ^ i := by omega
    subst et
    refine ⟨w, ?_, h3, fun _ _ _ => rfl, ?_⟩
    · rw [f_X4_weigh_45, if_pos (nI_le (Nat.le_refl _) (by omega)), nI_1]
    · rw [Nat.pow_succ, Nat.mul_two]
      exact h4
  | succ d ih =>
    intro t N w h1 h2 h3 h4
    obtain ⟨N, rfl⟩ : ∃ M, N = M + 1 := ⟨N - 1, by omega⟩
    have ht : t < 2 ^ i := by omega
    have go : ∀ v : Int64, ((Wo (kG u) (rmN u) (nQ u) l (2 ^ i + t).testBit → v = lN (Wv (gG u) (nQ u) l (2 ^ i + t).testBit)) ∧ (¬ Wo (kG u) (rmN u) (nQ u) l (2 ^ i + t).testBit → v = -1)) → ∃ w', f_X4_weigh_126 (f_X4_weigh_45 k9 N) k9 (nI l) (nI i) (gv u l i) (lN ((4 - l) * 5 ^ (7 - i))) (nI (2 ^ i)) (nI t) (nI (2 ^ i) + nI t) v w = k9 (nI l) (nI (i + 1)) w' ∧ (∀ c j, rd w' c j = rd u c j) ∧ (∀ c j, ¬ c = 132 → rl w' c j = rl w c j) ∧ WS u l (2 ^ (i + 1)) w' := fun v hv => by
      obtain ⟨w', z1, z2, z3, z4⟩ := ih (t + 1) N (wl w 132 (2 ^ i + t) v) (by omega) (by omega) (fun c j => (rd_wl w 132 _ c j v).trans (h3 c j)) (WS_s h4 hv)
      refine ⟨w', ?_, z2, fun c j hc => (z3 c j hc).trans ?_, z4⟩
      · rw [f_X4_weigh_126, nI_add, gd_nI (by omega) (by omega), nI_cl (by omega), nI_1]
        exact z1
      · rw [rl_wl, if_neg hc]
    have no : ¬ Wo (kG u) (rmN u) (nQ u) l (2 ^ i + t).testBit → ∃ w', f_X4_weigh_86 (f_X4_weigh_45 k9 N) k9 (nI l) (nI i) (gv u l i) (lN ((4 - l) * 5 ^ (7 - i))) (nI (2 ^ i)) (nI t) w = k9 (nI l) (nI (i + 1)) w' ∧ (∀ c j, rd w' c j = rd u c j) ∧ (∀ c j, ¬ c = 132 → rl w' c j = rl w c j) ∧ WS u l (2 ^ (i + 1)) w' := fun hn => by
      rw [f_X4_weigh_86, f_X4_weigh_87, if_pos rfl]
      exact go (-1) ⟨fun h => (hn h).elim, fun _ => rfl⟩
    have hW := Wo_add (K := kG u) (rm := rmN u) (l := l) ht hi
    rw [f_X4_weigh_45, if_neg (nI_ge ht (by omega))]
    by_cases c1 : gv u l i < 0
    · rw [if_pos c1]
      refine no fun h => ?_
      exact (of_decide_eq_true (hW.mp h).1) c1
    · have hk : kG u l i = true := decide_eq_true c1
      obtain ⟨g1, g2⟩ := gv_N hA hl hi hk
      rw [if_neg c1, gd_nI (by omega) (by omega), nI_cl (by omega)]
      by_cases c2 : Wo (kG u) (rmN u) (nQ u) l t.testBit
      · have e1 := (h4 t (by omega)).1 c2
        have b1 := Wv_le hA hl c2
        have e2 : ¬ lg_cmp (lN (Wv (gG u) (nQ u) l t.testBit)) (0 : Int64) < 0 := fun z => by
          have := (cmp_neg _ _).mp z
          have := (pk_lLT (a := Wv (gG u) (nQ u) l t.testBit) (b := 0) (by omega) (by omega)).mp this
          omega
        have e3 : rd w 127 l = nI (rmN u l) ∧ rmN u l ≤ 8 := by
          obtain ⟨v, hv, e⟩ := (hA.2.2.2.1 l hl).2.1
          rw [h3, (hA.2.2.2.1 l hl).1]
          unfold rmN
          rw [e, nv_nI (by omega)]
          exact ⟨rfl, hv⟩
        have e4 : f_J6_bitCount_0f7a4 (nI t) = nI (cS t (nQ u)) := by
          rw [bc8 t (by omega), cS_Q hQ (Nat.lt_of_lt_of_le ht (Nat.pow_le_pow_right (by omega) (by omega)))]
        have e5 : cS t (nQ u) ≤ rmN u l := c2.2
        rw [e1, if_neg e2, gd_nI hl (by omega), nI_cl (by omega), e3.1, e4]
        by_cases c3 : rmN u l ≤ cS t (nQ u)
        · rw [if_pos (nI_le c3 (by omega))]
          refine no fun h => ?_
          have := (hW.mp h).2.2
          omega
        · rw [if_neg (nI_ge (by omega) (by omega)), f_X4_weigh_87, if_neg (by decide), gd_nI (by omega) (by omega), nI_cl (by omega), e1]
          refine go _ ⟨fun _ => ?_, fun hn => (hn (hW.mpr ⟨hk, c2, by omega⟩)).elim⟩
          rw [Wv_add ht hi, g1, nI_l (by omega), show (390625 : Int64) = lN 390625 from rfl, lN_mul, lN_add, lN_add, Nat.add_assoc]
          rfl
      · have e1 := (h4 t (by omega)).2 c2
        rw [e1, if_pos (show lg_cmp (-1 : Int64) (0 : Int64) < 0 from (cmp_neg _ _).mpr (by decide))]
        exact no fun h => c2 (hW.mp h).2.1
theorem weigh_ok {u : xS} (hA : i_A u) {l : Nat} (hl : l < 4) : ∀ (d i N : Nat) (w : xS), i + d = nQ u → d < N → (∀ c j, rd w c j = rd u c j) → WS u l (2 ^ i) w → ∃ w', f_X4_weigh_9 N (nI l) (nI i) w = some w' ∧ (∀ c j, rd w' c j = rd u c j) ∧ (∀ c j, ¬ c = 132 → rl w' c j = rl w c j) ∧ WS u l (2 ^ nQ u) w' := by
  have hQ : nQ u ≤ 8 := hA.2.2.1
  intro d
  induction d with
  | zero =>
    intro i N w h1 h2 h3 h4
    obtain ⟨N, rfl⟩ : ∃ M, N = M + 1 := ⟨N - 1, by omega⟩
    have ei : i = nQ u := by omega
    subst ei
    refine ⟨w, ?_, h3, fun _ _ _ => rfl, h4⟩
    rw [f_X4_weigh_9, h3, hA.1, if_pos (nI_le (Nat.le_refl _) (by omega))]
  | succ d ih =>
    intro i N w h1 h2 h3 h4
    obtain ⟨N, rfl⟩ : ∃ M, N = M + 1 := ⟨N - 1, by omega⟩
    have hi : i < nQ u := by omega
    have h2i : 2 ^ i ≤ 128 := Nat.pow_le_pow_right (n := 2) (j := 7) (by omega) (by omega)
    have eg : f_X4_given w (nI l) (nI i) = some (gv u l i) := by
      rw [c11_given (A_rd h3 hA) hl (by rw [nQ_rd h3]; exact hi), gv_rd h3]
    obtain ⟨w1, z1, z2, z3, z4⟩ := weigh_in hA hl hi (f_X4_weigh_9 N) (2 ^ i) 0 xN w (by omega) (xN_lt (by omega)) h3 h4
    obtain ⟨w2, y1, y2, y3, y4⟩ := ih (i + 1) N w1 (by omega) (by omega) z2 z4
    refine ⟨w2, ?_, y2, fun c j hc => (y3 c j hc).trans (z3 c j hc), y4⟩
    have p5 := p5_le i
    have hp : (4 - l) * 5 ^ (7 - i) ≤ 4 * 78125 := Nat.mul_le_mul (by omega) p5
    rw [f_X4_weigh_9, h3, hA.1, if_neg (nI_ge hi (by omega)), eg, Option.bind_some, gd_nI (by omega) (by omega), nI_cl (by omega), xWt_eq i (by omega), l_4, nI_sub (by omega), nI_l (by omega), nI_l (by omega), lN_mul, shl20 i (by omega), l_0, z1]
    exact y1
theorem weigh_all {u : xS} (hA : i_A u) {l : Nat} (hl : l < 4) {w : xS} (h : ∀ c j, rd w c j = rd u c j) : ∃ w', f_X4_weigh (nI l) w = some w' ∧ (∀ c j, rd w' c j = rd u c j) ∧ (∀ c j, ¬ c = 132 → rl w' c j = rl w c j) ∧ WS u l (2 ^ nQ u) w' := by
  obtain ⟨w', z1, z2, z3, z4⟩ := weigh_ok hA hl (nQ u) 0 xN (wl w 132 0 0) (by omega) (xN_lt (by have := hA.2.2.1; omega)) (fun c j => (rd_wl w 132 0 c j 0).trans (h c j)) (by
    intro s hs
    have : s = 0 := by omega
    subst this
    refine ⟨fun _ => ?_, fun hn => (hn Wo_0).elim⟩
    rw [Wv_0]
    rfl)
  refine ⟨w', z1, z2, fun c j hc => (z3 c j hc).trans ?_, z4⟩
  rw [rl_wl, if_neg hc]
