/-! TEXT: what a text is kept as -/
theorem AR_uni {many : Bool} {c : Nat → Nat} {i j k : Nat} {x y z : aC} (h1 : AR many c i x j y) (h2 : AR many c i x k z) (h : j ≤ k) : AR many c j y k z := by
  obtain ⟨m, e1, r1⟩ := h1
  obtain ⟨m2, e2, r2⟩ := h2
  refine ⟨k - j, by omega, ?_⟩
  have := arun_app m (k - j) i x y r1
  rw [show m + (k - j) = m2 by omega, r2, e1] at this
  exact this.symm
theorem AR_no {many : Bool} {c : Nat → Nat} {n j : Nat} {y z : aC} (h : AR many c j y n z) (hs : AS many c n j y) (hz : z.1 = false) (hz2 : z.2.2.2.2.length = 1) : False := by
  obtain ⟨m, e, r⟩ := h
  rcases hs with ⟨ej, hw⟩ | ⟨hj, hn⟩
  · have em : m = 0 := by omega
    subst em
    cases r
    rcases hw with q | q
    · rw [q] at hz; cases hz
    · omega
  · obtain ⟨m, rfl⟩ : ∃ k, m = k + 1 := ⟨m - 1, by omega⟩
    rw [arun, hn] at r
    cases r
theorem AR_st {many : Bool} {c : Nat → Nat} {n j k : Nat} {y z : aC} (h : AR many c j y k z) (hs : AS many c n j y) (hk : k ≤ n) : j = k := by
  obtain ⟨m, e, r⟩ := h
  cases m with
  | zero => omega
  | succ m =>
    rcases hs with ⟨ej, hw⟩ | ⟨hj, hn⟩
    · omega
    · rw [arun, hn] at r
      cases r
theorem TXT_uni {many : Bool} {c : Nat → Nat} {n j j' : Nat} {R R' : List Int32} {b b' : Int32} (hj : j ≤ n) (hj' : j' ≤ n) (h : TXT many c n j R b) (h' : TXT many c n j' R' b') : b = b' ∧ j = j' ∧ (b = 1 → R = R') := by
  rcases h with ⟨rfl, rfl, d, P, r1, f, ar, ab, -⟩ | ⟨rfl, y, ar, as⟩
  · rcases h' with ⟨rfl, rfl, d', P', r1', f', ar', ab', -⟩ | ⟨rfl, y', ar', as'⟩
    · refine ⟨rfl, rfl, fun _ => ?_⟩
      obtain ⟨m, e, r⟩ := AR_uni ar ar' (Nat.le_refl _)
      have em : m = 0 := by omega
      subst em
      cases r
      rw [ab] at ab'
      exact (Prod.ext_iff.mp ab').2
    · exact (AR_no (AR_uni ar' ar hj') as' rfl rfl).elim
  · rcases h' with ⟨rfl, rfl, d', P', r1', f', ar', ab', -⟩ | ⟨rfl, y', ar', as'⟩
    · exact (AR_no (AR_uni ar ar' hj) as rfl rfl).elim
    · refine ⟨rfl, ?_, fun z => absurd z (by decide)⟩
      by_cases c1 : j ≤ j'
      · exact AR_st (AR_uni ar ar' c1) as hj'
      · exact (AR_st (AR_uni ar' ar (by omega)) as' hj).symm
theorem keep_ok {u : xS} {t L : Nat} (ht : t ≤ 10) (hL : L ≤ 61) : ∃ u', f_X10_keep (nI t) 55 (nI L) u = some u' ∧ (∀ i, i < L → rd u' (60 + t) i = rd u 55 i) ∧ rd u' 71 t = nI L ∧ ∀ c j, ¬ c = 60 + t → ¬ (c = 71 ∧ j = t) → rd u' c j = rd u c j := by
  have x55 : xisI 55 = true ∧ xlen 55 = 64 := by decide +kernel
  refine ⟨wr (xcpy u 55 0 (60 + t) 0 L) 71 t (nI L), ?_, fun i hi => ?_, ?_, fun c j q1 q2 => ?_⟩
  · have e1 : f_X11_lies (nI t) 0 10 = 1 := by rw [lies_eq, if_pos ⟨nI_lo (by omega), nI_le (b := 10) ht (by omega)⟩]
    have e2 : f_X11_lies (nI L) 0 (imin (Int32.ofNat 64) 64) = 1 := by
      rw [show imin (Int32.ofNat 64) (64 : Int32) = nI 64 from by decide, lies_eq, if_pos ⟨nI_lo (by omega), nI_le (by omega) (by omega)⟩]
    have e3 : xcok (0 : Int32) (0 : Int32) (nI L) 64 64 = true := by
      unfold xcok
      refine decide_eq_true ⟨⟨by decide, by decide, nI_pos (by omega)⟩, ?_, ?_⟩
      · rw [nI_cl (by omega), show (0 : Int32).toNatClampNeg = 0 from rfl]
        omega
      · rw [nI_cl (by omega), show (0 : Int32).toNatClampNeg = 0 from rfl]
        omega
    rw [f_X10_keep, e1, if_neg (by decide), x55.1, gd_t, x55.2, e2, if_neg (by decide), gd_nI (by omega) (by omega), gd_t, e3, gd_t, nI_cl (by omega), nI_cl (by omega), show (0 : Int32).toNatClampNeg = 0 from rfl]
  · rw [rd_wr_ne (by omega)]
    show (if 60 + t = 60 + t then (if 0 ≤ i ∧ i < 0 + L then u.1 55 (0 + (i - 0)) else u.1 (60 + t) i) else u.1 (60 + t) i) = u.1 55 i
    rw [if_pos rfl, if_pos ⟨by omega, by omega⟩, Nat.zero_add, Nat.sub_zero]
  · rw [rd_wr, if_pos rfl, if_pos rfl]
  · rw [rd_wr_ne q2]
    show (if c = 60 + t then (if 0 ≤ j ∧ j < 0 + L then u.1 55 (0 + (j - 0)) else u.1 (60 + t) j) else u.1 c j) = u.1 c j
    rw [if_neg q1]
theorem copy167 {a1 : Int32} {t L : Nat} (ht : t ≤ 10) (hL : L ≤ 60) {v : xS} (h34 : rd v 135 34 = nI 11) (h156 : rd v 156 11 = nI L) : ∀ (N i : Nat) (v' : xS), L < N + i → i ≤ L → (∀ c j, ¬ (c = 155 ∧ j < 704) → rd v' c j = rd v c j) → (∀ k, k < i → rd v' 155 (64 * t + k) = rd v 155 (704 + k)) → (∀ j, j < 704 → (j < 64 * t ∨ 64 * t + i ≤ j) → rd v' 155 j = rd v 155 j) →
    ∃ v'', f_X12_text_167 N a1 (nI t) (nI i) v' = f_X12_text_254 a1 (rd v 135 28) (if a1 = 1 then 1 else 0) (wr (wr v'' 156 t (nI L)) 154 t 1) ∧ (∀ c j, ¬ (c = 155 ∧ j < 704) → rd v'' c j = rd v c j) ∧ (∀ k, k < L → rd v'' 155 (64 * t + k) = rd v 155 (704 + k)) ∧ (∀ j, j < 704 → (j < 64 * t ∨ 64 * t + L ≤ j) → rd v'' 155 j = rd v 155 j) := by
  intro N
  induction N with
  | zero => intro i v' h1 h2; omega
  | succ N ih =>
    intro i v' h1 h2 h3 h4 h5
    have e34 : rd v' 135 34 = nI 11 := (h3 135 34 (by omega)).trans h34
    have e156 : rd v' 156 11 = nI L := (h3 156 11 (by omega)).trans h156
    have e28 : rd v' 135 28 = rd v 135 28 := h3 135 28 (by omega)
    by_cases hi : i = L
    · subst hi
      refine ⟨v', ?_, h3, h4, h5⟩
      rw [f_X12_text_167, e34, gd_nI (by omega) (by omega), nI_cl (by omega), e156, if_pos (nI_le (Nat.le_refl _) (by omega)), gd_nI (by omega) (by omega), nI_cl (by omega), e28]
      by_cases c1 : a1 = 1
      · rw [if_pos c1, if_pos c1]
      · rw [if_neg c1, if_neg c1]
    · have e704 : rd v' 155 (704 + i) = rd v 155 (704 + i) := h3 155 (704 + i) (by omega)
      obtain ⟨v'', z1, z2⟩ := ih (i + 1) (wr v' 155 (64 * t + i) (rd v 155 (704 + i))) (by omega) (by omega) (fun c j q => (rd_wr_ne (by omega)).trans (h3 c j q)) (fun k hk => by
        by_cases e : k = i
        · rw [e, rd_wr, if_pos rfl, if_pos rfl]
        · rw [rd_wr_ne (by omega)]
          exact h4 k (by omega)) (fun j hj hq => by
        rw [rd_wr_ne (by omega)]
        exact h5 j hj (by omega))
      refine ⟨v'', ?_, z2⟩
      rw [f_X12_text_167, e34, gd_nI (by omega) (by omega), nI_cl (show 11 < 2147483648 by omega), e156, if_neg (nI_ge (by omega) (by omega)), show (64 : Int32) * nI 11 = nI 704 from rfl, l_64, pk_mul, nI_add, nI_add, gd_nI (by omega) (by omega), gd_nI (by omega) (by omega), nI_cl (show 704 + i < 2147483648 by omega), nI_cl (show 64 * t + i < 2147483648 by omega), e704, nI_1]
      exact z1
/-- one slot as it was -/
def SM (t : Nat) (u v : xS) : Prop := (∀ i, i < 64 → rd v 155 (64 * t + i) = rd u 155 (64 * t + i)) ∧ rd v 156 t = rd u 156 t ∧ rd v 71 t = rd u 71 t ∧ rd v 154 t = rd u 154 t ∧ ∀ i, rd v (60 + t) i = rd u (60 + t) i
theorem X1_sm {t : Nat} {u v : xS} (h : SM t u v) {l : List Int32} (H : i_X1 u t l) : i_X1 v t l := by
  obtain ⟨h1, h2, h3⟩ := H
  refine ⟨h1, h.2.1.trans h2, fun i m hm => ?_⟩
  have hi : i < l.length := (List.getElem?_eq_some_iff.mp hm).1
  obtain ⟨q1, q2⟩ := h3 i m hm
  exact ⟨(h.1 i (by omega)).trans q1, (h.2.2.2.2 i).trans q2⟩
theorem X_sm {u v : xS} (H : i_X u) (h58 : rd v 58 5 = rd u 58 5) (h28 : rd v 135 28 = rd u 135 28) (h : ∀ t, t ≤ 10 → SM t u v) : i_X v := by
  have e : nR v = nR u := congrArg nv h28
  obtain ⟨x1, x2, x3, x4, x5⟩ := H
  unfold i_X
  rw [e]
  refine ⟨h58.trans x1, h28.trans x2, x3, fun t ht => ?_, fun r hr => ?_⟩
  · obtain ⟨l, l1, l2, l3, l4, l5⟩ := x4 t ht
    have hs := h t (by omega)
    exact ⟨l, X1_sm hs l1, hs.2.2.1.trans l2, l3, fun z => l4 (by rw [← hs.2.2.2.1]; exact z), fun z => l5 (by rw [← hs.2.2.2.1]; exact z)⟩
  · obtain ⟨l, l1, l2, l3, l4⟩ := x5 r hr
    have hs := h (4 + r) (by omega)
    exact ⟨l, X1_sm hs l1, hs.2.2.1.trans l2, (hs.2.2.2.2 _).trans l3, l4⟩
/-- a contract or the pay is told -/
theorem X_put {u v : xS} (H : i_X u) {t : Nat} (ht : t < 4 ∨ t = 10) (h58 : rd v 58 5 = rd u 58 5) (h28 : rd v 135 28 = rd u 135 28) (h : ∀ t', t' ≤ 10 → ¬ t' = t → SM t' u v) {l : List Int32} (l1 : i_X1 v t l) (l2 : rd v 71 t = nI l.length) (l3 : ¬ (-300) ∈ l) (l4 : rd v 154 t = 1) (l5 : dep l 0 = some 1) : i_X v := by
  have e : nR v = nR u := congrArg nv h28
  obtain ⟨x1, x2, x3, x4, x5⟩ := H
  unfold i_X
  rw [e]
  refine ⟨h58.trans x1, h28.trans x2, x3, fun t' ht' => ?_, fun r hr => ?_⟩
  · by_cases et : t' = t
    · subst et
      exact ⟨l, l1, l2, l3, fun z => by rw [l4] at z; exact absurd z (by decide), fun _ => l5⟩
    · obtain ⟨l, l1, l2, l3, l4, l5⟩ := x4 t' ht'
      have hs := h t' (by omega) et
      exact ⟨l, X1_sm hs l1, hs.2.2.1.trans l2, l3, fun z => l4 (by rw [← hs.2.2.2.1]; exact z), fun z => l5 (by rw [← hs.2.2.2.1]; exact z)⟩
  · obtain ⟨l, l1, l2, l3, l4⟩ := x5 r hr
    have hs := h (4 + r) (by omega) (by omega)
    exact ⟨l, X1_sm hs l1, hs.2.2.1.trans l2, (hs.2.2.2.2 _).trans l3, l4⟩
/-- a recipe is told -/
theorem X_add {u v : xS} (H : i_X u) (hR : nR u < 6) (h58 : rd v 58 5 = nI (nR u + 1)) (h28 : rd v 135 28 = nI (nR u + 1)) (h : ∀ t', t' ≤ 10 → ¬ t' = 4 + nR u → SM t' u v) {l : List Int32} (l1 : i_X1 v (4 + nR u) l) (l2 : rd v 71 (4 + nR u) = nI (l.length + 1)) (l3 : rd v (60 + (4 + nR u)) l.length = -59) (l5 : dep (l ++ [-300]) 0 = some 0) : i_X v := by
  have e : nR v = nR u + 1 := nv_of h28 (by omega)
  obtain ⟨x1, x2, x3, x4, x5⟩ := H
  unfold i_X
  rw [e]
  refine ⟨h58, h28, by omega, fun t' ht' => ?_, fun r hr => ?_⟩
  · obtain ⟨l, l1, l2, l3, l4, l5⟩ := x4 t' ht'
    have hs := h t' (by omega) (by omega)
    exact ⟨l, X1_sm hs l1, hs.2.2.1.trans l2, l3, fun z => l4 (by rw [← hs.2.2.2.1]; exact z), fun z => l5 (by rw [← hs.2.2.2.1]; exact z)⟩
  · by_cases er : r = nR u
    · subst er
      exact ⟨l, l1, l2, l3, l5⟩
    · obtain ⟨l, l1, l2, l3, l4⟩ := x5 r (by omega)
      have hs := h (4 + r) (by omega) (by omega)
      exact ⟨l, X1_sm hs l1, hs.2.2.1.trans l2, (hs.2.2.2.2 _).trans l3, l4⟩
theorem sk_em {u : xS} {X : List Int32} (h : sk u 55 0 (X.map em)) {i : Nat} {m : Int32} (hm : X.reverse[i]? = some m) : rd u 55 i = em m := by
  have := sk_get h i (em m) (by rw [← List.map_reverse, List.getElem?_map, hm]; rfl)
  rwa [Nat.zero_add] at this
abbrev wU : List (Nat × Nat) := [(52, 2), (54, 2), (54, 4), (54, 6), (54, 7), (54, 8), (54, 9), (55, 0), (56, 0), (57, 0), (58, 6), (60, 0), (71, 0), (135, 1), (135, 29), (135, 33), (135, 34), (135, 35), (154, 0), (155, 0), (156, 0)]
theorem Inv_text {u v : xS} (hI : Inv u) (hag : ag wU u v) (h52 : rd v 52 1 = 0) (h32 : rd v 135 32 = 0) (hX : i_X v) : Inv v := by
  refine ⟨fr_S (ag_sm hag rfl) hI.S, fr_P (ag_sm hag rfl) hI.P, fr_B (ag_sm hag rfl) hI.B, fr_H (ag_sm hag rfl) hI.H, fr_L (ag_sm hag rfl) hI.L, fr_K (ag_sm hag rfl) hI.K, ?_, hX, fr_F (ag_sm hag rfl) hI.F, fr_C (ag_sm hag rfl) hI.C, fr_D (ag_sm hag rfl) hI.D, fr_A (ag_sm hag rfl) hI.A, fr_W (ag_sm hag rfl) hI.W⟩
  have e : nT v = 0 := nv_of (n := 0) h32 (by omega)
  unfold i_T
  rw [e]
  exact ⟨h52, h32, Nat.zero_le _, fun j hj => by omega⟩
