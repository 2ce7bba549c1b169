/-! SHARE: the search -/
theorem sm_4 {u : xS} {e : Nat → Nat} {i n : Nat} (h : ¬ e i < 4) : smN u (ua e i 4) n = smN u e n := nsum_congr fun j hj => by
  by_cases c : j = i
  · rw [c, ua_i, if_neg (by omega), if_neg h]
  · rw [ua_n c]
theorem digs_4 {e : Nat → Nat} {i n : Nat} (h : ¬ e i < 4) : digs (ua e i 4) n = digs e n := nsum_congr fun j hj => by
  by_cases c : j = i
  · rw [c, ua_i]
    unfold dg
    rw [if_neg h, if_neg (by omega)]
  · rw [ua_n c]
theorem vv_4 {u : xS} {e : Nat → Nat} {i n : Nat} (h : ¬ e i < 4) : vv u (ua e i 4) n = vv u e n := by
  unfold vv
  rw [sm_4 h, digs_4 h]
theorem cnt_4 {e : Nat → Nat} {i l n : Nat} (h : ¬ e i < 4) (hl : l < 4) : cnt (ua e i 4) l n = cnt e l n := nsum_congr fun j hj => by
  by_cases c : j = i
  · rw [c, ua_i, if_neg (by omega), if_neg (by omega)]
  · rw [ua_n c]
theorem FE_4 {u : xS} {e : Nat → Nat} {i : Nat} (h : ¬ e i < 4) (hf : FE u e) : FE u (ua e i 4) := by
  refine ⟨fun j hj h4 => ?_, fun l hl => ?_⟩
  · by_cases c : j = i
    · rw [c, ua_i] at h4
      omega
    · rw [ua_n c] at h4 ⊢
      exact hf.1 j hj h4
  · rw [cnt_4 h hl]
    exact hf.2 l hl
theorem cnt_up (a : Nat → Nat) (l : Nat) {m n : Nat} (h : m ≤ n) : cnt a l m ≤ cnt a l n := nsum_mono h
theorem ag_4 {e a : Nat → Nat} {i : Nat} (h : agr e a i) : agr (ua e i 4) (ua a i 4) (i + 1) := by
  refine ua_agr.mpr ⟨fun j hj => ?_, ua_i _ _ _⟩
  rw [ua_n (by omega)]
  exact h j hj
theorem node12 {u : xS} (hA : i_A u) {i : Nat} {a : Nat → Nat} {b : Option (Nat → Nat)} {k : Int32 → Int32 → xS → Option xS} (hi : i < nQ u) (hk : ∀ x b' u', PR u (i + 1) (ua a i x) b' u' → SP u (i + 1) (ua a i x) b' (k (nI (i + 1)) (nI (smN u (ua a i x) (i + 1))) u')) (h3 : ∀ old, b = some old → ∀ e, agr e a i → digs e (nQ u) < digs old (nQ u)) (h4 : ∀ j, j < i → a j < 4 → kG u (a j) j = true) (h5 : ∀ l, l < 4 → cnt a l i ≤ rmN u l) : ∀ (d l N : Nat) (b1 : Option (Nat → Nat)) (u1 : xS), l + d = 4 → d < N → sh u a i u1 → bst u (nQ u) b1 u1 → LI u i a b b1 l → SP u i a b (f_X12_shares_52 k N (nI i) (nI (smN u a i)) (nI l) u1) := by
  have hQ : nQ u ≤ 8 := hA.2.2.1
  intro d
  induction d with
  | zero =>
    intro l N b1 u1 q1 q2 q3 q4 q5
    obtain ⟨N, rfl⟩ : ∃ M, N = M + 1 := ⟨N - 1, by omega⟩
    have el : l = 4 := by omega
    subst el
    have hd := LI_dig hi hQ (by omega) q5 h3
    have hpr := down12 (x := 4) (b := b1) (u' := u1) hi hQ (Nat.le_refl _) q3 q4 h4 h5 hd (fun h => by omega)
    obtain ⟨u'', b', z1, z2, z3, z4, z5, z6⟩ := hk 4 b1 _ hpr
    have hup := up12 z2
    rw [if_neg (by omega)] at hup
    rw [if_neg (by omega), sm_ua, if_neg (by omega), Nat.add_zero] at z1
    refine ⟨u'', b', ?_, hup, z3, ?_, fun e he hf => ?_, fun old ho => ?_⟩
    · rw [f_X12_shares_52, l_4, if_pos (nI_le (Nat.le_refl 4) (by omega)), gd_nI (by omega) (by omega), nI_cl (by omega), nI_1]
      have z7 : k (nI (i + 1)) (nI (smN u a i)) (wr u1 178 i (-1 : Int32)) = some u'' := z1
      rw [z7]
      rfl
    · rcases z4 with z4 | ⟨w1, w2⟩
      · rcases q5.1 with w | ⟨b2, w1, w2, w3, w4⟩
        · left; rw [← w, z4]
        · right
          rw [z4] at w1
          cases w1
          exact ⟨w2, w3⟩
      · exact Or.inr ⟨(ua_agr.mp w1).1, w2⟩
    · by_cases c : e i < 4
      · obtain ⟨b2, w1, w2⟩ := q5.2.1 e he hf c
        exact Nat.le_trans w2 (z6 b2 w1)
      · rw [← vv_4 (i := i) c]
        exact z5 _ (ag_4 he) (FE_4 c hf)
    · obtain ⟨b2, w1, w2⟩ := q5.2.2 old ho
      exact Nat.le_trans w2 (z6 b2 w1)
  | succ d ih =>
    intro l N b1 u1 q1 q2 q3 q4 q5
    obtain ⟨N, rfl⟩ : ∃ M, N = M + 1 := ⟨N - 1, by omega⟩
    have hl : l < 4 := by omega
    have eg : f_X12_given u1 (nI l) (nI i) = some (gv u l i) := (given_fr q3.1 _ _).trans (c12_given hA hl hi)
    have e0 : ∀ M w, f_X12_shares_126 k (f_X12_shares_52 k M) (nI i) (nI (smN u a i)) (nI l) w = f_X12_shares_52 k M (nI i) (nI (smN u a i)) (nI (l + 1)) w := fun M w => by
      rw [f_X12_shares_126, nI_1]
    rw [f_X12_shares_52, l_4, if_neg (nI_ge hl (by omega)), eg, Option.bind_some, e0]
    by_cases c1 : gv u l i < 0
    · rw [if_pos c1]
      refine ih (l + 1) N b1 u1 (by omega) (by omega) q3 q4 (LI_skip q5 fun e he hf hel => ?_)
      have := hf.1 i hi (by omega)
      rw [hel] at this
      exact (of_decide_eq_true this) c1
    · have hkG : kG u l i = true := decide_eq_true c1
      obtain ⟨hg1, hg2⟩ := gv_N hA hl hi hkG
      have e180 : rd u1 180 l = nI (cnt a l i) := q3.2.2 l hl
      have e173 : rd u1 173 l = nI (rmN u l) := by
        rw [q3.1 173 l (by decide) (by decide) (by decide) (fun z => absurd z.1 (by decide))]
        obtain ⟨v, hv, e⟩ := (hA.2.2.2.1 l hl).2.1
        unfold rmN
        rw [e, nv_nI (by omega)]
      have hrm : rmN u l ≤ 8 := by
        obtain ⟨v, hv, e⟩ := (hA.2.2.2.1 l hl).2.1
        unfold rmN
        rw [e, nv_nI (by omega)]
        exact hv
      have hc5 := h5 l hl
      rw [if_neg c1, gd_nI hl (by omega), nI_cl (by omega), e180, e173]
      by_cases c2 : cnt a l i = rmN u l
      · rw [if_pos (by rw [c2])]
        refine ih (l + 1) N b1 u1 (by omega) (by omega) q3 q4 (LI_skip q5 fun e he hf hel => ?_)
        have w1 := hf.2 l hl
        have w2 : cnt e l (i + 1) ≤ cnt e l (nQ u) := cnt_up e l (by omega)
        have w3 : cnt e l (i + 1) = cnt e l i + 1 := by
          show cnt e l i + (if e i = l then 1 else 0) = _
          rw [if_pos hel]
        rw [cnt_agr he] at w3
        omega
      · rw [if_neg (fun z => c2 ((nI_eq (by omega) (by omega)).mp z)), gd_nI (by omega) (by omega), nI_cl (by omega), nI_1, nI_1, hg1, nI_add]
        have hd := LI_dig hi hQ (by omega) q5 h3
        have hpr := down12 (x := l) (b := b1) (u' := u1) hi hQ (by omega) q3 q4 h4 h5 hd (fun _ => ⟨hkG, by omega⟩)
        obtain ⟨u'', b', z1, z2, z3, z4, z5, z6⟩ := hk l b1 _ hpr
        rw [if_pos hl, sm_ua, if_pos hl, show cd l = nI l from if_pos hl] at z1
        have hup := up12 z2
        rw [if_pos hl] at hup
        rw [z1, Option.bind_some, e0]
        exact ih (l + 1) N (some b') _ (by omega) (by omega) hup (bst_fr rfl (fun j => rfl) z3) (LI_take q5 z4 z5 z6)
theorem shares12 {u : xS} (hA : i_A u) : ∀ (d i F : Nat) (a : Nat → Nat) (b : Option (Nat → Nat)) (u' : xS), i + d = nQ u → d < F → PR u i a b u' → SP u i a b (fr_shares F (nI i) (nI (smN u a i)) u') := by
  have hQ : nQ u ≤ 8 := hA.2.2.1
  intro d
  induction d with
  | zero =>
    intro i F a b u' h1 h2 h3
    obtain ⟨F, rfl⟩ : ∃ M, F = M + 1 := ⟨F - 1, by omega⟩
    have : i = nQ u := by omega
    subst this
    exact leaf12 hA h3
  | succ d ih =>
    intro i F a b u' h1 h2 h3
    obtain ⟨F, rfl⟩ : ∃ M, F = M + 1 := ⟨F - 1, by omega⟩
    have e54 : rd u' 135 54 = nI (nQ u) := (h3.1.1 135 54 (by decide) (by decide) (by decide) (by decide)).trans hA.2.1
    obtain ⟨p1, p2, p3, p4, p5⟩ := h3
    have hn := node12 hA (i := i) (a := a) (b := b) (k := fr_shares F) (by omega) (fun x b' u2 hp => ih (i + 1) F (ua a i x) b' u2 (by omega) (by omega) hp) p3 p4 p5 4 0 xN b u' (by omega) (xN_lt (by omega)) p1 p2 (LI_0 u i a b)
    show SP u i a b (f_X12_shares (fr_shares F) (nI i) (nI (smN u a i)) u')
    rw [f_X12_shares, e54, if_neg (fun z => by have := (nI_eq (by omega) (by omega)).mp z; omega), l_0]
    exact hn
