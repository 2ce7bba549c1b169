/-! BAD CLOTHS, AND THE BALES THAT MAY BE -/
theorem nI_or (x y : Nat) : nI x ||| nI y = nI (x ||| y) := by
  apply Int32.toBitVec_inj.mp
  rw [Int32.toBitVec_or]
  apply BitVec.eq_of_toNat_eq
  show (BitVec.ofNat 32 x ||| BitVec.ofNat 32 y).toNat = (BitVec.ofNat 32 (x ||| y)).toNat
  rw [BitVec.ofNat_or]
theorem shl20 : ∀ a, a < 20 → (1 : Int32) <<< (nI a &&& 31) = nI (2 ^ a) := by decide +kernel
theorem pow20 : ∀ a, a < 20 → 2 ^ a < 2 ^ 20 := by decide +kernel
def pcc (u : xS) (c b : Nat) : Int32 := rd u 161 (24 * c + b)
def vdd (u : xS) (c : Nat) : Int32 := rd u 162 c
/-- the bad ones of the first n, as a mask -/
def bdm (u : xS) (n : Nat) : Nat := it (fun c m => if vdd u c = 1 then m ||| 2 ^ c else m) 0 n
theorem bdm_lt (u : xS) : ∀ n, n ≤ 20 → bdm u n < 2 ^ 20 := by
  intro n
  induction n with
  | zero => intro _; show 0 < 2 ^ 20; decide
  | succ n ih =>
    intro h
    show (if vdd u n = 1 then bdm u n ||| 2 ^ n else bdm u n) < 2 ^ 20
    by_cases c : vdd u n = 1
    · rw [if_pos c]
      exact Nat.or_lt_two_pow (ih (by omega)) (pow20 n (by omega))
    · rw [if_neg c]
      exact ih (by omega)
theorem bdm_bit (u : xS) (i : Nat) : ∀ n, (bdm u n).testBit i = decide (i < n ∧ vdd u i = 1) := by
  intro n
  induction n with
  | zero => simp [bdm, it]
  | succ n ih =>
    show (if vdd u n = 1 then bdm u n ||| 2 ^ n else bdm u n).testBit i = _
    by_cases c : vdd u n = 1
    · rw [if_pos c, Nat.testBit_or, ih, Nat.testBit_two_pow]
      by_cases e : n = i
      · subst e; simp [c]
      · by_cases l : i < n
        · simp [e, l, show i < n + 1 by omega]
        · simp [e, l, show ¬ i < n + 1 by omega]
    · rw [if_neg c, ih]
      by_cases e : n = i
      · subst e; simp [c]
      · by_cases l : i < n
        · simp [l, show i < n + 1 by omega]
        · simp [l, show ¬ i < n + 1 by omega]
/-- bad ones with some of the bale; 0 if a good one has some -/
def bwR (u : xS) (b : Nat) : Nat → Nat → Nat → Nat
  | 0, _, m => m
  | d + 1, c, m => if pcc u c b ≤ 0 then bwR u b d (c + 1) m else if vdd u c = 0 then 0 else if vdd u c = 1 then bwR u b d (c + 1) (m ||| 2 ^ c) else bwR u b d (c + 1) m
def bw (u : xS) (b : Nat) : Nat := bwR u b (nC u) 0 0
theorem bwR_lt (u : xS) (b : Nat) : ∀ d c m, c + d ≤ 20 → m < 2 ^ 20 → bwR u b d c m < 2 ^ 20 := by
  intro d
  induction d with
  | zero => intro c m _ h; exact h
  | succ d ih =>
    intro c m h1 h2
    unfold bwR
    by_cases c1 : pcc u c b ≤ 0
    · rw [if_pos c1]; exact ih _ _ (by omega) h2
    · rw [if_neg c1]
      by_cases c2 : vdd u c = 0
      · rw [if_pos c2]; decide
      · rw [if_neg c2]
        by_cases c3 : vdd u c = 1
        · rw [if_pos c3]; exact ih _ _ (by omega) (Nat.or_lt_two_pow h2 (pow20 c (by omega)))
        · rw [if_neg c3]; exact ih _ _ (by omega) h2
theorem bwR_good (u : xS) (b : Nat) : ∀ d c m, (∃ i, c ≤ i ∧ i < c + d ∧ ¬ pcc u i b ≤ 0 ∧ vdd u i = 0) → bwR u b d c m = 0 := by
  intro d
  induction d with
  | zero => rintro c m ⟨i, h1, h2, -⟩; omega
  | succ d ih =>
    rintro c m ⟨i, h1, h2, h3, h4⟩
    unfold bwR
    by_cases e : i = c
    · subst e
      rw [if_neg h3, if_pos h4]
    · have hx : ∃ i, c + 1 ≤ i ∧ i < c + 1 + d ∧ ¬ pcc u i b ≤ 0 ∧ vdd u i = 0 := ⟨i, by omega, by omega, h3, h4⟩
      by_cases c1 : pcc u c b ≤ 0
      · rw [if_pos c1]; exact ih _ _ hx
      · rw [if_neg c1]
        by_cases c2 : vdd u c = 0
        · rw [if_pos c2]
        · rw [if_neg c2]
          by_cases c3 : vdd u c = 1
          · rw [if_pos c3]; exact ih _ _ hx
          · rw [if_neg c3]; exact ih _ _ hx
theorem bwR_bit (u : xS) (b i : Nat) : ∀ d c m, (¬ ∃ i, c ≤ i ∧ i < c + d ∧ ¬ pcc u i b ≤ 0 ∧ vdd u i = 0) → ((bwR u b d c m).testBit i = true ↔ (m.testBit i = true ∨ (c ≤ i ∧ i < c + d ∧ vdd u i = 1 ∧ ¬ pcc u i b ≤ 0))) := by
  intro d
  induction d with
  | zero =>
    intro c m _
    constructor
    · intro h; exact Or.inl h
    · rintro (h | ⟨h1, h2, -⟩)
      · exact h
      · omega
  | succ d ih =>
    intro c m hn
    have hn2 : ¬ ∃ i, c + 1 ≤ i ∧ i < c + 1 + d ∧ ¬ pcc u i b ≤ 0 ∧ vdd u i = 0 := by
      rintro ⟨j, h1, h2, h3⟩
      exact hn ⟨j, by omega, by omega, h3⟩
    have hc : pcc u c b ≤ 0 ∨ ¬ vdd u c = 0 := by
      by_cases c1 : pcc u c b ≤ 0
      · exact Or.inl c1
      · exact Or.inr fun z => hn ⟨c, by omega, by omega, c1, z⟩
    have st : ∀ Q : Prop, ((c ≤ i ∧ i < c + (d + 1) ∧ vdd u i = 1 ∧ ¬ pcc u i b ≤ 0) ↔ ((i = c ∧ vdd u c = 1 ∧ ¬ pcc u c b ≤ 0) ∨ (c + 1 ≤ i ∧ i < c + 1 + d ∧ vdd u i = 1 ∧ ¬ pcc u i b ≤ 0))) := by
      intro _
      constructor
      · rintro ⟨h1, h2, h3⟩
        by_cases e : i = c
        · subst e; exact Or.inl ⟨rfl, h3⟩
        · exact Or.inr ⟨by omega, by omega, h3⟩
      · rintro (⟨h1, h2⟩ | ⟨h1, h2, h3⟩)
        · subst h1; exact ⟨Nat.le_refl _, by omega, h2⟩
        · exact ⟨by omega, by omega, h3⟩
    rw [st True]
    unfold bwR
    by_cases c1 : pcc u c b ≤ 0
    · rw [if_pos c1, ih _ _ hn2]
      constructor
      · rintro (h | h)
        · exact Or.inl h
        · exact Or.inr (Or.inr h)
      · rintro (h | h | h)
        · exact Or.inl h
        · exact absurd c1 h.2.2
        · exact Or.inr h
    · rw [if_neg c1, if_neg (hc.resolve_left c1)]
      by_cases c3 : vdd u c = 1
      · rw [if_pos c3, ih _ _ hn2, Nat.testBit_or, Bool.or_eq_true, Nat.testBit_two_pow]
        constructor
        · rintro ((h | h) | h)
          · exact Or.inl h
          · exact Or.inr (Or.inl ⟨(of_decide_eq_true h).symm, c3, c1⟩)
          · exact Or.inr (Or.inr h)
        · rintro (h | h | h)
          · exact Or.inl (Or.inl h)
          · exact Or.inl (Or.inr (decide_eq_true h.1.symm))
          · exact Or.inr h
      · rw [if_neg c3, ih _ _ hn2]
        constructor
        · rintro (h | h)
          · exact Or.inl h
          · exact Or.inr (Or.inr h)
        · rintro (h | h | h)
          · exact Or.inl h
          · exact absurd h.2.1 c3
          · exact Or.inr h
theorem badW {u : xS} (hC : i_C u) {b : Nat} (hb : b < 24) : ∀ (N c m : Nat), nC u < N + c → c ≤ nC u → f_X2_badWith_4 u N (nI b) (nI m) (nI c) = some (nI (bwR u b (nC u - c) c m)) := by
  obtain ⟨h1, h2, h3, h4, h5⟩ := hC
  intro N
  induction N with
  | zero => intro c m q1 q2; omega
  | succ N ih =>
    intro c m q1 q2
    by_cases hc : c = nC u
    · subst hc
      rw [f_X2_badWith_4, h1, ite_yle (Nat.le_refl _) (by omega), Nat.sub_self]
      rfl
    · obtain ⟨e1, -⟩ := h4 c b (by omega) hb
      obtain ⟨e2, -⟩ := h5 c (by omega)
      have ed : nC u - c = (nC u - (c + 1)) + 1 := by omega
      have op : f_X2_badWith_4 u (N + 1) (nI b) (nI m) (nI c) = if pcc u c b ≤ 0 then f_X2_badWith_4 u N (nI b) (nI m) (nI (c + 1)) else if vdd u c = 0 then some 0 else if vdd u c = 1 then f_X2_badWith_4 u N (nI b) (nI (m ||| 2 ^ c)) (nI (c + 1)) else f_X2_badWith_4 u N (nI b) (nI m) (nI (c + 1)) := by
        rw [f_X2_badWith_4, h1, ite_nle (by omega) (by omega), gd_nI (by omega) (by omega), gd_nI (by omega) (by omega), nI_cl (by omega), nI_cl (by omega), e1, e2, shl20 c (by omega), nI_or]
        unfold f_X2_badWith_50
        rw [nI_1]
        rfl
      rw [op, ed, bwR, ih _ _ (by omega) (by omega), ih _ _ (by omega) (by omega)]
      by_cases c1 : pcc u c b ≤ 0
      · rw [if_pos c1, if_pos c1]
      · rw [if_neg c1, if_neg c1]
        by_cases c2 : vdd u c = 0
        · rw [if_pos c2, if_pos c2]; rfl
        · rw [if_neg c2, if_neg c2]
          by_cases c3 : vdd u c = 1
          · rw [if_pos c3, if_pos c3]
          · rw [if_neg c3, if_neg c3]
/-- the bales that may be -/
def mbl (u : xS) (n : Nat) : List Nat := (List.range n).filter fun b => decide (¬ bw u b = 0)
theorem mbl_s (u : xS) (n : Nat) : mbl u (n + 1) = if bw u n = 0 then mbl u n else mbl u n ++ [n] := by
  unfold mbl
  rw [List.range_succ, List.filter_append]
  by_cases c : bw u n = 0
  · rw [if_pos c]
    simp [c]
  · rw [if_neg c]
    simp [c]
theorem mbl_len (u : xS) (n : Nat) : (mbl u n).length ≤ n := by
  have := List.length_filter_le (fun b => decide (¬ bw u b = 0)) (List.range n)
  rw [List.length_range] at this
  exact this
def mbC (u : xS) (l : List Nat) (u' : xS) : Prop := rd u' 87 5 = nI l.length ∧ ∀ k b, l[k]? = some b → rd u' 110 k = nI b ∧ rd u' 111 k = nI (bw u b)
theorem app_getN {l : List Nat} {v w i : Nat} (h : (l ++ [v])[i]? = some w) : (i < l.length ∧ l[i]? = some w) ∨ (i = l.length ∧ w = v) := by
  rw [List.getElem?_append] at h
  by_cases hi : i < l.length
  · rw [if_pos hi] at h
    exact Or.inl ⟨hi, h⟩
  · rw [if_neg hi] at h
    have h1 : i - l.length = 0 := by
      cases hk : i - l.length with
      | zero => rfl
      | succ k => rw [hk] at h; simp at h
    rw [h1] at h
    have h2 : v = w := by simpa using h
    exact Or.inr ⟨by omega, h2.symm⟩
theorem bw_fr {u u' : xS} (h : sm kC u u') (b : Nat) : bw u' b = bw u b := by
  have q0 : nC u' = nC u := congrArg nv (h 135 37 rfl)
  have q1 : ∀ i, rd u' 161 i = rd u 161 i := fun i => h 161 i rfl
  have q2 : ∀ i, rd u' 162 i = rd u 162 i := fun i => h 162 i rfl
  have key : ∀ d c m, bwR u' b d c m = bwR u b d c m := by
    intro d
    induction d with
    | zero => intro c m; rfl
    | succ d ih =>
      intro c m
      rw [bwR, bwR, show pcc u' c b = pcc u c b from q1 _, show vdd u' c = vdd u c from q2 _, ih, ih]
  unfold bw
  rw [q0, key]
theorem findMb {u : xS} (hC : i_C u) : ∀ (N i : Nat) (u' : xS), 24 < N + i → i ≤ 24 → ag [(87, 6), (110, 0), (111, 0)] u u' → mbC u (mbl u i) u' → ∃ u'', f_X2_findMaybes_7 N (nI i) u' = some u'' ∧ ag [(87, 6), (110, 0), (111, 0)] u u'' ∧ mbC u (mbl u 24) u'' := by
  have hC3 := hC.2.2.1
  intro N
  induction N with
  | zero => intro i u' h1 h2; omega
  | succ N ih =>
    intro i u' h1 h2 h3 h4
    by_cases hi : i = 24
    · subst hi
      refine ⟨u', ?_, h3, h4⟩
      rw [f_X2_findMaybes_7, l_24, ite_yle (by omega) (by omega)]
    · have hl := mbl_len u i
      have e1 : f_X2_badWith u' (nI i) = some (nI (bw u i)) := by
        have e0 : nC u' = nC u := congrArg nv (h3 135 37 rfl)
        have := badW (fr_C (ag_sm h3 rfl) hC) (b := i) (by omega) xN 0 0 (xN_lt (by omega)) (Nat.zero_le _)
        rw [nI_zero] at this
        rw [f_X2_badWith, this, ← bw_fr (ag_sm h3 rfl) i]
        rfl
      have hlt : bw u i < 2 ^ 20 := bwR_lt u i _ _ _ (by omega) (by decide)
      have op : f_X2_findMaybes_7 (N + 1) (nI i) u' = if nI (bw u i) = 0 then f_X2_findMaybes_7 N (nI (i + 1)) u' else f_X2_findMaybes_7 N (nI (i + 1)) (wr (wr (wr u' 110 (mbl u i).length (nI i)) 111 (mbl u i).length (nI (bw u i))) 87 5 (nI ((mbl u i).length + 1))) := by
        rw [f_X2_findMaybes_7, l_24, ite_nle (by omega) (by omega), e1, Option.bind_some, h4.1, ite_nle (by omega) (by omega), gd_nI (by omega) (by omega), nI_cl (by omega)]
        unfold f_X2_findMaybes_62
        rw [nI_1, nI_1]
      rw [op]
      have hs := mbl_s u i
      by_cases c : bw u i = 0
      · rw [if_pos (by rw [c]; rfl)]
        rw [if_pos c] at hs
        exact ih (i + 1) u' (by omega) (by omega) h3 (by rw [hs]; exact h4)
      · rw [if_neg (nI_ne0 (by omega) (by omega))]
        rw [if_neg c] at hs
        refine ih (i + 1) _ (by omega) (by omega) (ag_wr (ag_wr (ag_wr h3 rfl) rfl) rfl) ⟨?_, fun k b hk => ?_⟩
        · rw [hs, List.length_append]
          rfl
        · rw [hs] at hk
          rcases app_getN hk with ⟨hk1, hk2⟩ | ⟨hk1, hk2⟩
          · obtain ⟨z1, z2⟩ := h4.2 k b hk2
            rw [rd_wr_ne (by omega), rd_wr_ne (by omega), rd_wr_ne (by omega), rd_wr_ne (by omega), rd_wr_ne (by omega), rd_wr_ne (by omega)]
            exact ⟨z1, z2⟩
          · rw [hk1, hk2, rd_wr_ne (by omega), rd_wr_ne (by omega), rd_wr, if_pos rfl, if_pos rfl, rd_wr_ne (by omega), rd_wr, if_pos rfl, if_pos rfl]
            exact ⟨rfl, rfl⟩
