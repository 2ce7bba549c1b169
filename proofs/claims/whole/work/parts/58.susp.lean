/-! SUSPECTS: the two searches -/
theorem cvN_iff (u : xS) (s : List Nat) : ∀ n, cvN u s n = true ↔ ∀ c, c < n → vdd u c = 1 → ∃ b, b ∈ s ∧ ¬ pcc u c b ≤ 0 := by
  intro n
  induction n with
  | zero => exact ⟨fun _ c hc => by omega, fun _ => rfl⟩
  | succ n ih =>
    show (cvN u s n && (decide (¬ vdd u n = 1) || s.any (fun b => decide (¬ pcc u n b ≤ 0)))) = true ↔ _
    rw [Bool.and_eq_true, ih, Bool.or_eq_true, List.any_eq_true]
    constructor
    · rintro ⟨h1, h2⟩ c hc hv
      by_cases e : c = n
      · subst e
        rcases h2 with h2 | ⟨b, hb, h2⟩
        · exact absurd hv (of_decide_eq_true h2)
        · exact ⟨b, hb, of_decide_eq_true h2⟩
      · exact h1 c (by omega) hv
    · intro h
      refine ⟨fun c hc => h c (by omega), ?_⟩
      by_cases hv : vdd u n = 1
      · obtain ⟨b, hb, h2⟩ := h n (by omega) hv
        exact Or.inr ⟨b, hb, decide_eq_true h2⟩
      · exact Or.inl (decide_eq_true hv)
theorem clN_iff (u : xS) (b : Nat) : ∀ n, clN u b n = true ↔ ∀ c, c < n → vdd u c = 0 → pcc u c b = 0 := by
  intro n
  induction n with
  | zero => exact ⟨fun _ c hc => by omega, fun _ => rfl⟩
  | succ n ih =>
    show (clN u b n && (decide (¬ vdd u n = 0) || decide (pcc u n b = 0))) = true ↔ _
    rw [Bool.and_eq_true, ih, Bool.or_eq_true]
    constructor
    · rintro ⟨h1, h2⟩ c hc hv
      by_cases e : c = n
      · subst e
        rcases h2 with h2 | h2
        · exact absurd hv (of_decide_eq_true h2)
        · exact of_decide_eq_true h2
      · exact h1 c (by omega) hv
    · intro h
      refine ⟨fun c hc => h c (by omega), ?_⟩
      by_cases hv : vdd u n = 0
      · exact Or.inr (decide_eq_true (h n (by omega) hv))
      · exact Or.inl (decide_eq_true hv)
theorem pcc_0 {u : xS} (hI : Inv u) {c b : Nat} (hc : c < nC u) (hb : b < 24) : (pcc u c b ≤ 0 ↔ pcc u c b = 0) ∧ (nB u ≤ b → pcc u c b = 0) := by
  have hC3 := hI.C.2.2.1
  obtain ⟨-, ⟨v, hv, e⟩, h⟩ := hI.C.2.2.2.1 c b (by omega) hb
  refine ⟨?_, fun h2 => h (Or.inr h2)⟩
  show rd u 161 (24 * c + b) ≤ 0 ↔ rd u 161 (24 * c + b) = 0
  rw [e]
  constructor
  · intro h2
    have := (nI_leI (a := v) (b := 0) (by omega) (by omega)).mp h2
    have h3 : v = 0 := by omega
    rw [h3]; rfl
  · intro h2; rw [h2]; exact Int32.le_refl _
theorem bw_clean {u : xS} (hI : Inv u) {b : Nat} (hb : b < 24) (h : ¬ bw u b = 0) : clN u b (nC u) = true := by
  rw [clN_iff]
  intro c hc hv
  by_cases e : pcc u c b = 0
  · exact e
  · exact absurd (bwR_good u b (nC u) 0 0 ⟨c, Nat.zero_le _, by omega, fun z => e ((pcc_0 hI hc hb).1.mp z), hv⟩) h
theorem bw_bit {u : xS} (hI : Inv u) {b : Nat} (hb : b < 24) (h : clN u b (nC u) = true) (i : Nat) : (bw u b).testBit i = true ↔ (i < nC u ∧ vdd u i = 1 ∧ ¬ pcc u i b ≤ 0) := by
  rw [clN_iff] at h
  have := bwR_bit u b i (nC u) 0 0 (by
    rintro ⟨c, h1, h2, h3, h4⟩
    exact h3 ((pcc_0 hI (by omega) hb).1.mpr (h c (by omega) h4)))
  unfold bw
  rw [this]
  simp
theorem bw_lt {u : xS} (hI : Inv u) {b : Nat} (hb : b < 24) (h : ¬ bw u b = 0) : b < nB u := by
  by_cases e : b < nB u
  · exact e
  · exfalso
    apply h
    apply Nat.eq_of_testBit_eq
    intro i
    rw [Nat.zero_testBit]
    cases hq : (bw u b).testBit i with
    | false => rfl
    | true =>
      obtain ⟨h1, h2, h3⟩ := (bw_bit hI hb (bw_clean hI hb h) i).mp hq
      exact absurd ((pcc_0 hI h1 hb).1.mpr ((pcc_0 hI h1 hb).2 (by omega))) h3
theorem orA_bit (f : Nat → Nat) (i : Nat) (s : List Nat) : (orA f s).testBit i = true ↔ ∃ x, x ∈ s ∧ (f x).testBit i = true := by
  have : ∀ (s : List Nat) (m : Nat), (s.foldl (fun m x => m ||| f x) m).testBit i = true ↔ (m.testBit i = true ∨ ∃ x, x ∈ s ∧ (f x).testBit i = true) := by
    intro s
    induction s with
    | nil => intro m; simp
    | cons x s ih =>
      intro m
      rw [List.foldl_cons, ih, Nat.testBit_or, Bool.or_eq_true]
      constructor
      · rintro ((h | h) | ⟨y, hy, h⟩)
        · exact Or.inl h
        · exact Or.inr ⟨x, List.mem_cons_self, h⟩
        · exact Or.inr ⟨y, List.mem_cons_of_mem _ hy, h⟩
      · rintro (h | ⟨y, hy, h⟩)
        · exact Or.inl (Or.inl h)
        · rcases List.mem_cons.mp hy with hy | hy
          · rw [hy] at h; exact Or.inl (Or.inr h)
          · exact Or.inr ⟨y, hy, h⟩
  have := this s 0
  rw [Nat.zero_testBit] at this
  unfold orA
  rw [this]
  simp
theorem test_eq {u : xS} (hI : Inv u) {s : List Nat} (hs : ∀ b, b ∈ s → b < 24 ∧ clN u b (nC u) = true) : orA (bw u) s = bdm u (nC u) ↔ cvN u s (nC u) = true := by
  rw [cvN_iff]
  constructor
  · intro h c hc hv
    have h1 : (orA (bw u) s).testBit c = true := by
      rw [h, bdm_bit]
      exact decide_eq_true ⟨hc, hv⟩
    obtain ⟨b, hb, h2⟩ := (orA_bit _ _ _).mp h1
    exact ⟨b, hb, ((bw_bit hI (hs b hb).1 (hs b hb).2 c).mp h2).2.2⟩
  · intro h
    apply Nat.eq_of_testBit_eq
    intro i
    rw [bdm_bit]
    by_cases c : i < nC u ∧ vdd u i = 1
    · rw [decide_eq_true c]
      obtain ⟨b, hb, h2⟩ := h i c.1 c.2
      exact (orA_bit _ _ _).mpr ⟨b, hb, (bw_bit hI (hs b hb).1 (hs b hb).2 i).mpr ⟨c.1, c.2, h2⟩⟩
    · rw [decide_eq_false c]
      cases hq : (orA (bw u) s).testBit i with
      | false => rfl
      | true =>
        obtain ⟨b, hb, h2⟩ := (orA_bit _ _ _).mp hq
        have := (bw_bit hI (hs b hb).1 (hs b hb).2 i).mp h2
        exact absurd ⟨this.1, this.2.1⟩ c
theorem asc_range : ∀ n a, asc a n = List.range' a n := by
  intro n
  induction n with
  | zero => intro a; rfl
  | succ n ih => intro a; rw [asc, ih, List.range'_succ]
theorem mbl_eq {u : xS} (hI : Inv u) : mbl u 24 = (cll u 0 (nB u)).filter fun b => decide (¬ bw u b = 0) := by
  have hB3 := hI.B.2.2.1
  have h1 : ∀ k, nB u + k ≤ 24 → mbl u (nB u + k) = mbl u (nB u) := by
    intro k
    induction k with
    | zero => intro _; rfl
    | succ k ih =>
      intro h
      rw [← Nat.add_assoc, mbl_s, if_pos, ih (by omega)]
      by_cases e : bw u (nB u + k) = 0
      · exact e
      · have := bw_lt hI (b := nB u + k) (by omega) e
        omega
  have h2 := h1 (24 - nB u) (by omega)
  rw [show nB u + (24 - nB u) = 24 by omega] at h2
  rw [h2]
  unfold mbl cll
  rw [List.filter_filter, asc_range, ← List.range_eq_range']
  refine List.filter_congr fun b hb => ?_
  have hb2 := List.mem_range.mp hb
  by_cases e : bw u b = 0
  · simp [e]
  · rw [decide_eq_true e, bw_clean hI (by omega) e]
    rfl
/-- the first of so many -/
def fst (u : xS) (k : Nat) : Option (List Nat) := (cbL (cll u 0 (nB u)) k).find? fun s => cvN u s (nC u)
theorem cll_mem {u : xS} (hI : Inv u) {b : Nat} (h : b ∈ cll u 0 (nB u)) : b < nB u ∧ clN u b (nC u) = true := by
  obtain ⟨h1, h2⟩ := List.mem_filter.mp h
  rw [asc_range, List.mem_range'_1] at h1
  exact ⟨by omega, h2⟩
theorem fst_eq {u : xS} (hI : Inv u) {k : Nat} (h : ∀ j, j < k → fst u j = none) : fst u k = (cbL (mbl u 24) k).find? fun s => cvN u s (nC u) := by
  have hB3 := hI.B.2.2.1
  rw [mbl_eq hI, cbL_filter, find_filter]
  · rfl
  · intro s hs hP
    obtain ⟨h1, h2⟩ := cbL_mem.mp hs
    by_cases hall : (s.all fun b => decide (¬ bw u b = 0)) = true
    · exact hall
    · exfalso
      have ht : List.Sublist (s.filter fun b => decide (¬ bw u b = 0)) (cll u 0 (nB u)) := List.Sublist.trans List.filter_sublist h1
      have hlen : (s.filter fun b => decide (¬ bw u b = 0)).length < k := by
        rw [← h2]
        have h3 : (s.filter fun b => decide (¬ bw u b = 0)).length ≤ s.length := List.length_filter_le _ _
        by_cases e : (s.filter fun b => decide (¬ bw u b = 0)).length = s.length
        · exfalso
          apply hall
          rw [List.all_eq_true]
          exact List.length_filter_eq_length_iff.mp e
        · omega
      have hn := h _ hlen
      have hcv : cvN u (s.filter fun b => decide (¬ bw u b = 0)) (nC u) = true := by
        rw [cvN_iff] at hP ⊢
        intro c hc hv
        obtain ⟨b, hb, hp⟩ := hP c hc hv
        obtain ⟨hb1, hb2⟩ := cll_mem hI (h1.subset hb)
        refine ⟨b, List.mem_filter.mpr ⟨hb, decide_eq_true fun z => ?_⟩, hp⟩
        have := (bw_bit hI (b := b) (by omega) hb2 c).mpr ⟨hc, hv, hp⟩
        rw [z, Nat.zero_testBit] at this
        cases this
      have := List.find?_eq_none.mp hn _ (cbL_mem.mpr ⟨ht, rfl⟩)
      exact this hcv
theorem fst_big {u : xS} (hI : Inv u) {k : Nat} (h : ∀ j, j < k → fst u j = none) (hk : (mbl u 24).length < k) : fst u k = none := by
  rw [fst_eq hI h, List.find?_eq_none]
  intro s hs
  obtain ⟨h1, h2⟩ := cbL_mem.mp hs
  have := h1.length_le
  omega
def gm (u : xS) (x : Nat) : Nat := (mbl u 24).getD x 0
theorem mbl_ix {u : xS} : mbl u 24 = (asc 0 (mbl u 24).length).map (gm u) := by
  apply List.ext_getElem?
  intro i
  rw [List.getElem?_map]
  by_cases h : i < (mbl u 24).length
  · rw [asc_get _ _ _ h, List.getElem?_eq_getElem h]
    show some _ = some (gm u (0 + i))
    unfold gm
    rw [Nat.zero_add, List.getD_eq_getElem?_getD, List.getElem?_eq_getElem h]
    rfl
  · rw [List.getElem?_eq_none (by omega), List.getElem?_eq_none (by rw [asc_len]; omega)]
    rfl
theorem mbl_mem {u : xS} (hI : Inv u) {b : Nat} (h : b ∈ mbl u 24) : b < 24 ∧ ¬ bw u b = 0 := by
  obtain ⟨h1, h2⟩ := List.mem_filter.mp h
  exact ⟨List.mem_range.mp h1, of_decide_eq_true h2⟩
theorem fst_ix {u : xS} (hI : Inv u) {k : Nat} (h : ∀ j, j < k → fst u j = none) : fst u k = ((cb (mbl u 24).length k 0).find? fun s => decide (orA (fun x => bw u (gm u x)) s = bdm u (nC u))).map (List.map (gm u)) := by
  rw [fst_eq hI h]
  have e : cbL (mbl u 24) k = (cb (mbl u 24).length k 0).map (List.map (gm u)) := by
    conv => lhs; rw [mbl_ix]
    exact cbL_ix (gm u) _ k 0
  rw [e, List.find?_map]
  congr 1
  have gen : ∀ l : List (List Nat), (∀ s, s ∈ l → ∀ x, x ∈ s → x < (mbl u 24).length) → l.find? ((fun s => cvN u s (nC u)) ∘ List.map (gm u)) = l.find? fun s => decide (orA (fun x => bw u (gm u x)) s = bdm u (nC u)) := by
    intro l
    induction l with
    | nil => intro _; rfl
    | cons s l ih =>
      intro hl
      have hs := hl s List.mem_cons_self
      have h2 := test_eq hI (s := s.map (gm u)) (fun b hb => by
        obtain ⟨x, hx, rfl⟩ := List.mem_map.mp hb
        have hm : gm u x ∈ mbl u 24 := by
          unfold gm
          rw [List.getD_eq_getElem?_getD, List.getElem?_eq_getElem (hs x hx)]
          exact List.getElem_mem _
        obtain ⟨q1, q2⟩ := mbl_mem hI hm
        exact ⟨q1, bw_clean hI q1 q2⟩)
      have h3 : orA (bw u) (s.map (gm u)) = orA (fun x => bw u (gm u x)) s := by
        unfold orA
        rw [List.foldl_map]
      rw [h3] at h2
      rw [List.find?_cons, List.find?_cons, ih fun t ht => hl t (List.mem_cons_of_mem _ ht)]
      have h4 : ((fun s => cvN u s (nC u)) ∘ List.map (gm u)) s = decide (orA (fun x => bw u (gm u x)) s = bdm u (nC u)) := by
        show cvN u (s.map (gm u)) (nC u) = _
        cases hq : cvN u (s.map (gm u)) (nC u) with
        | true => exact (decide_eq_true (h2.mpr hq)).symm
        | false => exact (decide_eq_false (fun z => by rw [h2.mp z] at hq; cases hq)).symm
      rw [h4]
  exact gen _ fun s hs x hx => by
    have := (cb_rng _ _ _ s hs x hx).2
    omega
