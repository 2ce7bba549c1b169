/-! OPEN -/
theorem pigeon : ∀ (n : Nat) (l : List Nat), l.Nodup → (∀ x, x ∈ l → x < n) → l.length ≤ n := by
  intro n
  induction n with
  | zero =>
    intro l _ h
    cases l with
    | nil => exact Nat.le_refl _
    | cons x l => exact absurd (h x List.mem_cons_self) (by omega)
  | succ n ih =>
    intro l hn h
    have h1 : ∀ l : List Nat, l.Nodup → l.length ≤ (l.filter fun x => decide (x ≠ n)).length + 1 := by
      intro l
      induction l with
      | nil => intro _; exact Nat.zero_le _
      | cons x l ihl =>
        intro hn
        obtain ⟨hx, hn'⟩ := List.nodup_cons.mp hn
        by_cases e : x = n
        · have : (l.filter fun x => decide (x ≠ n)) = l := List.filter_eq_self.mpr fun y hy => decide_eq_true fun z => hx (by rw [e, ← z]; exact hy)
          rw [List.filter_cons_of_neg (by simp [e]), this, List.length_cons]
          exact Nat.le_refl _
        · rw [List.filter_cons_of_pos (by simp [e]), List.length_cons, List.length_cons]
          have := ihl hn'
          omega
    have h2 := ih (l.filter fun x => decide (x ≠ n)) (List.Pairwise.filter _ hn) (fun x hx => by
      obtain ⟨y1, y2⟩ := List.mem_filter.mp hx
      have y3 := h x y1
      have y4 : x ≠ n := of_decide_eq_true y2
      omega)
    have h3 := h1 l hn
    omega
/-- an entry of the sheet -/
def ent (k f st : Int32) (i : Nat) : Int32 := f_X12_entry k (f + nI i * st)
theorem ent11 (k v : Int32) : f_X11_entry k v = f_X12_entry k v := by
  unfold f_X11_entry f_X12_entry
  rfl
def esum (k f st : Int32) (n : Nat) : Int64 := it (fun i a => a + (ent k f st i).toInt64) (0 : Int64) n
def epos (k f st : Int32) : Nat → Bool
  | 0 => true
  | i + 1 => epos k f st i && decide (0 ≤ ent k f st i)
theorem epos_mono {k f st : Int32} {i : Nat} (h : epos k f st i = false) : ∀ n, i ≤ n → epos k f st n = false := by
  intro n
  induction n with
  | zero =>
    intro hn
    have : i = 0 := by omega
    subst this
    exact h
  | succ n ih =>
    intro hn
    by_cases e : i = n + 1
    · rw [← e]; exact h
    · rw [epos, ih (by omega)]
      rfl
theorem epos_at {k f st : Int32} : ∀ {n : Nat}, epos k f st n = true → ∀ i, i < n → 0 ≤ ent k f st i := by
  intro n
  induction n with
  | zero => intro _ i hi; omega
  | succ n ih =>
    intro h i hi
    rw [epos, Bool.and_eq_true] at h
    by_cases e : i = n
    · rw [e]; exact of_decide_eq_true h.2
    · exact ih h.1 i (by omega)
theorem c_fits {k f st w : Int32} {n : Nat} (hn : n ≤ 16) : f_X11_sheetFits w k (nI n) f st = some (if epos k f st n = true ∧ ¬ 0 < lg_cmp (esum k f st n) w.toInt64 then 1 else 0) := by
  have key : ∀ N i, n < N + i → i ≤ n → epos k f st i = true → f_X11_sheetFits_6 N w k (nI n) f st (esum k f st i) (nI i) = some (if epos k f st n = true ∧ ¬ 0 < lg_cmp (esum k f st n) w.toInt64 then 1 else 0) := by
    intro N
    induction N with
    | zero => intro i h1 h2; omega
    | succ N ih =>
      intro i h1 h2 h
      by_cases hi : i = n
      · subst hi
        simp (disch := omega) only [f_X11_sheetFits_6, ite_yle]
        by_cases c : 0 < lg_cmp (esum k f st i) w.toInt64
        · rw [if_pos c, if_neg (fun z => z.2 c)]
        · rw [if_neg c, if_pos ⟨h, c⟩]
      · simp (disch := omega) only [f_X11_sheetFits_6, ite_nle, ent11, nI_1]
        by_cases c : 0 ≤ ent k f st i
        · have z := ih (i + 1) (by omega) (by omega) (by rw [epos, h, decide_eq_true c]; rfl)
          exact (if_pos c).trans z
        · have e : epos k f st (i + 1) = false := by rw [epos, decide_eq_false c, Bool.and_false]
          refine (if_neg c).trans ?_
          rw [epos_mono e n (by omega), if_neg (fun z => absurd z.1 (by decide))]
  exact key xN 0 (xN_lt (by omega)) (by omega) rfl
theorem ent_s {k : Int32} {f st : Int32} {i : Nat} : f + nI i * st + st = f + nI (i + 1) * st := by
  rw [← nI_1, Int32.add_mul, Int32.one_mul, Int32.add_assoc]
/-- the reference's first pass -/
theorem c_open81 {k f st a2 : Int32} {n b : Nat} {u : xS} (hn : n ≤ 16) (hb : b < 24) : f_X12_open_81 xN (nI b) a2 k (nI n) f st 0 f 1 0 u = if epos k f st n = true ∧ ¬ 0 < lg_cmp (esum k f st n) (rd u 142 b).toInt64 then f_X12_open_162 xN (nI b) a2 k (nI n) st f 0 u else some (-4, u) := by
  have key : ∀ N i, n < N + i → i ≤ n → f_X12_open_81 N (nI b) a2 k (nI n) f st (esum k f st i) (f + nI i * st) (if epos k f st i = true then 1 else 0) (nI i) u = if epos k f st n = true ∧ ¬ 0 < lg_cmp (esum k f st n) (rd u 142 b).toInt64 then f_X12_open_162 xN (nI b) a2 k (nI n) st f 0 u else some (-4, u) := by
    intro N
    induction N with
    | zero => intro i h1 h2; omega
    | succ N ih =>
      intro i h1 h2
      by_cases hi : i = n
      · subst hi
        simp (disch := omega) only [f_X12_open_81, ite_yle, gd_nI, nI_cl, ite_10]
        cases he : epos k f st i with
        | true =>
          rw [if_pos rfl]
          by_cases c : 0 < lg_cmp (esum k f st i) (rd u 142 b).toInt64
          · rw [if_neg (Int32.not_le.mpr c), if_neg (fun z => z.2 c)]
          · rw [if_pos (Int32.not_lt.mp c), if_pos ⟨rfl, c⟩]
        | false => rw [if_neg (by decide), if_neg (fun z => absurd z.1 (by decide))]
      · have z := ih (i + 1) (by omega) (by omega)
        rw [← ent_s (k := k)] at z
        have es : esum k f st (i + 1) = esum k f st i + (f_X12_entry k (f + nI i * st)).toInt64 := rfl
        rw [es] at z
        simp (disch := omega) only [f_X12_open_81, f_X12_open_110, f_X12_open_111, ite_nle, nI_1, ite_10]
        cases he : epos k f st i with
        | true =>
          rw [if_pos rfl]
          by_cases c : f_X12_entry k (f + nI i * st) < 0
          · have e : epos k f st (i + 1) = false := by
              rw [epos, decide_eq_false (show ¬ 0 ≤ ent k f st i from fun q => absurd c (Int32.not_lt.mpr q)), Bool.and_false]
            rw [if_pos c]
            rw [e, if_neg (by decide)] at z
            exact z
          · have e : epos k f st (i + 1) = true := by
              rw [epos, he, decide_eq_true (show 0 ≤ ent k f st i from Int32.not_lt.mp c)]
              rfl
            rw [if_neg c]
            rw [e, if_pos rfl] at z
            exact z
        | false =>
          have e : epos k f st (i + 1) = false := by rw [epos, he, Bool.false_and]
          rw [if_neg (by decide)]
          rw [e, if_neg (by decide)] at z
          exact z
  have z := key xN 0 (xN_lt (by omega)) (by omega)
  have e : f + nI 0 * st = f := by rw [nI_zero, Int32.zero_mul, Int32.add_zero]
  rw [e, nI_zero, if_pos (show epos k f st 0 = true from rfl)] at z
  exact z
/-- the entries as numbers -/
theorem lN_big {n : Nat} (h : n < 4611686018427387904) : (lN n).toInt = (n : Int) := Int64.toInt_ofNat_of_lt (by omega)
theorem esum_n {k f st : Int32} : ∀ {n : Nat}, (∀ i, i < n → 0 ≤ ent k f st i) → esum k f st n = lN (nsum (fun i => nv (ent k f st i)) n) := by
  intro n
  induction n with
  | zero => intro _; rfl
  | succ n ih =>
    intro h
    have h1 := ih fun i hi => h i (by omega)
    have h2 : ent k f st n = nI (nv (ent k f st n)) := (nI_self (h n (by omega))).symm
    have h3 : nv (ent k f st n) < 2147483648 := Int32.toNatClampNeg_lt _
    show esum k f st n + (ent k f st n).toInt64 = lN (nsum _ n + nv (ent k f st n))
    rw [h1, ← lN_add]
    refine congrArg _ ?_
    rw [← nI_l h3, ← h2]
theorem fits_n {k f st : Int32} {n w : Nat} (hn : n ≤ 16) (hw : w ≤ 9999) (hp : ∀ i, i < n → 0 ≤ ent k f st i) (h : ¬ 0 < lg_cmp (esum k f st n) (nI w).toInt64) : nsum (fun i => nv (ent k f st i)) n ≤ w := by
  rw [cmp_pos, esum_n hp, nI_l (by omega), Int64.lt_iff_toInt_lt] at h
  have h1 : nsum (fun i => nv (ent k f st i)) n ≤ nsum (fun _ => 2147483648) n := nsum_le fun i _ => Nat.le_of_lt (Int32.toNatClampNeg_lt _)
  rw [nsum_c] at h1
  have h2 : n * 2147483648 ≤ 16 * 2147483648 := Nat.mul_le_mul_right _ hn
  rw [lN_big (by omega), lN_big (by omega)] at h
  omega
/-! the class brings the pounds in -/
def fl (E : Nat → Nat) (b : Nat) (s : Nat) : List (Nat × Nat) := ((List.range s).filter fun s' => decide (0 < E s')).map fun s' => (s', b)
theorem fl_s (E : Nat → Nat) (b s : Nat) : fl E b (s + 1) = if 0 < E s then fl E b s ++ [(s, b)] else fl E b s := by
  unfold fl
  rw [List.range_succ, List.filter_append, List.map_append]
  by_cases h : 0 < E s
  · rw [if_pos h, List.filter_cons_of_pos (by simp [h])]
    rfl
  · rw [if_neg h, List.filter_cons_of_neg (by simp [h])]
    simp
theorem fl_len (E : Nat → Nat) (b s : Nat) : (fl E b s).length ≤ s := by
  unfold fl
  rw [List.length_map]
  exact Nat.le_trans (List.length_filter_le _ _) (by rw [List.length_range]; exact Nat.le_refl _)
def zUL (u : xS) (M : List (Nat × Nat)) (E : Nat → Nat) (b s : Nat) (u' : xS) : Prop :=
  rd u' 74 4 = nI (M ++ fl E b s).length ∧
  (∀ i, i < M.length → rd u' 75 i = rd u 75 i ∧ rd u' 76 i = rd u 76 i ∧ rd u' 77 i = rd u 77 i) ∧
  (∀ i q, (fl E b s)[i]? = some q → rd u' 75 (M.length + i) = nI q.1 ∧ rd u' 76 (M.length + i) = nI q.2 ∧ rd u' 77 (M.length + i) = nI (E q.1)) ∧
  (∀ s', s' < 16 → rd u' 78 s' = rd u 78 s' + if s' < s then nI (E s') else 0) ∧
  (∀ s', rd u' (22 + b) s' = if s' < s then nI (E s') else rd u (22 + b) s') ∧
  (∀ c j, c ≠ 75 → c ≠ 76 → c ≠ 77 → c ≠ 78 → c ≠ 22 + b → ¬ (c = 74 ∧ j = 4) → rd u' c j = rd u c j)
theorem appP_get {α : Type} {l : List α} {v w : α} {i : Nat} (h : (l ++ [v])[i]? = some w) : (i < l.length ∧ l[i]? = some w) ∨ (i = l.length ∧ w = v) := by
  rw [List.getElem?_append] at h
  by_cases hi : i < l.length
  · rw [if_pos hi] at h
    exact Or.inl ⟨hi, h⟩
  · rw [if_neg hi] at h
    have h1 : i - l.length = 0 := by
      cases hk : i - l.length with
      | zero => rfl
      | succ k => rw [hk] at h; simp at h
    rw [h1] at h
    have h2 : v = w := by simpa using h
    exact Or.inr ⟨by omega, h2.symm⟩
theorem unload11 {u : xS} {M : List (Nat × Nat)} {E : Nat → Nat} {b n w : Nat} {k f st : Int32} (hM : M.length ≤ 368) (hb : b < 24) (hn : n ≤ 16) (hE : ∀ i, i < n → ent k f st i = nI (E i) ∧ E i < 2147483648) (hw : nsum E n ≤ w) (hw2 : w < 2147483648) :
    ∀ (N s : Nat) (u' : xS), n < N + s → s ≤ n → zUL u M E b s u' → ∃ u'', f_X11_unload_14 N (nI b) k (nI n) f st (nI (w - nsum E s)) (nI s) u' = some (nI (w - nsum E n), wr u'' 19 b (nI (w - nsum E n))) ∧ zUL u M E b n u'' := by
  intro N
  induction N with
  | zero => intro s u' h1 h2; omega
  | succ N ih =>
    intro s u' h1 h2 h
    by_cases hs : s = n
    · subst hs
      refine ⟨u', ?_, h⟩
      simp (disch := omega) only [f_X11_unload_14, f_X11_unload_85, ite_yle, gd_nI, nI_cl]
    · obtain ⟨eE, hE2⟩ := hE s (by omega)
      obtain ⟨g1, g2, g3, g4, g5, g6⟩ := h
      have hsum : nsum E s + E s ≤ w := Nat.le_trans (nsum_mono (f := E) (m := s + 1) (by omega)) hw
      have hfl := fl_len E b s
      have hlen : (M ++ fl E b s).length = M.length + (fl E b s).length := List.length_append
      have esub : nI (w - nsum E s) - nI (E s) = nI (w - nsum E (s + 1)) := by
        rw [pk_sub (by omega)]
        have : w - nsum E s - E s = w - (nsum E s + E s) := by omega
        rw [this]
        rfl
      have e74 : ∀ v : Int32, rd (wr u' (22 + b) s v) 74 4 = nI (M.length + (fl E b s).length) := fun v => by rw [rd_wr_ne (by omega), g1, hlen]
      simp (disch := omega) only [f_X11_unload_14, f_X11_unload_79, ite_nle, l_16, gd_nI, nI_cl, nI_1, ent11]
      rw [show f_X12_entry k (f + nI s * st) = nI (E s) from eE, esub]
      by_cases hz : 0 < E s
      · rw [if_neg (nI_nle hz hE2)]
        have eadd : f_X6_add (nI s) (nI b) (nI (E s)) (wr u' (22 + b) s (nI (E s))) = some (wr (wr (wr (wr (wr (wr u' (22 + b) s (nI (E s))) 75 (M.length + (fl E b s).length) (nI s)) 76 (M.length + (fl E b s).length) (nI b)) 77 (M.length + (fl E b s).length) (nI (E s))) 78 s (rd (wr u' (22 + b) s (nI (E s))) 78 s + nI (E s))) 74 4 (nI (M.length + (fl E b s).length + 1))) := by
          simp (disch := omega) only [f_X6_add, e74, l_384, ite_nle, gd_nI, nI_cl, nI_1]
        rw [eadd, Option.bind_some]
        refine ih (s + 1) _ (by omega) (by omega) ⟨?_, fun i hi => ?_, fun i q hq => ?_, fun s' hs' => ?_, fun s' => ?_, fun c j n1 n2 n3 n4 n5 n6 => ?_⟩
        · rw [fl_s, if_pos hz, List.length_append, List.length_append]
          rfl
        · obtain ⟨y1, y2, y3⟩ := g2 i hi
          refine ⟨?_, ?_, ?_⟩
          · rw [rd_wr_ne (by omega), rd_wr_ne (by omega), rd_wr_ne (by omega), rd_wr_ne (by omega), rd_wr_ne (by omega), rd_wr_ne (by omega)]; exact y1
          · rw [rd_wr_ne (by omega), rd_wr_ne (by omega), rd_wr_ne (by omega), rd_wr_ne (by omega), rd_wr_ne (by omega), rd_wr_ne (by omega)]; exact y2
          · rw [rd_wr_ne (by omega), rd_wr_ne (by omega), rd_wr_ne (by omega), rd_wr_ne (by omega), rd_wr_ne (by omega), rd_wr_ne (by omega)]; exact y3
        · rw [fl_s, if_pos hz] at hq
          rcases appP_get hq with ⟨hi, hq'⟩ | ⟨hi, hq'⟩
          · obtain ⟨y1, y2, y3⟩ := g3 i q hq'
            refine ⟨?_, ?_, ?_⟩
            · rw [rd_wr_ne (by omega), rd_wr_ne (by omega), rd_wr_ne (by omega), rd_wr_ne (by omega), rd_wr_ne (by omega), rd_wr_ne (by omega)]; exact y1
            · rw [rd_wr_ne (by omega), rd_wr_ne (by omega), rd_wr_ne (by omega), rd_wr_ne (by omega), rd_wr_ne (by omega), rd_wr_ne (by omega)]; exact y2
            · rw [rd_wr_ne (by omega), rd_wr_ne (by omega), rd_wr_ne (by omega), rd_wr_ne (by omega), rd_wr_ne (by omega), rd_wr_ne (by omega)]; exact y3
          · subst hi hq'
            refine ⟨?_, ?_, ?_⟩
            · rw [rd_wr_ne (by omega), rd_wr_ne (by omega), rd_wr_ne (by omega), rd_wr_ne (by omega), rd_wr, if_pos rfl, if_pos rfl]
            · rw [rd_wr_ne (by omega), rd_wr_ne (by omega), rd_wr_ne (by omega), rd_wr, if_pos rfl, if_pos rfl]
            · rw [rd_wr_ne (by omega), rd_wr_ne (by omega), rd_wr, if_pos rfl, if_pos rfl]
        · rw [rd_wr_ne (by omega)]
          by_cases e : s' = s
          · subst e
            rw [rd_wr, if_pos rfl, if_pos rfl, rd_wr_ne (by omega), g4 s' hs', if_neg (by omega), if_pos (by omega), Int32.add_zero]
          · rw [rd_wr_ne (by omega), rd_wr_ne (by omega), rd_wr_ne (by omega), rd_wr_ne (by omega), rd_wr_ne (by omega), g4 s' hs']
            by_cases e2 : s' < s
            · rw [if_pos e2, if_pos (by omega)]
            · rw [if_neg e2, if_neg (by omega)]
        · rw [rd_wr_ne (by omega), rd_wr_ne (by omega), rd_wr_ne (by omega), rd_wr_ne (by omega), rd_wr_ne (by omega)]
          by_cases e : s' = s
          · subst e
            rw [rd_wr, if_pos rfl, if_pos rfl, if_pos (by omega)]
          · rw [rd_wr_ne (by omega), g5]
            by_cases e2 : s' < s
            · rw [if_pos e2, if_pos (by omega)]
            · rw [if_neg e2, if_neg (by omega)]
        · rw [rd_wr_ne (by omega), rd_wr_ne (by omega), rd_wr_ne (by omega), rd_wr_ne (by omega), rd_wr_ne (by omega), rd_wr_ne (by omega)]
          exact g6 c j n1 n2 n3 n4 n5 n6
      · have e0 : E s = 0 := by omega
        rw [if_pos (show nI (E s) ≤ 0 by rw [e0]; exact Int32.le_refl _)]
        refine ih (s + 1) _ (by omega) (by omega) ⟨?_, fun i hi => ?_, fun i q hq => ?_, fun s' hs' => ?_, fun s' => ?_, fun c j n1 n2 n3 n4 n5 n6 => ?_⟩
        · rw [fl_s, if_neg hz, rd_wr_ne (by omega)]
          exact g1
        · rw [rd_wr_ne (by omega), rd_wr_ne (by omega), rd_wr_ne (by omega)]
          exact g2 i hi
        · rw [fl_s, if_neg hz] at hq
          rw [rd_wr_ne (by omega), rd_wr_ne (by omega), rd_wr_ne (by omega)]
          exact g3 i q hq
        · rw [rd_wr_ne (by omega), g4 s' hs']
          by_cases e2 : s' < s
          · rw [if_pos e2, if_pos (by omega)]
          · by_cases e : s' = s
            · rw [if_neg e2, if_pos (by omega), e, e0]
              rfl
            · rw [if_neg e2, if_neg (by omega)]
        · by_cases e : s' = s
          · subst e
            rw [rd_wr, if_pos rfl, if_pos rfl, if_pos (by omega)]
          · rw [rd_wr_ne (by omega), g5]
            by_cases e2 : s' < s
            · rw [if_pos e2, if_pos (by omega)]
            · rw [if_neg e2, if_neg (by omega)]
        · rw [rd_wr_ne (by omega)]
          exact g6 c j n1 n2 n3 n4 n5 n6
/-- the reference's second pass -/
def zRS (v : xS) (E : Nat → Nat) (b s : Nat) (v' : xS) : Prop :=
  (∀ s' b', s' < 16 → b' < 24 → rd v' 146 (24 * s' + b') = if b' = b ∧ s' < s then nI (E s') else rd v 146 (24 * s' + b')) ∧
  (∀ s' b', s' < 16 → b' < 24 → rd v' 147 (24 * s' + b') = if b' = b ∧ s' < s then nI (E s') else rd v 147 (24 * s' + b')) ∧
  (∀ c j, c ≠ 146 → c ≠ 147 → rd v' c j = rd v c j)
theorem open162 {v : xS} {E : Nat → Nat} {b n O : Nat} {a2 k f st : Int32} (hb : b < 24) (hn : n ≤ 16) (hO : O < 24) (h16 : rd v 135 16 = nI O) (hE : ∀ i, i < n → ent k f st i = nI (E i)) :
    ∀ (N s : Nat) (v' : xS), n < N + s → s ≤ n → zRS v E b s v' → ∃ v'', f_X12_open_162 N (nI b) a2 k (nI n) st (f + nI s * st) (nI s) v' = (f_X12_dust (wr (wr (wr v'' 144 b a2) 148 O (nI b)) 135 16 (nI (O + 1))) (nI b)).bind (fun x5 => some (x5, wr (wr (wr v'' 144 b a2) 148 O (nI b)) 135 16 (nI (O + 1)))) ∧ zRS v E b n v'' := by
  intro N
  induction N with
  | zero => intro s v' h1 h2; omega
  | succ N ih =>
    intro s v' h1 h2 h
    obtain ⟨g1, g2, g3⟩ := id h
    have e16 : rd v' 135 16 = nI O := (g3 135 16 (by decide) (by decide)).trans h16
    by_cases hs : s = n
    · subst hs
      refine ⟨v', ?_, h⟩
      simp (disch := omega) only [f_X12_open_162, ite_yle, gd_nI, nI_cl, e16, nI_1]
    · have z := ih (s + 1) (wr (wr v' 146 (24 * s + b) (nI (E s))) 147 (24 * s + b) (nI (E s))) (by omega) (by omega) ⟨fun s' b' hs' hb' => ?_, fun s' b' hs' hb' => ?_, fun c j n1 n2 => ?_⟩
      · rw [← ent_s (k := k)] at z
        simp (disch := omega) only [f_X12_open_162, ite_nle, l_24, pk_mul, nI_add, gd_nI, nI_cl, nI_1]
        rw [show f_X12_entry k (f + nI s * st) = nI (E s) from hE s (by omega)]
        exact z
      · rw [rd_wr_ne (by omega)]
        by_cases e : s' = s ∧ b' = b
        · rw [e.1, e.2, rd_wr, if_pos rfl, if_pos rfl, if_pos (by omega)]
        · rw [rd_wr_ne (by omega), g1 s' b' hs' hb']
          by_cases e2 : b' = b ∧ s' < s
          · rw [if_pos e2, if_pos (by omega)]
          · rw [if_neg e2, if_neg (by omega)]
      · by_cases e : s' = s ∧ b' = b
        · rw [e.1, e.2, rd_wr, if_pos rfl, if_pos rfl, if_pos (by omega)]
        · rw [rd_wr_ne (by omega), rd_wr_ne (by omega), g2 s' b' hs' hb']
          by_cases e2 : b' = b ∧ s' < s
          · rw [if_pos e2, if_pos (by omega)]
          · rw [if_neg e2, if_neg (by omega)]
      · rw [rd_wr_ne (by omega), rd_wr_ne (by omega)]
        exact g3 c j n1 n2
/-! the step -/
theorem filter_ext {p : Nat → Bool} {m n : Nat} (hm : m ≤ n) (h : ∀ i, m ≤ i → i < n → p i = false) : (List.range n).filter p = (List.range m).filter p := by
  induction n with
  | zero =>
    have : m = 0 := by omega
    rw [this]
  | succ n ih =>
    by_cases e : m = n + 1
    · rw [e]
    · rw [List.range_succ, List.filter_append, ih (by omega) (fun i h1 h2 => h i h1 (by omega)), List.filter_cons_of_neg (by rw [h n (by omega) (by omega)]; decide)]
      simp
theorem nsum_ext {f : Nat → Nat} {m n : Nat} (hm : m ≤ n) (h : ∀ i, m ≤ i → i < n → f i = 0) : nsum f n = nsum f m := by
  induction n with
  | zero =>
    have : m = 0 := by omega
    rw [this]
  | succ n ih =>
    by_cases e : m = n + 1
    · rw [e]
    · rw [nsum, ih (by omega) (fun i h1 h2 => h i h1 (by omega)), h n (by omega) (by omega), Nat.add_zero]
theorem flat_congr {f g : Nat → List (Nat × Nat)} {l : List Nat} (h : ∀ a, a ∈ l → f a = g a) : l.flatMap f = l.flatMap g := by
  induction l with
  | nil => rfl
  | cons x l ih => rw [List.flatMap_cons, List.flatMap_cons, h x List.mem_cons_self, ih fun a ha => h a (List.mem_cons_of_mem _ ha)]
/-- both know the bale as sorted -/
theorem Inv_open {u u3 : xS} (hI : Inv u) {E : Nat → Nat} {b n w k : Nat} (hb : b < nB u) (hn : n ≤ nS u) (h142 : rd u 142 b = nI w) (hw : w ≤ 9999) (hk : k < 6) (hun : rd u 144 b = -1) (hE : ∀ i, n ≤ i → E i = 0) (hs : nsum E n ≤ w)
    (hag : ag [(135, 1), (18, 0), (19, 0), (22, 0), (74, 5), (75, 0), (76, 0), (77, 0), (78, 0), (144, 0), (135, 17), (146, 0), (147, 0), (148, 0)] u u3)
    (m18 : ∀ i, rd u3 18 i = if i = b then nI k else rd u 18 i) (m144 : ∀ i, rd u3 144 i = if i = b then nI k else rd u 144 i) (m19 : ∀ i, rd u3 19 i = if i = b then nI (w - nsum E n) else rd u 19 i)
    (mrow : ∀ b' s, b' < 24 → s < 16 → rd u3 (22 + b') s = if b' = b ∧ s < n then nI (E s) else rd u (22 + b') s)
    (m146 : ∀ s' b', s' < 16 → b' < 24 → rd u3 146 (24 * s' + b') = if b' = b ∧ s' < n then nI (E s') else rd u 146 (24 * s' + b')) (m147 : ∀ s' b', s' < 16 → b' < 24 → rd u3 147 (24 * s' + b') = if b' = b ∧ s' < n then nI (E s') else rd u 147 (24 * s' + b'))
    (m148 : ∀ i, rd u3 148 i = if i = nO u then nI b else rd u 148 i) (m16 : rd u3 135 16 = nI (nO u + 1))
    (m74 : rd u3 74 4 = nI (eM u ++ fl E b n).length) (mold : ∀ i, i < (eM u).length → rd u3 75 i = rd u 75 i ∧ rd u3 76 i = rd u 76 i ∧ rd u3 77 i = rd u 77 i)
    (mnew : ∀ i q, (fl E b n)[i]? = some q → rd u3 75 ((eM u).length + i) = nI q.1 ∧ rd u3 76 ((eM u).length + i) = nI q.2 ∧ rd u3 77 ((eM u).length + i) = nI (E q.1)) (m78 : ∀ s', s' < 16 → rd u3 78 s' = rd u 78 s' + if s' < n then nI (E s') else 0) : Inv u3 := by
  have hS3 := hI.S.2.2.1
  obtain ⟨b1, b2, b3, b4, b5⟩ := hI.B
  obtain ⟨p1, p2⟩ := hI.H
  obtain ⟨l1, l2, l3, l4, l5, l6, l7, l8, l9⟩ := hI.L
  have eS : nS u3 = nS u := congrArg nv (hag 135 1 rfl)
  have eBn : nB u3 = nB u := congrArg nv (hag 135 7 rfl)
  have hbm : ¬ b ∈ eO u := fun z => (l5 b hb).mp z hun
  have hO : nO u < 24 := by
    have := pigeon (nB u) (b :: eO u) (List.nodup_cons.mpr ⟨hbm, l4⟩) (fun x hx => (List.mem_cons.mp hx).elim (fun e => by rw [e]; exact hb) (fun e => eO_mem hI.L e))
    rw [List.length_cons, eO_len] at this
    omega
  have eOn : nO u3 = nO u + 1 := nv_of m16 (by omega)
  have hElt : ∀ i, E i ≤ 9999 := by
    intro i
    by_cases h : i < n
    · have := nsum_one (f := E) h
      omega
    · rw [hE i (by omega)]; omega
  have hHb : ∀ s, s < 16 → eH u b s = 0 := fun s hs => (p1 b s (by omega) hs).2.2 (Or.inr (Or.inr hun))
  have eH3 : ∀ b' s, b' < 24 → s < 16 → eH u3 b' s = if b' = b then E s else eH u b' s := by
    intro b' s hb' hs
    unfold eH
    rw [m146 s b' hs hb']
    by_cases e : b' = b
    · rw [if_pos e]
      by_cases e2 : s < n
      · rw [if_pos ⟨e, e2⟩, nv_nI (by have := hElt s; omega)]
      · rw [if_neg (fun z => e2 z.2), hE s (by omega)]
        subst e
        exact hHb s hs
    · rw [if_neg e, if_neg (fun z => e z.1)]
  have eOl : eO u3 = eO u ++ [b] := by
    unfold eO
    rw [eOn, List.range_succ, List.map_append]
    congr 1
    · refine List.map_congr_left fun i hi => ?_
      have := List.mem_range.mp hi
      rw [m148, if_neg (by omega)]
    · simp only [List.map_cons, List.map_nil]
      rw [m148, if_pos rfl, nv_nI (by omega)]
  have eB1 : ∀ b', b' < 24 → ¬ b' = b → eB u3 b' = eB u b' := by
    intro b' hb' e
    unfold eB
    congr 1
    refine List.filter_congr fun s hs => ?_
    rw [eH3 b' s hb' (List.mem_range.mp hs), if_neg e]
  have eB2 : eB u3 b = fl E b n := by
    unfold eB fl
    congr 1
    rw [← filter_ext (n := 16) (m := n) (by omega) (fun i h1 h2 => decide_eq_false (by rw [hE i h1]; omega))]
    refine List.filter_congr fun s hs => ?_
    rw [eH3 b s (by omega) (List.mem_range.mp hs), if_pos rfl]
  have eMl : eM u3 = eM u ++ fl E b n := by
    unfold eM
    rw [eOl, List.flatMap_append, flat_congr (f := eB u3) (g := eB u) (fun a ha => eB1 a (by have := eO_mem hI.L ha; omega) (fun e => hbm (by rw [← e]; exact ha)))]
    congr 1
    rw [List.flatMap_cons, List.flatMap_nil, List.append_nil, eB2]
  have hE16 : nsum E 16 = nsum E n := nsum_ext (by omega) fun i h1 _ => hE i h1
  refine ⟨fr_S (ag_sm hag rfl) hI.S, fr_P (ag_sm hag rfl) hI.P, ?_, ?_, ?_, fr_K (ag_sm hag rfl) hI.K, fr_T (ag_sm hag rfl) hI.T, fr_X (ag_sm hag rfl) hI.X, fr_F (ag_sm hag rfl) hI.F, fr_C (ag_sm hag rfl) hI.C, fr_D (ag_sm hag rfl) hI.D, fr_A (ag_sm hag rfl) hI.A, fr_W (ag_sm hag rfl) hI.W⟩
  · have q0 : rd u3 135 7 = rd u 135 7 := hag 135 7 rfl
    have q1 : rd u3 13 8 = rd u 13 8 := hag 13 8 rfl
    have q2 : ∀ i, rd u3 14 i = rd u 14 i := fun i => hag 14 i rfl
    have q3 : ∀ i, rd u3 15 i = rd u 15 i := fun i => hag 15 i rfl
    have q4 : ∀ i, rd u3 16 i = rd u 16 i := fun i => hag 16 i rfl
    have q5 : ∀ i, rd u3 17 i = rd u 17 i := fun i => hag 17 i rfl
    have q7 : ∀ i, rd u3 20 i = rd u 20 i := fun i => hag 20 i rfl
    have q8 : ∀ i, rd u3 140 i = rd u 140 i := fun i => hag 140 i rfl
    have q9 : ∀ i, rd u3 141 i = rd u 141 i := fun i => hag 141 i rfl
    have q10 : ∀ i, rd u3 142 i = rd u 142 i := fun i => hag 142 i rfl
    have q11 : ∀ i, rd u3 143 i = rd u 143 i := fun i => hag 143 i rfl
    have q13 : ∀ i, rd u3 145 i = rd u 145 i := fun i => hag 145 i rfl
    unfold i_B
    simp only [eBn, q0, q1, q2, q3, q4, q5, q7, q8, q9, q10, q11, q13]
    refine ⟨b1, b2, b3, fun b' hb' => ?_, b5⟩
    obtain ⟨y1, y2, y3, y4, y5, y6, y7, y8⟩ := b4 b' hb'
    rw [m18, m144]
    by_cases e : b' = b
    · rw [if_pos e, if_pos e]
      exact ⟨y1, y2, y3, y4, rfl, y6, y7, Or.inr ⟨k, hk, rfl⟩⟩
    · rw [if_neg e, if_neg e]
      exact ⟨y1, y2, y3, y4, y5, y6, y7, y8⟩
  · have q10 : ∀ i, rd u3 142 i = rd u 142 i := fun i => hag 142 i rfl
    unfold i_H
    rw [eS, eBn]
    refine ⟨fun b' s hb' hs => ?_, fun b' hb' => ?_⟩
    · rw [mrow b' s hb' hs, m146 s b' hs hb', eH3 b' s hb' hs, m144]
      obtain ⟨z1, z2, z3⟩ := p1 b' s hb' hs
      by_cases e : b' = b
      · subst e
        rw [if_pos rfl, if_pos rfl]
        by_cases e2 : s < n
        · rw [if_pos ⟨rfl, e2⟩, if_pos ⟨rfl, e2⟩]
          refine ⟨rfl, rfl, fun z => ?_⟩
          rcases z with z | z | z
          · omega
          · omega
          · have := nI_lo (n := k) (by omega)
            rw [z] at this
            exact absurd this (by decide)
        · rw [if_neg (fun z => e2 z.2), if_neg (fun z => e2 z.2), z1, hE s (by omega)]
          refine ⟨rfl, ?_, fun _ => rfl⟩
          rw [z2, hHb s hs]
      · rw [if_neg (fun z => e z.1), if_neg (fun z => e z.1), if_neg e, if_neg e]
        exact ⟨z1, z2, z3⟩
    · rw [q10, m144, m19]
      have ensum : nsum (eH u3 b') 16 = if b' = b then nsum E n else nsum (eH u b') 16 := by
        by_cases e : b' = b
        · rw [if_pos e, ← hE16]
          exact nsum_congr fun s hs => by rw [eH3 b' s (by omega) hs, if_pos e]
        · rw [if_neg e]
          exact nsum_congr fun s hs => by rw [eH3 b' s (by omega) hs, if_neg e]
      rw [ensum]
      by_cases e : b' = b
      · subst e
        rw [if_pos rfl, if_pos rfl, if_pos rfl, h142, nv_nI (by omega)]
        refine ⟨hs, ?_⟩
        rw [if_neg]
        intro z
        have := nI_lo (n := k) (by omega)
        rw [z] at this
        exact absurd this (by decide)
      · rw [if_neg e, if_neg e, if_neg e]
        exact p2 b' hb'
  · unfold i_L
    rw [eOn, eBn, eOl, eMl]
    refine ⟨m16, by omega, fun k' hk' => ?_, ?_, fun b' hb' => ?_, m74, fun i q hq => ?_, fun b' s hb' hs => ?_, fun s hs => ?_⟩
    · rw [m148]
      by_cases e : k' = nO u
      · rw [if_pos e]
        exact ⟨b, hb, rfl⟩
      · rw [if_neg e]
        exact l3 k' (by omega)
    · refine List.nodup_append.mpr ⟨l4, by simp, fun x hx y hy => ?_⟩
      have : y = b := by simpa using hy
      rintro rfl
      exact hbm (by rw [← this]; exact hx)
    · rw [List.mem_append, m144]
      by_cases e : b' = b
      · rw [if_pos e]
        refine ⟨fun _ z => ?_, fun _ => Or.inr (by rw [e]; exact List.mem_cons_self)⟩
        have := nI_lo (n := k) (by omega)
        rw [z] at this
        exact absurd this (by decide)
      · rw [if_neg e]
        refine ⟨fun z => (l5 b' hb').mp (z.elim id fun y => absurd (by simpa using y) e), fun z => Or.inl ((l5 b' hb').mpr z)⟩
    · rw [List.getElem?_append] at hq
      by_cases hi : i < (eM u).length
      · rw [if_pos hi] at hq
        obtain ⟨y1, y2, y3⟩ := mold i hi
        obtain ⟨z1, z2, z3⟩ := l7 i q hq
        obtain ⟨x1, x2, x3⟩ := eM_mem.mp (List.mem_of_getElem? hq)
        have x4 := eO_mem hI.L x1
        rw [y1, y2, y3, m147 q.1 q.2 x2 (by omega), if_neg (fun z => hbm (by rw [← z.1]; exact x1))]
        exact ⟨z1, z2, z3⟩
      · rw [if_neg hi] at hq
        obtain ⟨y1, y2, y3⟩ := mnew _ q hq
        rw [show (eM u).length + (i - (eM u).length) = i by omega] at y1 y2 y3
        have hmem := List.mem_of_getElem? hq
        unfold fl at hmem
        simp only [List.mem_map, List.mem_filter, List.mem_range] at hmem
        obtain ⟨s', ⟨hs', -⟩, rfl⟩ := hmem
        refine ⟨y1, y2, ?_⟩
        rw [y3, m147 s' b (by omega) (by omega), if_pos ⟨rfl, hs'⟩]
    · obtain ⟨z1, z2⟩ := l8 b' s hb' hs
      have h1 : rd u3 147 (24 * s + b') = nI (if b' = b then E s else eL u b' s) := by
        rw [m147 s b' hs hb']
        by_cases e : b' = b
        · rw [if_pos e]
          by_cases e2 : s < n
          · rw [if_pos ⟨e, e2⟩]
          · rw [if_neg (fun z => e2 z.2), hE s (by omega), z1]
            subst e
            have := hHb s hs
            rw [show eL u b' s = 0 by omega]
        · rw [if_neg (fun z => e z.1), if_neg e, z1]
      have h2 : eL u3 b' s = if b' = b then E s else eL u b' s := by
        unfold eL
        rw [h1]
        refine nv_nI ?_
        by_cases e : b' = b
        · rw [if_pos e]; have := hElt s; omega
        · rw [if_neg e]; exact Int32.toNatClampNeg_lt _
      rw [h2, eH3 b' s hb' hs]
      refine ⟨h1, ?_⟩
      by_cases e : b' = b
      · rw [if_pos e, if_pos e]; exact Nat.le_refl _
      · rw [if_neg e, if_neg e]; exact z2
    · rw [m78 s hs, l9 s hs]
      have e5 : isum (fun b' => rd u3 147 (24 * s + b')) 24 = isum (fun b' => rd u 147 (24 * s + b') + if b' = b then (if s < n then nI (E s) else 0) else 0) 24 := by
        refine isum_congr fun b' hb' => ?_
        rw [m147 s b' hs hb']
        by_cases e : b' = b
        · subst e
          rw [if_pos rfl]
          have z0 : rd u 147 (24 * s + b') = 0 := lie_0 hI.L hI.H hb' hs (Or.inr (Or.inr hun))
          by_cases e2 : s < n
          · rw [if_pos ⟨rfl, e2⟩, if_pos e2, z0, Int32.zero_add]
          · rw [if_neg (fun z => e2 z.2), if_neg e2, Int32.add_zero]
        · rw [if_neg (fun z => e z.1), if_neg e, Int32.add_zero]
      rw [e5, isum_add, isum_one (by omega)]
theorem s_open : xS_open Inv := by
  intro u a1 a2 a3 a4 a5 a6 hI
  apply st_W
  have hxN : xN = 1000000 := rfl
  have hJ := Inv_thr hI
  obtain ⟨s1, s2, s3, -⟩ := hI.S
  obtain ⟨b1, b2, b3, b4, -⟩ := hI.B
  have n1 : rd (wr u 135 0 0) 135 7 = nI (nB u) := b2
  have refuse : f_X11_open a1 a2 a3 a4 a5 a6 u = some (-1, u) → f_X12_open a1 a2 a3 a4 a5 a6 u = some (-1, wr u 135 0 0) → ok (f_X11_open a1 a2 a3 a4 a5 a6 u) fun q => ok (f_X12_open a1 a2 a3 a4 a5 a6 q.2) fun q' => q'.1 = q.1 ∧ Inv q'.2 :=
    fun e1 e2 => ok_is e1 (ok_is e2 ⟨rfl, hJ⟩)
  by_cases h1 : 0 ≤ a1 ∧ a1 < nI (nB u)
  · by_cases h2 : 0 ≤ a2 ∧ a2 ≤ 5
    · by_cases h3 : 0 ≤ a3 ∧ a3 ≤ 3
      · obtain ⟨b, hb, rfl⟩ := nI_ix (by omega) h1.1 h1.2
        obtain ⟨k, hk, rfl⟩ := nI_ixl (S := 5) (by omega) h2.1 h2.2
        obtain ⟨g1, g2, g3, g4, g5, -, ⟨w, hw1, hw, h142⟩, -⟩ := b4 b hb
        have hsrt := srt hI.B hb
        have e11 : f_X11_open (nI b) (nI k) a3 a4 a5 a6 u = if rd u 144 b = -1 ∧ a4 ≤ rd u 1 2 then (if a3 = 3 then some (-3, u) else if 0 ≤ a4 then (f_X11_sheetFits (nI w) a3 a4 a5 a6).bind (fun x => if x = 0 then some (-4, u) else (f_X11_unload (nI b) a3 a4 a5 a6 (wr u 18 b (nI k))).bind fun q => some (q.1, q.2)) else some (-2, u)) else some (-1, u) := by
          have hs : f_X0_isSorted u (nI b) = some (if rd u 144 b = -1 then 0 else 1) := by
            simp (disch := omega) only [f_X0_isSorted, hasB b1, ite_10]
            rw [if_pos h1, gd_nI (by omega) (by omega), nI_cl (by omega), g5]
            by_cases h : rd u 144 b = -1
            · rw [if_pos h, if_pos h]
            · rw [if_neg h, if_neg h]
          simp (disch := omega) only [f_X11_open, f_X11_isSorter, hasB b1, lies_eq, ite_10, hs, Option.bind_some]
          rw [if_pos h1, if_pos h2, if_pos h3]
          by_cases c1 : rd u 144 b = -1
          · rw [if_pos c1, if_pos rfl]
            by_cases c2 : a4 ≤ rd u 1 2
            · have hh : rd u 144 b = -1 ∧ a4 ≤ rd u 1 2 := ⟨c1, c2⟩
              rw [if_pos c2, if_pos hh, gd_nI (by omega) (by omega), nI_cl (by omega), g3, h142]
            · rw [if_neg c2, if_neg (fun z => c2 z.2)]
          · rw [if_neg c1, if_neg (show ¬ (1 : Int32) = 0 by decide), if_neg (fun z => c1 z.1)]
        have e12 : ∀ v : xS, rd v 135 7 = nI (nB u) → rd v 135 1 = rd u 1 2 → rd v 144 b = rd u 144 b → f_X12_open (nI b) (nI k) a3 a4 a5 a6 v = if rd u 144 b = -1 ∧ a4 ≤ rd u 1 2 then (if a3 = 3 then some (-3, wr v 135 0 0) else if 0 ≤ a4 then f_X12_open_81 xN (nI b) (nI k) a3 a4 a5 a6 0 a5 1 0 (wr v 135 0 0) else some (-2, wr v 135 0 0)) else some (-1, wr v 135 0 0) := by
          intro v v1 v2 v3
          have v1' : rd (wr v 135 0 0) 135 7 = nI (nB u) := v1
          rw [f_X12_open, isB v1' (by omega), ite_10, if_pos h1, f_X12_isSorter, L_0, L_5, in_eq, ite_10, if_pos h2, L_3, in_eq, ite_10, if_pos h3, gd_nI (by omega) (by omega), nI_cl (by omega), v3, v2]
          by_cases c1 : rd u 144 b = -1
          · rw [if_neg (fun z => hsrt.mp z c1)]
            by_cases c2 : a4 ≤ rd u 1 2
            · have hh : rd u 144 b = -1 ∧ a4 ≤ rd u 1 2 := ⟨c1, c2⟩
              rw [if_pos c2, if_pos hh]
            · rw [if_neg c2, if_neg (fun z => c2 z.2)]
          · rw [if_pos (hsrt.mpr c1), if_neg (fun z => c1 z.1)]
        rw [e11]
        by_cases hc : rd u 144 b = -1 ∧ a4 ≤ rd u 1 2
        · rw [if_pos hc]
          have z0 := e12 u b2 (s2.trans s1.symm) rfl
          rw [if_pos hc] at z0
          by_cases h4 : a3 = 3
          · rw [if_pos h4] at z0 ⊢
            rw [ok_some]
            exact ok_is z0 ⟨rfl, hJ⟩
          · rw [if_neg h4] at z0 ⊢
            by_cases h5 : 0 ≤ a4
            · rw [if_pos h5] at z0 ⊢
              have h6 := hc.2
              rw [s1] at h6
              obtain ⟨n, hn, rfl⟩ := nI_ixl (by omega) h5 h6
              have hn16 : n ≤ 16 := by omega
              rw [c_fits hn16, Option.bind_some, ite_10]
              by_cases hf : epos a3 a5 a6 n = true ∧ ¬ 0 < lg_cmp (esum a3 a5 a6 n) (nI w).toInt64
              · rw [if_pos hf]
                -- both open it
                have hp := epos_at hf.1
                have hsum := fits_n hn16 hw hp hf.2
                generalize hE0 : (fun i => if i < n then nv (ent a3 a5 a6 i) else 0) = E
                have hEv : ∀ i, i < n → nv (ent a3 a5 a6 i) = E i := fun i hi => by rw [← hE0]; exact (if_pos hi).symm
                have hEz : ∀ i, n ≤ i → E i = 0 := fun i hi => by rw [← hE0]; exact if_neg (by omega)
                have hsum' : nsum E n ≤ w := by
                  rw [nsum_congr (fun i hi => (hEv i hi).symm)]
                  exact hsum
                have hE : ∀ i, i < n → ent a3 a5 a6 i = nI (E i) ∧ E i < 2147483648 := fun i hi => by
                  rw [← hEv i hi]
                  exact ⟨(nI_self (hp i hi)).symm, Int32.toNatClampNeg_lt _⟩
                have hbm : ¬ b ∈ eO u := fun z => (hI.L.2.2.2.2.1 b hb).mp z hc.1
                have hO : nO u < 24 := by
                  have := pigeon (nB u) (b :: eO u) (List.nodup_cons.mpr ⟨hbm, hI.L.2.2.2.1⟩) (fun x hx => (List.mem_cons.mp hx).elim (fun e => by rw [e]; exact hb) (fun e => eO_mem hI.L e))
                  rw [List.length_cons, eO_len] at this
                  omega
                have hM : (eM u).length ≤ 368 := by
                  have := eM_len hI.L hI.B
                  rw [eO_len] at this
                  omega
                have e74 : rd (wr u 18 b (nI k)) 74 4 = nI (eM u).length := hI.L.2.2.2.2.2.1
                obtain ⟨u1, t1, t2⟩ := unload11 (u := wr u 18 b (nI k)) (M := eM u) (E := E) hM (show b < 24 by omega) hn16 hE hsum' (by omega) xN 0 (wr u 18 b (nI k)) (by omega) (by omega) ⟨by rw [e74]; unfold fl; simp, fun i _ => ⟨rfl, rfl, rfl⟩, fun i q hq => by unfold fl at hq; simp at hq, fun s' _ => by rw [if_neg (by omega), Int32.add_zero], fun s' => by rw [if_neg (by omega)], fun _ _ _ _ _ _ _ _ => rfl⟩
                have e16 : rd (wr u 18 b (nI k)) 16 b = nI w := g3.trans h142
                have ex11 : f_X11_unload (nI b) a3 (nI n) a5 a6 (wr u 18 b (nI k)) = some (nI (w - nsum E n), wr u1 19 b (nI (w - nsum E n))) := by
                  rw [f_X11_unload, gd_nI (by omega) (by omega), nI_cl (by omega), e16, ← t1, nI_zero]
                  rfl
                rw [ex11, Option.bind_some, ok_some]
                dsimp only
                generalize hu2 : wr u1 19 b (nI (w - nsum E n)) = u2
                obtain ⟨f1, f2, f3, f4, f5, f6⟩ := t2
                have r0 : ∀ c j, c ≠ 75 → c ≠ 76 → c ≠ 77 → c ≠ 78 → c ≠ 22 + b → ¬ (c = 74 ∧ j = 4) → c ≠ 18 → c ≠ 19 → rd u2 c j = rd u c j := by
                  intro c j n1 n2 n3 n4 n5 n6 n7 n8
                  rw [← hu2, rd_wr_ne (by omega), f6 c j n1 n2 n3 n4 n5 n6, rd_wr_ne (by omega)]
                have z1 := e12 u2 ((r0 135 7 (by omega) (by omega) (by omega) (by omega) (by omega) (by omega) (by omega) (by omega)).trans b2) ((r0 135 1 (by omega) (by omega) (by omega) (by omega) (by omega) (by omega) (by omega) (by omega)).trans (s2.trans s1.symm)) (r0 144 b (by omega) (by omega) (by omega) (by omega) (by omega) (by omega) (by omega) (by omega))
                have r142 : rd (wr u2 135 0 0) 142 b = nI w := (r0 142 b (by omega) (by omega) (by omega) (by omega) (by omega) (by omega) (by omega) (by omega)).trans h142
                rw [if_pos hc, if_neg h4, if_pos h5, c_open81 hn16 (show b < 24 by omega), r142, if_pos hf] at z1
                generalize hv0 : wr u2 135 0 0 = v0 at z1 r142
                have r1 : ∀ c j, c ≠ 75 → c ≠ 76 → c ≠ 77 → c ≠ 78 → c ≠ 22 + b → ¬ (c = 74 ∧ j = 4) → c ≠ 18 → c ≠ 19 → ¬ (c = 135 ∧ j = 0) → rd v0 c j = rd u c j := by
                  intro c j n1 n2 n3 n4 n5 n6 n7 n8 n9
                  rw [← hv0, rd_wr_ne (by omega)]
                  exact r0 c j n1 n2 n3 n4 n5 n6 n7 n8
                have r16 : rd v0 135 16 = nI (nO u) := (r1 135 16 (by omega) (by omega) (by omega) (by omega) (by omega) (by omega) (by omega) (by omega) (by omega)).trans hI.L.1
                obtain ⟨u3, y1, y2⟩ := open162 (v := v0) (E := E) (a2 := nI k) (show b < 24 by omega) hn16 hO r16 (fun i hi => (hE i hi).1) xN 0 v0 (by omega) (by omega) ⟨fun s' b' _ _ => by rw [if_neg (by omega)], fun s' b' _ _ => by rw [if_neg (by omega)], fun _ _ _ _ => rfl⟩
                rw [nI_zero, Int32.zero_mul, Int32.add_zero] at y1
                rw [y1] at z1
                obtain ⟨x1, x2, x3⟩ := y2
                generalize hu4 : wr (wr (wr u3 144 b (nI k)) 148 (nO u) (nI b)) 135 16 (nI (nO u + 1)) = u4 at z1
                have r2 : ∀ c j, c ≠ 146 → c ≠ 147 → ¬ (c = 144 ∧ j = b) → ¬ (c = 148 ∧ j = nO u) → ¬ (c = 135 ∧ j = 16) → rd u4 c j = rd v0 c j := by
                  intro c j n1 n2 n3 n4 n5
                  rw [← hu4, rd_wr_ne (by omega), rd_wr_ne (by omega), rd_wr_ne (by omega)]
                  exact x3 c j n1 n2
                have m146 : ∀ s' b', s' < 16 → b' < 24 → rd u4 146 (24 * s' + b') = if b' = b ∧ s' < n then nI (E s') else rd u 146 (24 * s' + b') := by
                  intro s' b' hs' hb'
                  rw [← hu4, rd_wr_ne (by omega), rd_wr_ne (by omega), rd_wr_ne (by omega), x1 s' b' hs' hb', r1 146 _ (by omega) (by omega) (by omega) (by omega) (by omega) (by omega) (by omega) (by omega) (by omega)]
                have m147 : ∀ s' b', s' < 16 → b' < 24 → rd u4 147 (24 * s' + b') = if b' = b ∧ s' < n then nI (E s') else rd u 147 (24 * s' + b') := by
                  intro s' b' hs' hb'
                  rw [← hu4, rd_wr_ne (by omega), rd_wr_ne (by omega), rd_wr_ne (by omega), x2 s' b' hs' hb', r1 147 _ (by omega) (by omega) (by omega) (by omega) (by omega) (by omega) (by omega) (by omega) (by omega)]
                have ed : f_X12_dust u4 (nI b) = some (nI (w - nsum E n)) := by
                  have q1 : rd u4 135 1 = nI (nS u) := ((r2 135 1 (by omega) (by omega) (by omega) (by omega) (by omega)).trans (r1 135 1 (by omega) (by omega) (by omega) (by omega) (by omega) (by omega) (by omega) (by omega) (by omega))).trans s2
                  have q2 : rd u4 142 b = nI w := (r2 142 b (by omega) (by omega) (by omega) (by omega) (by omega)).trans r142
                  have q3 : isum (fun s => rd u4 146 (24 * s + b)) (nS u) = nI (nsum E n) := by
                    rw [isum_ext (m := n) hn (fun s h1 h2 => ?_)]
                    · refine isum_nI fun s hs => ?_
                      rw [m146 s b (by omega) (by omega), if_pos ⟨rfl, hs⟩]
                    · rw [m146 s b (by omega) (by omega), if_neg (fun z => absurd z.2 (by omega))]
                      obtain ⟨-, y1, y2⟩ := hI.H.1 b s (by omega) (by omega)
                      rw [y1, y2 (Or.inr (Or.inr hc.1))]
                      rfl
                  rw [c_dust q1 s3 (show b < 24 by omega), q2, q3, pk_sub hsum']
                rw [ed, Option.bind_some] at z1
                refine ok_is z1 ⟨rfl, ?_⟩
                have hag : ag [(135, 1), (18, 0), (19, 0), (22, 0), (74, 5), (75, 0), (76, 0), (77, 0), (78, 0), (144, 0), (135, 17), (146, 0), (147, 0), (148, 0)] u u4 := by
                  intro c j hc
                  have k22 : c ≠ 22 + b := ne_W (22 + b) (fun j => by rw [lc_22 (show b < 24 by omega)]; rfl) hc
                  have k74 : ¬ (c = 74 ∧ j = 4) := by rintro ⟨rfl, rfl⟩; cases hc
                  have k135 : ¬ (c = 135 ∧ j = 0) := by rintro ⟨rfl, rfl⟩; cases hc
                  have k136 : ¬ (c = 135 ∧ j = 16) := by rintro ⟨rfl, rfl⟩; cases hc
                  have k144 := ne_W 144 (fun _ => rfl) hc
                  have k148 := ne_W 148 (fun _ => rfl) hc
                  rw [r2 c j (ne_W 146 (fun _ => rfl) hc) (ne_W 147 (fun _ => rfl) hc) (fun z => k144 z.1) (fun z => k148 z.1) k136]
                  exact r1 c j (ne_W 75 (fun _ => rfl) hc) (ne_W 76 (fun _ => rfl) hc) (ne_W 77 (fun _ => rfl) hc) (ne_W 78 (fun _ => rfl) hc) k22 k74 (ne_W 18 (fun _ => rfl) hc) (ne_W 19 (fun _ => rfl) hc) k135
                have rr : ∀ c j, c ≠ 146 → c ≠ 147 → c ≠ 144 → c ≠ 148 → c ≠ 135 → rd u4 c j = rd u2 c j := by
                  intro c j n1 n2 n3 n4 n5
                  rw [r2 c j n1 n2 (fun z => n3 z.1) (fun z => n4 z.1) (fun z => n5 z.1), ← hv0, rd_wr_ne (fun z => n5 z.1)]
                have ru : ∀ c j, c ≠ 19 → rd u2 c j = rd u1 c j := by
                  intro c j n1
                  rw [← hu2, rd_wr_ne (fun z => n1 z.1)]
                refine Inv_open hI (k := k) hb hn h142 hw (by omega) hc.1 hEz hsum' hag (fun i => ?_) (fun i => ?_) (fun i => ?_) (fun b' s hb' hs => ?_) m146 m147 (fun i => ?_) ?_ ?_ (fun i hi => ?_) (fun i q hq => ?_) (fun s' hs' => ?_)
                · rw [rr 18 i (by omega) (by omega) (by omega) (by omega) (by omega), ru 18 i (by omega), f6 18 i (by omega) (by omega) (by omega) (by omega) (by omega) (by omega), rd_wr, if_pos rfl]
                · rw [← hu4, rd_wr_ne (by omega), rd_wr_ne (by omega), rd_wr, if_pos rfl, x3 144 i (by omega) (by omega), r1 144 i (by omega) (by omega) (by omega) (by omega) (by omega) (by omega) (by omega) (by omega) (by omega)]
                · rw [rr 19 i (by omega) (by omega) (by omega) (by omega) (by omega), ← hu2, rd_wr, if_pos rfl, f6 19 i (by omega) (by omega) (by omega) (by omega) (by omega) (by omega), rd_wr_ne (by omega)]
                · rw [rr (22 + b') s (by omega) (by omega) (by omega) (by omega) (by omega), ru (22 + b') s (by omega)]
                  by_cases e : b' = b
                  · subst e
                    rw [f5, rd_wr_ne (by omega)]
                    by_cases e2 : s < n
                    · rw [if_pos e2, if_pos ⟨rfl, e2⟩]
                    · rw [if_neg e2, if_neg (fun z => e2 z.2)]
                  · rw [if_neg (fun z => e z.1), f6 (22 + b') s (by omega) (by omega) (by omega) (by omega) (by omega) (by omega), rd_wr_ne (by omega)]
                · rw [← hu4, rd_wr_ne (by omega), rd_wr, if_pos rfl]
                  by_cases e : i = nO u
                  · rw [if_pos e, if_pos e]
                  · rw [if_neg e, if_neg e, rd_wr_ne (by omega), x3 148 i (by omega) (by omega), r1 148 i (by omega) (by omega) (by omega) (by omega) (by omega) (by omega) (by omega) (by omega) (by omega)]
                · rw [← hu4, rd_wr, if_pos rfl, if_pos rfl]
                · rw [rr 74 4 (by omega) (by omega) (by omega) (by omega) (by omega), ru 74 4 (by omega)]
                  exact f1
                · rw [rr 75 i (by omega) (by omega) (by omega) (by omega) (by omega), ru 75 i (by omega), rr 76 i (by omega) (by omega) (by omega) (by omega) (by omega), ru 76 i (by omega), rr 77 i (by omega) (by omega) (by omega) (by omega) (by omega), ru 77 i (by omega)]
                  exact f2 i hi
                · rw [rr 75 _ (by omega) (by omega) (by omega) (by omega) (by omega), ru 75 _ (by omega), rr 76 _ (by omega) (by omega) (by omega) (by omega) (by omega), ru 76 _ (by omega), rr 77 _ (by omega) (by omega) (by omega) (by omega) (by omega), ru 77 _ (by omega)]
                  exact f3 i q hq
                · rw [rr 78 s' (by omega) (by omega) (by omega) (by omega) (by omega), ru 78 s' (by omega)]
                  exact f4 s' hs'
              · rw [if_neg hf, ok_some]
                have r142 : rd (wr u 135 0 0) 142 b = nI w := h142
                rw [c_open81 hn16 (show b < 24 by omega), r142, if_neg hf] at z0
                exact ok_is z0 ⟨rfl, hJ⟩
            · rw [if_neg h5] at z0 ⊢
              rw [ok_some]
              exact ok_is z0 ⟨rfl, hJ⟩
        · rw [if_neg hc, ok_some]
          have z0 := e12 u b2 (s2.trans s1.symm) rfl
          rw [if_neg hc] at z0
          exact ok_is z0 ⟨rfl, hJ⟩
      · refine refuse ?_ ?_
        · simp only [f_X11_open, f_X11_isSorter, hasB b1, lies_eq, ite_10]
          rw [if_pos h1, if_pos h2, if_neg h3]
        · simp (disch := omega) only [f_X12_open, f_X12_isSorter, isB n1, L_0, L_3, L_5, in_eq, ite_10]
          rw [if_pos h1, if_pos h2, if_neg h3]
    · refine refuse ?_ ?_
      · simp only [f_X11_open, f_X11_isSorter, hasB b1, lies_eq, ite_10]
        rw [if_pos h1, if_neg h2]
      · simp (disch := omega) only [f_X12_open, f_X12_isSorter, isB n1, L_0, L_5, in_eq, ite_10]
        rw [if_pos h1, if_neg h2]
  · refine refuse ?_ ?_
    · simp only [f_X11_open, hasB b1, ite_10]
      rw [if_neg h1]
    · simp (disch := omega) only [f_X12_open, isB n1, ite_10]
      rw [if_neg h1]
