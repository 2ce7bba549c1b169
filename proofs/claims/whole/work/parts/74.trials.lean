/-! MIX: the class's trials -/
theorem nd_ix {s : Nat} : ∀ (c : List Nat) (i j : Nat), c.Nodup → c[i]? = some s → c[j]? = some s → i = j := by
  intro c
  induction c with
  | nil => intro i j _ h; simp at h
  | cons a c ih =>
    intro i j hc h1 h2
    have hn := List.nodup_cons.mp hc
    cases i with
    | zero =>
      cases j with
      | zero => rfl
      | succ j =>
        have e : a = s := by simpa using h1
        rw [List.getElem?_cons_succ] at h2
        exact absurd (List.mem_of_getElem? h2) (by rw [← e]; exact hn.1)
    | succ i =>
      cases j with
      | zero =>
        have e : a = s := by simpa using h2
        rw [List.getElem?_cons_succ] at h1
        exact absurd (List.mem_of_getElem? h1) (by rw [← e]; exact hn.1)
      | succ j =>
        rw [List.getElem?_cons_succ] at h1 h2
        rw [ih i j hn.2 h1 h2]
theorem ls_snoc : ∀ (n : Nat) (A : List Nat), A.length = n + 1 → ∃ B z, A = B ++ [z] ∧ B.length = n := by
  intro n
  induction n with
  | zero =>
    intro A h
    match A, h with
    | [a], _ => exact ⟨[], a, rfl, rfl⟩
  | succ n ih =>
    intro A h
    match A, h with
    | a :: A, h =>
      rw [List.length_cons] at h
      obtain ⟨B, z, e1, e2⟩ := ih A (by omega)
      exact ⟨a :: B, z, by rw [e1]; rfl, by rw [List.length_cons, e2]⟩
def TR (c l : List Nat) (u : xS) : Prop := ∀ s, s < 16 → rd u 85 s = nI (mval c l s)
theorem nextT {u : xS} {c l : List Nat} (h79 : rd u 79 5 = nI c.length) (h82 : ∀ j s, c[j]? = some s → rd u 82 j = nI s ∧ s < 16) (hc : c.Nodup) (hl : l.length = c.length) (hk : c.length ≤ 6) (hk0 : 0 < c.length) (hv : ∀ v, v ∈ l → v ≤ 12) (h : TR c l u) :
    ∃ u', f_X1_nextTrial u = some (if (mnx l).isSome = true then 1 else 0, u') ∧ (∀ l', mnx l = some l' → TR c l' u') ∧ ∀ c' j, ¬ c' = 85 → rd u' c' j = rd u c' j := by
  have key : ∀ (n : Nat) (A : List Nat) (y m N : Nat), A.length = n → l = A ++ y :: List.replicate m 0 → n < N → ∃ u', f_X1_nextTrial_7 N (nI n) u = some (if (mnx l).isSome = true then 1 else 0, u') ∧ (∀ l', mnx l = some l' → TR c l' u') ∧ ∀ c' j, ¬ c' = 85 → rd u' c' j = rd u c' j := by
    intro n
    induction n with
    | zero =>
      intro A y m N h1 h2 h3
      obtain ⟨N, rfl⟩ : ∃ M, N = M + 1 := ⟨N - 1, by omega⟩
      have eA : A = [] := List.length_eq_zero_iff.mp h1
      have em : mnx l = none := by rw [h2, eA, List.nil_append, mnx_0]
      refine ⟨u, ?_, fun l' hl' => ?_, fun _ _ _ => rfl⟩
      · rw [f_X1_nextTrial_7, if_pos (show nI 0 ≤ 0 from by decide), em]
        rfl
      · rw [em] at hl'
        cases hl'
    | succ n ih =>
      intro A y m N h1 h2 h3
      obtain ⟨N, rfl⟩ : ∃ M, N = M + 1 := ⟨N - 1, by omega⟩
      obtain ⟨B, z, rfl, hB⟩ := ls_snoc n A h1
      have h2' : l = B ++ z :: y :: List.replicate m 0 := by rw [h2, List.append_assoc]; rfl
      have hlen : l.length = n + 1 + 1 + m := by rw [h2', List.length_append, hB, List.length_cons, List.length_cons, List.length_replicate]; omega
      obtain ⟨ci, ei⟩ : ∃ s, c[n + 1]? = some s := ⟨_, List.getElem?_eq_getElem (by omega)⟩
      obtain ⟨cz, ez⟩ : ∃ s, c[n]? = some s := ⟨_, List.getElem?_eq_getElem (by omega)⟩
      obtain ⟨ck, ek⟩ : ∃ s, c[n + 1 + m]? = some s := ⟨_, List.getElem?_eq_getElem (by omega)⟩
      obtain ⟨i1, i2⟩ := h82 _ _ ei
      obtain ⟨z1, z2⟩ := h82 _ _ ez
      obtain ⟨k1, k2⟩ := h82 _ _ ek
      have hne : ¬ cz = ci := fun e => by
        rw [e] at ez
        have := nd_ix c _ _ hc ez ei
        omega
      have gy : l[n + 1]? = some y := by
        rw [h2', List.getElem?_append_right (by omega), hB, show n + 1 - n = 1 by omega]
        rfl
      have gz : l[n]? = some z := by
        rw [h2', List.getElem?_append_right (by omega), hB, Nat.sub_self]
        rfl
      have ry : rd u 85 ci = nI y := by rw [h ci i2, mval_get c l _ hc ei gy]
      have rz : rd u 85 cz = nI z := by rw [h cz z2, mval_get c l _ hc ez gz]
      have hy : y ≤ 12 := hv y (List.mem_of_getElem? gy)
      by_cases hy0 : y = 0
      · subst hy0
        obtain ⟨u', q1, q2⟩ := ih B z (m + 1) N hB (by rw [h2', List.replicate_succ]) (by omega)
        refine ⟨u', ?_, q2⟩
        rw [f_X1_nextTrial_7, if_neg (nI_nle (by omega) (by omega)), gd_nI (by omega) (by omega), nI_cl (by omega), i1, gd_nI i2 (by omega), nI_cl (by omega), ry, if_pos (show nI 0 ≤ 0 from by decide), pk_m1]
        exact q1
      · have em : mnx l = some (B ++ (z + 1) :: (List.replicate m 0 ++ [y - 1])) := by rw [h2', mnx_1 (by omega)]
        refine ⟨wr (wr (wr u 85 ci 0) 85 cz (rd (wr u 85 ci 0) 85 cz + 1)) 85 ck (nI y - 1), ?_, fun l' hl' => ?_, fun c' j hc' => ?_⟩
        · rw [f_X1_nextTrial_7, if_neg (nI_nle (by omega) (by omega)), gd_nI (by omega) (by omega), nI_cl (by omega), i1, gd_nI i2 (by omega), nI_cl (by omega), ry, if_neg (nI_nle (by omega) (by omega)), nI_pred, gd_nI (by omega) (by omega), nI_cl (by omega), z1, gd_nI z2 (by omega), nI_cl (by omega), h79, show nI c.length - 1 = nI (n + 1 + m) by rw [show c.length = n + 1 + m + 1 by omega, nI_pred], gd_nI (by omega) (by omega), nI_cl (by omega), k1, gd_nI k2 (by omega), nI_cl (by omega), em]
          rfl
        · rw [em] at hl'
          cases hl'
          intro s hs
          have e3 := set_3 (z := z) (y := y) (m := m) B
          rw [← h2', hB] at e3
          rw [← e3, mval_set c _ _ hc ek (by rw [List.length_set, List.length_set]; omega), mval_set c _ _ hc ez (by rw [List.length_set]; omega), mval_set c _ _ hc ei (by omega), rd_wr, if_pos rfl]
          by_cases a1 : s = ck
          · rw [if_pos a1, if_pos a1, l_1, nI_sub (by omega)]
          · rw [if_neg a1, if_neg a1, rd_wr, if_pos rfl]
            by_cases a2 : s = cz
            · rw [if_pos a2, if_pos a2, rd_wr, if_pos rfl, if_neg hne, rz, nI_1]
            · rw [if_neg a2, if_neg a2, rd_wr, if_pos rfl]
              by_cases a3 : s = ci
              · rw [if_pos a3, if_pos a3]
                rfl
              · rw [if_neg a3, if_neg a3]
                exact h s hs
        · rw [rd_wr_ne (fun q => hc' q.1), rd_wr_ne (fun q => hc' q.1), rd_wr_ne (fun q => hc' q.1)]
  obtain ⟨B, z, e1, e2⟩ := ls_snoc (c.length - 1) l (by omega)
  obtain ⟨u', q⟩ := key (c.length - 1) B z 0 xN e2 e1 (xN_lt (by omega))
  refine ⟨u', ?_⟩
  rw [f_X1_nextTrial, h79, l_1, nI_sub (by omega)]
  exact q
/-- what a trial costs -/
theorem tpence {u : xS} {S : Nat} {ch : Nat → Bool} {a Mn : Nat → Nat} {pr : Nat → Int32} (hS : S ≤ 16) (h79 : rd u 79 5 = nI (clb ch S).length) (hk : (clb ch S).length ≤ 6) (h8 : ∀ s, s < S → ch s = true → rd u 82 (clb ch s).length = nI s ∧ rd u 83 (clb ch s).length = pr s ∧ rd u 84 (clb ch s).length = nI (Mn s)) (hM : ∀ s, Mn s ≤ 12) (ha : ∀ s, a s ≤ 12) (h0 : ∀ s, s < S → ¬ ch s = true → a s = 0) (h85 : ∀ s, s < 16 → rd u 85 s = nI (a s)) : ∀ d n N, n + d = S → (clb ch S).length < N + (clb ch n).length →
    ((∀ s, n ≤ s → s < S → ch s = true → a s ≤ Mn s) → f_X1_trialPence_4 u N (isum (fun s => nI (a s) * pr s) n) (nI (clb ch n).length) = some (isum (fun s => nI (a s) * pr s) S)) ∧ ((∃ s, n ≤ s ∧ s < S ∧ ch s = true ∧ ¬ a s ≤ Mn s) → f_X1_trialPence_4 u N (isum (fun s => nI (a s) * pr s) n) (nI (clb ch n).length) = some (-1)) := by
  intro d
  induction d with
  | zero =>
    intro n N h1 h2
    have en : n = S := by omega
    subst en
    obtain ⟨N, rfl⟩ : ∃ M, N = M + 1 := ⟨N - 1, by omega⟩
    refine ⟨fun _ => ?_, fun ⟨s, q1, q2, _⟩ => by omega⟩
    rw [f_X1_trialPence_4, h79, if_pos (nI_le (Nat.le_refl _) (by omega))]
  | succ d ih =>
    intro n N h1 h2
    have hn : n < S := by omega
    by_cases c : ch n = true
    · have hlt := (List.getElem?_eq_some_iff.mp (clb_at c hn)).1
      obtain ⟨N, rfl⟩ : ∃ M, N = M + 1 := ⟨N - 1, by omega⟩
      have ek : (clb ch (n + 1)).length = (clb ch n).length + 1 := by
        rw [clb, if_pos c, List.length_append]
        rfl
      obtain ⟨q1, q2, q3⟩ := h8 n hn c
      have hMn := hM n
      have han := ha n
      have op : f_X1_trialPence_4 u (N + 1) (isum (fun s => nI (a s) * pr s) n) (nI (clb ch n).length) = if nI (a n) ≤ nI (Mn n) then f_X1_trialPence_4 u N (isum (fun s => nI (a s) * pr s) (n + 1)) (nI (clb ch (n + 1)).length) else some (-1) := by
        rw [f_X1_trialPence_4, h79, if_neg (nI_ge hlt (by omega)), gd_nI (by omega) (by omega), nI_cl (by omega), q1, gd_nI (by omega) (by omega), nI_cl (by omega), h85 n (by omega), q3, q2, nI_1, ek]
        rfl
      obtain ⟨i1, i2⟩ := ih (n + 1) N (by omega) (by omega)
      by_cases c2 : a n ≤ Mn n
      · rw [op, if_pos (nI_le c2 (by omega))]
        refine ⟨fun hq => i1 fun s hs => hq s (by omega), fun ⟨s, y1, y2, y3, y4⟩ => i2 ⟨s, ?_, y2, y3, y4⟩⟩
        by_cases e : s = n
        · subst e; exact absurd c2 y4
        · omega
      · rw [op, if_neg (nI_ge (by omega) (by omega))]
        exact ⟨fun hq => absurd (hq n (Nat.le_refl _) hn c) c2, fun _ => rfl⟩
    · have ek : clb ch (n + 1) = clb ch n := by rw [clb, if_neg c]
      have es : isum (fun s => nI (a s) * pr s) (n + 1) = isum (fun s => nI (a s) * pr s) n := by
        rw [isum_s, h0 n hn c, nI_zero, Int32.zero_mul, Int32.add_zero]
      have z := ih (n + 1) N (by omega) (by rw [ek]; exact h2)
      rw [ek, es] at z
      refine ⟨fun hq => z.1 fun s hs => hq s (by omega), fun ⟨s, y1, y2, y3, y4⟩ => z.2 ⟨s, ?_, y2, y3, y4⟩⟩
      by_cases e : s = n
      · subst e; exact absurd y3 c
      · omega
/-! the test of a blend, and the best one so far -/
def mT (u : xS) (ch : Nat → Bool) (S : Nat) (Mn : Nat → Nat) (L : List Int32) (a : Nat → Nat) : Bool := decide (∀ s, s < S → ch s = true → a s ≤ Mn s) && (jgv u (fun s => nI (a s)) S L).isNone
def mC (pr : Nat → Nat) (S : Nat) (a : Nat → Nat) : Nat := nsum (fun s => a s * pr s) S
def mup (T : (Nat → Nat) → Bool) (C : (Nat → Nat) → Nat) : Option (Nat → Nat) → (Nat → Nat) → Option (Nat → Nat)
  | none, a => if T a = true then some a else none
  | some q, a => if T a = true ∧ C a < C q then some a else some q
def mls (C : (Nat → Nat) → Nat) (d : Int32) : Option (Nat → Nat) → Int32
  | none => d
  | some q => nI (C q)
theorem mup_no {T : (Nat → Nat) → Bool} {C : (Nat → Nat) → Nat} {a : Nat → Nat} (h : ¬ T a = true) (b : Option (Nat → Nat)) : mup T C b a = b := by
  cases b with
  | none => rw [mup, if_neg h]
  | some q => rw [mup, if_neg (fun z => h z.1)]
theorem mup_dear {T : (Nat → Nat) → Bool} {C : (Nat → Nat) → Nat} {a q : Nat → Nat} (h : C q ≤ C a) : mup T C (some q) a = some q := by
  rw [mup, if_neg (fun z => by omega)]
theorem mup_0 {T : (Nat → Nat) → Bool} {C : (Nat → Nat) → Nat} {a : Nat → Nat} (h : T a = true) : mup T C none a = some a := by
  rw [mup, if_pos h]
theorem mup_1 {T : (Nat → Nat) → Bool} {C : (Nat → Nat) → Nat} {a q : Nat → Nat} (h : T a = true) (h2 : C a < C q) : mup T C (some q) a = some a := by
  rw [mup, if_pos ⟨h, h2⟩]
theorem mC_le {pr : Nat → Nat} {S : Nat} {a : Nat → Nat} (hS : S ≤ 16) (hp : ∀ s, pr s ≤ 999) (ha : ∀ s, a s ≤ 12) : mC pr S a ≤ 200000 := by
  have := nsum_bd (f := fun s => a s * pr s) (c := 12 * 999) (n := S) fun s _ => Nat.mul_le_mul (ha s) (hp s)
  have h2 : 12 * 999 * S ≤ 12 * 999 * 16 := Nat.mul_le_mul_left _ hS
  unfold mC
  omega
theorem mC_i {pr : Nat → Nat} {pi : Nat → Int32} {S : Nat} {a : Nat → Nat} (h : ∀ s, pi s = nI (pr s)) : isum (fun s => nI (a s) * pi s) S = nI (mC pr S a) := isum_nI fun s _ => by rw [h s, pk_mul]
/-- whether a trial holds -/
theorem hold_ok {u u' : xS} {r S nr : Nat} {a : Nat → Nat} {L : List Int32} (hS : S ≤ 16) (s1 : rd u' 1 2 = nI S) (sF : ∀ s, s < S → ∀ f, f < 6 → rd u' (3 + f) s = rd u' 136 (7 * s + f)) (h136 : ∀ i, rd u' 136 i = rd u 136 i) (h58 : rd u' 58 5 = nI nr) (hr : r < nr) (hnr : nr ≤ 6) (H : rcp u' r L) (ha : ∀ s, a s ≤ 12) (h85 : ∀ s, s < 16 → rd u' 85 s = nI (a s)) :
    ∃ u'', f_X11_holdsTrial (nI r) u' = some (if (jgv u (fun s => nI (a s)) S L).isNone = true then 1 else 0, u'') ∧ ag [(58, 5), (72, 0), (73, 0), (81, 0)] u' u'' := by
  obtain ⟨u1, p1, p2, p3⟩ := tb11 (u := u') (c := 85) (P := fun s => nI (a s)) (Or.inr rfl) s1 hS sF (fun s hs => ⟨h85 s (by omega), a s, ha s, rfl⟩)
  have g1 : ag [(58, 5), (72, 0), (73, 0), (81, 0)] u' u1 := fun c j hc => p3 c j (ne_W 81 (fun _ => rfl) hc) (ne_W 72 (fun _ => rfl) hc)
  have e136 : ∀ i, rd u1 136 i = rd u' 136 i := fun i => g1 136 i rfl
  obtain ⟨u2, q1, q2⟩ := fb_11 (u := u1) (P := fun s => nI (a s)) (S := S) (l := L) ((g1 58 5 rfl).trans h58) hr hnr (by rw [bsm_fr e136]; exact p2) (rcp_fr (by omega) (ag_sm g1 rfl) H)
  have g2 : ag [(58, 5), (72, 0), (73, 0), (81, 0)] u' u2 := fun c j hc => (q2 c j (ne_W 73 (fun _ => rfl) hc) (fun z => by rw [z.1, z.2] at hc; revert hc; decide)).trans (g1 c j hc)
  refine ⟨u2, ?_, g2⟩
  rw [f_X11_holdsTrial, p1, Option.bind_some, q1, Option.bind_some, jgv_fr (fun i => (e136 i).trans (h136 i))]
  dsimp only
  cases hj : jgv u (fun s => nI (a s)) S L with
  | none =>
    rw [Option.getD_none, if_pos rfl]
    rfl
  | some e =>
    obtain ⟨k, hk, ek⟩ := jgv_nn H.1 hj
    have hne : ¬ e = -2 := fun z => by
      have : (0 : Int32) ≤ e := by rw [ek]; exact nI_lo (by omega)
      rw [z] at this
      exact absurd this (by decide)
    rw [Option.getD_some, if_neg hne]
    rfl
theorem keepT (u : xS) : ∃ u', f_X1_keepTrial u = some u' ∧ (∀ s, s < 16 → rd u' 86 s = rd u 85 s) ∧ ∀ c j, ¬ c = 86 → rd u' c j = rd u c j := by
  refine ⟨xcpy u 85 0 86 0 16, ?_, fun s hs => ?_, fun c j hc => ?_⟩
  · have e : xcok (0 : Int32) (0 : Int32) (16 : Int32) 16 16 = true := by decide
    rw [f_X1_keepTrial, e, gd_t]
    rfl
  · show (if (86 : Nat) = 86 then (if 0 ≤ s ∧ s < 0 + 16 then u.1 85 (0 + (s - 0)) else u.1 86 s) else u.1 86 s) = u.1 85 s
    rw [if_pos rfl, if_pos ⟨by omega, by omega⟩, Nat.zero_add, Nat.sub_zero]
  · show (if c = 86 then (if 0 ≤ j ∧ j < 0 + 16 then u.1 85 (0 + (j - 0)) else u.1 86 j) else u.1 c j) = u.1 c j
    rw [if_neg hc]
theorem settleT (u : xS) : ∃ u', f_X1_settle u = some u' ∧ (∀ s, s < 16 → rd u' 80 s = rd u 86 s) ∧ ∀ c j, ¬ c = 80 → rd u' c j = rd u c j := by
  refine ⟨xcpy u 86 0 80 0 16, ?_, fun s hs => ?_, fun c j hc => ?_⟩
  · have e : xcok (0 : Int32) (0 : Int32) (16 : Int32) 16 16 = true := by decide
    rw [f_X1_settle, e, gd_t]
    rfl
  · show (if (80 : Nat) = 80 then (if 0 ≤ s ∧ s < 0 + 16 then u.1 86 (0 + (s - 0)) else u.1 80 s) else u.1 80 s) = u.1 86 s
    rw [if_pos rfl, if_pos ⟨by omega, by omega⟩, Nat.zero_add, Nat.sub_zero]
  · show (if c = 80 then (if 0 ≤ j ∧ j < 0 + 16 then u.1 86 (0 + (j - 0)) else u.1 80 j) else u.1 c j) = u.1 c j
    rw [if_neg hc]
