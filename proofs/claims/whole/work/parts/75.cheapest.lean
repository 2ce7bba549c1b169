/-! MIX: the class's search -/
abbrev wT : List (Nat × Nat) := [(58, 5), (72, 0), (73, 0), (81, 0), (85, 0), (86, 0)]
/-- what a search stands on: the sorts, the recipe -/
def mB (u : xS) (S r nr : Nat) (L : List Int32) : Prop := S ≤ 16 ∧ rd u 1 2 = nI S ∧ (∀ s, s < S → ∀ f, f < 6 → rd u (3 + f) s = rd u 136 (7 * s + f)) ∧ rd u 58 5 = nI nr ∧ r < nr ∧ nr ≤ 6 ∧ rcp u r L
/-- and the sorts chosen -/
def mD (u : xS) (S : Nat) (ch : Nat → Bool) (Mn : Nat → Nat) (pi : Nat → Int32) : Prop := rd u 79 5 = nI (clb ch S).length ∧ (clb ch S).length ≤ 6 ∧ 0 < (clb ch S).length ∧ (∀ s, Mn s ≤ 12) ∧ ∀ s, s < S → ch s = true → rd u 82 (clb ch s).length = nI s ∧ rd u 83 (clb ch s).length = pi s ∧ rd u 84 (clb ch s).length = nI (Mn s)
theorem clb_rng {ch : Nat → Bool} {S s : Nat} (h : s ∈ clb ch S) : s < S ∧ ch s = true := by
  rw [← clf_all] at h
  have := clf_rng _ _ h
  exact ⟨by omega, this.2.2⟩
theorem clb_nd (ch : Nat → Bool) (S : Nat) : (clb ch S).Nodup := by
  rw [← clf_all]
  exact clf_nd _ _
theorem mD_82 {u : xS} {S : Nat} {ch : Nat → Bool} {Mn : Nat → Nat} {pi : Nat → Int32} (h : mD u S ch Mn pi) {j s : Nat} (hj : (clb ch S)[j]? = some s) : rd u 82 j = nI s ∧ s < S := by
  obtain ⟨h1, h2⟩ := clb_rng (List.mem_of_getElem? hj)
  have e : j = (clb ch s).length := nd_ix _ _ _ (clb_nd ch S) hj (clb_at h2 h1)
  rw [e]
  exact ⟨(h.2.2.2.2 s h1 h2).1, h1⟩
section CHEAP
variable {u : xS} {S r nr : Nat} {L : List Int32} {ch : Nat → Bool} {Mn : Nat → Nat} {pi : Nat → Int32} {pr : Nat → Nat}
/-- amid the search -/
def CS (u : xS) (c l : List Nat) (b : Option (Nat → Nat)) (u' : xS) : Prop := ag wT u u' ∧ TR c l u' ∧ ∀ q, b = some q → ∀ s, s < 16 → rd u' 86 s = nI (q s)
theorem cheap_step (hB : mB u S r nr L) (hD : mD u S ch Mn pi) (hpi : ∀ s, pi s = nI (pr s)) (hpr : ∀ s, pr s ≤ 999) {l : List Nat} (hv : ∀ v, v ∈ l → v ≤ 12) {b : Option (Nat → Nat)} (hb : ∀ q, b = some q → ∀ s, q s ≤ 12) {u' : xS} (h : CS u (clb ch S) l b u') {N t : Nat} (ht : t < 6188) :
    ∃ u1, f_X11_cheapest_14 (N + 1) (nI r) (mls (mC pr S) (-2) b) 1 (nI t) u' = f_X11_cheapest_80 (f_X11_cheapest_14 N) (nI r) (mls (mC pr S) (-2) (mup (mT u ch S Mn L) (mC pr S) b (mval (clb ch S) l))) (nI t) u1 ∧ CS u (clb ch S) l (mup (mT u ch S Mn L) (mC pr S) b (mval (clb ch S) l)) u1 := by
  obtain ⟨hS, b1, b2, b3, b4, b5, b6⟩ := hB
  obtain ⟨d1, d2, d3, d4, d5⟩ := hD
  obtain ⟨g, hT, h86⟩ := h
  obtain ⟨a, ea⟩ : ∃ a, a = mval (clb ch S) l := ⟨_, rfl⟩
  have ha : ∀ s, a s ≤ 12 := fun s => by rw [ea]; exact mval_le _ _ hv
  have h0 : ∀ s, s < S → ¬ ch s = true → a s = 0 := fun s hs hn => by
    rw [ea]
    exact mval_no _ _ fun q => hn (clb_rng q).2
  have h85 : ∀ s, s < 16 → rd u' 85 s = nI (a s) := fun s hs => by rw [ea]; exact hT s hs
  have hC := mC_le (S := S) hS hpr ha
  obtain ⟨y1, y2⟩ := tpence (u := u') (a := a) (pr := pi) hS ((g 79 5 rfl).trans d1) d2 (fun s hs hc => by
    obtain ⟨q1, q2, q3⟩ := d5 s hs hc
    exact ⟨(g 82 _ rfl).trans q1, (g 83 _ rfl).trans q2, (g 84 _ rfl).trans q3⟩) d4 ha h0 h85 S 0 xN (by omega) (by have := xN_lt (S := (clb ch S).length) (by omega); omega)
  have n6 : ¬ (6188 : Int32) ≤ nI t := nI_ge (b := 6188) ht (by omega)
  rw [← ea]
  by_cases hE : ∀ s, s < S → ch s = true → a s ≤ Mn s
  · have e4 : f_X1_trialPence u' = some (nI (mC pr S a)) := (y1 fun s _ hs hc => hE s hs hc).trans (congrArg some (mC_i hpi))
    have n0 : ¬ nI (mC pr S a) < 0 := nI_pos (by omega)
    -- the test
    obtain ⟨u2, t1, t2⟩ := hold_ok (u := u) (u' := u') (a := a) hS ((g 1 2 rfl).trans b1) (fun s hs f hf => by
      rw [g (3 + f) s (by rw [lc_3 hf]; rfl), g 136 _ rfl]
      exact b2 s hs f hf) (fun i => g 136 i rfl) ((g 58 5 rfl).trans b3) b4 b5 (rcp_fr (by omega) (ag_sm g rfl) b6) ha h85
    have g2 : ag wT u u2 := ag_trans g (ag_sub rfl t2)
    have TR2 : TR (clb ch S) l u2 := fun s hs => by
      rw [t2 85 s rfl]
      exact hT s hs
    have K2 : ∀ q, b = some q → ∀ s, s < 16 → rd u2 86 s = nI (q s) := fun q hq s hs => by
      rw [t2 86 s rfl]
      exact h86 q hq s hs
    have hTa : mT u ch S Mn L a = (jgv u (fun s => nI (a s)) S L).isNone := by
      unfold mT
      rw [decide_eq_true hE, Bool.true_and]
    have go : ∀ v, (mT u ch S Mn L a = true → mup (mT u ch S Mn L) (mC pr S) b a = some a) → ∃ u1, f_X11_cheapest_50 (f_X11_cheapest_14 N) (nI r) v (nI t) (nI (mC pr S a)) u' = f_X11_cheapest_80 (f_X11_cheapest_14 N) (nI r) (if mT u ch S Mn L a = true then nI (mC pr S a) else v) (nI t) u1 ∧ CS u (clb ch S) l (mup (mT u ch S Mn L) (mC pr S) b a) u1 := fun v hup => by
      by_cases c : mT u ch S Mn L a = true
      · obtain ⟨u3, k1, k2, k3⟩ := keepT u2
        refine ⟨u3, ?_, ?_⟩
        · rw [f_X11_cheapest_50, f_X11_cheapest_55, if_neg (by decide), t1, Option.bind_some, ← hTa, if_pos c, if_pos c]
          dsimp only
          rw [if_neg (by decide), k1, Option.bind_some]
        · rw [hup c]
          refine ⟨ag_trans g2 (fun c' j hc => k3 c' j (ne_W 86 (fun _ => rfl) hc)), fun s hs => ?_, fun q hq s hs => ?_⟩
          · rw [k3 85 s (by decide)]
            exact TR2 s hs
          · cases hq
            rw [k2 s hs, t2 85 s rfl]
            exact h85 s hs
      · refine ⟨u2, ?_, ?_⟩
        · rw [f_X11_cheapest_50, f_X11_cheapest_55, if_neg (by decide), t1, Option.bind_some, ← hTa, if_neg c, if_neg c]
          dsimp only
          rw [if_pos rfl]
        · rw [mup_no c]
          exact ⟨g2, TR2, K2⟩
    cases b with
    | none =>
      obtain ⟨u1, z1, z2⟩ := go (-2) fun c => mup_0 c
      refine ⟨u1, ?_, z2⟩
      show f_X11_cheapest_14 (N + 1) (nI r) (-2) 1 (nI t) u' = _
      rw [f_X11_cheapest_14, if_neg (by decide), if_neg n6, e4, Option.bind_some, if_neg n0, if_pos (by decide), z1]
      by_cases c : mT u ch S Mn L a = true
      · rw [if_pos c, mup_0 c]
        rfl
      · rw [if_neg c, mup_no c]
        rfl
    | some q =>
      have hq := mC_le (S := S) hS hpr (hb q rfl)
      by_cases c2 : mC pr S q ≤ mC pr S a
      · refine ⟨u', ?_, ?_⟩
        · show f_X11_cheapest_14 (N + 1) (nI r) (nI (mC pr S q)) 1 (nI t) u' = _
          rw [f_X11_cheapest_14, if_neg (by decide), if_neg n6, e4, Option.bind_some, if_neg n0, if_neg (nI_pos (by omega)), if_pos (nI_le c2 (by omega)), mup_dear c2, f_X11_cheapest_54, f_X11_cheapest_55, if_pos rfl]
          rfl
        · rw [mup_dear c2]
          exact ⟨g, hT, h86⟩
      · obtain ⟨u1, z1, z2⟩ := go (nI (mC pr S q)) fun c => mup_1 c (by omega)
        refine ⟨u1, ?_, z2⟩
        show f_X11_cheapest_14 (N + 1) (nI r) (nI (mC pr S q)) 1 (nI t) u' = _
        rw [f_X11_cheapest_14, if_neg (by decide), if_neg n6, e4, Option.bind_some, if_neg n0, if_neg (nI_pos (by omega)), if_neg (nI_ge (by omega) (by omega)), z1]
        by_cases c : mT u ch S Mn L a = true
        · rw [if_pos c, mup_1 c (by omega)]
          rfl
        · rw [if_neg c, mup_no c]
          rfl
  · have hTn : ¬ mT u ch S Mn L a = true := fun z => by
      unfold mT at z
      rw [decide_eq_false hE, Bool.false_and] at z
      cases z
    have hE2 : ∃ s, 0 ≤ s ∧ s < S ∧ ch s = true ∧ ¬ a s ≤ Mn s := by
      apply Classical.byContradiction
      intro hn
      refine hE fun s hs hc => ?_
      apply Classical.byContradiction
      intro hx
      exact hn ⟨s, Nat.zero_le _, hs, hc, hx⟩
    have e4 : f_X1_trialPence u' = some (-1) := y2 hE2
    rw [mup_no hTn]
    refine ⟨u', ?_, g, hT, h86⟩
    rw [f_X11_cheapest_14, if_neg (by decide), if_neg n6, e4, Option.bind_some, if_pos (by decide), f_X11_cheapest_54, f_X11_cheapest_55, if_pos rfl]
theorem mup_12 {T : (Nat → Nat) → Bool} {C : (Nat → Nat) → Nat} {b : Option (Nat → Nat)} {a : Nat → Nat} (hb : ∀ q, b = some q → ∀ s, q s ≤ 12) (ha : ∀ s, a s ≤ 12) : ∀ q, mup T C b a = some q → ∀ s, q s ≤ 12 := by
  intro q hq
  cases b with
  | none =>
    rw [mup] at hq
    by_cases c : T a = true
    · rw [if_pos c] at hq
      cases hq
      exact ha
    · rw [if_neg c] at hq
      cases hq
  | some p =>
    rw [mup] at hq
    by_cases c : T a = true ∧ C a < C p
    · rw [if_pos c] at hq
      cases hq
      exact ha
    · rw [if_neg c] at hq
      cases hq
      exact hb _ rfl
theorem cheap_all (hB : mB u S r nr L) (hD : mD u S ch Mn pi) (hpi : ∀ s, pi s = nI (pr s)) (hpr : ∀ s, pr s ≤ 999) : ∀ (R : List (List Nat)) (l : List Nat) (N t : Nat) (b : Option (Nat → Nat)) (u' : xS), CH mnx (l :: R) none → (∀ s, s ∈ l :: R → s.length = (clb ch S).length ∧ ∀ v, v ∈ s → v ≤ 12) → (∀ q, b = some q → ∀ s, q s ≤ 12) → t + R.length < 6188 → R.length + 1 < N → CS u (clb ch S) l b u' →
    ∃ u'' b', b' = (l :: R).foldl (fun b x => mup (mT u ch S Mn L) (mC pr S) b (mval (clb ch S) x)) b ∧ f_X11_cheapest_14 N (nI r) (mls (mC pr S) (-2) b) 1 (nI t) u' = some (mls (mC pr S) (-2) b', u'') ∧ ag wT u u'' ∧ (∀ q, b' = some q → ∀ s, q s ≤ 12) ∧ ∀ q, b' = some q → ∀ s, s < 16 → rd u'' 86 s = nI (q s) := by
  intro R
  induction R with
  | nil =>
    intro l N t b u' h1 h2 h3 h4 h5 h6
    obtain ⟨N, rfl⟩ : ∃ M, N = M + 1 := ⟨N - 1, by omega⟩
    obtain ⟨l1, l2⟩ := h2 l List.mem_cons_self
    obtain ⟨u1, z1, z2, z3, z4⟩ := cheap_step hB hD hpi hpr l2 h3 h6 (N := N) (t := t) (by have : ([] : List (List Nat)).length = 0 := rfl; omega)
    obtain ⟨u2, n1, n2, n3⟩ := nextT (u := u1) (c := clb ch S) (l := l) ((z2 79 5 rfl).trans hD.1) (fun j s hj => by
      obtain ⟨q1, q2⟩ := mD_82 hD hj
      exact ⟨(z2 82 j rfl).trans q1, by have := hB.1; omega⟩) (clb_nd ch S) l1 hD.2.1 hD.2.2.1 l2 z3
    have hn : mnx l = none := h1.1
    have hlen : ([] : List (List Nat)).length = 0 := rfl
    obtain ⟨N, rfl⟩ : ∃ M, N = M + 1 := ⟨N - 1, by omega⟩
    refine ⟨u2, _, rfl, ?_, ag_trans z2 (fun c' j hc => n3 c' j (ne_W 85 (fun _ => rfl) hc)), ?_, fun q hq s hs => ?_⟩
    · rw [z1, f_X11_cheapest_80, n1, Option.bind_some, hn, if_neg (by decide)]
      dsimp only
      rw [f_X11_cheapest_14, if_pos rfl]
      rfl
    · exact mup_12 h3 fun s => mval_le _ _ l2
    · rw [n3 86 s (by decide)]
      exact z4 q hq s hs
  | cons m R ih =>
    intro l N t b u' h1 h2 h3 h4 h5 h6
    rw [List.length_cons] at h4 h5
    obtain ⟨N, rfl⟩ : ∃ M, N = M + 1 := ⟨N - 1, by omega⟩
    obtain ⟨l1, l2⟩ := h2 l List.mem_cons_self
    obtain ⟨u1, z1, z2, z3, z4⟩ := cheap_step hB hD hpi hpr l2 h3 h6 (N := N) (t := t) (by omega)
    obtain ⟨u2, n1, n2, n3⟩ := nextT (u := u1) (c := clb ch S) (l := l) ((z2 79 5 rfl).trans hD.1) (fun j s hj => by
      obtain ⟨q1, q2⟩ := mD_82 hD hj
      exact ⟨(z2 82 j rfl).trans q1, by have := hB.1; omega⟩) (clb_nd ch S) l1 hD.2.1 hD.2.2.1 l2 z3
    have hn : mnx l = some m := h1.1
    obtain ⟨u'', b', w1, w2, w3, w4, w5⟩ := ih m N (t + 1) (mup (mT u ch S Mn L) (mC pr S) b (mval (clb ch S) l)) u2 h1.2 (fun s hs => h2 s (List.mem_cons_of_mem _ hs)) (mup_12 h3 fun s => mval_le _ _ l2) (by omega) (by omega) ⟨ag_trans z2 (fun c' j hc => n3 c' j (ne_W 85 (fun _ => rfl) hc)), n2 m hn, fun q hq s hs => by rw [n3 86 s (by decide)]; exact z4 q hq s hs⟩
    refine ⟨u'', b', ?_, ?_, w3, w4, w5⟩
    · rw [List.foldl_cons]
      exact w1
    · rw [z1, f_X11_cheapest_80, n1, Option.bind_some, hn, nI_1]
      exact w2
/-- the class's search -/
theorem cheap_ok (hB : mB u S r nr L) (hD : mD u S ch Mn pi) (hpi : ∀ s, pi s = nI (pr s)) (hpr : ∀ s, pr s ≤ 999) : ∃ u'' b', b' = (lvs ch S 0 12 (fun _ => 0)).foldl (mup (mT u ch S Mn L) (mC pr S)) none ∧ f_X11_cheapest (nI r) u = some (mls (mC pr S) (-2) b', u'') ∧ ag wT u u'' ∧ (∀ q, b' = some q → ∀ s, q s ≤ 12) ∧ ∀ q, b' = some q → ∀ s, s < 16 → rd u'' 86 s = nI (q s) := by
  have hS := hB.1
  obtain ⟨d1, d2, d3, d4, d5⟩ := id hD
  obtain ⟨u1, f1, f2, f3⟩ := fill_ok (c := 85) (L := 16) (by decide +kernel) (by decide +kernel) (by omega) u
  obtain ⟨k, hk⟩ : ∃ k, (clb ch S).length = k + 1 := ⟨(clb ch S).length - 1, by omega⟩
  obtain ⟨ck, ek⟩ : ∃ s, (clb ch S)[k]? = some s := ⟨_, List.getElem?_eq_getElem (by omega)⟩
  obtain ⟨k1, k2⟩ := mD_82 hD ek
  have g1 : ag wT u u1 := fun c' j hc => f3 c' j (fun z => ne_W 85 (fun _ => rfl) hc z.1)
  obtain ⟨x, cs, hcl⟩ : ∃ x cs, clb ch S = x :: cs := by
    cases hq : clb ch S with
    | nil => rw [hq] at hk; simp at hk
    | cons x cs => exact ⟨x, cs, rfl⟩
  have hcs : cs.length = k := by
    rw [hcl, List.length_cons] at hk
    omega
  have hmany := mcp_many k (by omega)
  have hhead := mcp_head k 12
  obtain ⟨R, hR⟩ : ∃ R, mcp k 12 = (List.replicate k 0 ++ [12]) :: R := by
    cases hq : mcp k 12 with
    | nil => rw [hq] at hhead; cases hhead
    | cons l R =>
      rw [hq] at hhead
      have e : l = List.replicate k 0 ++ [12] := Option.some.inj hhead
      exact ⟨R, by rw [e]⟩
  have hz : ∀ s, mval (clb ch S) (0 :: List.replicate k 0) s = 0 := fun s => by
    have := mval_le (n := 0) (s := s) (clb ch S) (0 :: List.replicate k 0) fun v hv => by
      rcases List.mem_cons.mp hv with e | e
      · omega
      · have := (List.mem_replicate.mp e).2
        omega
    omega
  obtain ⟨u2, hu2⟩ : ∃ u2, u2 = wr u1 85 ck 12 := ⟨_, rfl⟩
  have hcs2 : CS u (clb ch S) (List.replicate k 0 ++ [12]) none u2 := by
    refine ⟨fun c' j hc => ?_, fun s hs => ?_, fun q hq => by cases hq⟩
    · rw [hu2, rd_wr_ne (fun z => ne_W 85 (fun _ => rfl) hc z.1)]
      exact g1 c' j hc
    · rw [hu2, ← set_rep, mval_set _ _ k (clb_nd ch S) ek (by rw [List.length_cons, List.length_replicate]; omega), hz, rd_wr, if_pos rfl]
      by_cases e : s = ck
      · rw [if_pos e, if_pos e]
        rfl
      · rw [if_neg e, if_neg e]
        exact f2 s hs
  obtain ⟨u'', b', w1, w2, w3, w4, w5⟩ := cheap_all hB hD hpi hpr R (List.replicate k 0 ++ [12]) xN 0 none u2 (by rw [← hR]; exact mcp_CH k 12) (fun s hs => by
    rw [← hR] at hs
    exact ⟨by rw [mcp_len k 12 s hs, hk], mcp_le k 12 s hs⟩) (fun q hq => by cases hq) (by rw [hR, List.length_cons] at hmany; omega) (by rw [hR, List.length_cons] at hmany; exact xN_lt (by omega)) hcs2
  refine ⟨u'', b', ?_, ?_, w3, w4, w5⟩
  · rw [lvs_all (x := x) (cs := cs) (by rw [clf_all, hcl]), hcs, hR, List.foldl_map, ← hcl]
    exact w1
  · rw [f_X11_cheapest, f_X1_startTrial, f1, Option.bind_some, (g1 79 5 rfl).trans d1, if_neg (by rw [hk]; exact nI_ne0 (by omega) (by omega)), hk, nI_pred, gd_nI (by omega) (by omega), nI_cl (by omega), (g1 82 k rfl).trans k1, gd_nI (by omega) (by omega), nI_cl (by omega), Option.bind_some, ← hu2]
    exact w2
end CHEAP
