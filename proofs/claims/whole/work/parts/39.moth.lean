/-! MOTH, TAKES -/
theorem moth12 {u w : xS} (hI : Inv4 u) {b : Nat} (hb : b < nB u) (hw1 : rd w 135 1 = nI (nS u)) (hw : ∀ i, rd w 147 i = rd u 147 i) : ∀ (N s : Nat) (u' : xS), nS u < N + s → s ≤ nS u → (∀ s' b', s' < 16 → b' < 24 → rd u' 147 (24 * s' + b') = if b' = b ∧ s' < s then 0 else rd w 147 (24 * s' + b')) → (∀ c j, c ≠ 147 → rd u' c j = rd w c j) →
    ∃ u'', f_X12_moth_19 N (nI b) (isum (fun s' => rd u 147 (24 * s' + b)) s) (nI s) u' = some (isum (fun s' => rd u 147 (24 * s' + b)) (nS u), u'') ∧ zNS w 145 0 (fun s' b' => if b' = b then eL u b' s' else 0) u'' := by
  have hB3 := hI.B.2.2.1
  have hS3 := hI.S.2.2.1
  intro N
  induction N with
  | zero => intro s u' h1 h2; omega
  | succ N ih =>
    intro s u' h1 h2 h147 hro
    have e1 : rd u' 135 1 = nI (nS u) := (hro 135 1 (by decide)).trans hw1
    by_cases hs : s = nS u
    · subst hs
      refine ⟨wr u' 145 b (rd u' 145 b + isum (fun s' => rd u 147 (24 * s' + b)) (nS u)), ?_, ?_, ?_, ?_, ?_⟩
      · simp (disch := omega) only [f_X12_moth_19, e1, ite_yle, gd_nI, nI_cl]
      · intro s' b' hs' hb'
        rw [rd_wr_ne (by omega), h147 s' b' hs' hb']
        dsimp only
        by_cases e : b' = b
        · subst e
          rw [if_pos rfl, hw, eL_v hI hb' hs', pk_sub (Nat.le_refl _), Nat.sub_self]
          by_cases e2 : s' < nS u
          · rw [if_pos ⟨rfl, e2⟩]; rfl
          · have e3 : eL u b' s' = 0 := eL_H hI hb' hs' ((hI.H.1 b' s' hb' hs').2.2 (Or.inl (by omega)))
            rw [if_neg (fun h => e2 h.2), e3]
        · rw [if_neg (fun h => e h.1), if_neg e, nI_zero, i_sub0]
      · intro b' hb'
        rw [Nat.zero_add]
        by_cases e : b' = b
        · subst e
          rw [rd_wr, if_pos rfl, if_pos rfl, hro 145 _ (by decide)]
          refine congrArg _ ?_
          have e5 : isum (fun s' => nI (if b' = b' then eL u b' s' else 0)) 16 = isum (fun s' => rd u 147 (24 * s' + b')) 16 := isum_congr fun s' hs' => by rw [if_pos rfl, eL_v hI hb' hs']
          rw [e5]
          exact (isum_ext hS3 fun s' h1 h2 => lie_0 hI.L hI.H hb' h2 (Or.inl h1)).symm
        · rw [rd_wr_ne (by omega), hro 145 _ (by decide), isum_zero (fun s' _ => by dsimp only; rw [if_neg e]; rfl), Int32.add_zero]
      · intro j hj
        rw [rd_wr_ne (by omega)]
        exact hro 145 j (by decide)
      · intro c j n1 n2
        rw [rd_wr_ne (by omega)]
        exact hro c j n1
    · have e147 : rd u' 147 (24 * s + b) = rd u 147 (24 * s + b) := by rw [h147 s b (by omega) (by omega), if_neg (by omega), hw]
      simp (disch := omega) only [f_X12_moth_19, e1, ite_nle, l_24, pk_mul, nI_add, gd_nI, nI_cl, e147, nI_1]
      have z := ih (s + 1) (wr u' 147 (24 * s + b) 0) (by omega) (by omega) (fun s' b' hs' hb' => by
        by_cases e : s' = s ∧ b' = b
        · rw [e.1, e.2, rd_wr, if_pos rfl, if_pos rfl, if_pos (by omega)]
        · rw [rd_wr_ne (by omega), h147 s' b' hs' hb']
          by_cases e2 : b' = b ∧ s' < s
          · rw [if_pos e2, if_pos (by omega)]
          · rw [if_neg e2, if_neg (by omega)]) (fun c j n1 => by rw [rd_wr_ne (by omega)]; exact hro c j n1)
      exact z
/-- after the class's part: a memory in which the reference's part begins -/
theorem ag_MS {u u1 : xS} {AN : Nat → Nat → Nat} (m1 : zMS u 20 AN u1) : ag [(20, 0), (77, 0), (78, 0), (135, 1)] u (wr u1 135 0 0) :=
  ag_wr (fun c j hc => m1.2.2.2 c j (ne_W 77 (fun _ => rfl) hc) (ne_W 78 (fun _ => rfl) hc) (ne_W 20 (fun _ => rfl) hc)) rfl
theorem Inv_MN {u u1 u2 : xS} (hI : Inv u) {AN : Nat → Nat → Nat} (hA : ∀ s b, s < 16 → b < 24 → AN s b ≤ eL u b s) (m1 : zMS u 20 AN u1) (y2 : zNS (wr u1 135 0 0) 145 0 AN u2) : Inv u2 := by
  have a1' := ag_MS m1
  have a2 : ag [(20, 0), (77, 0), (78, 0), (135, 1), (145, 0), (147, 0)] u u2 :=
    ag_trans (ag_sub rfl a1') (fun c j hc => y2.2.2.2 c j (ne_W 147 (fun _ => rfl) hc) (ne_W 145 (fun _ => rfl) hc))
  refine Inv_take hI hA a2 (fun k q hq => ?_) (fun s hs => ?_) (fun s b hs hb => ?_) (fun b hb => ?_) (fun b hb => ?_)
  · rw [y2.2.2.2 77 k (by decide) (by decide)]
    exact m1.1 k q hq
  · rw [y2.2.2.2 78 s (by decide) (by decide)]
    exact m1.2.1 s hs
  · rw [y2.1 s b hs hb, a1' 147 _ rfl]
  · rw [y2.2.2.2 20 b (by decide) (by decide)]
    exact m1.2.2.1 b hb
  · have := y2.2.1 b hb
    rw [Nat.zero_add, a1' 145 b rfl] at this
    exact this
theorem s_moth : xS_moth Inv := by
  intro u a1 hI
  apply st_W
  have hxN : xN = 1000000 := rfl
  have hl := eM_384 hI.L hI.B
  have hS3 := hI.S.2.2.1
  obtain ⟨b1, b2, b3, b4, b5⟩ := hI.B
  have n2 : rd (wr u 135 0 0) 135 7 = nI (nB u) := b2
  simp only [f_X11_moth, hasB b1, ite_10, f_X6_eat]
  by_cases h1 : 0 ≤ a1 ∧ a1 < nI (nB u)
  · obtain ⟨b, hb, rfl⟩ := nI_ix (by omega) h1.1 h1.2
    rw [if_pos h1]
    obtain ⟨u1, t1, t2⟩ := eat_ok hI.to4 tgt_20 (show b < 24 by omega) xN 0 u (by omega) (by omega) (zLS_0 u 20 _)
    rw [nI_zero, isum_0] at t1
    rw [t1, Option.bind_some, ok_some]
    dsimp only
    have ham : ∀ k q, (eM u)[k]? = some q → (if rd u 76 k = nI b then rd u 77 k else 0) = nI ((fun s' b' => if b' = b then eL u b' s' else 0) q.1 q.2) := by
      intro k q hq
      obtain ⟨y1, y2, y3⟩ := eM_mem.mp (List.mem_of_getElem? hq)
      have y4 := eO_mem hI.L y1
      obtain ⟨z1, z2, z3⟩ := hI.L.2.2.2.2.2.2.1 k q hq
      rw [z2, z3]
      dsimp only
      by_cases e : q.2 = b
      · rw [if_pos e, if_pos (by rw [e]), eL_v hI.to4 (by omega) y2]
      · rw [if_neg e, if_neg (fun h => e (nI_inj (by omega) (by omega) h))]
        rfl
    have hδ : ∀ s b', s < 16 → b' < 24 → eH u b' s = 0 → (fun s' b' => if b' = b then eL u b' s' else 0) s b' = 0 := by
      intro s b' hs hb' h0
      dsimp only
      rw [eL_H hI.to4 hb' hs h0, ite_self]
    have m1 := zMS_add hI.to4 tgt_20 (zMS_0 u 20) hδ ham t2
    simp only [Nat.zero_add] at m1
    have a1' := ag_MS m1
    have m2 : rd (wr u1 135 0 0) 135 7 = nI (nB u) := (a1' 135 7 rfl).trans b2
    obtain ⟨u2, y1, y2⟩ := moth12 (w := wr u1 135 0 0) hI.to4 hb ((a1' 135 1 rfl).trans hI.S.2.1) (fun i => a1' 147 i rfl) xN 0 (wr u1 135 0 0) (by omega) (by omega) (fun s' b' _ _ => by rw [if_neg (by omega)]) (fun _ _ _ => rfl)
    rw [nI_zero, isum_0] at y1
    simp (disch := omega) only [f_X12_moth, isB m2, ite_10]
    rw [if_pos h1]
    refine ok_is y1 ⟨?_, ?_⟩
    · show isum _ _ = isum _ _
      rw [lots_sum hI.to4 (f := fun q => nI ((fun s' b' => if b' = b then eL u b' s' else 0) q.1 q.2)) ham (fun s b' hs hb' h0 => by rw [hδ s b' hs hb' h0]; rfl)]
      rw [isum_congr (n := nB u) (g := fun b' => if b' = b then isum (fun s => rd u 147 (24 * s + b)) 16 else 0) (fun b' hb' => ?_), isum_one hb]
      · exact (isum_ext hS3 fun s' h1 h2 => lie_0 hI.L hI.H (by omega) h2 (Or.inl h1)).symm
      · dsimp only
        by_cases e : b' = b
        · subst e
          rw [if_pos rfl]
          exact isum_congr fun s hs => by rw [if_pos rfl, eL_v hI.to4 (by omega) hs]
        · rw [if_neg e]
          exact isum_zero fun s hs => by rw [if_neg e]; rfl
    · refine Inv_MN hI (fun s b' _ _ => ?_) m1 y2
      by_cases e : b' = b
      · rw [if_pos e]; exact Nat.le_refl _
      · rw [if_neg e]; exact Nat.zero_le _
  · rw [if_neg h1, ok_some]
    simp (disch := omega) only [f_X12_moth, isB n2, ite_10]
    rw [if_neg h1, ok_some]
    exact ⟨rfl, Inv_thr hI⟩
/-! takes -/
/-- what is taken of each bale, in their order -/
def tkn (lie : Nat → Nat) : List Nat → Nat → Nat → Nat
  | [], _, _ => 0
  | b :: l, p, x => if x = b then min p (lie b) else tkn lie l (p - min p (lie b)) x
theorem tkn_out {lie : Nat → Nat} {x : Nat} : ∀ {l : List Nat} {p : Nat}, ¬ x ∈ l → tkn lie l p x = 0
  | [], _, _ => rfl
  | b :: l, p, h => by
    rw [tkn, if_neg (fun e => h (by rw [e]; exact List.mem_cons_self))]
    exact tkn_out (fun q => h (List.mem_cons_of_mem _ q))
theorem tkn_le {lie : Nat → Nat} {x : Nat} : ∀ {l : List Nat} {p : Nat}, tkn lie l p x ≤ lie x
  | [], _ => Nat.zero_le _
  | b :: l, p => by
    rw [tkn]
    by_cases e : x = b
    · rw [if_pos e, e]; exact Nat.min_le_right _ _
    · rw [if_neg e]; exact tkn_le
theorem tkn_0 {lie : Nat → Nat} {x : Nat} : ∀ {l : List Nat}, tkn lie l 0 x = 0
  | [] => rfl
  | b :: l => by
    rw [tkn, Nat.zero_min, Nat.zero_sub, tkn_0, ite_self]
/-- the same over the lots -/
def tkm (lie : Nat → Nat) (s : Nat) : List (Nat × Nat) → Nat → Nat → Nat
  | [], _, _ => 0
  | q :: l, p, x => if q.1 = s then (if x = q.2 then min p (lie q.2) else tkm lie s l (p - min p (lie q.2)) x) else tkm lie s l p x
theorem tkm_map {lie : Nat → Nat} {s b : Nat} {R : List (Nat × Nat)} : ∀ {S : List Nat} {p x : Nat}, S.Nodup → tkm lie s (S.map (fun s' => (s', b)) ++ R) p x = if s ∈ S then (if x = b then min p (lie b) else tkm lie s R (p - min p (lie b)) x) else tkm lie s R p x
  | [], p, x, _ => by rw [if_neg (by simp)]; rfl
  | s' :: S, p, x, hn => by
    obtain ⟨h1, h2⟩ := List.nodup_cons.mp hn
    rw [List.map_cons, List.cons_append, tkm]
    dsimp only
    by_cases e : s' = s
    · subst e
      rw [if_pos rfl, if_pos List.mem_cons_self, tkm_map h2, if_neg h1]
    · rw [if_neg e, tkm_map h2]
      by_cases hm : s ∈ S
      · rw [if_pos hm, if_pos (List.mem_cons_of_mem _ hm)]
      · rw [if_neg hm, if_neg (fun q => (List.mem_cons.mp q).elim (fun z => e z.symm) hm)]
theorem tkm_tkn {u : xS} {lie : Nat → Nat} {s : Nat} (hs : s < 16) (h0 : ∀ b, eH u b s = 0 → lie b = 0) : ∀ {l : List Nat} {p x : Nat}, x ∈ l → 0 < eH u x s → tkm lie s (l.flatMap (eB u)) p x = tkn lie l p x
  | [], _, _, h, _ => by simp at h
  | b :: l, p, x, hx, hh => by
    have hn : ((List.range 16).filter fun s' => decide (0 < eH u b s')).Nodup := List.Pairwise.filter _ List.nodup_range
    rw [List.flatMap_cons]
    unfold eB
    rw [tkm_map hn, tkn]
    have hm : (s ∈ (List.range 16).filter fun s' => decide (0 < eH u b s')) ↔ 0 < eH u b s := by
      rw [List.mem_filter, List.mem_range, decide_eq_true_eq]
      exact ⟨fun h => h.2, fun h => ⟨hs, h⟩⟩
    by_cases e : 0 < eH u b s
    · rw [if_pos (hm.mpr e)]
      by_cases ex : x = b
      · rw [if_pos ex, if_pos ex]
      · rw [if_neg ex, if_neg ex]
        exact tkm_tkn hs h0 ((List.mem_cons.mp hx).resolve_left ex) hh
    · have hl : lie b = 0 := h0 b (by omega)
      have ex : ¬ x = b := by
        rintro rfl
        exact e hh
      rw [if_neg (fun z => e (hm.mp z)), if_neg ex, hl, Nat.min_zero, Nat.sub_zero]
      exact tkm_tkn hs h0 ((List.mem_cons.mp hx).resolve_left ex) hh
theorem tkm_0 {lie : Nat → Nat} {s x : Nat} : ∀ {l : List (Nat × Nat)}, tkm lie s l 0 x = 0
  | [] => rfl
  | q :: l => by
    rw [tkm, Nat.zero_min, Nat.zero_sub, tkm_0, ite_self, ite_self]
/-- what the class's lots give, by their places -/
def amt (u : xS) (s : Nat) (A : Nat → Nat) (k : Nat) : Int32 := match (eM u)[k]? with
  | some q => if q.1 = s then nI (A q.2) else 0
  | none => 0
theorem amt_some {u : xS} {s : Nat} {A : Nat → Nat} {k : Nat} {q : Nat × Nat} (h : (eM u)[k]? = some q) : amt u s A k = if q.1 = s then nI (A q.2) else 0 := by
  unfold amt
  rw [h]
theorem take11 {u v : xS} (hI : Inv4 u) {c s : Nat} (hc : tgt c) (hs : s < 16) {lie A : Nat → Nat} (hle : ∀ b, lie b ≤ 9999)
    (hv : ∀ c' j, c' ≠ 77 → c' ≠ 78 → c' ≠ c → rd v c' j = rd u c' j) (hlie : ∀ k q, (eM u)[k]? = some q → q.1 = s → rd v 77 k = nI (lie q.2)) :
    ∀ (N i p : Nat) (u' : xS), (eM u).length < N + i → i ≤ (eM u).length → p < 2147483648 → zLS v c (amt u s A) i u' → (∀ q, q ∈ (eM u).drop i → q.1 = s → A q.2 = tkm lie s ((eM u).drop i) p q.2) →
    ∃ u'', f_X6_takeOut_6 N (nI s) c (nI p) (nI i) u' = some u'' ∧ zLS v c (amt u s A) (eM u).length u'' := by
  have hl := eM_384 hI.L hI.B
  obtain ⟨c1, c2, c3, c4, c5, c6, c7⟩ := id hc
  intro N
  induction N with
  | zero => intro i p u' h1 h2; omega
  | succ N ih =>
    intro i p u' h1 h2 hp h hA
    have e74 : rd u' 74 4 = nI (eM u).length := ((h.2.2.2 74 4 (by decide) (by decide) (Ne.symm c3)).trans (hv 74 4 (by decide) (by decide) (Ne.symm c3))).trans hI.L.2.2.2.2.2.1
    by_cases hi : i = (eM u).length
    · subst hi
      refine ⟨u', ?_, h⟩
      simp (disch := omega) only [f_X6_takeOut_6, e74, ite_yle]
    · by_cases hp0 : p = 0
      · subst hp0
        refine ⟨u', ?_, ?_⟩
        · simp (disch := omega) only [f_X6_takeOut_6, e74, ite_nle]
          rw [if_pos (by rw [nI_zero]; exact Int32.le_refl _)]
        · have key : ∀ n k, k + n = (eM u).length → i ≤ k → zLS v c (amt u s A) k u' → zLS v c (amt u s A) (eM u).length u' := by
            intro n
            induction n with
            | zero =>
              intro k hk _ hz
              rw [← hk]
              exact hz
            | succ n ihn =>
              intro k hk hik hz
              have hq : (eM u)[k]? = some (eM u)[k] := List.getElem?_eq_getElem (by omega)
              refine ihn (k + 1) (by omega) (by omega) (zLS_skip hz ?_)
              rw [amt_some hq]
              by_cases e : (eM u)[k].1 = s
              · have hm : (eM u)[k] ∈ (eM u).drop i := by
                  apply List.mem_of_getElem? (i := k - i)
                  rw [List.getElem?_drop, show i + (k - i) = k by omega]
                  exact hq
                rw [if_pos e, hA _ hm e, tkm_0]
                rfl
              · rw [if_neg e]
          exact key ((eM u).length - i) i (by omega) (Nat.le_refl _) h
      · have hlt : i < (eM u).length := by omega
        have hq : (eM u)[i]? = some (eM u)[i] := List.getElem?_eq_getElem hlt
        have hd : (eM u).drop i = (eM u)[i] :: (eM u).drop (i + 1) := List.drop_eq_getElem_cons hlt
        generalize hqq : (eM u)[i] = q at hq hd
        obtain ⟨z1, z2, z3⟩ := hI.L.2.2.2.2.2.2.1 i q hq
        obtain ⟨y1, y2, y3⟩ := eM_mem.mp (List.mem_of_getElem? hq)
        have y4 := eO_mem hI.L y1
        have hB3 := hI.B.2.2.1
        have v75 : rd v 75 i = nI q.1 := (hv 75 i (by decide) (by decide) (Ne.symm c4)).trans z1
        have v76 : rd v 76 i = nI q.2 := (hv 76 i (by decide) (by decide) (Ne.symm c5)).trans z2
        have e75 : rd u' 75 i = nI q.1 := (h.2.2.2 75 i (by decide) (by decide) (Ne.symm c4)).trans v75
        have hnd : ¬ q ∈ (eM u).drop (i + 1) := by
          have := List.Pairwise.drop (i := i) (eM_nodup hI.L)
          rw [hd] at this
          exact (List.nodup_cons.mp this).1
        simp (disch := omega) only [f_X6_takeOut_6, f_X6_takeOut_61, e74, ite_nle, gd_nI, nI_cl, e75, nI_eq, nI_1]
        rw [if_neg (nI_nle (by omega) (by omega))]
        by_cases e : q.1 = s
        · have v77 := hlie i q hq e
          have e77 : rd u' 77 i = nI (lie q.2) := by rw [h.1, if_neg (by omega), v77]
          have hle' := hle q.2
          have eA : A q.2 = min p (lie q.2) := by
            rw [hA q (by rw [hd]; exact List.mem_cons_self) e, hd, tkm, if_pos e, if_pos rfl]
          have eam : amt u s A i = nI (min p (lie q.2)) := by rw [amt_some hq, if_pos e, eA]
          obtain ⟨u1, t1, t2⟩ := zLS_step hc h (by omega) y2 (show q.2 < 24 by omega) v75 v76
          rw [eam] at t1
          rw [if_pos e, e77, imin_nI (by omega) (by omega), t1, Option.bind_some, pk_sub (Nat.min_le_left _ _)]
          refine ih (i + 1) (p - min p (lie q.2)) u1 (by omega) (by omega) (by omega) t2 (fun q' hq' e' => ?_)
          have ne : ¬ q'.2 = q.2 := fun z => hnd (by rw [← (Prod.ext (e'.trans e.symm) z : q' = q)]; exact hq')
          rw [hA q' (by rw [hd]; exact List.mem_cons_of_mem _ hq') e', hd, tkm, if_pos e, if_neg ne]
        · rw [if_neg e]
          refine ih (i + 1) p u' (by omega) (by omega) hp (zLS_skip h (by rw [amt_some hq, if_neg e])) (fun q' hq' e' => ?_)
          rw [hA q' (by rw [hd]; exact List.mem_cons_of_mem _ hq') e', hd, tkm, if_neg e]
/-- the reference's takes of one sort, its places 0 .. k done -/
def zTS (u : xS) (v : xS) (tc o s : Nat) (A : Nat → Nat) (k : Nat) (v' : xS) : Prop :=
  (∀ x, x < 24 → rd v' 147 (24 * s + x) = if x ∈ (eO u).drop k then rd v 147 (24 * s + x) else rd v 147 (24 * s + x) - nI (A x)) ∧
  (∀ x, x < 24 → rd v' tc (o + x) = if x ∈ (eO u).drop k then rd v tc (o + x) else rd v tc (o + x) + nI (A x)) ∧
  (∀ j, j < 24 * s ∨ 24 * s + 24 ≤ j → rd v' 147 j = rd v 147 j) ∧
  (∀ j, j < o ∨ o + 24 ≤ j → rd v' tc j = rd v tc j) ∧
  (∀ c j, c ≠ 147 → c ≠ tc → rd v' c j = rd v c j)
/-- where the reference counts: 145 for c below 0, else the row of a cloth -/
def tcl (c : Int32) (tc o : Nat) : Prop := (c = -1 ∧ tc = 145 ∧ o = 0) ∨ ∃ n, n < 20 ∧ c = nI n ∧ tc = 161 ∧ o = 24 * n
theorem take12 {u v : xS} (hI : Inv4 u) {cl : Int32} {tc o s : Nat} (hcl : tcl cl tc o) (hs : s < 16) {lie A : Nat → Nat} (hle : ∀ b, lie b ≤ 9999)
    (h16 : rd v 135 16 = rd u 135 16) (h148 : ∀ k, rd v 148 k = rd u 148 k) (hlie : ∀ x, x ∈ eO u → rd v 147 (24 * s + x) = nI (lie x)) :
    ∀ (N k p : Nat) (v' : xS), nO u < N + k → k ≤ nO u → p < 2147483648 → zTS u v tc o s A k v' → (∀ x, x ∈ (eO u).drop k → A x = tkn lie ((eO u).drop k) p x) →
    ∃ v'', f_X12_takesOf_6 N (nI s) cl (nI p) (nI k) v' = some v'' ∧ zTS u v tc o s A (nO u) v'' := by
  obtain ⟨l1, l2, l3, l4, l5, -⟩ := hI.L
  have hB3 := hI.B.2.2.1
  have htc : tc ≠ 147 ∧ tc ≠ 135 ∧ tc ≠ 148 := by
    rcases hcl with ⟨-, h, -⟩ | ⟨n, -, -, h, -⟩ <;> rw [h] <;> decide
  intro N
  induction N with
  | zero => intro k p v' h1 h2; omega
  | succ N ih =>
    intro k p v' h1 h2 hp h hA
    obtain ⟨t1, t2, t3, t4, t5⟩ := id h
    have e16 : rd v' 135 16 = nI (nO u) := ((t5 135 16 (by decide) (Ne.symm htc.2.1)).trans h16).trans l1
    by_cases hk : k = nO u
    · subst hk
      refine ⟨v', ?_, h⟩
      simp (disch := omega) only [f_X12_takesOf_6, e16, ite_yle]
    · have hlt : k < (eO u).length := by rw [eO_len]; omega
      have hd : (eO u).drop k = (eO u)[k] :: (eO u).drop (k + 1) := List.drop_eq_getElem_cons hlt
      have hmem : (eO u)[k] ∈ eO u := List.getElem_mem hlt
      have hval : (eO u)[k] = nv (rd u 148 k) := by simp [eO]
      obtain ⟨b0, hb0, hb1⟩ := l3 k (by omega)
      have hb2 : (eO u)[k] = b0 := by rw [hval, hb1, nv_nI (by omega)]
      rw [hb2] at hd hmem
      have hnd : ¬ b0 ∈ (eO u).drop (k + 1) := by
        have := List.Pairwise.drop (i := k) l4
        rw [hd] at this
        exact (List.nodup_cons.mp this).1
      have e148 : rd v' 148 k = nI b0 := ((t5 148 k (by decide) (Ne.symm htc.2.2)).trans (h148 k)).trans hb1
      have e147 : rd v' 147 (24 * s + b0) = nI (lie b0) := by
        rw [t1 b0 (by omega), if_pos (by rw [hd]; exact List.mem_cons_self), hlie b0 hmem]
      have hle' := hle b0
      have eA : A b0 = min p (lie b0) := by
        rw [hA b0 (by rw [hd]; exact List.mem_cons_self), hd, tkn, if_pos rfl]
      have etc : rd v' tc (o + b0) = rd v tc (o + b0) := by
        rw [t2 b0 (by omega), if_pos (by rw [hd]; exact List.mem_cons_self)]
      have hA' : ∀ x, x ∈ (eO u).drop (k + 1) → A x = tkn lie ((eO u).drop (k + 1)) (p - min p (lie b0)) x := by
        intro x hx
        have hxb : ¬ x = b0 := fun e => hnd (by rw [← e]; exact hx)
        rw [hA x (by rw [hd]; exact List.mem_cons_of_mem _ hx), hd, tkn, if_neg hxb]
      have step : zTS u v tc o s A (k + 1) (wr (wr v' 147 (24 * s + b0) (nI (lie b0) - nI (min p (lie b0)))) tc (o + b0) (rd v' tc (o + b0) + nI (min p (lie b0)))) := by
        refine ⟨fun x hx => ?_, fun x hx => ?_, fun j hj => ?_, fun j hj => ?_, fun c j n1 n2 => ?_⟩
        · rw [rd_wr_ne (by omega)]
          by_cases e : x = b0
          · subst e
            rw [rd_wr, if_pos rfl, if_pos rfl, if_neg hnd, hlie x hmem, eA]
          · rw [rd_wr_ne (by omega), t1 x hx]
            have : x ∈ (eO u).drop k ↔ x ∈ (eO u).drop (k + 1) := by
              rw [hd, List.mem_cons]
              exact ⟨fun z => z.resolve_left e, Or.inr⟩
            by_cases hm : x ∈ (eO u).drop (k + 1)
            · rw [if_pos (this.mpr hm), if_pos hm]
            · rw [if_neg (fun z => hm (this.mp z)), if_neg hm]
        · by_cases e : x = b0
          · subst e
            rw [rd_wr, if_pos rfl, if_pos rfl, if_neg hnd, etc, eA]
          · rw [rd_wr_ne (by omega), rd_wr_ne (by omega), t2 x hx]
            have : x ∈ (eO u).drop k ↔ x ∈ (eO u).drop (k + 1) := by
              rw [hd, List.mem_cons]
              exact ⟨fun z => z.resolve_left e, Or.inr⟩
            by_cases hm : x ∈ (eO u).drop (k + 1)
            · rw [if_pos (this.mpr hm), if_pos hm]
            · rw [if_neg (fun z => hm (this.mp z)), if_neg hm]
        · rw [rd_wr_ne (by omega), rd_wr_ne (by omega)]
          exact t3 j hj
        · rw [rd_wr_ne (by omega), rd_wr_ne (by omega)]
          exact t4 j hj
        · rw [rd_wr_ne (by omega), rd_wr_ne (by omega)]
          exact t5 c j n1 n2
      have z := ih (k + 1) (p - min p (lie b0)) _ (by omega) (by omega) (by omega) step hA'
      simp (disch := omega) only [f_X12_takesOf_6, f_X12_takesOf_102, e16, ite_nle, l_24, pk_mul, e148, nI_add, gd_nI, nI_cl, e147, imin_nI, pk_sub, Nat.min_le_left, nI_1]
      rw [pk_sub (Nat.min_le_right _ _)] at z
      rcases hcl with ⟨c1, c2, c3⟩ | ⟨n, hn, c1, c2, c3⟩
      · subst c1 c2 c3
        rw [if_neg (show ¬ (0 : Int32) ≤ -1 by decide)]
        simp only [Nat.zero_add] at z
        exact z
      · subst c1 c2 c3
        rw [if_pos (nI_lo (by omega)), pk_mul, nI_add, gd_nI (by omega) (by omega), nI_cl (by omega)]
        exact z
