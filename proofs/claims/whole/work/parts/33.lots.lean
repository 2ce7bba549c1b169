/-! SPLIT, ITS STEP; SUMS OVER LOTS -/
theorem sp_fr {u u' : xS} (h : ag [(135, 1)] u u') (a w p : Int32) (s : Nat) : spF u' a = spF u a ∧ spP u' a w p = spP u a w p ∧ sto u' s = sto u s := by
  have q0 : nS u' = nS u := congrArg nv (h 135 1 rfl)
  have q1 : nB u' = nB u := congrArg nv (h 135 7 rfl)
  have q2 : ∀ i, rd u' 136 i = rd u 136 i := fun i => h 136 i rfl
  have q3 : ∀ i, rd u' 146 i = rd u 146 i := fun i => h 146 i rfl
  have q4 : ∀ i, rd u' 147 i = rd u 147 i := fun i => h 147 i rfl
  have e1 : spF u' a = spF u a := by simp only [spF, hao, q0, q1, q2, q3]
  have e2 : ∀ v w, prc u' v w = prc u v w := prc_fr (ag_sm h rfl)
  refine ⟨e1, ?_, by simp only [sto, q1, q4]⟩
  simp only [spP, hao, e1, e2, q0, q1, q2, q3]
theorem s_split : xS_split Inv := by
  intro u a1 a2 hI
  obtain ⟨s1, s2, s3, -⟩ := hI.S
  have n2 : rd (wr u 135 0 0) 135 1 = nI (nS u) := s2
  have fail : (¬ ((0 ≤ a1 ∧ a1 < nI (nS u)) ∧ (0 ≤ a2 ∧ a2 ≤ 99))) → ∃ (o : Option Int32) (r : Int32) (u1 u2 : xS), f_X11_split a1 a2 u = some (o, u1) ∧ f_X12_split a1 a2 (hU o u1) = some (r, u2) ∧ f_X12_thrown u2 = hR o ∧ (∀ v, o = some v → rl u2 181 0 = r.toInt64) ∧ Inv u2 := by
    intro h
    have e11 : f_X11_split a1 a2 u = some (none, u) := by
      simp only [f_X11_split, f_X11_split_18, f_X11_isDay, lies_eq, hasS s1, ite_10]
      by_cases h1 : 0 ≤ a1 ∧ a1 < nI (nS u)
      · rw [if_pos h1, if_neg (fun q => h ⟨h1, q⟩)]
      · rw [if_neg h1]
    have e12 : f_X12_split a1 a2 u = some (0, wr (wr u 135 0 0) 135 0 1) := by
      simp (disch := omega) only [f_X12_split, f_X12_split_20, f_X12_refuse, f_X12_isWeek, isS n2, L_0, L_99, in_eq, ite_10, Option.bind_some]
      by_cases h1 : 0 ≤ a1 ∧ a1 < nI (nS u)
      · rw [if_pos h1, if_neg (fun q => h ⟨h1, q⟩)]
      · rw [if_neg h1]
    exact ⟨none, _, _, _, e11, e12, rfl, fun v hv => (by cases hv), Inv_scr (ag_wr (ag_wr (ag_refl wX u) rfl) rfl) hI⟩
  by_cases h : (0 ≤ a1 ∧ a1 < nI (nS u)) ∧ (0 ≤ a2 ∧ a2 ≤ 99)
  · obtain ⟨h1, h2⟩ := h
    obtain ⟨s, hs, rfl⟩ := nI_ix (by omega) h1.1 h1.2
    have e11 : f_X11_split (nI s) a2 u = some (if spF u (nI s) = 0 then none else some (spP u (nI s) a2 (sto u s)).toInt32, u) := by
      simp only [f_X11_split, f_X11_isDay, lies_eq, hasS s1, ite_10]
      rw [if_pos h1, if_pos h2]
      exact c11_split hI hs a2
    generalize ho : (if spF u (nI s) = 0 then (none : Option Int32) else some (spP u (nI s) a2 (sto u s)).toInt32) = o at e11
    have ha : ag [(135, 1)] u (wr (hU o u) 135 0 0) := by
      cases o with
      | none => exact ag_wr (ag_refl _ u) rfl
      | some v => exact ag_wr (ag_wl (ag_refl _ u)) rfl
    have hJ : Inv (wr (hU o u) 135 0 0) := Inv_scr (ag_sub rfl ha) hI
    have m2 : rd (wr (hU o u) 135 0 0) 135 1 = nI (nS u) := (ha 135 1 rfl).trans s2
    have hsJ : s < nS (wr (hU o u) 135 0 0) := by
      have : nS (wr (hU o u) 135 0 0) = nS u := congrArg nv (ha 135 1 rfl)
      omega
    obtain ⟨g1, g2, g3⟩ := sp_fr ha (nI s) a2 (sto u s) s
    have e12 : f_X12_split (nI s) a2 (hU o u) = if spF u (nI s) = 0 then some (0, wr (wr (hU o u) 135 0 0) 135 0 1) else some ((spP u (nI s) a2 (sto u s)).toInt32, wr (hU o u) 135 0 0) := by
      simp (disch := omega) only [f_X12_split, f_X12_isWeek, isS m2, L_0, L_99, in_eq, ite_10]
      rw [if_pos h1, if_pos h2]
      have := c12_split hJ hsJ a2
      rw [g1, g3, g2] at this
      exact this
    by_cases hz : spF u (nI s) = 0
    · rw [if_pos hz] at ho e12
      subst ho
      exact ⟨none, _, _, _, e11, e12, rfl, fun v hv => (by cases hv), Inv_scr (ag_wr (ag_wr (ag_refl wX u) rfl) rfl) hI⟩
    · rw [if_neg hz] at ho e12
      subst ho
      refine ⟨some _, _, _, _, e11, e12, rfl, ?_, hJ⟩
      intro v hv
      cases hv
      rfl
  · exact fail h
/-! lists -/
def lsum {α : Type} (f : α → Int32) : List α → Int32
  | [] => 0
  | x :: l => f x + lsum f l
theorem lsum_app {α : Type} {f : α → Int32} {l m : List α} : lsum f (l ++ m) = lsum f l + lsum f m := by
  induction l with
  | nil => exact (Int32.zero_add _).symm
  | cons x l ih =>
    show f x + lsum f (l ++ m) = (f x + lsum f l) + lsum f m
    rw [ih, Int32.add_assoc]
theorem lsum_flat {α β : Type} {f : β → Int32} {g : α → List β} {l : List α} : lsum f (l.flatMap g) = lsum (fun a => lsum f (g a)) l := by
  induction l with
  | nil => rfl
  | cons x l ih =>
    rw [List.flatMap_cons, lsum_app, ih]
    rfl
theorem lsum_map {α β : Type} {f : β → Int32} {g : α → β} {l : List α} : lsum f (l.map g) = lsum (fun a => f (g a)) l := by
  induction l with
  | nil => rfl
  | cons x l ih =>
    show f (g x) + lsum f (l.map g) = f (g x) + lsum _ l
    rw [ih]
theorem lsum_congr {α : Type} {f g : α → Int32} {l : List α} (h : ∀ a, a ∈ l → f a = g a) : lsum f l = lsum g l := by
  induction l with
  | nil => rfl
  | cons x l ih =>
    show f x + lsum f l = g x + lsum g l
    rw [h x List.mem_cons_self, ih (fun a ha => h a (List.mem_cons_of_mem _ ha))]
theorem lsum_filter {α : Type} {f : α → Int32} {p : α → Bool} {l : List α} (h : ∀ a, a ∈ l → p a = false → f a = 0) : lsum f (l.filter p) = lsum f l := by
  induction l with
  | nil => rfl
  | cons x l ih =>
    have ih' := ih (fun a ha => h a (List.mem_cons_of_mem _ ha))
    cases hp : p x with
    | true =>
      rw [List.filter_cons_of_pos hp]
      show f x + lsum f (l.filter p) = f x + lsum f l
      rw [ih']
    | false =>
      rw [List.filter_cons_of_neg (by rw [hp]; decide), ih']
      show lsum f l = f x + lsum f l
      rw [h x List.mem_cons_self hp, Int32.zero_add]
theorem lsum_range {f : Nat → Int32} {n : Nat} : lsum f (List.range n) = isum f n := by
  induction n with
  | zero => rfl
  | succ n ih =>
    rw [List.range_succ, lsum_app, ih, isum_s]
    show isum f n + (f n + 0) = _
    rw [Int32.add_zero]
theorem isum_cons {g : Nat → Int32} {n : Nat} : isum g (n + 1) = g 0 + isum (fun k => g (k + 1)) n := by
  induction n with
  | zero =>
    show (0 : Int32) + g 0 = g 0 + 0
    rw [Int32.zero_add, Int32.add_zero]
  | succ n ih => rw [isum_s, ih, isum_s, Int32.add_assoc]
theorem isum_list {α : Type} {f : α → Int32} : ∀ {l : List α} {g : Nat → Int32}, (∀ k q, l[k]? = some q → g k = f q) → isum g l.length = lsum f l
  | [], _, _ => rfl
  | x :: l, g, h => by
    rw [List.length_cons, isum_cons, h 0 x rfl, isum_list (l := l) (f := f) (g := fun k => g (k + 1)) (fun k q hq => h (k + 1) q (by simpa using hq))]
    rfl
theorem isum_one {n x : Nat} {v : Int32} (h : x < n) : isum (fun b => if b = x then v else 0) n = v := by
  induction n with
  | zero => omega
  | succ n ih =>
    rw [isum_s]
    by_cases hx : x = n
    · subst hx
      rw [if_pos rfl, isum_zero (fun b hb => if_neg (by omega)), Int32.zero_add]
    · rw [ih (by omega), if_neg (by omega), Int32.add_zero]
theorem lsum_nodup {h : Nat → Int32} {n : Nat} : ∀ {l : List Nat}, l.Nodup → (∀ b, b ∈ l → b < n) → lsum h l = isum (fun b => if b ∈ l then h b else 0) n
  | [], _, _ => by
    rw [isum_zero (fun b _ => if_neg (by simp))]
    rfl
  | x :: l, hn, hl => by
    obtain ⟨hx, hn'⟩ := List.nodup_cons.mp hn
    show h x + lsum h l = _
    rw [lsum_nodup hn' (fun b hb => hl b (List.mem_cons_of_mem _ hb)), ← isum_one (v := h x) (hl x List.mem_cons_self), ← isum_add]
    refine isum_congr fun b _ => ?_
    by_cases hb : b = x
    · subst hb
      rw [if_pos rfl, if_neg hx, if_pos List.mem_cons_self, Int32.add_zero]
    · rw [if_neg hb, Int32.zero_add]
      by_cases hm : b ∈ l
      · rw [if_pos hm, if_pos (List.mem_cons_of_mem _ hm)]
      · rw [if_neg hm, if_neg (fun q => (List.mem_cons.mp q).elim hb hm)]
theorem isum_split {g : Nat → Int32} {m n : Nat} : isum g (m + n) = isum g m + isum (fun i => g (m + i)) n := by
  induction n with
  | zero => exact (Int32.add_zero _).symm
  | succ n ih => rw [← Nat.add_assoc, isum_s, ih, isum_s, Int32.add_assoc]
theorem isum_grid {g : Nat → Int32} {n : Nat} : isum g (24 * n) = isum (fun s => isum (fun b => g (24 * s + b)) 24) n := by
  induction n with
  | zero => rfl
  | succ n ih =>
    rw [Nat.mul_succ, isum_split, ih]
    rfl
/-! what the lots are -/
theorem eO_mem {u : xS} (hL : i_L u) {b : Nat} (h : b ∈ eO u) : b < nB u := by
  simp only [eO, List.mem_map, List.mem_range] at h
  obtain ⟨k, hk, e⟩ := h
  obtain ⟨b', hb', e'⟩ := hL.2.2.1 k hk
  have hb2 : b' < 2147483648 ∨ ¬ b' < 2147483648 := by omega
  rw [e'] at e
  by_cases hb3 : b' < 2147483648
  · rw [nv_nI hb3] at e
    omega
  · rw [← e]
    have := Int32.toNatClampNeg_lt (nI b')
    have e3 : nv (nI b') = (nI b').toNatClampNeg := rfl
    omega
theorem eM_mem {u : xS} {q : Nat × Nat} : q ∈ eM u ↔ q.2 ∈ eO u ∧ q.1 < 16 ∧ 0 < eH u q.2 q.1 := by
  simp only [eM, eB, List.mem_flatMap, List.mem_map, List.mem_filter, List.mem_range, decide_eq_true_eq]
  constructor
  · rintro ⟨b, hb, s, ⟨hs, hh⟩, rfl⟩
    exact ⟨hb, hs, hh⟩
  · rintro ⟨hb, hs, hh⟩
    exact ⟨q.2, hb, q.1, ⟨hs, hh⟩, rfl⟩
theorem eM_nodup {u : xS} (hL : i_L u) : (eM u).Nodup := by
  unfold eM
  refine List.pairwise_flatMap.mpr ⟨fun b _ => ?_, ?_⟩
  · unfold eB
    refine List.pairwise_map.mpr (List.Pairwise.filter _ ?_)
    exact List.Pairwise.imp (fun h e => h (congrArg Prod.fst e)) (List.nodup_range (n := 16))
  · refine List.Pairwise.imp (fun {b b'} hne q hq q' hq' e => ?_) hL.2.2.2.1
    unfold eB at hq hq'
    simp only [List.mem_map] at hq hq'
    obtain ⟨s, -, rfl⟩ := hq
    obtain ⟨s', -, rfl⟩ := hq'
    exact hne (congrArg Prod.snd e)
theorem eM_len {u : xS} (hL : i_L u) (hB : i_B u) : (eM u).length ≤ 16 * (eO u).length := by
  have key : ∀ l : List Nat, (l.flatMap (eB u)).length ≤ 16 * l.length := by
    intro l
    induction l with
    | nil => exact Nat.le_refl _
    | cons b l ih =>
      rw [List.flatMap_cons, List.length_append, List.length_cons]
      have : (eB u b).length ≤ 16 := by
        unfold eB
        rw [List.length_map]
        exact Nat.le_trans (List.length_filter_le _ _) (by rw [List.length_range]; exact Nat.le_refl _)
      omega
  exact key _
theorem eO_len (u : xS) : (eO u).length = nO u := by
  simp [eO]
theorem eM_384 {u : xS} (hL : i_L u) (hB : i_B u) : (eM u).length ≤ 384 := by
  have h1 := eM_len hL hB
  have h2 := hL.2.1
  rw [eO_len] at h1
  omega
/-- sorts, bales, what these had, lots -/
def Inv4 (u : xS) : Prop := i_S u ∧ i_B u ∧ i_H u ∧ i_L u
theorem Inv4.S {u : xS} (h : Inv4 u) : i_S u := h.1
theorem Inv4.B {u : xS} (h : Inv4 u) : i_B u := h.2.1
theorem Inv4.H {u : xS} (h : Inv4 u) : i_H u := h.2.2.1
theorem Inv4.L {u : xS} (h : Inv4 u) : i_L u := h.2.2.2
theorem Inv.to4 {u : xS} (h : Inv u) : Inv4 u := ⟨h.S, h.B, h.H, h.L⟩
/-- a sum over the lots is a sum over bales and sorts -/
theorem lots_sum {u : xS} (hI : Inv4 u) {g : Nat → Int32} {f : Nat × Nat → Int32} (hg : ∀ k q, (eM u)[k]? = some q → g k = f q) (hf : ∀ s b, s < 16 → b < 24 → eH u b s = 0 → f (s, b) = 0) : isum g (eM u).length = isum (fun b => isum (fun s => f (s, b)) 16) (nB u) := by
  have hB3 := hI.B.2.2.1
  rw [isum_list hg]
  unfold eM
  rw [lsum_flat, lsum_nodup hI.L.2.2.2.1 (fun b hb => eO_mem hI.L hb)]
  refine isum_congr fun b hb => ?_
  by_cases hm : b ∈ eO u
  · rw [if_pos hm]
    unfold eB
    rw [lsum_map, lsum_filter, lsum_range]
    intro s hs hp
    have h1 : eH u b s = 0 := by
      have := of_decide_eq_false hp
      omega
    exact hf s b (List.mem_range.mp hs) (by omega) h1
  · rw [if_neg hm, isum_zero]
    intro s hs
    refine hf s b hs (by omega) ((hI.H.1 b s (by omega) hs).2.2 (Or.inr (Or.inr ?_)))
    have := (hI.L.2.2.2.2.1 b hb)
    exact Classical.not_not.mp fun q => hm (this.mpr q)
