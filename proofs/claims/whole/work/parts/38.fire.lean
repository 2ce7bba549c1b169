/-! FIRE, MOTH -/
theorem ne_W {W : List (Nat × Nat)} {c j : Nat} (k : Nat) (hk : ∀ j, inW W (lc k j) = true) (hc : inW W (lc c j) = false) : c ≠ k := by
  rintro rfl
  rw [hk] at hc
  cases hc
theorem eL_le {u : xS} (hI : Inv4 u) {b s : Nat} (hb : b < 24) (hs : s < 16) : eL u b s ≤ 9999 := by
  have h1 := (hI.L.2.2.2.2.2.2.2.1 b s hb hs).2
  by_cases hB : b < nB u
  · obtain ⟨-, -, -, -, -, -, ⟨w, hw1, hw, h142⟩, -⟩ := hI.B.2.2.2.1 b hB
    have h2 := (hI.H.2 b hB).1
    rw [h142, nv_nI (by omega)] at h2
    have h3 := nsum_one (f := eH u b) hs
    omega
  · have := (hI.H.1 b s hb hs).2.2 (Or.inr (Or.inl (by omega)))
    omega
theorem eL_v {u : xS} (hI : Inv4 u) {b s : Nat} (hb : b < 24) (hs : s < 16) : rd u 147 (24 * s + b) = nI (eL u b s) := (hI.L.2.2.2.2.2.2.2.1 b s hb hs).1
theorem eL_H {u : xS} (hI : Inv4 u) {b s : Nat} (hb : b < 24) (hs : s < 16) (h : eH u b s = 0) : eL u b s = 0 := by
  have h1 := (hI.L.2.2.2.2.2.2.2.1 b s hb hs).2
  omega
theorem burn_ok {u : xS} (hI : Inv4 u) {c : Nat} (hc : tgt c) (v : Int32) : ∀ (N i : Nat) (u' : xS), (eM u).length < N + i → i ≤ (eM u).length → zLS u c (fun k => (rd u 77 k * v + 999) / 1000) i u' →
    ∃ u'', f_X6_burn_5 N v c (isum (fun k => (rd u 77 k * v + 999) / 1000) i) (nI i) u' = some (isum (fun k => (rd u 77 k * v + 999) / 1000) (eM u).length, u'') ∧ zLS u c (fun k => (rd u 77 k * v + 999) / 1000) (eM u).length u'' := by
  have hl := eM_384 hI.L hI.B
  intro N
  induction N with
  | zero => intro i u' h1 h2; omega
  | succ N ih =>
    intro i u' h1 h2 h
    have e74 : rd u' 74 4 = nI (eM u).length := (h.2.2.2 74 4 (by decide) (by decide) (Ne.symm hc.2.2.1)).trans hI.L.2.2.2.2.2.1
    by_cases hi : i = (eM u).length
    · subst hi
      refine ⟨u', ?_, h⟩
      simp (disch := omega) only [f_X6_burn_5, e74, ite_yle]
    · have hq : (eM u)[i]? = some (eM u)[i] := List.getElem?_eq_getElem (by omega)
      obtain ⟨z1, z2, z3⟩ := hI.L.2.2.2.2.2.2.1 i _ hq
      obtain ⟨y1, y2, y3⟩ := eM_mem.mp (List.mem_of_getElem? hq)
      have y4 := eO_mem hI.L y1
      have hB3 := hI.B.2.2.1
      obtain ⟨u1, t1, t2⟩ := zLS_step hc h (by omega) y2 (show (eM u)[i].2 < 24 by omega) z1 z2
      have e77 : rd u' 77 i = rd u 77 i := by rw [h.1, if_neg (by omega)]
      simp (disch := omega) only [f_X6_burn_5, e74, ite_nle, gd_nI, nI_cl, e77, t1, Option.bind_some, nI_1]
      exact ih (i + 1) u1 (by omega) (by omega) t2
theorem eat_ok {u : xS} (hI : Inv4 u) {c b : Nat} (hc : tgt c) (hb : b < 24) : ∀ (N i : Nat) (u' : xS), (eM u).length < N + i → i ≤ (eM u).length → zLS u c (fun k => if rd u 76 k = nI b then rd u 77 k else 0) i u' →
    ∃ u'', f_X6_eat_5 N (nI b) c (isum (fun k => if rd u 76 k = nI b then rd u 77 k else 0) i) (nI i) u' = some (isum (fun k => if rd u 76 k = nI b then rd u 77 k else 0) (eM u).length, u'') ∧ zLS u c (fun k => if rd u 76 k = nI b then rd u 77 k else 0) (eM u).length u'' := by
  have hl := eM_384 hI.L hI.B
  intro N
  induction N with
  | zero => intro i u' h1 h2; omega
  | succ N ih =>
    intro i u' h1 h2 h
    have e74 : rd u' 74 4 = nI (eM u).length := (h.2.2.2 74 4 (by decide) (by decide) (Ne.symm hc.2.2.1)).trans hI.L.2.2.2.2.2.1
    by_cases hi : i = (eM u).length
    · subst hi
      refine ⟨u', ?_, h⟩
      simp (disch := omega) only [f_X6_eat_5, e74, ite_yle]
    · have hq : (eM u)[i]? = some (eM u)[i] := List.getElem?_eq_getElem (by omega)
      obtain ⟨z1, z2, z3⟩ := hI.L.2.2.2.2.2.2.1 i _ hq
      obtain ⟨y1, y2, y3⟩ := eM_mem.mp (List.mem_of_getElem? hq)
      have y4 := eO_mem hI.L y1
      have hB3 := hI.B.2.2.1
      have e77 : rd u' 77 i = rd u 77 i := by rw [h.1, if_neg (by omega)]
      have e76 : rd u' 76 i = rd u 76 i := h.2.2.2 76 i (by decide) (by decide) (Ne.symm hc.2.2.2.2.1)
      simp (disch := omega) only [f_X6_eat_5, f_X6_eat_49, e74, ite_nle, gd_nI, nI_cl, e77, e76, nI_1]
      by_cases hm : rd u 76 i = nI b
      · obtain ⟨u1, t1, t2⟩ := zLS_step hc h (by omega) y2 (show (eM u)[i].2 < 24 by omega) z1 z2
        rw [if_pos hm] at t1 ⊢
        rw [t1, Option.bind_some]
        have z := ih (i + 1) u1 (by omega) (by omega) t2
        rw [isum_s, if_pos hm] at z
        exact z
      · rw [if_neg hm]
        have z := ih (i + 1) u' (by omega) (by omega) (zLS_skip h (if_neg hm))
        rw [isum_s, if_neg hm, Int32.add_zero] at z
        exact z
/-- what a fire takes of a lot -/
def gon (p v : Nat) : Nat := (p * v + 999) / 1000
theorem gon_le {p v : Nat} (hv : v ≤ 1000) : gon p v ≤ p := by
  unfold gon
  have : p * v ≤ p * 1000 := Nat.mul_le_mul_left p hv
  omega
theorem gon_i {p v : Nat} (hp : p ≤ 9999) (hv : v ≤ 1000) : (nI p * nI v + 999) / 1000 = nI (gon p v) := by
  have : p * v ≤ 9999 * 1000 := Nat.mul_le_mul hp hv
  unfold gon
  rw [show (999 : Int32) = nI 999 from rfl, l_1000, pk_mul, nI_add, pk_div (by omega) (by omega) (by omega)]
theorem zNS_congr {v v' : xS} {tc o : Nat} {A B : Nat → Nat → Nat} (h : zNS v tc o A v') (e : ∀ s b, s < 16 → b < 24 → A s b = B s b) : zNS v tc o B v' := by
  obtain ⟨h1, h2, h3, h4⟩ := h
  refine ⟨fun s b hs hb => by rw [h1 s b hs hb, e s b hs hb], fun b hb => ?_, h3, h4⟩
  rw [h2 b hb]
  exact congrArg _ (isum_congr fun s hs => by rw [e s b hs hb])
def ptl (A : Nat → Nat → Nat) (s b : Nat) (s' b' : Nat) : Nat := if s' < s ∨ (s' = s ∧ b' < b) then A s' b' else 0
/-- one pair more -/
theorem zNS_pair {v v' : xS} {o : Nat} {A : Nat → Nat → Nat} {s b : Nat} (tc : Nat) (htc : tc ≠ 147) (hs : s < 16) (hb : b < 24) (h : zNS v tc o (ptl A s b) v') : zNS v tc o (ptl A s (b + 1)) (wr (wr v' 147 (24 * s + b) (rd v' 147 (24 * s + b) - nI (A s b))) tc (o + b) (rd v' tc (o + b) + nI (A s b))) := by
  obtain ⟨h1, h2, h3, h4⟩ := h
  refine ⟨fun s' b' hs' hb' => ?_, fun b' hb' => ?_, fun j hj => ?_, fun c j n1 n2 => ?_⟩
  · rw [rd_wr_ne (by omega)]
    by_cases e : s' = s ∧ b' = b
    · rw [e.1, e.2, rd_wr, if_pos rfl, if_pos rfl, h1 s b hs hb]
      unfold ptl
      rw [if_neg (by omega), if_pos (by omega), nI_zero, i_sub0]
    · rw [rd_wr_ne (by omega), h1 s' b' hs' hb']
      unfold ptl
      by_cases e2 : s' < s ∨ (s' = s ∧ b' < b)
      · rw [if_pos e2, if_pos (by omega)]
      · rw [if_neg e2, if_neg (by omega)]
  · by_cases e : b' = b
    · subst e
      rw [rd_wr, if_pos rfl, if_pos rfl, h2 b' hb', Int32.add_assoc]
      have e1 : isum (fun i => if i = s then nI (A s b') else 0) 16 = nI (A s b') := isum_one hs
      rw [← e1, ← isum_add]
      refine congrArg _ (isum_congr fun i _ => ?_)
      unfold ptl
      by_cases hi : i = s
      · subst hi
        rw [if_neg (by omega), if_pos rfl, if_pos (by omega), nI_zero, Int32.zero_add]
      · rw [if_neg hi, Int32.add_zero]
        by_cases e2 : i < s ∨ (i = s ∧ b' < b')
        · rw [if_pos e2, if_pos (by omega)]
        · rw [if_neg e2, if_neg (by omega)]
    · rw [rd_wr_ne (by omega), rd_wr_ne (by omega), h2 b' hb']
      refine congrArg _ (isum_congr fun i _ => ?_)
      unfold ptl
      by_cases e2 : i < s ∨ (i = s ∧ b' < b)
      · rw [if_pos e2, if_pos (by omega)]
      · rw [if_neg e2, if_neg (by omega)]
  · rw [rd_wr_ne (by omega), rd_wr_ne (by omega)]
    exact h3 j hj
  · rw [rd_wr_ne (by omega), rd_wr_ne (by omega)]
    exact h4 c j n1 n2
def fsum (A : Nat → Nat → Nat) (B s b : Nat) : Int32 := isum (fun s' => isum (fun b' => nI (A s' b')) B) s + isum (fun b' => nI (A s b')) b
theorem fire34 {w : xS} {k : Int32 → Int32 → Int32 → xS → Option (Int32 × xS)} {A : Nat → Nat → Nat} {B s v : Nat} (hv : v ≤ 1000) (hs : s < 16) (hB : B ≤ 24) (hb7 : rd w 135 7 = nI B) (hw : ∀ b, b < B → ∃ p, p ≤ 9999 ∧ rd w 147 (24 * s + b) = nI p ∧ A s b = gon p v) :
    ∀ (N b : Nat) (u' : xS), B < N + b → b ≤ B → zNS w 145 0 (ptl A s b) u' → ∃ u'', f_X12_fire_34 k N (nI v) (fsum A B s b) (nI s) (nI b) u' = k (nI v) (fsum A B (s + 1) 0) (nI (s + 1)) u'' ∧ zNS w 145 0 (ptl A s B) u'' := by
  intro N
  induction N with
  | zero => intro b u' h1 h2; omega
  | succ N ih =>
    intro b u' h1 h2 h
    have e7 : rd u' 135 7 = nI B := (h.2.2.2 135 7 (by decide) (by decide)).trans hb7
    by_cases hb : b = B
    · subst hb
      refine ⟨u', ?_, h⟩
      have e : fsum A b s b = fsum A b (s + 1) 0 := by
        unfold fsum
        rw [isum_s, isum_0, Int32.add_zero]
      simp (disch := omega) only [f_X12_fire_34, e7, ite_yle, nI_1, e]
    · obtain ⟨p, hp, e147, eA⟩ := hw b (by omega)
      have e : rd u' 147 (24 * s + b) = nI p := by
        rw [h.1 s b hs (by omega), e147]
        unfold ptl
        rw [if_neg (by omega), nI_zero, i_sub0]
      have eg : (nI p * nI v + 1000 - 1) / 1000 = nI (A s b) := by
        rw [eA, ← gon_i hp hv, Int32.sub_eq_add_neg, Int32.add_assoc]
        rfl
      rw [pk_mul] at eg
      have z := ih (b + 1) _ (by omega) (by omega) (zNS_pair 145 (by decide) hs (by omega) h)
      have ef : fsum A B s (b + 1) = fsum A B s b + nI (A s b) := by
        unfold fsum
        rw [isum_s, Int32.add_assoc]
      rw [e, ef, Nat.zero_add] at z
      simp (disch := omega) only [f_X12_fire_34, e7, ite_nle, l_24, pk_mul, nI_add, gd_nI, nI_cl, e, eg, nI_1]
      exact z
theorem fire23 {w : xS} {A : Nat → Nat → Nat} {S B v : Nat} (hv : v ≤ 1000) (hS : S ≤ 16) (hB : B ≤ 24) (hs1 : rd w 135 1 = nI S) (hb7 : rd w 135 7 = nI B) (hw : ∀ s b, s < S → b < B → ∃ p, p ≤ 9999 ∧ rd w 147 (24 * s + b) = nI p ∧ A s b = gon p v) (hz : ∀ s b, s < 16 → b < 24 → (S ≤ s ∨ B ≤ b) → A s b = 0) :
    ∀ (N s : Nat) (u' : xS), S < N + s → s ≤ S → zNS w 145 0 (ptl A s 0) u' → ∃ u'', f_X12_fire_23 N (nI v) (fsum A B s 0) (nI s) u' = some (fsum A B S 0, u'') ∧ zNS w 145 0 A u'' := by
  intro N
  induction N with
  | zero => intro s u' h1 h2; omega
  | succ N ih =>
    intro s u' h1 h2 h
    have e1 : rd u' 135 1 = nI S := (h.2.2.2 135 1 (by decide) (by decide)).trans hs1
    by_cases hs : s = S
    · subst hs
      refine ⟨u', ?_, zNS_congr h fun s' b' hs' hb' => ?_⟩
      · simp (disch := omega) only [f_X12_fire_23, e1, ite_yle]
      · unfold ptl
        by_cases e : s' < s ∨ (s' = s ∧ b' < 0)
        · rw [if_pos e]
        · rw [if_neg e, hz s' b' hs' hb' (Or.inl (by omega))]
    · obtain ⟨u1, t1, t2⟩ := fire34 (k := f_X12_fire_23 N) (A := A) hv (show s < 16 by omega) hB hb7 (fun b hb => hw s b (by omega) hb) xN 0 u' (by have : xN = 1000000 := rfl; omega) (by omega) h
      have t3 : zNS w 145 0 (ptl A (s + 1) 0) u1 := zNS_congr t2 fun s' b' hs' hb' => by
        unfold ptl
        by_cases e : s' < s ∨ (s' = s ∧ b' < B)
        · rw [if_pos e, if_pos (by omega)]
        · by_cases e2 : s' = s
          · rw [if_neg e, if_pos (by omega), hz s' b' hs' hb' (Or.inr (by omega))]
          · rw [if_neg e, if_neg (by omega)]
      simp (disch := omega) only [f_X12_fire_23, e1, ite_nle]
      rw [← nI_zero, t1]
      exact ih (s + 1) u1 (by omega) (by omega) t3
/-- both have taken the same: all agree again -/
theorem Inv_take {u u2 : xS} (hI : Inv u) {AN : Nat → Nat → Nat} (hA : ∀ s b, s < 16 → b < 24 → AN s b ≤ eL u b s)
    (hag : ag [(20, 0), (77, 0), (78, 0), (135, 1), (145, 0), (147, 0)] u u2)
    (h77 : ∀ k q, (eM u)[k]? = some q → rd u2 77 k = rd u 77 k - nI (AN q.1 q.2)) (h78 : ∀ s, s < 16 → rd u2 78 s = rd u 78 s - isum (fun b => nI (AN s b)) 24) (h147 : ∀ s b, s < 16 → b < 24 → rd u2 147 (24 * s + b) = rd u 147 (24 * s + b) - nI (AN s b))
    (h20 : ∀ b, b < 24 → rd u2 20 b = rd u 20 b + isum (fun s => nI (AN s b)) 16) (h145 : ∀ b, b < 24 → rd u2 145 b = rd u 145 b + isum (fun s => nI (AN s b)) 16) : Inv u2 := by
  refine ⟨fr_S (ag_sm hag rfl) hI.S, fr_P (ag_sm hag rfl) hI.P, ?_, fr_H (ag_sm hag rfl) hI.H, i_L_take hI.to4 hA h77 h78 h147 (ag_sm hag rfl), fr_K (ag_sm hag rfl) hI.K, fr_T (ag_sm hag rfl) hI.T, fr_X (ag_sm hag rfl) hI.X, fr_F (ag_sm hag rfl) hI.F, fr_C (ag_sm hag rfl) hI.C, fr_D (ag_sm hag rfl) hI.D, fr_A (ag_sm hag rfl) hI.A, fr_W (ag_sm hag rfl) hI.W⟩
  obtain ⟨b1, b2, b3, b4, b5⟩ := hI.B
  have q0 : rd u2 135 7 = rd u 135 7 := hag 135 7 rfl
  have m_nB : nB u2 = nB u := congrArg nv q0
  have q1 : rd u2 13 8 = rd u 13 8 := hag 13 8 rfl
  have q2 : ∀ i, rd u2 14 i = rd u 14 i := fun i => hag 14 i rfl
  have q3 : ∀ i, rd u2 15 i = rd u 15 i := fun i => hag 15 i rfl
  have q4 : ∀ i, rd u2 16 i = rd u 16 i := fun i => hag 16 i rfl
  have q5 : ∀ i, rd u2 17 i = rd u 17 i := fun i => hag 17 i rfl
  have q6 : ∀ i, rd u2 18 i = rd u 18 i := fun i => hag 18 i rfl
  have q8 : ∀ i, rd u2 140 i = rd u 140 i := fun i => hag 140 i rfl
  have q9 : ∀ i, rd u2 141 i = rd u 141 i := fun i => hag 141 i rfl
  have q10 : ∀ i, rd u2 142 i = rd u 142 i := fun i => hag 142 i rfl
  have q11 : ∀ i, rd u2 143 i = rd u 143 i := fun i => hag 143 i rfl
  have q12 : ∀ i, rd u2 144 i = rd u 144 i := fun i => hag 144 i rfl
  unfold i_B
  simp only [m_nB, q0, q1, q2, q3, q4, q5, q6, q8, q9, q10, q11, q12]
  refine ⟨b1, b2, b3, b4, fun b hb => ?_⟩
  rw [h20 b hb, h145 b hb, b5 b hb]
theorem s_fire : xS_fire Inv := by
  intro u a1 hI
  apply st_W
  have hxN : xN = 1000000 := rfl
  have hl := eM_384 hI.L hI.B
  simp only [f_X11_fire, lies_eq, ite_10, f_X6_burn, f_X12_fire, L_0, L_1000, in_eq]
  by_cases h1 : 0 ≤ a1 ∧ a1 ≤ 1000
  · obtain ⟨v, hv, rfl⟩ := nI_ixl (S := 1000) (by omega) h1.1 h1.2
    rw [if_pos h1]
    obtain ⟨u1, t1, t2⟩ := burn_ok hI.to4 tgt_20 (nI v) xN 0 u (by omega) (by omega) (zLS_0 u 20 _)
    rw [nI_zero, isum_0] at t1
    rw [t1, Option.bind_some, ok_some]
    dsimp only
    rw [if_pos h1]
    -- amounts
    have ham : ∀ k q, (eM u)[k]? = some q → (rd u 77 k * nI v + 999) / 1000 = nI ((fun s b => gon (eL u b s) v) q.1 q.2) := by
      intro k q hq
      obtain ⟨y1, y2, y3⟩ := eM_mem.mp (List.mem_of_getElem? hq)
      have y4 := eO_mem hI.L y1
      have hB3 := hI.B.2.2.1
      rw [(hI.L.2.2.2.2.2.2.1 k q hq).2.2, eL_v hI.to4 (by omega) y2]
      exact gon_i (eL_le hI.to4 (by omega) y2) hv
    have hδ : ∀ s b, s < 16 → b < 24 → eH u b s = 0 → (fun s b => gon (eL u b s) v) s b = 0 := by
      intro s b hs hb h0
      have : eL u b s = 0 := eL_H hI.to4 hb hs h0
      dsimp only
      rw [this]
      unfold gon
      omega
    have m1 := zMS_add hI.to4 tgt_20 (zMS_0 u 20) hδ ham t2
    simp only [Nat.zero_add] at m1
    have a1' : ag [(20, 0), (77, 0), (78, 0), (135, 1)] u (wr u1 135 0 0) := by
      exact ag_wr (fun c j hc => m1.2.2.2 c j (ne_W 77 (fun _ => rfl) hc) (ne_W 78 (fun _ => rfl) hc) (ne_W 20 (fun _ => rfl) hc)) rfl
    have hz : ∀ s b, s < 16 → b < 24 → (nS u ≤ s ∨ nB u ≤ b) → gon (eL u b s) v = 0 := by
      intro s b hs hb h0
      refine hδ s b hs hb ((hI.H.1 b s hb hs).2.2 ?_)
      rcases h0 with h0 | h0
      · exact Or.inl h0
      · exact Or.inr (Or.inl h0)
    obtain ⟨u2, y1, y2⟩ := fire23 (w := wr u1 135 0 0) (A := fun s b => gon (eL u b s) v) (S := nS u) (B := nB u) hv hI.S.2.2.1 hI.B.2.2.1 ((a1' 135 1 rfl).trans hI.S.2.1) ((a1' 135 7 rfl).trans hI.B.2.1) (fun s b hs hb => ⟨eL u b s, eL_le hI.to4 (by have := hI.B.2.2.1; omega) (by have := hI.S.2.2.1; omega), (a1' 147 _ rfl).trans (eL_v hI.to4 (by have := hI.B.2.2.1; omega) (by have := hI.S.2.2.1; omega)), rfl⟩) hz xN 0 (wr u1 135 0 0) (by have := hI.S.2.2.1; omega) (by omega) (zNS_congr (zNS_0 _ 145 0) fun s b _ _ => by unfold ptl; rw [if_neg (by omega)])
    have e0 : fsum (fun s b => gon (eL u b s) v) (nB u) 0 0 = 0 := rfl
    rw [e0, nI_zero] at y1
    refine ok_is y1 ⟨?_, ?_⟩
    · -- the sums
      show fsum _ _ _ _ = isum _ _
      unfold fsum
      rw [isum_0, Int32.add_zero, lots_sum hI.to4 (f := fun q => nI (gon (eL u q.2 q.1) v)) ham (fun s b hs hb h0 => by rw [show gon (eL u b s) v = 0 from hδ s b hs hb h0]; rfl), isum_swap]
      refine isum_congr fun b hb => (isum_ext hI.S.2.2.1 fun s h1 h2 => ?_).symm
      show nI (gon (eL u b s) v) = 0
      rw [hz s b h2 (by have := hI.B.2.2.1; omega) (Or.inl h1)]
      rfl
    · have a2 : ag [(20, 0), (77, 0), (78, 0), (135, 1), (145, 0), (147, 0)] u u2 := by
        exact ag_trans (ag_sub rfl a1') (fun c j hc => y2.2.2.2 c j (ne_W 147 (fun _ => rfl) hc) (ne_W 145 (fun _ => rfl) hc))
      refine Inv_take hI (AN := fun s b => gon (eL u b s) v) (fun s b _ _ => gon_le hv) a2 (fun k q hq => ?_) (fun s hs => ?_) (fun s b hs hb => ?_) (fun b hb => ?_) (fun b hb => ?_)
      · rw [y2.2.2.2 77 k (by decide) (by decide)]
        exact m1.1 k q hq
      · rw [y2.2.2.2 78 s (by decide) (by decide)]
        exact m1.2.1 s hs
      · rw [y2.1 s b hs hb, a1' 147 _ rfl]
      · rw [y2.2.2.2 20 b (by decide) (by decide)]
        exact m1.2.2.1 b hb
      · have := y2.2.1 b hb
        rw [Nat.zero_add, a1' 145 b rfl] at this
        exact this
  · rw [if_neg h1, ok_some, if_neg h1, ok_some]
    exact ⟨rfl, Inv_thr hI⟩
