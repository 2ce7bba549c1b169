/-! TAKING FROM THE LOTS -/
/-- the first i lots of the class are less by am -/
def zLS (u : xS) (c : Nat) (am : Nat → Int32) (i : Nat) (u' : xS) : Prop :=
  (∀ k, rd u' 77 k = if k < i then rd u 77 k - am k else rd u 77 k) ∧
  (∀ s, s < 16 → rd u' 78 s = rd u 78 s - isum (fun k => if rd u 75 k = nI s then am k else 0) i) ∧
  (∀ b, b < 24 → rd u' c b = rd u c b + isum (fun k => if rd u 76 k = nI b then am k else 0) i) ∧
  (∀ c' j, c' ≠ 77 → c' ≠ 78 → c' ≠ c → rd u' c' j = rd u c' j)
/-- a cell that pounds are counted in, by bales -/
def tgt (c : Nat) : Prop := xisI c = true ∧ xlen c = 24 ∧ c ≠ 74 ∧ c ≠ 75 ∧ c ≠ 76 ∧ c ≠ 77 ∧ c ≠ 78
theorem tgt_20 : tgt 20 := ⟨by decide +kernel, by decide +kernel, by decide, by decide, by decide, by decide, by decide⟩
theorem tgt_89 : ∀ c, c < 20 → tgt (89 + c) := by
  have h : ∀ c, c < 20 → xisI (89 + c) = true ∧ xlen (89 + c) = 24 := by decide +kernel
  intro c hc
  exact ⟨(h c hc).1, (h c hc).2, by omega, by omega, by omega, by omega, by omega⟩
theorem i_sub0 (x : Int32) : x - 0 = x := by simp
theorem zLS_0 (u : xS) (c : Nat) (am : Nat → Int32) : zLS u c am 0 u := by
  refine ⟨fun k => by rw [if_neg (by omega)], fun s _ => ?_, fun b _ => ?_, fun _ _ _ _ _ => rfl⟩
  · rw [isum_0, i_sub0]
  · rw [isum_0, Int32.add_zero]
theorem zLS_skip {u u' : xS} {c : Nat} {am : Nat → Int32} {i : Nat} (h : zLS u c am i u') (h0 : am i = 0) : zLS u c am (i + 1) u' := by
  obtain ⟨h1, h2, h3, h4⟩ := h
  refine ⟨fun k => ?_, fun s hs => ?_, fun b hb => ?_, h4⟩
  · rw [h1]
    by_cases hk : k < i
    · rw [if_pos hk, if_pos (by omega)]
    · by_cases hk2 : k = i
      · subst hk2
        rw [if_neg hk, if_pos (by omega), h0, i_sub0]
      · rw [if_neg hk, if_neg (by omega)]
  · rw [h2 s hs, isum_s, h0, ite_self, Int32.add_zero]
  · rw [h3 b hb, isum_s, h0, ite_self, Int32.add_zero]
theorem zLS_step {u u' : xS} {c : Nat} {am : Nat → Int32} {i s b : Nat} (hc : tgt c) (h : zLS u c am i u') (hi : i < 384) (hs : s < 16) (hb : b < 24) (h75 : rd u 75 i = nI s) (h76 : rd u 76 i = nI b) : ∃ u'', f_X6_lessen (nI i) (am i) c u' = some u'' ∧ zLS u c am (i + 1) u'' := by
  obtain ⟨h1, h2, h3, h4⟩ := h
  obtain ⟨c1, c2, c3, c4, c5, c6, c7⟩ := hc
  have e75 : rd u' 75 i = nI s := (h4 75 i (by decide) (by decide) (Ne.symm c4)).trans h75
  have e76 : rd u' 76 i = nI b := (h4 76 i (by decide) (by decide) (Ne.symm c5)).trans h76
  refine ⟨wr (wr (wr u' 77 i (rd u' 77 i - am i)) 78 s (rd u' 78 s - am i)) c b (rd u' c b + am i), ?_, ?_, ?_, ?_, ?_⟩
  · simp (disch := omega) only [f_X6_lessen, e75, e76, c1, c2, gd_nI, gd_t, nI_cl]
    rw [rd_wr_ne (by omega), rd_wr_ne (by omega)]
  · intro k
    rw [rd_wr_ne (by omega), rd_wr_ne (by omega)]
    by_cases hk2 : k = i
    · subst hk2
      rw [rd_wr, if_pos rfl, if_pos rfl, if_pos (by omega), h1, if_neg (by omega)]
    · rw [rd_wr_ne (by omega), h1]
      by_cases hk : k < i
      · rw [if_pos hk, if_pos (by omega)]
      · rw [if_neg hk, if_neg (by omega)]
  · intro s' hs'
    rw [rd_wr_ne (by omega), isum_s, h75]
    by_cases e : s' = s
    · subst e
      rw [rd_wr, if_pos rfl, if_pos rfl, if_pos rfl, h2 s' hs']
      simp only [Int32.sub_eq_add_neg, Int32.neg_add]
      rw [Int32.add_assoc]
    · rw [rd_wr_ne (by omega), rd_wr_ne (by omega), if_neg (fun q => e (nI_inj (by omega) (by omega) q).symm), Int32.add_zero]
      exact h2 s' hs'
  · intro b' hb'
    rw [isum_s, h76]
    by_cases e : b' = b
    · subst e
      rw [rd_wr, if_pos rfl, if_pos rfl, if_pos rfl, h3 b' hb', Int32.add_assoc]
    · rw [rd_wr_ne (by omega), rd_wr_ne (by omega), rd_wr_ne (by omega), if_neg (fun q => e (nI_inj (by omega) (by omega) q).symm), Int32.add_zero]
      exact h3 b' hb'
  · intro c' j n1 n2 n3
    rw [rd_wr_ne (by omega), rd_wr_ne (by omega), rd_wr_ne (by omega)]
    exact h4 c' j n1 n2 n3
/-! the same by sorts and bales -/
def zMS (u : xS) (c : Nat) (AN : Nat → Nat → Nat) (u' : xS) : Prop :=
  (∀ k q, (eM u)[k]? = some q → rd u' 77 k = rd u 77 k - nI (AN q.1 q.2)) ∧
  (∀ s, s < 16 → rd u' 78 s = rd u 78 s - isum (fun b => nI (AN s b)) 24) ∧
  (∀ b, b < 24 → rd u' c b = rd u c b + isum (fun s => nI (AN s b)) 16) ∧
  (∀ c' j, c' ≠ 77 → c' ≠ 78 → c' ≠ c → rd u' c' j = rd u c' j)
theorem cv75 {u : xS} (hI : Inv4 u) {am : Nat → Int32} {δ : Nat → Nat → Nat} (hδ : ∀ s b, s < 16 → b < 24 → eH u b s = 0 → δ s b = 0) (ham : ∀ k q, (eM u)[k]? = some q → am k = nI (δ q.1 q.2)) {s : Nat} (hs : s < 16) : isum (fun k => if rd u 75 k = nI s then am k else 0) (eM u).length = isum (fun b => nI (δ s b)) 24 := by
  rw [lots_sum hI (f := fun q => if q.1 = s then nI (δ q.1 q.2) else 0) (fun k q hq => ?_) (fun s' b' hs' hb' h0 => ?_)]
  · rw [isum_ext (f := fun b => nI (δ s b)) hI.B.2.2.1 (fun b h1 h2 => ?_)]
    · refine isum_congr fun b hb => ?_
      rw [isum_congr (g := fun s' => if s' = s then nI (δ s b) else 0) (fun s' _ => ?_), isum_one hs]
      dsimp only
      by_cases e : s' = s
      · rw [if_pos e, if_pos e, e]
      · rw [if_neg e, if_neg e]
    · rw [hδ s b hs h2 ((hI.H.1 b s h2 hs).2.2 (Or.inr (Or.inl h1)))]
      rfl
  · have hq1 := (eM_mem.mp (List.mem_of_getElem? hq)).2.1
    rw [(hI.L.2.2.2.2.2.2.1 k q hq).1, ham k q hq]
    by_cases e : q.1 = s
    · rw [if_pos e, if_pos (by rw [e])]
    · rw [if_neg e, if_neg (fun h => e (nI_inj (by omega) (by omega) h))]
  · dsimp only
    rw [hδ s' b' hs' hb' h0, nI_zero, ite_self]
theorem cv76 {u : xS} (hI : Inv4 u) {am : Nat → Int32} {δ : Nat → Nat → Nat} (hδ : ∀ s b, s < 16 → b < 24 → eH u b s = 0 → δ s b = 0) (ham : ∀ k q, (eM u)[k]? = some q → am k = nI (δ q.1 q.2)) {b : Nat} (hb : b < 24) : isum (fun k => if rd u 76 k = nI b then am k else 0) (eM u).length = isum (fun s => nI (δ s b)) 16 := by
  have hB3 := hI.B.2.2.1
  rw [lots_sum hI (f := fun q => if q.2 = b then nI (δ q.1 q.2) else 0) (fun k q hq => ?_) (fun s' b' hs' hb' h0 => ?_)]
  · rw [isum_congr (g := fun b' => if b' = b then isum (fun s => nI (δ s b)) 16 else 0) (fun b' _ => ?_)]
    · by_cases hbB : b < nB u
      · rw [isum_one hbB]
      · rw [isum_zero (fun b' hb' => if_neg (by omega)), isum_zero (fun s hs => ?_)]
        rw [hδ s b hs hb ((hI.H.1 b s hb hs).2.2 (Or.inr (Or.inl (by omega))))]
        rfl
    · dsimp only
      by_cases e : b' = b
      · rw [if_pos e]
        exact isum_congr fun s _ => by rw [if_pos e, e]
      · rw [if_neg e]
        exact isum_zero fun s _ => if_neg e
  · have hq1 := eO_mem hI.L (eM_mem.mp (List.mem_of_getElem? hq)).1
    rw [(hI.L.2.2.2.2.2.2.1 k q hq).2.1, ham k q hq]
    by_cases e : q.2 = b
    · rw [if_pos e, if_pos (by rw [e])]
    · rw [if_neg e, if_neg (fun h => e (nI_inj (by omega) (by omega) h))]
  · dsimp only
    rw [hδ s' b' hs' hb' h0, nI_zero, ite_self]
theorem zMS_0 (u : xS) (c : Nat) : zMS u c (fun _ _ => 0) u := by
  refine ⟨fun k q _ => (i_sub0 _).symm, fun s _ => ?_, fun b _ => ?_, fun _ _ _ _ _ => rfl⟩
  · rw [isum_zero (f := fun b => nI ((fun _ _ => 0 : Nat → Nat → Nat) s b)) (fun _ _ => rfl), i_sub0]
  · rw [isum_zero (f := fun s => nI ((fun _ _ => 0 : Nat → Nat → Nat) s b)) (fun _ _ => rfl), Int32.add_zero]
theorem isum_nadd (f g : Nat → Nat) (n : Nat) : isum (fun i => nI (f i + g i)) n = isum (fun i => nI (f i)) n + isum (fun i => nI (g i)) n := by
  rw [← isum_add]
  exact isum_congr fun i _ => (nI_add _ _).symm
theorem zMS_add {u u1 u2 : xS} (hI : Inv4 u) {c : Nat} (hc : tgt c) {AN δ : Nat → Nat → Nat} {am : Nat → Int32} (h : zMS u c AN u1) (hδ : ∀ s b, s < 16 → b < 24 → eH u b s = 0 → δ s b = 0) (ham : ∀ k q, (eM u)[k]? = some q → am k = nI (δ q.1 q.2)) (h2 : zLS u1 c am (eM u).length u2) : zMS u c (fun s b => AN s b + δ s b) u2 := by
  obtain ⟨m1, m2, m3, m4⟩ := h
  obtain ⟨l1, l2, l3, l4⟩ := h2
  obtain ⟨c1, c2, c3, c4, c5, c6, c7⟩ := hc
  have e75 : ∀ k, rd u1 75 k = rd u 75 k := fun k => m4 75 k (by decide) (by decide) (Ne.symm c4)
  have e76 : ∀ k, rd u1 76 k = rd u 76 k := fun k => m4 76 k (by decide) (by decide) (Ne.symm c5)
  refine ⟨fun k q hq => ?_, fun s hs => ?_, fun b hb => ?_, fun c' j n1 n2 n3 => (l4 c' j n1 n2 n3).trans (m4 c' j n1 n2 n3)⟩
  · have hk := (List.getElem?_eq_some_iff.mp hq).1
    rw [l1, if_pos hk, m1 k q hq, ham k q hq, ← nI_add]
    simp only [Int32.sub_eq_add_neg, Int32.neg_add]
    rw [Int32.add_assoc]
  · rw [l2 s hs, m2 s hs]
    simp only [e75]
    rw [cv75 hI hδ ham hs, isum_nadd]
    simp only [Int32.sub_eq_add_neg, Int32.neg_add]
    rw [Int32.add_assoc]
  · rw [l3 b hb, m3 b hb]
    simp only [e76]
    rw [cv76 hI hδ ham hb, isum_nadd, Int32.add_assoc]
/-- what the reference's takes leave -/
def zNS (v : xS) (tc o : Nat) (AN : Nat → Nat → Nat) (v' : xS) : Prop :=
  (∀ s b, s < 16 → b < 24 → rd v' 147 (24 * s + b) = rd v 147 (24 * s + b) - nI (AN s b)) ∧
  (∀ b, b < 24 → rd v' tc (o + b) = rd v tc (o + b) + isum (fun s => nI (AN s b)) 16) ∧
  (∀ j, j < o ∨ o + 24 ≤ j → rd v' tc j = rd v tc j) ∧
  (∀ c j, c ≠ 147 → c ≠ tc → rd v' c j = rd v c j)
theorem zNS_0 (v : xS) (tc o : Nat) : zNS v tc o (fun _ _ => 0) v := by
  refine ⟨fun s b _ _ => (i_sub0 _).symm, fun b _ => ?_, fun _ _ => rfl, fun _ _ _ _ => rfl⟩
  rw [isum_zero (f := fun s => nI ((fun _ _ => 0 : Nat → Nat → Nat) s b)) (fun _ _ => rfl), Int32.add_zero]
/-- the lots agree again -/
theorem isum_sub (f g : Nat → Int32) (n : Nat) : isum (fun i => f i - g i) n = isum f n - isum g n := by
  induction n with
  | zero => exact (i_sub0 0).symm
  | succ n ih =>
    rw [isum_s, isum_s, isum_s, ih]
    simp only [Int32.sub_eq_add_neg, Int32.neg_add]
    ac_rfl
theorem i_L_take {u u2 : xS} (hI : Inv4 u) {AN : Nat → Nat → Nat} (hA : ∀ s b, s < 16 → b < 24 → AN s b ≤ eL u b s)
    (h77 : ∀ k q, (eM u)[k]? = some q → rd u2 77 k = rd u 77 k - nI (AN q.1 q.2)) (h78 : ∀ s, s < 16 → rd u2 78 s = rd u 78 s - isum (fun b => nI (AN s b)) 24) (h147 : ∀ s b, s < 16 → b < 24 → rd u2 147 (24 * s + b) = rd u 147 (24 * s + b) - nI (AN s b))
    (hsm : sm [(135, 8), (135, 17), (148, 0), (144, 0), (146, 0), (74, 5), (75, 0), (76, 0)] u u2) : i_L u2 := by
  obtain ⟨l1, l2, l3, l4, l5, l6, l7, l8, l9⟩ := hI.L
  have q0 : rd u2 135 7 = rd u 135 7 := hsm 135 7 rfl
  have m_nB : nB u2 = nB u := congrArg nv q0
  have q1 : rd u2 135 16 = rd u 135 16 := hsm 135 16 rfl
  have m_nO : nO u2 = nO u := congrArg nv q1
  have q2 : ∀ i, rd u2 148 i = rd u 148 i := fun i => hsm 148 i rfl
  have q3 : ∀ i, rd u2 144 i = rd u 144 i := fun i => hsm 144 i rfl
  have q4 : ∀ i, rd u2 146 i = rd u 146 i := fun i => hsm 146 i rfl
  have q6 : rd u2 74 4 = rd u 74 4 := hsm 74 4 rfl
  have q7 : ∀ i, rd u2 75 i = rd u 75 i := fun i => hsm 75 i rfl
  have q8 : ∀ i, rd u2 76 i = rd u 76 i := fun i => hsm 76 i rfl
  have r1 : eH u2 = eH u := by funext b s; simp only [eH, q4]
  have r3 : eO u2 = eO u := by simp only [eO, m_nO, q2]
  have r4 : eB u2 = eB u := by funext b; simp only [eB, r1]
  have r5 : eM u2 = eM u := by simp only [eM, r3, r4]
  have hlie : ∀ b s, b < 24 → s < 16 → rd u2 147 (24 * s + b) = nI (eL u b s - AN s b) ∧ eL u2 b s = eL u b s - AN s b := by
    intro b s hb hs
    obtain ⟨z1, z2⟩ := l8 b s hb hs
    have h1 := hA s b hs hb
    have h3 : rd u2 147 (24 * s + b) = nI (eL u b s - AN s b) := by
      rw [h147 s b hs hb, z1, pk_sub h1]
    refine ⟨h3, ?_⟩
    unfold eL
    rw [h3]
    have : eL u b s < 2147483648 := Int32.toNatClampNeg_lt _
    exact nv_nI (by unfold eL at *; omega)
  unfold i_L
  simp only [m_nB, m_nO, q1, q2, q3, q6, q7, q8, r1, r3, r5]
  refine ⟨l1, l2, l3, l4, l5, l6, fun i q hq => ?_, fun b s hb hs => ?_, fun s hs => ?_⟩
  · obtain ⟨z1, z2, z3⟩ := l7 i q hq
    obtain ⟨y1, y2, y3⟩ := eM_mem.mp (List.mem_of_getElem? hq)
    have y4 := eO_mem hI.L y1
    have hB3 := hI.B.2.2.1
    exact ⟨z1, z2, by rw [h77 i q hq, h147 q.1 q.2 y2 (by omega), z3]⟩
  · obtain ⟨z1, z2⟩ := hlie b s hb hs
    have := (l8 b s hb hs).2
    rw [z2]
    exact ⟨z1, by omega⟩
  · rw [h78 s hs, l9 s hs, ← isum_sub]
    exact isum_congr fun b hb => (h147 s b hs hb).symm
