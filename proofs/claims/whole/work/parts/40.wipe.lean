/-! TAKES BY SORTS AND BALES; WIPE -/
def lz (u : xS) (s b : Nat) : Nat := if b < 24 then eL u b s else 0
theorem lz_le {u : xS} (hI : Inv4 u) {s : Nat} (hs : s < 16) (b : Nat) : lz u s b ≤ 9999 := by
  unfold lz
  by_cases h : b < 24
  · rw [if_pos h]; exact eL_le hI h hs
  · rw [if_neg h]; omega
theorem lz_0 {u : xS} (hI : Inv4 u) {s : Nat} (hs : s < 16) (b : Nat) (h0 : eH u b s = 0) : lz u s b = 0 := by
  unfold lz
  by_cases h : b < 24
  · rw [if_pos h]; exact eL_H hI h hs h0
  · rw [if_neg h]
/-- what a take of p pounds of a sort takes of a bale -/
def tk (u : xS) (s p b : Nat) : Nat := tkn (lz u s) (eO u) p b
theorem tk_le {u : xS} {s p b : Nat} (hb : b < 24) : tk u s p b ≤ eL u b s := by
  have h := tkn_le (lie := lz u s) (x := b) (l := eO u) (p := p)
  have e : lz u s b = eL u b s := if_pos hb
  rw [e] at h
  exact h
def dl (u : xS) (s p : Nat) (s' b : Nat) : Nat := if s' = s then tk u s p b else 0
theorem takeX {u u1 : xS} (hI : Inv4 u) {c s p : Nat} (hc : tgt c) (hs : s < 16) (hp : p < 2147483648) {AN : Nat → Nat → Nat} (h : zMS u c AN u1) (h0 : ∀ b, AN s b = 0) : ∃ u2, f_X6_takeOut (nI s) (nI p) c u1 = some u2 ∧ zMS u c (fun s' b => AN s' b + dl u s p s' b) u2 := by
  have hl := eM_384 hI.L hI.B
  have hxN : xN = 1000000 := rfl
  have hB3 := hI.B.2.2.1
  obtain ⟨u2, t1, t2⟩ := take11 (v := u1) (lie := lz u s) (A := tk u s p) hI hc hs (lz_le hI hs) h.2.2.2 (fun k q hq e => by
    obtain ⟨y1, y2, y3⟩ := eM_mem.mp (List.mem_of_getElem? hq)
    have y4 := eO_mem hI.L y1
    rw [h.1 k q hq, e, h0, nI_zero, i_sub0, (hI.L.2.2.2.2.2.2.1 k q hq).2.2, eL_v hI (by omega) y2]
    unfold lz
    rw [if_pos (by omega), e]) xN 0 p u1 (by omega) (by omega) hp (zLS_0 u1 c _) (fun q hq e => by
      rw [List.drop_zero] at hq ⊢
      obtain ⟨y1, y2, y3⟩ := eM_mem.mp hq
      exact (tkm_tkn hs (lz_0 hI hs) y1 (by rw [← e]; exact y3)).symm)
  refine ⟨u2, t1, zMS_add hI hc h (fun s' b hs' hb hh => ?_) (fun k q hq => ?_) t2⟩
  · unfold dl
    by_cases e : s' = s
    · subst e
      have := tk_le (u := u) (s := s') (p := p) hb
      have z := eL_H hI hb hs' hh
      rw [if_pos rfl]
      omega
    · rw [if_neg e]
  · rw [amt_some hq]
    unfold dl
    by_cases e : q.1 = s
    · rw [if_pos e, if_pos e]
    · rw [if_neg e, if_neg e]
      rfl
theorem takeM {u v v1 : xS} (hI : Inv4 u) {cl : Int32} {tc o s p : Nat} (hcl : tcl cl tc o) (hs : s < 16) (hp : p < 2147483648) {AN : Nat → Nat → Nat} (hv147 : ∀ i, rd v 147 i = rd u 147 i) (hv16 : rd v 135 16 = rd u 135 16) (hv148 : ∀ k, rd v 148 k = rd u 148 k) (h : zNS v tc o AN v1) (h0 : ∀ b, AN s b = 0) : ∃ v2, f_X12_takesOf (nI s) (nI p) cl v1 = some v2 ∧ zNS v tc o (fun s' b => AN s' b + dl u s p s' b) v2 := by
  have hxN : xN = 1000000 := rfl
  have hB3 := hI.B.2.2.1
  have hO := hI.L.2.1
  have htc : tc ≠ 147 ∧ tc ≠ 135 ∧ tc ≠ 148 := by
    rcases hcl with ⟨-, h, -⟩ | ⟨n, -, -, h, -⟩ <;> rw [h] <;> decide
  obtain ⟨m1, m2, m3, m4⟩ := h
  obtain ⟨v2, t1, t2⟩ := take12 (v := v1) (lie := lz u s) (A := tk u s p) hI hcl hs (lz_le hI hs) ((m4 135 16 (by decide) (Ne.symm htc.2.1)).trans hv16) (fun k => (m4 148 k (by decide) (Ne.symm htc.2.2)).trans (hv148 k)) (fun x hx => by
    have hx24 : x < 24 := by have := eO_mem hI.L hx; omega
    rw [m1 s x hs hx24, h0, nI_zero, i_sub0, hv147, eL_v hI hx24 hs]
    unfold lz
    rw [if_pos hx24]) xN 0 p v1 (by omega) (by omega) hp ⟨fun x hx => by
      rw [List.drop_zero]
      by_cases hm : x ∈ eO u
      · rw [if_pos hm]
      · rw [if_neg hm, show tk u s p x = 0 from tkn_out hm, nI_zero, i_sub0], fun x hx => by
      rw [List.drop_zero]
      by_cases hm : x ∈ eO u
      · rw [if_pos hm]
      · rw [if_neg hm, show tk u s p x = 0 from tkn_out hm, nI_zero, Int32.add_zero], fun _ _ => rfl, fun _ _ => rfl, fun _ _ _ _ => rfl⟩ (fun x hx => by rw [List.drop_zero]; rfl)
  obtain ⟨g1, g2, g3, g4, g5⟩ := t2
  have hdn : (eO u).drop (nO u) = [] := by rw [← eO_len]; exact List.drop_length
  refine ⟨v2, t1, fun s' b hs' hb => ?_, fun b hb => ?_, fun j hj => (g4 j hj).trans (m3 j hj), fun c j n1 n2 => (g5 c j n1 n2).trans (m4 c j n1 n2)⟩
  · unfold dl
    dsimp only
    by_cases e : s' = s
    · subst e
      rw [g1 b hb, hdn, if_neg (by simp), m1 s' b hs' hb, if_pos rfl, ← nI_add]
      simp only [Int32.sub_eq_add_neg, Int32.neg_add]
      rw [Int32.add_assoc]
    · rw [if_neg e, Nat.add_zero, g3 _ (by omega), m1 s' b hs' hb]
  · rw [g2 b hb, hdn, if_neg (by simp), m2 b hb, isum_nadd, Int32.add_assoc]
    refine congrArg _ (congrArg _ ?_)
    rw [isum_congr (g := fun i => if i = s then nI (tk u s p b) else 0) (fun i _ => ?_), isum_one hs]
    unfold dl
    by_cases e : i = s
    · rw [if_pos e, if_pos e]
    · rw [if_neg e, if_neg e]
      rfl
theorem zero_dl (u : xS) (s p : Nat) : (fun s' b => (fun _ _ => 0 : Nat → Nat → Nat) s' b + dl u s p s' b) = dl u s p := by
  funext s' b
  exact Nat.zero_add _
theorem dl_le {u : xS} {s p s' b : Nat} (hb : b < 24) : dl u s p s' b ≤ eL u b s' := by
  unfold dl
  by_cases e : s' = s
  · rw [if_pos e, e]; exact tk_le hb
  · rw [if_neg e]; exact Nat.zero_le _
theorem sto_fr {u u' : xS} (h1 : rd u' 135 7 = rd u 135 7) (h2 : ∀ i, rd u' 147 i = rd u 147 i) (s : Nat) : sto u' s = sto u s := by
  have q1 : nB u' = nB u := congrArg nv h1
  simp only [sto, q1, h2]
theorem s_wipe : xS_wipe Inv := by
  intro u a1 a2 a3 hI
  apply st_W
  obtain ⟨s1, s2, s3, -⟩ := hI.S
  have hJ := Inv_thr hI
  have n2 : rd (wr u 135 0 0) 135 1 = nI (nS u) := s2
  have es : ∀ s, sto (wr u 135 0 0) s = sto u s := fun s => sto_fr rfl (fun i => rfl) s
  by_cases h : (0 ≤ a1 ∧ a1 < nI (nS u)) ∧ (1 ≤ a2 ∧ a2 ≤ 9999) ∧ (0 ≤ a3 ∧ a3 ≤ 1000)
  · obtain ⟨h1, h2, h3⟩ := h
    obtain ⟨s, hs, rfl⟩ := nI_ix (by omega) h1.1 h1.2
    have h20 : (0 : Int32) ≤ a2 := Int32.le_trans (by decide) h2.1
    obtain ⟨p, hp, rfl⟩ := nI_ixl (S := 9999) (by omega) h20 h2.2
    have e11 : f_X11_wipe (nI s) (nI p) a3 u = if nI p ≤ sto u s then (f_X6_takeOut (nI s) (nI p) 20 u).bind fun u8 => some ((nI p * a3) / 1000, u8) else some (-1, u) := by
      simp only [f_X11_wipe, hasS s1, lies_eq, ite_10, c_ofSort hI.L hI.H hI.B (show s < 16 by omega), Option.bind_some]
      rw [if_pos h1, if_pos h2, if_pos h3]
    have e12 : ∀ w : xS, rd (wr w 135 0 0) 135 1 = nI (nS u) → f_X12_stored (wr w 135 0 0) (nI s) = some (sto u s) → f_X12_wipe (nI s) (nI p) a3 w = if nI p ≤ sto u s then (f_X12_takesOf (nI s) (nI p) (-1) (wr w 135 0 0)).bind fun u8 => some ((nI p * a3) / 1000, u8) else some (-1, wr w 135 0 0) := by
      intro w hw1 hw2
      simp (disch := omega) only [f_X12_wipe, isS hw1, L_0, L_1, L_1000, L_9999, in_eq, ite_10, hw2, Option.bind_some]
      rw [if_pos h1, if_pos h2, if_pos h3]
    rw [e11]
    by_cases h4 : nI p ≤ sto u s
    · obtain ⟨u1, t1, t2⟩ := takeX hI.to4 tgt_20 (show s < 16 by omega) (show p < 2147483648 by omega) (zMS_0 u 20) (fun _ => rfl)
      rw [zero_dl] at t2
      rw [if_pos h4, t1, Option.bind_some, ok_some]
      have a1' := ag_MS t2
      have hst : f_X12_stored (wr u1 135 0 0) (nI s) = some (sto u s) := by
        rw [c_stored ((a1' 135 7 rfl).trans hI.B.2.1) hI.B.2.2.1 (show s < 16 by omega)]
        exact congrArg some (isum_congr fun b _ => a1' 147 _ rfl)
      obtain ⟨u2, y1, y2⟩ := takeM (v := wr u1 135 0 0) hI.to4 (cl := -1) (tc := 145) (o := 0) (Or.inl ⟨rfl, rfl, rfl⟩) (show s < 16 by omega) (show p < 2147483648 by omega) (fun i => a1' 147 i rfl) (a1' 135 16 rfl) (fun k => a1' 148 k rfl) (zNS_0 _ 145 0) (fun _ => rfl)
      rw [zero_dl] at y2
      have z := e12 u1 ((a1' 135 1 rfl).trans s2) hst
      rw [if_pos h4, y1] at z
      exact ok_is z ⟨rfl, Inv_MN hI (fun s' b _ hb => dl_le hb) t2 y2⟩
    · rw [if_neg h4, ok_some]
      have hst : f_X12_stored (wr u 135 0 0) (nI s) = some (sto u s) := by
        rw [c_sto hJ.B (show s < 16 by omega), es]
      have z := e12 u n2 hst
      rw [if_neg h4] at z
      exact ok_is z ⟨rfl, hJ⟩
  · have e11 : f_X11_wipe a1 a2 a3 u = some (-1, u) := by
      simp only [f_X11_wipe, hasS s1, lies_eq, ite_10]
      by_cases h1 : 0 ≤ a1 ∧ a1 < nI (nS u)
      · by_cases h2 : 1 ≤ a2 ∧ a2 ≤ 9999
        · rw [if_pos h1, if_pos h2, if_neg (fun q => h ⟨h1, h2, q⟩)]
        · rw [if_pos h1, if_neg h2]
      · rw [if_neg h1]
    have e12 : f_X12_wipe a1 a2 a3 u = some (-1, wr u 135 0 0) := by
      simp (disch := omega) only [f_X12_wipe, isS n2, L_0, L_1, L_1000, L_9999, in_eq, ite_10]
      by_cases h1 : 0 ≤ a1 ∧ a1 < nI (nS u)
      · by_cases h2 : 1 ≤ a2 ∧ a2 ≤ 9999
        · rw [if_pos h1, if_pos h2, if_neg (fun q => h ⟨h1, h2, q⟩)]
        · rw [if_pos h1, if_neg h2]
      · rw [if_neg h1]
    exact ok_is e11 (ok_is e12 ⟨rfl, hJ⟩)
