/-! FORETELL -/
/-- sorts, bales, what these had -/
def Inv3 (u : xS) : Prop := i_S u ∧ i_B u ∧ i_H u
theorem Inv3.S {u : xS} (h : Inv3 u) : i_S u := h.1
theorem Inv3.B {u : xS} (h : Inv3 u) : i_B u := h.2.1
theorem Inv3.H {u : xS} (h : Inv3 u) : i_H u := h.2.2
theorem Inv.to3 {u : xS} (h : Inv u) : Inv3 u := ⟨h.S, h.B, h.H⟩
theorem Inv3_fr {W : List (Nat × Nat)} {u u' : xS} (h : ag W u u') (h1 : noW kS W = true) (h2 : noW kB W = true) (h3 : noW kH W = true) (H : Inv3 u) : Inv3 u' := ⟨fr_S (ag_sm h h1) H.S, fr_B (ag_sm h h2) H.B, fr_H (ag_sm h h3) H.H⟩
theorem imin_nI {a b : Nat} (ha : a < 2147483648) (hb : b < 2147483648) : imin (nI a) (nI b) = nI (min a b) := by
  unfold imin
  by_cases h : b < a
  · rw [if_pos (nI_lt h ha), Nat.min_eq_right (by omega)]
  · rw [if_neg (nI_nlt (by omega) hb), Nat.min_eq_left (by omega)]
theorem imax_nI {a b : Nat} (ha : a < 2147483648) (hb : b < 2147483648) : imax (nI a) (nI b) = nI (max a b) := by
  unfold imax
  by_cases h : a < b
  · rw [if_pos (nI_lt h hb), Nat.max_eq_right (by omega)]
  · rw [if_neg (nI_nlt (by omega) ha), Nat.max_eq_left (by omega)]
def pw (u : xS) (o b : Nat) : Nat := nsum (fun s => if wk u o 16 s = true then eH u b s else 0) (nS u)
theorem pw_le {u : xS} (hI : Inv3 u) (o : Nat) {b : Nat} (hb : b < nB u) : pw u o b ≤ nv (rd u 142 b) := by
  refine Nat.le_trans (Nat.le_trans (nsum_le (g := eH u b) (fun s _ => ?_)) (nsum_mono hI.S.2.2.1)) (hI.H.2 b hb).1
  by_cases h : wk u o 16 s = true
  · rw [if_pos h]; exact Nat.le_refl _
  · rw [if_neg h]; exact Nat.zero_le _
def its (u : xS) (o b : Nat) : Nat := pw u o b * 1000 / nv (rd u 142 b)
theorem its_le {u : xS} (hI : Inv3 u) (o : Nat) {b : Nat} (hb : b < nB u) : its u o b ≤ 1000 := by
  apply Nat.div_le_of_le_mul
  exact Nat.mul_le_mul_right _ (pw_le hI o hb)
theorem c_pw {u : xS} (hI : Inv3 u) {o b : Nat} (ho : o < nS u) (hb : b < nB u) : f_X11_poundsWithin u (nI b) (nI o) = some (nI (pw u o b)) := by
  obtain ⟨s1, s2, s3, s4⟩ := hI.S
  have hB := hI.B.2.2.1
  refine (it_loop (S := nS u) (F := fun N i a => f_X11_poundsWithin_5 u N (nI b) (nI o) a (nI i)) (fun s a => if wk u o 16 s = true then a + rd u (22 + b) s else a) some (fun n i a hi => ?_) (fun n a => by simp (disch := omega) only [f_X11_poundsWithin_5, s1, ite_yle]) (xN_lt (by omega))).trans ?_
  · simp (disch := omega) only [f_X11_poundsWithin_5, f_X11_poundsWithin_45, s1, ite_nle, (c_within hI.S ho hi).2, Option.bind_some, ite_10, gd_nI, nI_cl, nI_1]
    by_cases h : wk u o 16 i = true
    · rw [if_pos h, if_pos h]
    · rw [if_neg h, if_neg h]
  · refine congrArg some (it_if.trans ?_)
    refine isum_nI fun s hs => ?_
    obtain ⟨z1, z2, -⟩ := hI.H.1 b s (by omega) (by omega)
    by_cases h : wk u o 16 s = true
    · rw [if_pos h, if_pos h, z1, z2]
    · rw [if_neg h, if_neg h]
      rfl
/-- what the search goes by: least, most, how many -/
abbrev fcd (u : xS) (a mk : Int32) (b : Nat) : Prop := ¬ rd u 144 b = -1 ∧ rd u 140 b = a ∧ (mk = -1 ∨ rd u 141 b = mk)
def ff (u : xS) (a mk : Int32) (o : Nat) (b : Nat) (p : Nat × Nat × Nat) : Nat × Nat × Nat := if fcd u a mk b then (if p.2.2 = 0 then its u o b else min p.1 (its u o b), if p.2.2 = 0 then its u o b else max p.2.1 (its u o b), p.2.2 + 1) else p
def fP (i : Nat) (p : Nat × Nat × Nat) : Prop := p.1 ≤ 1000 ∧ p.2.1 ≤ 1000 ∧ p.2.2 ≤ i
theorem ff_P {u : xS} (hI : Inv3 u) (a mk : Int32) (o : Nat) {i : Nat} {p : Nat × Nat × Nat} (hi : i < nB u) (h : fP i p) : fP (i + 1) (ff u a mk o i p) := by
  have h1 := its_le hI o hi
  unfold ff
  obtain ⟨z1, z2, z3⟩ := h
  by_cases c : fcd u a mk i
  · rw [if_pos c]
    by_cases e : p.2.2 = 0
    · rw [if_pos e, if_pos e]
      exact ⟨h1, h1, by dsimp only; omega⟩
    · rw [if_neg e, if_neg e]
      exact ⟨by dsimp only; omega, by dsimp only; omega, by dsimp only; omega⟩
  · rw [if_neg c]
    exact ⟨z1, z2, by omega⟩
def fE12 (u : xS) (p : Nat × Nat × Nat) : Option (Int32 × xS) := if p.2.2 = 0 then some (-1, u) else (f_X12_enters (nI p.1) (wr u 135 43 (0 : Int32))).bind fun u4 => (f_X12_enters (nI p.2.1) u4).bind fun u6 => (f_X12_enters (nI p.2.2) u6).bind fun u8 => some (nI p.1, u8)
def fE11 (u : xS) (p : Nat × Nat × Nat) : Option (Int32 × xS) := if p.2.2 = 0 then some (-1, u) else (f_X11_tell (nI p.1) (wr u 0 12 (0 : Int32))).bind fun u4 => (f_X11_tell (nI p.2.1) u4).bind fun u6 => (f_X11_tell (nI p.2.2) u6).bind fun u8 => some (nI p.1, u8)
theorem l_102 {u : xS} (hI : Inv3 u) {k : Int32 → Int32 → Int32 → Int32 → Int32 → Int32 → Int32 → xS → Option (Int32 × xS)} {a mk : Int32} {o i : Nat} {p : Nat × Nat × Nat} (ho : o < nS u) (hi : i < nB u) (hp : fP i p) (hc : fcd u a mk i) : f_X12_foretell_102 k a mk (nI o) (nI p.1) (nI p.2.1) (nI p.2.2) (nI i) u = k a mk (nI o) (nI (ff u a mk o i p).1) (nI (ff u a mk o i p).2.1) (nI (ff u a mk o i p).2.2) (nI (i + 1)) u := by
  obtain ⟨s1, s2, s3, s4⟩ := hI.S
  have hB := hI.B.2.2.1
  obtain ⟨z1, z2, z3⟩ := hp
  obtain ⟨-, -, -, -, -, -, ⟨w, hw1, hw, h142⟩, -⟩ := hI.B.2.2.2.1 i hi
  have hpw := pw_le hI o hi
  have hit : nI (pw u o i) * nI 1000 / nI w = nI (its u o i) := by
    unfold its
    rw [h142, nv_nI (by omega)] at hpw ⊢
    rw [pk_mul, pk_div (by omega) (by omega) (by omega)]
  have hil := its_le hI o hi
  refine (it_loop (S := nS u) (F := fun N j x => f_X12_foretell_108 k N a mk (nI o) (nI p.1) (nI p.2.1) (nI p.2.2) (nI i) x (nI j) u) (fun s x => if wk u o 16 s = true then x + rd u 146 (24 * s + i) else x) (fun x => f_X12_foretell_108 k 1 a mk (nI o) (nI p.1) (nI p.2.1) (nI p.2.2) (nI i) x (nI (nS u)) u) (fun n j x hj => ?_) (fun n x => by simp (disch := omega) only [f_X12_foretell_108, s2, ite_yle]) (xN_lt (by omega))).trans ?_
  · simp (disch := omega) only [f_X12_foretell_108, f_X12_foretell_146, s2, ite_nle, (c_within hI.S ho hj).1, Option.bind_some, ite_10, l_24, pk_mul, nI_add, gd_nI, nI_cl, nI_1, Int32.add_zero]
    by_cases h : wk u o 16 j = true
    · rw [if_pos h, if_pos h]
    · rw [if_neg h, if_neg h]
  · have e : it (fun s x => if wk u o 16 s = true then x + rd u 146 (24 * s + i) else x) 0 (nS u) = nI (pw u o i) := by
      refine it_if.trans (isum_nI fun s hs => ?_)
      obtain ⟨z1, z2, -⟩ := hI.H.1 i s (by omega) (by omega)
      by_cases h : wk u o 16 s = true
      · rw [if_pos h, if_pos h, z2]
      · rw [if_neg h, if_neg h]
        rfl
    rw [e]
    have hx : xnz (nI w) = true := decide_eq_true (nI_ne0 (by omega) (by omega))
    unfold ff
    rw [if_pos hc]
    simp (disch := omega) only [f_X12_foretell_108, f_X12_foretell_188, f_X12_foretell_207, f_X12_foretell_212, s2, ite_yle, gd_nI, nI_cl, h142, hx, gd_t, l_1000, hit, nI_1]
    by_cases h0 : p.2.2 = 0
    · simp only [h0, nI_zero, if_true]
    · rw [if_neg (nI_ne0 (by omega) (by omega)), if_neg (nI_ne0 (by omega) (by omega)), imin_nI (by omega) (by omega), imax_nI (by omega) (by omega), if_neg h0, if_neg h0]
theorem c12_fore {u : xS} (hI : Inv3 u) (a mk : Int32) {o : Nat} (ho : o < nS u) : f_X12_foretell_53 xN a mk (nI o) 0 0 0 0 u = fE12 u (it (ff u a mk o) (0, 0, 0) (nB u)) := by
  have hB := hI.B.2.2.1
  rw [← nI_zero]
  refine it_loopP (S := nB u) (F := fun (N i : Nat) (p : Nat × Nat × Nat) => f_X12_foretell_53 N a mk (nI o) (nI p.1) (nI p.2.1) (nI p.2.2) (nI i) u) (a := (0, 0, 0)) (ff u a mk o) fP (fE12 u) ⟨Nat.zero_le _, Nat.zero_le _, Nat.le_refl _⟩ (fun i p hi h => ff_P hI a mk o hi h) (fun n i p hi h => ?_) (fun n p h => ?_) (xN_lt (by omega))
  · simp (disch := omega) only [f_X12_foretell_53, hI.B.2.1, ite_nle, gd_nI, nI_cl, f_X12_foretell_212, nI_1]
    have hs := srt hI.B hi
    by_cases hc : fcd u a mk i
    · rw [l_102 hI ho hi h hc, if_neg (Int32.not_lt.mpr (hs.mpr hc.1)), if_pos hc.2.1]
      by_cases c2 : mk = -1
      · rw [if_pos c2]
      · rw [if_neg c2, if_pos (hc.2.2.resolve_left c2)]
    · have e : ff u a mk o i p = p := by unfold ff; rw [if_neg hc]
      rw [e]
      by_cases c1 : rd u 144 i = -1
      · rw [if_pos (by rw [c1]; decide)]
      · rw [if_neg (Int32.not_lt.mpr (hs.mpr c1))]
        by_cases c2 : rd u 140 i = a
        · rw [if_pos c2, if_neg (fun q => hc ⟨c1, c2, Or.inl q⟩), if_neg (fun q => hc ⟨c1, c2, Or.inr q⟩)]
        · rw [if_neg c2]
  · simp (disch := omega) only [f_X12_foretell_53, hI.B.2.1, ite_yle, fE12]
    by_cases h0 : p.2.2 = 0
    · rw [h0, nI_zero, if_pos rfl, if_pos rfl]
    · rw [if_neg (nI_ne0 (by have := h.2.2; omega) (by have := h.2.2; omega)), if_neg h0]
def i1 (n x : Nat) : Int32 := if n = 0 then -1 else nI x
theorem c11_fore {u : xS} (hI : Inv3 u) (a mk : Int32) {o : Nat} (ho : o < nS u) : f_X11_foretell_44 xN a mk (nI o) (-1) (-1) 0 0 u = fE11 u (it (ff u a mk o) (0, 0, 0) (nB u)) := by
  have hB := hI.B.2.2.1
  rw [show f_X11_foretell_44 xN a mk (nI o) (-1) (-1) 0 0 u = f_X11_foretell_44 xN a mk (nI o) (i1 0 0) (i1 0 0) (nI 0) (nI 0) u by rw [nI_zero]; rfl]
  refine it_loopP (S := nB u) (F := fun (N i : Nat) (p : Nat × Nat × Nat) => f_X11_foretell_44 N a mk (nI o) (i1 p.2.2 p.1) (i1 p.2.2 p.2.1) (nI p.2.2) (nI i) u) (a := (0, 0, 0)) (ff u a mk o) fP (fE11 u) ⟨Nat.zero_le _, Nat.zero_le _, Nat.le_refl _⟩ (fun i p hi h => ff_P hI a mk o hi h) (fun n i p hi h => ?_) (fun n p h => ?_) (xN_lt (by omega))
  · obtain ⟨z1, z2, z3⟩ := h
    obtain ⟨g1, g2, g3, g4, g5, -, ⟨w, hw1, hw, h142⟩, -⟩ := hI.B.2.2.2.1 i hi
    have hpw := pw_le hI o hi
    have hil := its_le hI o hi
    have hit : f_X11_inThousand (nI (pw u o i)) (nI w) = some (nI (its u o i)) := by
      unfold its
      rw [h142, nv_nI (by omega)] at hpw ⊢
      exact inT (by omega) (by omega) (by omega)
    have hsrt : f_X0_isSorted u (nI i) = some (if rd u 144 i = -1 then 0 else 1) := by
      have hq : 0 ≤ nI i ∧ nI i < nI (nB u) := ⟨nI_lo (by omega), nI_lt hi (by omega)⟩
      simp (disch := omega) only [f_X0_isSorted, hasB hI.B.1, ite_10]
      rw [if_pos hq, gd_nI (by omega) (by omega), nI_cl (by omega), g5]
      by_cases h : rd u 144 i = -1
      · rw [if_pos h, if_pos h]
      · rw [if_neg h, if_neg h]
    have e101 : ∀ l m : Nat, l ≤ 1000 → m ≤ 1000 → f_X11_foretell_101 (f_X11_foretell_44 n) a mk (nI o) (i1 p.2.2 l) (i1 p.2.2 m) (nI p.2.2) (nI i) u = f_X11_foretell_44 n a mk (nI o) (nI (if p.2.2 = 0 then its u o i else min l (its u o i))) (nI (if p.2.2 = 0 then its u o i else max m (its u o i))) (nI (p.2.2 + 1)) (nI (i + 1)) u := by
      intro l m hl hm
      simp (disch := omega) only [f_X11_foretell_101, f_X11_foretell_140, f_X11_foretell_154, c_pw hI ho hi, Option.bind_some, gd_nI, nI_cl, g3, h142, hit, nI_1]
      unfold i1
      by_cases h0 : p.2.2 = 0
      · simp only [h0, nI_zero, if_true]
        have : imax (-1) (nI (its u o i)) = nI (its u o i) := by
          unfold imax
          rw [if_pos]
          rw [Int32.lt_iff_toInt_lt, nI_toInt (by omega)]
          have : (-1 : Int32).toInt = -1 := rfl
          omega
        rw [this]
      · rw [if_neg (nI_ne0 (by omega) (by omega)), if_neg h0, if_neg h0, if_neg h0, if_neg h0, imin_nI (by omega) (by omega), imax_nI (by omega) (by omega)]
    simp (disch := omega) only [f_X11_foretell_44, hI.B.1, ite_nle, gd_nI, nI_cl, hsrt, Option.bind_some, e101 _ _ z1 z2, f_X11_foretell_154, nI_1, g1, g2]
    by_cases hc : fcd u a mk i
    · have e : ff u a mk o i p = (if p.2.2 = 0 then its u o i else min p.1 (its u o i), if p.2.2 = 0 then its u o i else max p.2.1 (its u o i), p.2.2 + 1) := by unfold ff; rw [if_pos hc]
      have e2 : ∀ x, i1 (p.2.2 + 1) x = nI x := fun x => by unfold i1; rw [if_neg (by omega)]
      rw [e]
      dsimp only
      rw [e2, e2, if_neg hc.1, if_neg (by decide), if_pos hc.2.1]
      by_cases c2 : mk = -1
      · rw [if_pos c2]
      · rw [if_neg c2, if_pos (hc.2.2.resolve_left c2)]
    · have e : ff u a mk o i p = p := by unfold ff; rw [if_neg hc]
      rw [e]
      by_cases c1 : rd u 144 i = -1
      · rw [if_pos c1, if_pos rfl]
      · rw [if_neg c1, if_neg (by decide)]
        by_cases c2 : rd u 140 i = a
        · rw [if_pos c2, if_neg (fun q => hc ⟨c1, c2, Or.inl q⟩), if_neg (fun q => hc ⟨c1, c2, Or.inr q⟩)]
        · rw [if_neg c2]
  · simp (disch := omega) only [f_X11_foretell_44, hI.B.1, ite_yle, fE11, i1]
    by_cases h0 : p.2.2 = 0
    · rw [h0, nI_zero, if_pos rfl, if_pos rfl]
    · rw [if_neg (nI_ne0 (by have := h.2.2; omega) (by have := h.2.2; omega)), if_neg h0, if_neg h0, if_neg h0]
theorem mark_ok (a : Int32) : (a = -1 ∨ (0 ≤ a ∧ a ≤ 7)) ↔ (-1 ≤ a ∧ a ≤ 7) := by
  simp only [Int32.le_iff_toInt_le, ← Int32.toInt_inj, show (-1 : Int32).toInt = -1 from rfl, show (0 : Int32).toInt = 0 from rfl, show (7 : Int32).toInt = 7 from rfl]
  omega
theorem ff_fr {u u' : xS} (h : ag wR u u') (a mk : Int32) (o : Nat) : ff u' a mk o = ff u a mk o := by
  have q0 : nS u' = nS u := congrArg nv (h 135 1 rfl)
  have q1 : ∀ i, rd u' 144 i = rd u 144 i := fun i => h 144 i rfl
  have q2 : ∀ i, rd u' 140 i = rd u 140 i := fun i => h 140 i rfl
  have q3 : ∀ i, rd u' 141 i = rd u 141 i := fun i => h 141 i rfl
  have q4 : ∀ i, rd u' 142 i = rd u 142 i := fun i => h 142 i rfl
  have q5 : ∀ i, rd u' 146 i = rd u 146 i := fun i => h 146 i rfl
  have q6 : ∀ o n s, wk u' o n s = wk u o n s := fun o n s => wk_fr (ag_sm h rfl) o n s
  funext b p
  simp only [ff, fcd, its, pw, eH, q0, q1, q2, q3, q4, q5, q6]
theorem fE11_ok {u : xS} {p : Nat × Nat × Nat} (h : ¬ p.2.2 = 0) : ∃ u', fE11 u p = some (nI p.1, u') ∧ r11 u' [nI p.1, nI p.2.1, nI p.2.2] ∧ ag [(0, 13), (134, 0)] u u' := by
  obtain ⟨u1, t1, t2, t3⟩ := tell_ok (nI p.1) (r11_0 u) (by decide)
  obtain ⟨u2, t4, t5, t6⟩ := tell_ok (nI p.2.1) t2 (by simp)
  obtain ⟨u3, t7, t8, t9⟩ := tell_ok (nI p.2.2) t5 (by simp)
  refine ⟨u3, ?_, t8, ag_trans (ag_trans (ag_trans (ag_wr (ag_refl _ u) rfl) t3) t6) t9⟩
  unfold fE11
  rw [if_neg h, t1, Option.bind_some, t4, Option.bind_some, t7]
  rfl
theorem fE12_ok {u : xS} {p : Nat × Nat × Nat} (h : ¬ p.2.2 = 0) : ∃ u', fE12 u p = some (nI p.1, u') ∧ r12 u' [nI p.1, nI p.2.1, nI p.2.2] ∧ ag [(135, 44), (165, 0)] u u' := by
  obtain ⟨u1, t1, t2, t3⟩ := enters_ok (nI p.1) (r12_0 u) (by decide)
  obtain ⟨u2, t4, t5, t6⟩ := enters_ok (nI p.2.1) t2 (by simp)
  obtain ⟨u3, t7, t8, t9⟩ := enters_ok (nI p.2.2) t5 (by simp)
  refine ⟨u3, ?_, t8, ag_trans (ag_trans (ag_trans (ag_wr (ag_refl _ u) rfl) t3) t6) t9⟩
  unfold fE12
  rw [if_neg h, t1, Option.bind_some, t4, Option.bind_some, t7]
  rfl
theorem s_foretell : xS_foretell Inv := by
  intro u a1 a2 a3 hI
  apply st_W
  obtain ⟨s1, s2, s3, -⟩ := hI.S
  have n2 : rd (wr u 135 0 0) 135 1 = nI (nS u) := s2
  have e11 : f_X11_foretell a1 a2 a3 u = if (0 ≤ a1 ∧ a1 ≤ 3) ∧ (a2 = -1 ∨ (0 ≤ a2 ∧ a2 ≤ 7)) ∧ (0 ≤ a3 ∧ a3 < nI (nS u)) then f_X11_foretell_44 xN a1 a2 a3 (-1) (-1) 0 0 u else some (-1, u) := by
    simp only [f_X11_foretell, f_X11_foretell_19, f_X11_isSeller, f_X11_isMark, lies_eq, hasS s1, ite_10]
    by_cases h1 : 0 ≤ a1 ∧ a1 ≤ 3
    · by_cases h3 : 0 ≤ a3 ∧ a3 < nI (nS u)
      · by_cases h2 : a2 = -1
        · rw [if_pos h1, if_pos h2, if_pos h3, if_pos ⟨h1, Or.inl h2, h3⟩]
        · by_cases h4 : 0 ≤ a2 ∧ a2 ≤ 7
          · rw [if_pos h1, if_neg h2, if_pos h4, if_pos h3, if_pos ⟨h1, Or.inr h4, h3⟩]
          · rw [if_pos h1, if_neg h2, if_neg h4, if_neg (fun h => h.2.1.elim h2 h4)]
      · have hn : ¬ ((0 ≤ a1 ∧ a1 ≤ 3) ∧ (a2 = -1 ∨ (0 ≤ a2 ∧ a2 ≤ 7)) ∧ (0 ≤ a3 ∧ a3 < nI (nS u))) := fun h => h3 h.2.2
        rw [if_pos h1, if_neg h3, if_neg hn]
        simp only [ite_self]
    · rw [if_neg h1, if_neg (fun h => h1 h.1)]
  have e12 : ∀ w : xS, rd w 135 1 = nI (nS u) → f_X12_foretell a1 a2 a3 w = if (0 ≤ a1 ∧ a1 ≤ 3) ∧ (a2 = -1 ∨ (0 ≤ a2 ∧ a2 ≤ 7)) ∧ (0 ≤ a3 ∧ a3 < nI (nS u)) then f_X12_foretell_53 xN a1 a2 a3 0 0 0 0 (wr w 135 0 0) else some (-1, wr w 135 0 0) := by
    intro w hw
    have m2 : rd (wr w 135 0 0) 135 1 = nI (nS u) := hw
    simp (disch := omega) only [f_X12_foretell, L_m1, L_0, L_3, L_7, in_eq, isS m2, ite_10, mark_ok]
    by_cases h1 : 0 ≤ a1 ∧ a1 ≤ 3
    · by_cases h2 : -1 ≤ a2 ∧ a2 ≤ 7
      · by_cases h3 : 0 ≤ a3 ∧ a3 < nI (nS u)
        · rw [if_pos h1, if_pos h2, if_pos h3, if_pos ⟨h1, h2, h3⟩]
        · rw [if_pos h1, if_pos h2, if_neg h3, if_neg (fun h => h3 h.2.2)]
      · rw [if_pos h1, if_neg h2, if_neg (fun h => h2 h.2.1)]
    · rw [if_neg h1, if_neg (fun h => h1 h.1)]
  rw [e11]
  by_cases h : (0 ≤ a1 ∧ a1 ≤ 3) ∧ (a2 = -1 ∨ (0 ≤ a2 ∧ a2 ≤ 7)) ∧ (0 ≤ a3 ∧ a3 < nI (nS u))
  · rw [if_pos h]
    obtain ⟨s, hs, hsa⟩ := nI_ix (by omega) h.2.2.1 h.2.2.2
    rw [hsa, c11_fore hI.to3 a1 a2 hs]
    generalize hp : it (ff u a1 a2 s) (0, 0, 0) (nB u) = p
    by_cases h0 : p.2.2 = 0
    · have e : fE11 u p = some (-1, u) := by unfold fE11; rw [if_pos h0]
      rw [e, ok_some]
      have hJ := Inv_thr hI
      have eB : nB (wr u 135 0 0) = nB u := rfl
      have e2 := e12 u s2
      rw [if_pos h, hsa, c12_fore hJ.to3 a1 a2 (show s < nS (wr u 135 0 0) from hs), ff_fr (ag_sub rfl (ag_thr u)), eB, hp] at e2
      have e3 : fE12 (wr u 135 0 0) p = some (-1, wr u 135 0 0) := by unfold fE12; rw [if_pos h0]
      rw [e3] at e2
      exact ok_is e2 ⟨rfl, hJ⟩
    · obtain ⟨u1, t1, t2, t3⟩ := fE11_ok (u := u) h0
      refine ok_is t1 ?_
      dsimp only
      have a1' : ag wR u (wr u1 135 0 0) := ag_wr (ag_sub rfl t3) rfl
      have hJ : Inv3 (wr u1 135 0 0) := Inv3_fr a1' rfl rfl rfl hI.to3
      have eB : nB (wr u1 135 0 0) = nB u := congrArg nv (a1' 135 7 rfl)
      have eS : nS (wr u1 135 0 0) = nS u := congrArg nv (a1' 135 1 rfl)
      have e2 := e12 u1 ((t3 135 1 rfl).trans s2)
      rw [if_pos h, hsa, c12_fore hJ a1 a2 (by rw [eS]; exact hs), ff_fr a1', eB, hp] at e2
      obtain ⟨u2, y1, y2, y3⟩ := fE12_ok (u := wr u1 135 0 0) h0
      rw [y1] at e2
      refine ok_is e2 ⟨rfl, ?_⟩
      exact Inv_row hI (ag_trans a1' (ag_sub rfl y3)) (r11_fr (ag_sm (ag_trans (ag_wr (ag_refl [(135, 1), (135, 44), (165, 0)] u1) rfl) (ag_sub rfl y3)) rfl) t2) y2 (by simp)
  · rw [if_neg h, ok_some]
    refine ok_is ((e12 u s2).trans (if_neg h)) ⟨rfl, Inv_thr hI⟩
