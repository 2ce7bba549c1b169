/-! OF, COUNT, ROWS, LED, FORETELL -/
theorem srt {u : xS} (hB : i_B u) {b : Nat} (hb : b < nB u) : (0 ≤ rd u 144 b ↔ ¬ rd u 144 b = -1) := by
  obtain ⟨-, -, -, -, -, -, -, h⟩ := hB.2.2.2.1 b hb
  rcases h with h | ⟨k, hk, h⟩
  · rw [h]; simp
  · rw [h]
    constructor
    · intro _ q
      have := nI_lo (n := k) (by omega)
      rw [q] at this
      exact absurd this (by decide)
    · intro _
      exact nI_lo (by omega)
theorem had_sum {u : xS} (hS : i_S u) (hH : i_H u) {b : Nat} (hb : b < 24) : isum (fun s => rd u 146 (24 * s + b)) (nS u) = nI (nsum (eH u b) 16) := by
  rw [← isum_ext hS.2.2.1 (fun s h1 h2 => ?_)]
  · exact isum_nI fun s hs => (hH.1 b s hb hs).2.1
  · obtain ⟨-, z1, z2⟩ := hH.1 b s hb h2
    rw [z1, z2 (Or.inl h1)]
    rfl
theorem dust_eq {u : xS} (hI : Inv u) {b : Nat} (hb : b < nB u) : f_X12_dust u (nI b) = some (nI (nv (rd u 142 b) - nsum (eH u b) 16)) := by
  have hB3 := hI.B.2.2.1
  obtain ⟨-, -, -, -, -, -, ⟨w, hw1, hw, h142⟩, -⟩ := hI.B.2.2.2.1 b hb
  have hle := (hI.H.2 b hb).1
  rw [c_dust hI.S.2.1 hI.S.2.2.1 (show b < 24 by omega), had_sum hI.S hI.H (show b < 24 by omega)]
  rw [h142, nv_nI (by omega)] at hle ⊢
  rw [pk_sub hle]
theorem found_eq {u : xS} (hI : Inv u) {b : Nat} (hb : b < nB u) : f_X12_found u (nI b) = some (nI (nsum (eH u b) 16)) := by
  have hB3 := hI.B.2.2.1
  rw [c_found hI.S.2.1 hI.S.2.2.1 (show b < 24 by omega), had_sum hI.S hI.H (show b < 24 by omega)]
theorem of55_ne {u : xS} {v w a : Int32} (hw : ¬ w = 4) : f_X12_of_55 v w a u = f_X12_of_93 v w a u := by
  rw [f_X12_of_55, show xN = 999999 + 1 from rfl, f_X12_of_58, if_neg hw, ite_self]
theorem of20_ne {u : xS} {v w a : Int32} (hw : ¬ w = 3) : f_X12_of_20 xN v w a 0 u = f_X12_of_55 v w a u := by
  rw [show xN = 999999 + 1 from rfl, f_X12_of_20, if_neg hw, ite_self]
theorem of20_3 {u : xS} {S b : Nat} (h : rd u 135 1 = nI S) (hS : S ≤ 16) (hb : b < 24) : f_X12_of_20 xN (nI b) 3 0 0 u = some (isum (fun s => rd u 147 (24 * s + b)) S, u) := by
  refine (it_loop (S := S) (F := fun N i a => f_X12_of_20 N (nI b) 3 a (nI i) u) (fun s a => a + rd u 147 (24 * s + b)) (fun a => f_X12_of_55 (nI b) 3 a u) (fun n i a hi => ?_) (fun n a => ?_) (xN_lt (by omega))).trans ?_
  · simp (disch := omega) only [f_X12_of_20, h, ite_nle, if_true, l_24, pk_mul, nI_add, nI_1, gd_nI, nI_cl]
  · simp (disch := omega) only [f_X12_of_20, h, ite_yle]
  · rw [of55_ne (by decide)]
    rfl
theorem of20_4 {u : xS} {C b : Nat} (h : rd u 135 37 = nI C) (hC : C ≤ 20) (hb : b < 24) : f_X12_of_20 xN (nI b) 4 0 0 u = some (isum (fun c => rd u 161 (24 * c + b)) C, u) := by
  rw [of20_ne (by decide), f_X12_of_55]
  refine (it_loop (S := C) (F := fun N i a => f_X12_of_58 N (nI b) 4 a (nI i) u) (fun c a => a + rd u 161 (24 * c + b)) (fun a => f_X12_of_93 (nI b) 4 a u) (fun n i a hi => ?_) (fun n a => ?_) (xN_lt (by omega))).trans ?_
  · simp (disch := omega) only [f_X12_of_58, h, ite_nle, if_true, l_24, pk_mul, nI_add, nI_1, gd_nI, nI_cl]
  · simp (disch := omega) only [f_X12_of_58, h, ite_yle]
  · rfl
theorem ofBale_eq {u : xS} (hI : Inv u) {b : Nat} (hb : b < nB u) : f_X6_ofBale u (nI b) = some (isum (fun s => rd u 147 (24 * s + b)) (nS u)) := by
  have hB3 := hI.B.2.2.1
  have hl := eM_384 hI.L hI.B
  rw [c_ofBale hI.L.2.2.2.2.2.1 hl]
  rw [lots_sum hI.to4 (f := fun q => if q.2 = b then rd u 147 (24 * q.1 + q.2) else 0) (fun k q hq => ?_) (fun s b' hs hb' h0 => ?_)]
  · rw [isum_congr (g := fun b' => if b' = b then isum (fun s => rd u 147 (24 * s + b)) 16 else 0) (fun b' hb' => ?_), isum_one hb]
    · exact congrArg some (isum_ext hI.S.2.2.1 (fun s h1 h2 => lie_0 hI.L hI.H (by omega) h2 (Or.inl h1)))
    · dsimp only
      by_cases hbb : b' = b
      · subst hbb
        rw [if_pos rfl]
        exact isum_congr fun s _ => if_pos rfl
      · rw [if_neg hbb]
        exact isum_zero fun s _ => if_neg hbb
  · obtain ⟨z1, z2, z3⟩ := hI.L.2.2.2.2.2.2.1 k q hq
    have hq2 := eO_mem hI.L (eM_mem.mp (List.mem_of_getElem? hq)).1
    rw [z2, z3]
    by_cases hbb : q.2 = b
    · rw [if_pos hbb, if_pos (by rw [hbb])]
    · rw [if_neg hbb, if_neg (fun h => hbb (nI_inj (by omega) (by omega) h))]
  · dsimp only
    by_cases hbb : b' = b
    · rw [if_pos hbb]
      obtain ⟨z1, z2⟩ := hI.L.2.2.2.2.2.2.2.1 b' s hb' hs
      rw [z1, show eL u b' s = 0 by omega]
      rfl
    · rw [if_neg hbb]
theorem s_of : xS_of Inv := by
  intro u a1 a2 hI
  apply st_P
  have hJ := Inv_thr hI
  obtain ⟨b1, b2, b3, b4, b5⟩ := hI.B
  have n2 : rd (wr u 135 0 0) 135 7 = nI (nB u) := b2
  simp (disch := omega) only [f_X11_of, f_X12_of, hasB b1, isB n2, ite_10]
  by_cases h1 : 0 ≤ a1 ∧ a1 < nI (nB u)
  · rw [if_pos h1, if_pos h1]
    obtain ⟨b, hb, rfl⟩ := nI_ix (by omega) h1.1 h1.2
    obtain ⟨g1, g2, g3, g4, g5, -, -, -⟩ := b4 b hb
    by_cases c3 : a2 = 3
    · subst c3
      rw [of20_3 (u := wr u 135 0 0) (S := nS u) hI.S.2.1 hI.S.2.2.1 (by omega), if_neg (by decide), if_neg (by decide), if_neg (by decide), if_pos rfl, ofBale_eq hI hb]
      exact ok_is rfl (ok_is rfl ⟨rfl, hJ⟩)
    · by_cases c4 : a2 = 4
      · subst c4
        rw [of20_4 (u := wr u 135 0 0) (C := nC u) hI.C.2.1 hI.C.2.2.1 (by omega), if_neg (by decide), if_neg (by decide), if_neg (by decide), if_neg (by decide), if_pos rfl, c_clothOf hI.C.1 hI.C.2.2.1 (show b < 24 by omega)]
        refine ok_is rfl (ok_is rfl ⟨?_, hJ⟩)
        exact isum_congr fun c hc => ((hI.C.2.2.2.1 c b (by have := hI.C.2.2.1; omega) (by omega)).1).symm
      · rw [of20_ne c3, of55_ne c4]
        simp (disch := omega) only [f_X12_of_93, gd_nI, nI_cl, if_neg c3, if_neg c4]
        by_cases c0 : a2 = 0
        · rw [if_pos c0, if_pos c0]
          exact ok_is rfl (ok_is rfl ⟨g3.symm, hJ⟩)
        · rw [if_neg c0, if_neg c0]
          by_cases c1 : a2 = 1
          · rw [if_pos c1, if_pos c1]
            refine ok_is rfl ?_
            have e144 : rd (wr u 135 0 0) 144 b = rd u 144 b := rfl
            have q := (hI.H.2 b hb).2
            rw [e144]
            by_cases hs : rd u 144 b = -1
            · rw [if_neg (fun z => (srt hI.B hb).mp z hs)]
              rw [if_pos hs] at q
              rw [q]
              exact ok_is rfl ⟨rfl, hJ⟩
            · rw [if_pos ((srt hI.B hb).mpr hs), dust_eq hJ (show b < nB (wr u 135 0 0) from hb)]
              rw [if_neg hs] at q
              rw [q]
              exact ok_is rfl ⟨rfl, hJ⟩
          · rw [if_neg c1, if_neg c1]
            by_cases c2 : a2 = 2
            · rw [if_pos c2, if_pos c2]
              exact ok_is rfl (ok_is rfl ⟨g5.symm, hJ⟩)
            · rw [if_neg c2, if_neg c2]
              by_cases c5 : a2 = 5
              · rw [if_pos c5, if_pos c5]
                exact ok_is rfl (ok_is rfl ⟨(b5 b (by omega)).symm, hJ⟩)
              · rw [if_neg c5, if_neg c5]
                exact ok_is rfl (ok_is rfl ⟨rfl, hJ⟩)
  · simp only [if_neg h1, ok_some]
    exact ⟨trivial, hJ⟩
theorem lots_cnt {u : xS} (hI : Inv u) : isum (fun k => if rd u 77 k ≤ 0 then (0 : Int32) else 1) (eM u).length = isum (fun k => if rd u 147 k ≤ 0 then (0 : Int32) else 1) 384 := by
  rw [lots_sum hI.to4 (f := fun q => if rd u 147 (24 * q.1 + q.2) ≤ 0 then 0 else 1) (fun k q hq => by rw [(hI.L.2.2.2.2.2.2.1 k q hq).2.2]) (fun s b hs hb h0 => ?_)]
  · have e : isum (fun k => if rd u 147 k ≤ 0 then (0 : Int32) else 1) 384 = isum (fun b => isum (fun s => if rd u 147 (24 * s + b) ≤ 0 then (0 : Int32) else 1) 16) 24 := by
      rw [show (384 : Nat) = 24 * 16 from rfl, isum_grid, isum_swap]
    rw [e, isum_ext hI.B.2.2.1 (fun b h1 h2 => isum_zero fun s hs => ?_)]
    rw [lie_0 hI.L hI.H h2 hs (Or.inr (Or.inl h1))]
    rfl
  · obtain ⟨z1, z2⟩ := hI.L.2.2.2.2.2.2.2.1 b s hb hs
    dsimp only
    rw [z1, show eL u b s = 0 by omega]
    rfl
theorem s_count : xS_count Inv := by
  intro u a1 hI
  apply st_P
  have hJ := Inv_thr hI
  rw [f_X11_count, f_X12_count]
  by_cases c0 : a1 = 0
  · rw [if_pos c0, if_pos c0]
    exact ok_is rfl (ok_is rfl ⟨(hI.S.1.trans hI.S.2.1.symm).symm, hJ⟩)
  · rw [if_neg c0, if_neg c0]
    by_cases c1 : a1 = 1
    · rw [if_pos c1, if_pos c1]
      exact ok_is rfl (ok_is rfl ⟨(hI.P.1.trans hI.P.2.1.symm).symm, hJ⟩)
    · rw [if_neg c1, if_neg c1]
      by_cases c2 : a1 = 2
      · rw [if_pos c2, if_pos c2]
        exact ok_is rfl (ok_is rfl ⟨(hI.B.1.trans hI.B.2.1.symm).symm, hJ⟩)
      · rw [if_neg c2, if_neg c2]
        by_cases c3 : a1 = 3
        · rw [if_pos c3, if_pos c3]
          exact ok_is rfl (ok_is rfl ⟨(hI.K.1.trans hI.K.2.1.symm).symm, hJ⟩)
        · rw [if_neg c3, if_neg c3]
          by_cases c4 : a1 = 4
          · rw [if_pos c4, if_pos c4]
            exact ok_is rfl (ok_is rfl ⟨(hI.X.1.trans hI.X.2.1.symm).symm, hJ⟩)
          · rw [if_neg c4, if_neg c4]
            by_cases c5 : a1 = 5
            · rw [if_pos c5, if_pos c5]
              rw [c_withPounds hI.L.2.2.2.2.2.1 (eM_384 hI.L hI.B), c_lots]
              exact ok_is rfl (ok_is rfl ⟨(lots_cnt hI).symm, hJ⟩)
            · rw [if_neg c5, if_neg c5]
              by_cases c6 : a1 = 6
              · rw [if_pos c6, if_pos c6]
                exact ok_is rfl (ok_is rfl ⟨(hI.C.1.trans hI.C.2.1.symm).symm, hJ⟩)
              · rw [if_neg c6, if_neg c6]
                by_cases c7 : a1 = 7
                · rw [if_pos c7, if_pos c7]
                  exact ok_is rfl (ok_is rfl ⟨(hI.D.1.trans hI.D.2.1.symm).symm, hJ⟩)
                · rw [if_neg c7, if_neg c7]
                  by_cases c8 : a1 = 8
                  · rw [if_pos c8, if_pos c8]
                    exact ok_is rfl (ok_is rfl ⟨(hI.A.1.trans hI.A.2.1.symm).symm, hJ⟩)
                  · rw [if_neg c8, if_neg c8]
                    by_cases c9 : a1 = 9
                    · rw [if_pos c9, if_pos c9]
                      exact ok_is rfl (ok_is rfl ⟨(hI.W.1.trans hI.W.2.1.symm).symm, hJ⟩)
                    · rw [if_neg c9, if_neg c9]
                      by_cases c10 : a1 = 10
                      · rw [if_pos c10, if_pos c10]
                        exact ok_is rfl (ok_is rfl ⟨(hI.T.1.trans hI.T.2.1.symm).symm, hJ⟩)
                      · rw [if_neg c10, if_neg c10]
                        by_cases c11 : a1 = 11
                        · rw [if_pos c11, if_pos c11]
                          exact ok_is rfl (ok_is rfl ⟨(hI.K.2.2.2.1).symm, hJ⟩)
                        · rw [if_neg c11, if_neg c11]
                          by_cases c12 : a1 = 12
                          · rw [if_pos c12, if_pos c12]
                            rw [c_inAll, c_partsInAll (u := wr u 135 0 0) (S := nS u) hI.S.2.1 hI.S.2.2.1]
                            exact ok_is rfl (ok_is rfl ⟨(pia hI.S hI.F).symm, hJ⟩)
                          · rw [if_neg c12, if_neg c12]
                            exact ok_is rfl (ok_is rfl ⟨rfl, hJ⟩)
