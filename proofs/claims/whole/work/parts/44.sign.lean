/-! SIGN -/
def bty (v s : Int32) : Int32 := (v >>> (s &&& 31)) &&& 255
theorem bty_ex (v s : Int32) : ∃ c, c < 256 ∧ bty v s = nI c := pk_andE (v >>> (s &&& 31)) (m := 255) 8 (by decide)
theorem sg11 {u : xS} {v s : Int32} {n T : Nat} (h : rd u 52 1 = nI T) (hT : T < 100) (hs : ¬ s < 0) : f_X9_add_3 (n + 1) v s u = f_X9_add_3 n v (s + -8) (wr (wr u 53 T (bty v s)) 52 1 (nI (T + 1))) := by
  rw [f_X9_add_3, if_neg hs, h, if_neg (show ¬ (100 : Int32) ≤ nI T from nI_ge (b := 100) hT (by omega)), gd_nI hT (by omega), nI_cl (by omega), nI_1]
  rfl
theorem sg12 {u : xS} {v k s : Int32} {n T j : Nat} (h : rd u 135 32 = nI T) (hT : T + j < 100) (hk : k = nI j) (hj : j < 4) (hs : 24 - 8 * k = s) : f_X12_sign_18 (n + 1) v k u = f_X12_sign_18 n v (nI (j + 1)) (wr u 159 (T + j) (bty v s)) := by
  subst hs hk
  rw [f_X12_sign_18, if_neg (show ¬ (4 : Int32) ≤ nI j from nI_ge (b := 4) hj (by omega)), h, nI_add, gd_nI (by omega) (by omega), nI_cl (by omega), nI_1]
  rfl
theorem s_sign : xS_sign Inv := by
  intro u v hI
  apply st_W
  have hxN : xN = 999995 + 1 + 1 + 1 + 1 + 1 := rfl
  obtain ⟨t1, t2, t3, t4⟩ := hI.T
  have hJ := Inv_thr hI
  generalize hT : nT u = T at t1 t2 t3 t4
  by_cases h : T ≤ 96
  · have e11 : f_X11_sign v u = some (nI (T + 4), wr (wr (wr (wr (wr (wr (wr (wr u 53 T (bty v 24)) 52 1 (nI (T + 1))) 53 (T + 1) (bty v 16)) 52 1 (nI (T + 2))) 53 (T + 2) (bty v 8)) 52 1 (nI (T + 3))) 53 (T + 3) (bty v 0)) 52 1 (nI (T + 4))) := by
      rw [f_X11_sign, t1, show (4 : Int32) = nI 4 from rfl, nI_add, if_neg (show ¬ (100 : Int32) < nI (T + 4) from nI_nlt (a := 100) (by omega) (by omega)), f_X9_add, hxN]
      rw [sg11 t1 (by omega) (by decide), sg11 (T := T + 1) rfl (by omega) (by decide), sg11 (T := T + 2) rfl (by omega) (by decide), sg11 (T := T + 3) rfl (by omega) (by decide), f_X9_add_3, if_pos (by decide)]
      rfl
    have e12 : ∀ w : xS, rd w 135 32 = nI T → f_X12_sign v w = some (nI (T + 4), wr (wr (wr (wr (wr (wr w 135 0 0) 159 (T + 0) (bty v 24)) 159 (T + 1) (bty v 16)) 159 (T + 2) (bty v 8)) 159 (T + 3) (bty v 0)) 135 32 (nI (T + 4))) := by
      intro w hw
      rw [f_X12_sign, hw, if_pos (show nI T ≤ (96 : Int32) from nI_le (b := 96) h (by omega)), hxN]
      have k0 : rd (wr w 135 0 0) 135 32 = nI T := hw
      have k1 : rd (wr (wr w 135 0 0) 159 (T + 0) (bty v 24)) 135 32 = nI T := hw
      have k2 : rd (wr (wr (wr w 135 0 0) 159 (T + 0) (bty v 24)) 159 (T + 1) (bty v 16)) 135 32 = nI T := hw
      have k3 : rd (wr (wr (wr (wr w 135 0 0) 159 (T + 0) (bty v 24)) 159 (T + 1) (bty v 16)) 159 (T + 2) (bty v 8)) 135 32 = nI T := hw
      rw [sg12 (k := 0) (T := T) (j := 0) (s := 24) k0 (by omega) rfl (by omega) (by decide), sg12 (T := T) (j := 1) (s := 16) k1 (by omega) rfl (by omega) (by decide), sg12 (T := T) (j := 2) (s := 8) k2 (by omega) rfl (by omega) (by decide), sg12 (T := T) (j := 3) (s := 0) k3 (by omega) rfl (by omega) (by decide), f_X12_sign_18, if_pos (show (4 : Int32) ≤ nI (3 + 1) from Int32.le_refl _)]
      have e : rd (wr (wr (wr (wr (wr w 135 0 0) 159 (T + 0) (bty v 24)) 159 (T + 1) (bty v 16)) 159 (T + 2) (bty v 8)) 159 (T + 3) (bty v 0)) 135 32 = nI T := hw
      rw [e, show (4 : Int32) = nI 4 from rfl, nI_add]
    refine ok_is e11 (ok_is (e12 _ t2) ⟨rfl, ?_⟩)
    generalize hu : wr (wr (wr (wr (wr (wr (wr (wr (wr (wr (wr (wr (wr (wr u 53 T (bty v 24)) 52 1 (nI (T + 1))) 53 (T + 1) (bty v 16)) 52 1 (nI (T + 2))) 53 (T + 2) (bty v 8)) 52 1 (nI (T + 3))) 53 (T + 3) (bty v 0)) 52 1 (nI (T + 4))) 135 0 0) 159 (T + 0) (bty v 24)) 159 (T + 1) (bty v 16)) 159 (T + 2) (bty v 8)) 159 (T + 3) (bty v 0)) 135 32 (nI (T + 4)) = u2
    have hag : ag [(52, 2), (53, 0), (135, 1), (135, 33), (159, 0)] u u2 := by
      rw [← hu]
      repeat first | exact ag_refl _ _ | refine ag_wr ?_ rfl
    have g53 : ∀ j, rd u2 53 j = if j = T + 3 then bty v 0 else if j = T + 2 then bty v 8 else if j = T + 1 then bty v 16 else if j = T then bty v 24 else rd u 53 j := by
      intro j
      rw [← hu]
      simp only [rd_wr, Nat.reduceEqDiff, if_true, if_false]
    have g159 : ∀ j, rd u2 159 j = if j = T + 3 then bty v 0 else if j = T + 2 then bty v 8 else if j = T + 1 then bty v 16 else if j = T then bty v 24 else rd u 159 j := by
      intro j
      rw [← hu]
      simp only [rd_wr, Nat.reduceEqDiff, if_true, if_false, Nat.add_zero]
    refine ⟨fr_S (ag_sm hag rfl) hI.S, fr_P (ag_sm hag rfl) hI.P, fr_B (ag_sm hag rfl) hI.B, fr_H (ag_sm hag rfl) hI.H, fr_L (ag_sm hag rfl) hI.L, fr_K (ag_sm hag rfl) hI.K, ?_, fr_X (ag_sm hag rfl) hI.X, fr_F (ag_sm hag rfl) hI.F, fr_C (ag_sm hag rfl) hI.C, fr_D (ag_sm hag rfl) hI.D, fr_A (ag_sm hag rfl) hI.A, fr_W (ag_sm hag rfl) hI.W⟩
    have e1 : rd u2 52 1 = nI (T + 4) := by rw [← hu]; rfl
    have e2 : rd u2 135 32 = nI (T + 4) := by rw [← hu]; rfl
    have e3 : nT u2 = T + 4 := nv_of e2 (by omega)
    unfold i_T
    rw [e3]
    refine ⟨e1, e2, by omega, fun j hj => ?_⟩
    rw [g53, g159]
    by_cases h3 : j = T + 3
    · rw [if_pos h3, if_pos h3]
      exact ⟨rfl, bty_ex _ _⟩
    · by_cases h2 : j = T + 2
      · rw [if_neg h3, if_pos h2, if_neg h3, if_pos h2]
        exact ⟨rfl, bty_ex _ _⟩
      · by_cases h1 : j = T + 1
        · rw [if_neg h3, if_neg h2, if_pos h1, if_neg h3, if_neg h2, if_pos h1]
          exact ⟨rfl, bty_ex _ _⟩
        · by_cases h0 : j = T
          · rw [if_neg h3, if_neg h2, if_neg h1, if_pos h0, if_neg h3, if_neg h2, if_neg h1, if_pos h0]
            exact ⟨rfl, bty_ex _ _⟩
          · rw [if_neg h3, if_neg h2, if_neg h1, if_neg h0, if_neg h3, if_neg h2, if_neg h1, if_neg h0]
            exact t4 j (by omega)
  · have e11 : f_X11_sign v u = some (-1, u) := by
      rw [f_X11_sign, t1, show (4 : Int32) = nI 4 from rfl, nI_add, if_pos (show (100 : Int32) < nI (T + 4) from nI_lt (a := 100) (by omega) (by omega))]
    have e12 : f_X12_sign v u = some (-1, wr u 135 0 0) := by
      rw [f_X12_sign, t2, if_neg (show ¬ nI T ≤ (96 : Int32) from nI_ge (a := 96) (by omega) (by omega))]
    exact ok_is e11 (ok_is e12 ⟨rfl, hJ⟩)
/-! CALLED -/
/-- how often others called s, where a called x -/
abbrev cA (u : xS) (a x s : Int32) (i : Nat) : Int32 := if rd u 167 i = a ∧ rd u 169 i = x ∧ rd u 170 i = s then 1 else 0
abbrev cB (u : xS) (a x s : Int32) (i : Nat) : Int32 := if rd u 168 i = a ∧ rd u 170 i = x ∧ rd u 169 i = s then 1 else 0
def cN (u : xS) (a x : Int32) (s n : Nat) : Int32 := isum (fun i => cA u a x (nI s) i + cB u a x (nI s) i) n
