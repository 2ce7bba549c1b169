/-! SHARE: both answers -/
abbrev kA0 : List (Nat × Nat) := [(121, 7), (135, 55), (123, 0), (127, 0), (128, 0), (129, 0), (130, 0), (131, 0), (172, 0), (173, 0), (174, 0), (175, 0), (176, 0), (177, 0)]
theorem A_sh {u u' : xS} (h : sm kA0 u u') (h180 : ∀ l, l < 4 → rd u' 180 l = 0) (H : i_A u) : i_A u' := by
  have q0 : rd u' 121 6 = rd u 121 6 := h 121 6 rfl
  have q1 : rd u' 135 54 = rd u 135 54 := h 135 54 rfl
  have m_nQ : nQ u' = nQ u := congrArg nv q1
  have q2 : ∀ i, rd u' 127 i = rd u 127 i := fun i => h 127 i rfl
  have q3 : ∀ i, rd u' 128 i = rd u 128 i := fun i => h 128 i rfl
  have q4 : ∀ i, rd u' 129 i = rd u 129 i := fun i => h 129 i rfl
  have q5 : ∀ i, rd u' 130 i = rd u 130 i := fun i => h 130 i rfl
  have q6 : ∀ i, rd u' 131 i = rd u 131 i := fun i => h 131 i rfl
  have q7 : ∀ i, rd u' 172 i = rd u 172 i := fun i => h 172 i rfl
  have q8 : ∀ i, rd u' 173 i = rd u 173 i := fun i => h 173 i rfl
  have q9 : ∀ i, rd u' 174 i = rd u 174 i := fun i => h 174 i rfl
  have q10 : ∀ i, rd u' 175 i = rd u 175 i := fun i => h 175 i rfl
  have q11 : ∀ i, rd u' 176 i = rd u 176 i := fun i => h 176 i rfl
  have q12 : ∀ i, rd u' 177 i = rd u 177 i := fun i => h 177 i rfl
  unfold i_A at *
  simp only [m_nQ, q0, q1, q2, q3, q4, q5, q6, q7, q8, q9, q10, q11, q12]
  refine ⟨H.1, H.2.1, H.2.2.1, fun l hl => ⟨(H.2.2.2.1 l hl).1, (H.2.2.2.1 l hl).2.1, h180 l hl, fun s hs => ?_⟩, H.2.2.2.2⟩
  rw [h (123 + l) s (by rw [lc_123 hl]; rfl)]
  exact (H.2.2.2.1 l hl).2.2.2 s hs
theorem Inv_sh {u u' : xS} (H : Inv u) (hag : ag ((180, 0) :: wRX) u u') (hA : i_A u') {l : List Int32} (h1 : r11 u' l) (h2 : r12 u' l) (hl : l.length ≤ 48) : Inv u' :=
  ⟨fr_S (ag_sm hag rfl) H.S, fr_P (ag_sm hag rfl) H.P, fr_B (ag_sm hag rfl) H.B, fr_H (ag_sm hag rfl) H.H, fr_L (ag_sm hag rfl) H.L, fr_K (ag_sm hag rfl) H.K, fr_T (ag_sm hag rfl) H.T, fr_X (ag_sm hag rfl) H.X, fr_F (ag_sm hag rfl) H.F, fr_C (ag_sm hag rfl) H.C, fr_D (ag_sm hag rfl) H.D, hA, i_W_of h1 h2 hl⟩
def shl (b : Nat → Nat) (n : Nat) : List Int32 := (List.range n).map fun j => cd (b j)
theorem shl_len (b : Nat → Nat) (n : Nat) : (shl b n).length = n := by unfold shl; simp
theorem shl_s (b : Nat → Nat) (n : Nat) : shl b (n + 1) = shl b n ++ [cd (b n)] := by
  unfold shl
  rw [List.range_succ, List.map_append]
  rfl
theorem dg_cd {x y : Nat} (h : dg x = dg y) : cd x = cd y := by
  unfold dg at h
  unfold cd
  by_cases c1 : x < 4
  · by_cases c2 : y < 4
    · rw [if_pos c1, if_pos c2] at h
      rw [if_pos c1, if_pos c2, show x = y by omega]
    · rw [if_pos c1, if_neg c2] at h
      omega
  · by_cases c2 : y < 4
    · rw [if_neg c1, if_pos c2] at h
      omega
    · rw [if_neg c1, if_neg c2]
theorem land_ok {S D j Q : Nat} {a : Nat → Nat} (hj : j < Q) (hQ : Q ≤ 8) (hS : S ≤ 200000000) (hD : D = digs a Q) : f_X4_landOf (lN (S * 390625 + D)) (nI j) = some (cd (a j)) := by
  have d1 := digs_lt8 (a := a) hQ
  have d2 := digs_get (a := a) hj hQ
  have p5 := p5_le j
  have p0 : 0 < 5 ^ (7 - j) := Nat.pow_pos (by decide)
  have e1 : lrem (lN (S * 390625 + D)) (390625 : Int64) = lN D := by
    have := pk_lRem (a := S * 390625 + D) (b := 390625) (by omega) (by omega) (by omega)
    rw [show (S * 390625 + D) % 390625 = D by omega] at this
    exact this
  have e2 : lrem (lN (D / 5 ^ (7 - j))) (5 : Int64) = lN (dg (a j)) := by
    have hle : D / 5 ^ (7 - j) ≤ D := Nat.div_le_self _ _
    have := pk_lRem (a := D / 5 ^ (7 - j)) (b := 5) (by omega) (by omega) (by omega)
    rw [hD, d2] at this
    rw [hD]
    exact this
  have e3 : f_X11_lies (nI j) 0 7 = 1 := by
    rw [lies_eq, if_pos ⟨nI_lo (by omega), nI_le (b := 7) (by omega) (by omega)⟩]
  have e4 : xnzJ (lN (5 ^ (7 - j))) = true := by
    unfold xnzJ
    refine decide_eq_true fun z => ?_
    have := (pk_lEQ (a := 5 ^ (7 - j)) (b := 0) (by omega) (by omega)).mp z
    omega
  rw [f_X4_landOf, e3, if_neg (by decide), gd_nI (by omega) (by omega), nI_cl (by omega), xWt_eq j (by omega), nI_l (by omega), e4, gd_t, e1, pk_lDiv (by omega) p0 (by omega), e2, lN_i]
  have h4 := dg_le (a j)
  unfold dg cd at *
  by_cases c : a j < 4
  · rw [if_pos c, if_pos c, if_neg (nI_ne0 (by omega) (by omega)), l_4, nI_sub (by omega), show 4 - (4 - a j) = a j by omega]
  · rw [if_neg c, if_neg c, if_pos (by decide)]
theorem tells15 {S Q : Nat} {a : Nat → Nat} (hQ : Q ≤ 8) (hS : S ≤ 200000000) : ∀ (d j N : Nat) (w : xS), j + d = Q → d < N → rd w 121 6 = nI Q → r11 w (shl a j) → ∃ w', f_X11_share_15 N (lN (S * 390625 + digs a Q)) (nI j) w = some (nI S, w') ∧ r11 w' (shl a Q) ∧ ag [(0, 13), (134, 0)] w w' := by
  intro d
  induction d with
  | zero =>
    intro j N w h1 h2 h3 h4
    obtain ⟨N, rfl⟩ : ∃ M, N = M + 1 := ⟨N - 1, by omega⟩
    have ej : j = Q := by omega
    subst ej
    have d1 := digs_lt8 (a := a) hQ
    refine ⟨w, ?_, h4, ag_refl _ _⟩
    have e : lN (S * 390625 + digs a j) / (390625 : Int64) = lN S := by
      have := pk_lDiv (a := S * 390625 + digs a j) (b := 390625) (by omega) (by omega) (by omega)
      rw [show (S * 390625 + digs a j) / 390625 = S by omega] at this
      exact this
    rw [f_X11_share_15, h3, if_pos (nI_le (Nat.le_refl _) (by omega)), f_X4_sumOf, e, lN_i]
  | succ d ih =>
    intro j N w h1 h2 h3 h4
    obtain ⟨N, rfl⟩ : ∃ M, N = M + 1 := ⟨N - 1, by omega⟩
    obtain ⟨w1, t1, t2, t3⟩ := tell_ok (cd (a j)) h4 (by rw [shl_len]; omega)
    rw [← shl_s] at t2
    obtain ⟨w2, y1, y2, y3⟩ := ih (j + 1) N w1 (by omega) (by omega) ((t3 121 6 rfl).trans h3) t2
    refine ⟨w2, ?_, y2, ag_trans t3 y3⟩
    rw [f_X11_share_15, h3, if_neg (nI_ge (by omega) (by omega)), land_ok (j := j) (a := a) (by omega) hQ hS rfl, Option.bind_some, t1, Option.bind_some, nI_1]
    exact y1
theorem enters23 {Q : Nat} {b : Nat → Nat} (hQ : Q ≤ 8) : ∀ (d j N : Nat) (w : xS), j + d = Q → d < N → rd w 135 54 = nI Q → (∀ j, j < Q → rd w 179 j = cd (b j)) → r12 w (shl b j) → ∃ w', f_X12_share_23 N (nI j) w = some (rd w 135 62, w') ∧ r12 w' (shl b Q) ∧ ag [(135, 44), (165, 0)] w w' := by
  intro d
  induction d with
  | zero =>
    intro j N w h1 h2 h3 h5 h4
    obtain ⟨N, rfl⟩ : ∃ M, N = M + 1 := ⟨N - 1, by omega⟩
    have ej : j = Q := by omega
    subst ej
    refine ⟨w, ?_, h4, ag_refl _ _⟩
    rw [f_X12_share_23, h3, if_pos (nI_le (Nat.le_refl _) (by omega))]
  | succ d ih =>
    intro j N w h1 h2 h3 h5 h4
    obtain ⟨N, rfl⟩ : ∃ M, N = M + 1 := ⟨N - 1, by omega⟩
    obtain ⟨w1, t1, t2, t3⟩ := enters_ok (cd (b j)) h4 (by rw [shl_len]; omega)
    rw [← shl_s] at t2
    obtain ⟨w2, y1, y2, y3⟩ := ih (j + 1) N w1 (by omega) (by omega) ((t3 135 54 rfl).trans h3) (fun i hi => (t3 179 i rfl).trans (h5 i hi)) t2
    refine ⟨w2, ?_, y2, ag_trans t3 y3⟩
    rw [f_X12_share_23, h3, if_neg (nI_ge (by omega) (by omega)), gd_nI (by omega) (by omega), nI_cl (by omega), h5 j (by omega), t1, Option.bind_some, nI_1, y1, show rd w1 135 62 = rd w 135 62 from t3 135 62 rfl]
theorem vv_digs {u : xS} {a b : Nat → Nat} {Q : Nat} (hQ : Q ≤ 8) (h : vv u a Q = vv u b Q) : smN u a Q = smN u b Q ∧ digs a Q = digs b Q := by
  have d1 := digs_lt8 (a := a) hQ
  have d2 := digs_lt8 (a := b) hQ
  unfold vv at h
  omega
theorem s_share : xS_share Inv := by
  intro u hI
  have hA := hI.A
  have hQ : nQ u ≤ 8 := hA.2.2.1
  obtain ⟨v, w, b1, b2, b3⟩ := best_ok hA
  obtain ⟨a, fa, ea⟩ : ∃ a, FE u a ∧ v = vv u a (nQ u) := by
    obtain ⟨⟨a, f, e⟩, -⟩ := b3
    exact ⟨a, FE_Fea.mpr f, by rw [← e, Va_vv]⟩
  have hs : smN u a (nQ u) ≤ 200000000 := by
    have := smN_le hA a (nQ u) (Nat.le_refl _) fa.1
    omega
  obtain ⟨u1, t1, t2, t3⟩ := tells15 (a := a) (S := smN u a (nQ u)) hQ hs (nQ u) 0 xN (wr w 0 12 0) (by omega) (xN_lt (by omega)) ((rd_wr_ne (by omega)).trans ((b2 121 6).trans hA.1)) (r11_0 w)
  obtain ⟨z, hz⟩ : ∃ z, z = wr (wr u1 135 0 0) 135 62 (-1) := ⟨_, rfl⟩
  have g0 : ag wRX u w := fun c j _ => b2 c j
  have g1 : ag wRX u z := by
    rw [hz]
    exact ag_wr (ag_wr (ag_trans (ag_wr g0 rfl) (ag_sub rfl t3)) rfl) rfl
  have sA : sm kA u z := ag_sm g1 rfl
  have hAz : i_A z := fr_A sA hA
  have eQ : nQ z = nQ u := congrArg nv (sA 135 54 rfl)
  have egv : ∀ l i, gv z l i = gv u l i := fun l i => by
    unfold gv
    rw [sA 174 i rfl, sA 175 i rfl, sA 176 i rfl, sA 177 i rfl, sA 172 _ rfl, sA 172 _ rfl]
  have ekG : kG z = kG u := by funext l i; unfold kG; rw [egv]
  have egN : gN z = gN u := by funext l i; unfold gN; rw [egv]
  have erm : rmN z = rmN u := by funext l; unfold rmN; rw [sA 173 l rfl]
  have egG : gG z = gG u := by funext l i; unfold gG; rw [egN]
  have esm : smN z = smN u := by funext a n; unfold smN; rw [egN]
  have evv : vv z = vv u := by funext a n; unfold vv; rw [esm]
  have hFE : ∀ e, FE z e ↔ FE u e := fun e => by unfold FE; rw [ekG, erm, eQ]
  have hpr : PR z 0 a none z := ⟨⟨fun _ _ _ _ _ _ => rfl, fun j hj => by omega, fun l hl => (hAz.2.2.2.1 l hl).2.2.1⟩, by rw [hz]; rfl, fun old ho => (by cases ho), fun j hj => by omega, fun l hl => Nat.zero_le _⟩
  obtain ⟨u2, b', x1, x2, x3, x4, x5, -⟩ := shares12 hAz (nQ z) 0 12 a none z (by omega) (by omega) hpr
  have fb : FE u b' := by
    rcases x4 with x4 | x4
    · cases x4
    · exact (hFE b').mp x4.2
  have hO : Opt (kG u) (rmN u) (gG u) (nQ u) 4 (fun _ => true) (vv u b' (nQ u)) := by
    refine ⟨⟨b', FE_Fea.mp fb, Va_vv _ _ _⟩, fun e he => ?_⟩
    rw [Va_vv]
    have := x5 e (fun j hj => by omega) ((hFE e).mpr (FE_Fea.mpr he))
    rw [evv, eQ] at this
    exact this
  have hev := Opt_uni b3 hO
  rw [ea] at hev
  obtain ⟨es, ed⟩ := vv_digs hQ hev
  have el : shl b' (nQ u) = shl a (nQ u) := by
    unfold shl
    refine List.map_congr_left fun j hj => ?_
    have hj : j < nQ u := List.mem_range.mp hj
    refine dg_cd ?_
    rw [← digs_get hj hQ, ← digs_get hj hQ, ed]
  obtain ⟨v1, v2, v3⟩ := x3
  rw [eQ, esm] at v1
  have e54 : rd u2 135 54 = nI (nQ u) := (x2.1 135 54 (by decide) (by decide) (by decide) (by decide)).trans ((g1 135 54 rfl).trans hA.2.1)
  obtain ⟨u3, y1, y2, y3⟩ := enters23 (b := b') hQ (nQ u) 0 xN (wr u2 135 43 0) (by omega) (xN_lt (by omega)) ((rd_wr_ne (by omega)).trans e54) (fun j hj => (rd_wr_ne (by omega)).trans (v2 j (by omega))) (r12_0 u2)
  refine ⟨nI (smN u a (nQ u)), u1, u3, ?_, ?_, ?_⟩
  · rw [f_X11_share, b1, Option.bind_some]
    dsimp only
    have e : lN v = lN (smN u a (nQ u) * 390625 + digs a (nQ u)) := by rw [ea]; rfl
    rw [e]
    exact t1
  · have e0 : f_r_X12_shares 0 0 z = some u2 := x1
    rw [f_X12_share, ← hz, e0, Option.bind_some]
    have e1 : rd (wr u2 135 43 0) 135 62 = nI (smN u a (nQ u)) := by
      rw [rd_wr_ne (by omega), v1, es]
    rw [e1] at y1
    exact y1
  · have g2 : ag ((180, 0) :: wRX) z u2 := fun c j hc => x2.1 c j (fun e => by subst e; cases hc) (fun e => by subst e; cases hc) (fun e => by subst e; cases hc) (fun e => by obtain ⟨e1, e2⟩ := e; subst e1 e2; cases hc)
    have g3 : ag ((180, 0) :: wRX) u u3 := ag_trans (ag_trans (ag_sub rfl g1) g2) (ag_trans (ag_wr (ag_refl _ _) rfl) (ag_sub rfl y3))
    have a3 : ag [(135, 44), (165, 0)] u2 u3 := ag_trans (ag_wr (ag_refl _ _) rfl) y3
    have hA3 : i_A u3 := A_sh (ag_sm g3 rfl) (fun l hl => (a3 180 l rfl).trans (x2.2.2 l hl)) hA
    refine Inv_sh hI g3 hA3 (l := shl a (nQ u)) ?_ ?_ (by rw [shl_len]; omega)
    · refine r11_fr (u := u1) (fun c j hc => ?_) t2
      have n1 : inW ((180, 0) :: wX) (lc c j) = false := inW_no (K := [(0, 13), (134, 0)]) rfl hc
      have n2 : inW [(135, 44), (165, 0)] (lc c j) = false := inW_no (K := [(0, 13), (134, 0)]) rfl hc
      have n3 : ag ((180, 0) :: wX) u1 z := by
        rw [hz]
        exact ag_wr (ag_wr (ag_refl _ _) rfl) rfl
      have n4 : ag ((180, 0) :: wX) z u2 := fun c j hc => x2.1 c j (fun e => by subst e; cases hc) (fun e => by subst e; cases hc) (fun e => by subst e; cases hc) (fun e => by obtain ⟨e1, e2⟩ := e; subst e1 e2; cases hc)
      exact (a3 c j n2).trans ((n4 c j n1).trans (n3 c j n1))
    · rw [← el]
      exact y2
