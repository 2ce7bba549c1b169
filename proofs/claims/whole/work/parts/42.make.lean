/-! MAKE -/
/-- whether there is so much of the first n sorts for each part -/
def enb (u : xS) (q : Int32) : Nat → Bool
  | 0 => true
  | s + 1 => enb u q s && decide (rd u 160 s * q ≤ sto u s)
theorem enb_mono {u : xS} {q : Int32} {i : Nat} (h : enb u q i = false) : ∀ n, i ≤ n → enb u q n = false := by
  intro n
  induction n with
  | zero =>
    intro hn
    have : i = 0 := by omega
    subst this
    exact h
  | succ n ih =>
    intro hn
    by_cases e : i = n + 1
    · rw [← e]; exact h
    · rw [enb, ih (by omega)]
      rfl
theorem c_hasFor {u : xS} (hI : Inv u) (q : Int32) : f_X11_hasFor u q = some (if enb u q (nS u) = true then 1 else 0) := by
  obtain ⟨s1, s2, s3, -⟩ := hI.S
  have key : ∀ N i, nS u < N + i → i ≤ nS u → enb u q i = true → f_X11_hasFor_2 u N q (nI i) = some (if enb u q (nS u) = true then 1 else 0) := by
    intro N
    induction N with
    | zero => intro i h1 h2; omega
    | succ N ih =>
      intro i h1 h2 h
      by_cases hi : i = nS u
      · subst hi
        simp (disch := omega) only [f_X11_hasFor_2, s1, ite_yle, h, if_true]
      · simp (disch := omega) only [f_X11_hasFor_2, s1, ite_nle, c_ofSort hI.L hI.H hI.B (show i < 16 by omega), Option.bind_some, gd_nI, nI_cl, nI_1, (hI.F i (by omega)).1]
        by_cases c : rd u 160 i * q ≤ sto u i
        · rw [if_pos c]
          refine ih (i + 1) (by omega) (by omega) ?_
          rw [enb, h, decide_eq_true c]
          rfl
        · have e : enb u q (i + 1) = false := by
            rw [enb, decide_eq_false c, Bool.and_false]
          rw [if_neg c, enb_mono e (nS u) (by omega), if_neg (by decide)]
  exact key xN 0 (xN_lt (by omega)) (by omega) rfl
theorem c_isEnough {u : xS} (hS : i_S u) (hB : i_B u) {p q : Int32} (hq : p / 12 = q) : f_X12_isEnough u p = some (if enb u q (nS u) = true then 1 else 0) := by
  obtain ⟨s1, s2, s3, -⟩ := hS
  have key : ∀ N i, nS u < N + i → i ≤ nS u → f_X12_isEnough_4 u N p (if enb u q i = true then 1 else 0) (nI i) = some (if enb u q (nS u) = true then 1 else 0) := by
    intro N
    induction N with
    | zero => intro i h1 h2; omega
    | succ N ih =>
      intro i h1 h2
      by_cases hi : i = nS u
      · subst hi
        simp (disch := omega) only [f_X12_isEnough_4, s2, ite_yle]
        cases enb u q (nS u) with
        | true => rfl
        | false => rfl
      · simp (disch := omega) only [f_X12_isEnough_4, f_X12_isEnough_39, f_X12_isEnough_40, s2, ite_nle, c_sto hB (show i < 16 by omega), Option.bind_some, gd_nI, nI_cl, nI_1, hq, ite_10]
        have z := ih (i + 1) (by omega) (by omega)
        cases he : enb u q i with
        | true =>
          rw [if_pos rfl]
          by_cases c : rd u 160 i * q ≤ sto u i
          · rw [if_neg (Int32.not_lt.mpr c)]
            rw [enb, he, decide_eq_true c, Bool.and_true, if_pos rfl] at z
            exact z
          · rw [if_pos (Int32.not_le.mp c)]
            rw [enb, he, decide_eq_false c, Bool.and_false, if_neg (by decide)] at z
            exact z
        | false =>
          rw [if_neg (by decide)]
          rw [enb, he, Bool.false_and, if_neg (by decide)] at z
          exact z
  exact key xN 0 (xN_lt (by omega)) (by omega)
theorem enb_fr {u u' : xS} (h1 : rd u' 135 7 = rd u 135 7) (h2 : ∀ i, rd u' 147 i = rd u 147 i) (h3 : ∀ i, rd u' 160 i = rd u 160 i) (q : Int32) : ∀ n, enb u' q n = enb u q n := by
  intro n
  induction n with
  | zero => rfl
  | succ n ih => rw [enb, enb, ih, h3, sto_fr h1 h2]
theorem nsum_c (c n : Nat) : nsum (fun _ => c) n = n * c := by
  induction n with
  | zero => rw [Nat.zero_mul]; rfl
  | succ n ih => rw [nsum, ih, Nat.succ_mul]
theorem irem12 {p : Nat} (hp : p < 2147483648) : irem (nI p) 12 = nI (p % 12) := by
  unfold irem
  exact pk_rem (d := 12) hp (by omega) (by omega)
/-- what is taken of the sorts below k -/
def mkA (u : xS) (q k : Nat) (s b : Nat) : Nat := if s < k then tk u s (nv (rd u 160 s) * q) b else 0
theorem mkA_s (u : xS) (q k : Nat) : (fun s' b => mkA u q k s' b + dl u k (nv (rd u 160 k) * q) s' b) = mkA u q (k + 1) := by
  funext s b
  unfold mkA dl
  by_cases e : s = k
  · subst e
    rw [if_neg (by omega), if_pos rfl, if_pos (by omega), Nat.zero_add]
  · rw [if_neg e, Nat.add_zero]
    by_cases h : s < k
    · rw [if_pos h, if_pos (by omega)]
    · rw [if_neg h, if_neg (by omega)]
theorem mkA_0 (u : xS) (q : Nat) : mkA u q 0 = fun _ _ => 0 := by
  funext s b
  unfold mkA
  rw [if_neg (by omega)]
theorem mkA_le {u : xS} {q k s b : Nat} (hb : b < 24) : mkA u q k s b ≤ eL u b s := by
  unfold mkA
  by_cases h : s < k
  · rw [if_pos h]; exact tk_le hb
  · rw [if_neg h]; exact Nat.zero_le _
theorem make11 {u : xS} (hI : Inv4 u) (hF : i_F u) {C p q : Nat} (hC : C < 20) (hq : nI p / 12 = nI q) (hq2 : q ≤ 833) : ∀ (N s : Nat) (u' : xS), nS u < N + s → s ≤ nS u → zMS u (89 + C) (mkA u q s) u' → ∃ u'', f_X11_make_68 N (nI p) (nI C) (nI s) u' = some (nI C, u'') ∧ zMS u (89 + C) (mkA u q (nS u)) u'' := by
  obtain ⟨s1, s2, s3, -⟩ := hI.S
  intro N
  induction N with
  | zero => intro s u' h1 h2; omega
  | succ N ih =>
    intro s u' h1 h2 h
    have e1 : rd u' 1 2 = nI (nS u) := (h.2.2.2 1 2 (by decide) (by decide) (by omega)).trans s1
    by_cases hs : s = nS u
    · subst hs
      refine ⟨u', ?_, h⟩
      simp (disch := omega) only [f_X11_make_68, e1, ite_yle]
    · obtain ⟨f1, ⟨v, hv, f2⟩, -⟩ := hF s (by omega)
      have e80 : rd u' 80 s = nI v := ((h.2.2.2 80 s (by decide) (by decide) (by omega)).trans f1).trans f2
      have env : nv (rd u 160 s) = v := by rw [f2]; exact nv_nI (by omega)
      have hvq : v * q ≤ 12 * 833 := Nat.mul_le_mul hv hq2
      obtain ⟨u1, t1, t2⟩ := takeX hI (tgt_89 C hC) (show s < 16 by omega) (show v * q < 2147483648 by omega) h (fun b => if_neg (by omega))
      have z := mkA_s u q s
      rw [env] at z
      rw [z] at t2
      simp (disch := omega) only [f_X11_make_68, e1, ite_nle, gd_nI, nI_cl, e80, hq, pk_mul, t1, Option.bind_some, nI_1]
      exact ih (s + 1) u1 (by omega) (by omega) t2
theorem make12 {u v : xS} (hI : Inv4 u) (hF : i_F u) {C p q : Nat} (hC : C < 20) (hq : nI p / 12 = nI q) (hq2 : q ≤ 833) (hag : ag [(135, 1), (135, 38), (77, 0), (78, 0), (89, 0), (162, 0)] u v) (h37 : rd v 135 37 = nI (C + 1)) : ∀ (N s : Nat) (v' : xS), nS u < N + s → s ≤ nS u → zNS v 161 (24 * C) (mkA u q s) v' → ∃ v'', f_X12_make_76 N (nI p) (nI s) v' = some (nI C, v'') ∧ zNS v 161 (24 * C) (mkA u q (nS u)) v'' := by
  obtain ⟨s1, s2, s3, -⟩ := hI.S
  intro N
  induction N with
  | zero => intro s v' h1 h2; omega
  | succ N ih =>
    intro s v' h1 h2 h
    have e1 : rd v' 135 1 = nI (nS u) := ((h.2.2.2 135 1 (by decide) (by decide)).trans (hag 135 1 rfl)).trans s2
    have e37 : rd v' 135 37 = nI (C + 1) := (h.2.2.2 135 37 (by decide) (by decide)).trans h37
    by_cases hs : s = nS u
    · subst hs
      refine ⟨v', ?_, h⟩
      simp (disch := omega) only [f_X12_make_76, e1, e37, nI_pred, ite_yle]
    · obtain ⟨f1, ⟨w, hw, f2⟩, -⟩ := hF s (by omega)
      have e160 : rd v' 160 s = nI w := ((h.2.2.2 160 s (by decide) (by decide)).trans (hag 160 s rfl)).trans f2
      have env : nv (rd u 160 s) = w := by rw [f2]; exact nv_nI (by omega)
      have hvq : w * q ≤ 12 * 833 := Nat.mul_le_mul hw hq2
      obtain ⟨v1, t1, t2⟩ := takeM (v := v) hI (cl := nI C) (tc := 161) (o := 24 * C) (Or.inr ⟨C, hC, rfl, rfl, rfl⟩) (show s < 16 by omega) (show w * q < 2147483648 by omega) (fun i => hag 147 i rfl) (hag 135 16 rfl) (fun k => hag 148 k rfl) h (fun b => if_neg (by omega))
      have z := mkA_s u q s
      rw [env] at z
      rw [z] at t2
      simp (disch := omega) only [f_X12_make_76, e1, e37, nI_pred, ite_nle, gd_nI, nI_cl, e160, hq, pk_mul, t1, Option.bind_some, nI_1]
      exact ih (s + 1) v1 (by omega) (by omega) t2
theorem s_make : xS_make Inv := by
  intro u a1 hI
  apply st_W
  have hxN : xN = 1000000 := rfl
  obtain ⟨s1, s2, s3, -⟩ := hI.S
  obtain ⟨c1, c2, c3, c4, c5⟩ := hI.C
  have hJ := Inv_thr hI
  have n2 : rd (wr u 135 0 0) 135 1 = nI (nS u) := s2
  have e0 : isum (fun s => rd (wr u 135 0 0) 160 s) (nS u) = isum (fun s => rd u 80 s) 16 := (pia hI.S hI.F).symm
  by_cases h : (12 ≤ a1 ∧ a1 ≤ 9996) ∧ irem a1 12 = 0 ∧ isum (fun s => rd u 80 s) 16 = 12 ∧ nC u < 20 ∧ enb u (a1 / 12) (nS u) = true
  · obtain ⟨h1, h2, h3, h4, h5⟩ := h
    have h10 : (0 : Int32) ≤ a1 := Int32.le_trans (by decide) h1.1
    obtain ⟨p, hp, rfl⟩ := nI_ixl (S := 9996) (by omega) h10 h1.2
    have hq : nI p / 12 = nI (p / 12) := pk_div (d := 12) (by omega) (by omega) (by omega)
    have hq2 : p / 12 ≤ 833 := by omega
    have e11 : f_X11_make (nI p) u = f_X11_make_68 xN (nI p) (nI (nC u)) 0 (wr (wr u 109 (nC u) 2) 87 2 (nI (nC u + 1))) := by
      have eadd : f_X2_add u = some (nI (nC u), wr (wr u 109 (nC u) 2) 87 2 (nI (nC u + 1))) := by
        simp (disch := omega) only [f_X2_add, c1, l_20, ite_ylt, gd_nI, nI_cl, nI_1]
      rw [f_X11_make, lies_eq, ite_10, if_pos h1, if_pos h2, c_inAll, Option.bind_some, if_pos h3, if_neg (show ¬ (20 : Int32) ≤ rd u 87 2 from fun z => (le60 (k := 20) c1 (by omega) (by omega)).mp z h4), c_hasFor hI, h5, if_pos rfl, Option.bind_some, if_neg (show ¬ (1 : Int32) = 0 by decide), eadd, Option.bind_some]
    generalize hw : wr (wr u 109 (nC u) 2) 87 2 (nI (nC u + 1)) = w at e11
    have hagw : ag [(109, 0), (87, 3)] u w := by
      rw [← hw]
      exact ag_wr (ag_wr (ag_refl _ u) rfl) rfl
    have hIw : Inv4 w := ⟨fr_S (ag_sm hagw rfl) hI.S, fr_B (ag_sm hagw rfl) hI.B, fr_H (ag_sm hagw rfl) hI.H, fr_L (ag_sm hagw rfl) hI.L⟩
    have hFw : i_F w := fr_F (ag_sm hagw rfl) hI.F
    have eSw : nS w = nS u := congrArg nv (hagw 135 1 rfl)
    obtain ⟨u1, t1, t2⟩ := make11 hIw hFw h4 hq hq2 xN 0 w (by omega) (by omega) (by rw [mkA_0]; exact zMS_0 w _)
    rw [nI_zero] at t1
    refine ok_is (e11.trans t1) ?_
    dsimp only
    have g1 : ∀ c j, c ≠ 77 → c ≠ 78 → c ≠ 89 + nC u → rd u1 c j = rd w c j := t2.2.2.2
    have a1w : ag [(77, 0), (78, 0), (89, 0)] w u1 := fun c j hc => g1 c j (ne_W 77 (fun _ => rfl) hc) (ne_W 78 (fun _ => rfl) hc) (ne_W (89 + nC u) (fun j => by rw [lc_89 h4]; rfl) hc)
    have a1u : ag [(77, 0), (78, 0), (89, 0), (87, 3), (109, 0), (135, 1)] u (wr u1 135 0 0) := ag_wr (ag_trans (ag_sub rfl hagw) (ag_sub rfl a1w)) rfl
    have m2 : rd (wr u1 135 0 0) 135 1 = nI (nS u) := (a1u 135 1 rfl).trans s2
    have e12 : f_X12_make (nI p) u1 = f_X12_make_76 xN (nI p) 0 (wr (wr (wr u1 135 0 0) 162 (nC u) 2) 135 37 (nI (nC u + 1))) := by
      have eC : rd u1 135 37 = nI (nC u) := (a1u 135 37 rfl).trans c2
      have hJS : i_S (wr u1 135 0 0) := fr_S (ag_sm a1u rfl) hI.S
      have hJB : i_B (wr u1 135 0 0) := fr_B (ag_sm a1u rfl) hI.B
      have eS1 : nS (wr u1 135 0 0) = nS u := congrArg nv (a1u 135 1 rfl)
      have e3 : isum (fun s => rd (wr u1 135 0 0) 160 s) (nS u) = 12 := by
        rw [← h3, ← e0]
        exact isum_congr fun s _ => a1u 160 s rfl
      have e5 : enb (wr u1 135 0 0) (nI p / 12) (nS u) = true := by
        rw [enb_fr (a1u 135 7 rfl) (fun i => a1u 147 i rfl) (fun i => a1u 160 i rfl)]
        exact h5
      rw [f_X12_make, c_partsInAll m2 s3, Option.bind_some, e3, if_pos rfl, L_12, L_9996, in_eq, ite_10, if_pos h1, if_pos h2, eC, if_neg (show ¬ nI (nC u) = (20 : Int32) from fun z => by
        have := nI_inj (a := nC u) (b := 20) (by omega) (by omega) z
        omega), c_isEnough hJS hJB rfl, eS1, Option.bind_some, e5, if_pos rfl, if_neg (by decide), gd_nI (by omega) (by omega), nI_cl (by omega), nI_1]
    generalize hv : wr (wr (wr u1 135 0 0) 162 (nC u) 2) 135 37 (nI (nC u + 1)) = v at e12
    have a1v : ag [(135, 1), (135, 38), (77, 0), (78, 0), (89, 0), (162, 0)] w v := by
      rw [← hv]
      exact ag_wr (ag_wr (ag_wr (ag_sub rfl a1w) rfl) rfl) rfl
    obtain ⟨u2, y1, y2⟩ := make12 (v := v) hIw hFw h4 hq hq2 a1v (by rw [← hv]; rfl) xN 0 v (by omega) (by omega) (by rw [mkA_0]; exact zNS_0 v _ _)
    rw [nI_zero] at y1
    refine ok_is (e12.trans y1) ⟨rfl, ?_⟩
    have g2 : ∀ c j, c ≠ 147 → c ≠ 161 → rd u2 c j = rd v c j := y2.2.2.2
    have a2 : ag [(147, 0), (161, 0)] v u2 := fun c j hc => g2 c j (ne_W 147 (fun _ => rfl) hc) (ne_W 161 (fun _ => rfl) hc)
    have hag : ag [(77, 0), (78, 0), (87, 3), (89, 0), (109, 0), (135, 1), (135, 38), (147, 0), (161, 0), (162, 0)] u u2 := ag_trans (ag_trans (ag_sub rfl hagw) (ag_sub rfl a1v)) (ag_sub rfl a2)
    have eT : ∀ s p b, tk w s p b = tk u s p b := by
      intro s p b
      have r1 : ∀ i, rd w 147 i = rd u 147 i := fun i => hagw 147 i rfl
      have r2 : ∀ i, rd w 148 i = rd u 148 i := fun i => hagw 148 i rfl
      have r3 : nO w = nO u := congrArg nv (hagw 135 16 rfl)
      have r4 : lz w s = lz u s := by funext b; simp only [lz, eL, r1]
      have r5 : eO w = eO u := by simp only [eO, r2, r3]
      simp only [tk, r4, r5]
    have eA : mkA w (p / 12) (nS w) = mkA u (p / 12) (nS u) := by
      funext s b
      have r : rd w 160 s = rd u 160 s := hagw 160 s rfl
      simp only [mkA, eT, r, eSw]
    rw [eA] at t2 y2
    refine ⟨fr_S (ag_sm hag rfl) hI.S, fr_P (ag_sm hag rfl) hI.P, fr_B (ag_sm hag rfl) hI.B, fr_H (ag_sm hag rfl) hI.H, ?_, fr_K (ag_sm hag rfl) hI.K, fr_T (ag_sm hag rfl) hI.T, fr_X (ag_sm hag rfl) hI.X, fr_F (ag_sm hag rfl) hI.F, ?_, fr_D (ag_sm hag rfl) hI.D, fr_A (ag_sm hag rfl) hI.A, fr_W (ag_sm hag rfl) hI.W⟩
    · refine i_L_take hI.to4 (AN := mkA u (p / 12) (nS u)) (fun s b _ hb => mkA_le hb) (fun k q' hq' => ?_) (fun s' hs' => ?_) (fun s' b hs' hb => ?_) (ag_sm hag rfl)
      · have e : eM w = eM u := by
          have r1 : ∀ i, rd w 146 i = rd u 146 i := fun i => hagw 146 i rfl
          have r2 : ∀ i, rd w 148 i = rd u 148 i := fun i => hagw 148 i rfl
          have r3 : nO w = nO u := congrArg nv (hagw 135 16 rfl)
          have r4 : eH w = eH u := by funext b s; simp only [eH, r1]
          have r5 : eB w = eB u := by funext b; simp only [eB, r4]
          have r6 : eO w = eO u := by simp only [eO, r2, r3]
          simp only [eM, r5, r6]
        have z := t2.1 k q' (by rw [e]; exact hq')
        rw [g2 77 k (by decide) (by decide), ← hv]
        exact z.trans (congrArg (fun x => x - _) (hagw 77 k rfl))
      · rw [g2 78 s' (by decide) (by decide), ← hv]
        exact (t2.2.1 s' hs').trans (congrArg (fun x => x - _) (hagw 78 s' rfl))
      · rw [y2.1 s' b hs' hb, a1v 147 _ rfl, hagw 147 _ rfl]
    · have p1 : rd u2 87 2 = nI (nC u + 1) := by
        rw [a2 87 2 rfl, ← hv]
        show rd u1 87 2 = _
        rw [a1w 87 2 rfl, ← hw]
        rfl
      have p2 : rd u2 135 37 = nI (nC u + 1) := by
        rw [a2 135 37 rfl, ← hv]
        rfl
      have p3 : nC u2 = nC u + 1 := nv_of p2 (by omega)
      have eB : nB u2 = nB u := congrArg nv (hag 135 7 rfl)
      unfold i_C
      rw [p3, eB]
      refine ⟨p1, p2, by omega, fun c b hc hb => ?_, lt_s (fun c hc => ?_) ?_⟩
      · obtain ⟨z1, ⟨x, hx, z2⟩, z3⟩ := c4 c b hc hb
        by_cases e : c = nC u
        · subst e
          have z0 : rd u 161 (24 * nC u + b) = 0 := z3 (Or.inl (Nat.le_refl _))
          have w1 : rd u2 (89 + nC u) b = isum (fun s => nI (mkA u (p / 12) (nS u) s b)) 16 := by
            rw [g2 (89 + nC u) b (by omega) (by omega), ← hv, rd_wr_ne (by omega), rd_wr_ne (by omega), rd_wr_ne (by omega), t2.2.2.1 b hb, hagw (89 + nC u) b (by rw [lc_89 h4]; rfl), z1, z0, Int32.zero_add]
          have w2 : rd u2 161 (24 * nC u + b) = isum (fun s => nI (mkA u (p / 12) (nS u) s b)) 16 := by
            rw [y2.2.1 b hb, a1v 161 _ rfl, hagw 161 _ rfl, z0, Int32.zero_add]
          rw [w1, w2]
          refine ⟨rfl, ⟨nsum (fun s => mkA u (p / 12) (nS u) s b) 16, ?_, isum_nI fun s _ => rfl⟩, fun z => isum_zero fun s hs => ?_⟩
          · have : nsum (fun s => mkA u (p / 12) (nS u) s b) 16 ≤ nsum (fun _ => 9999) 16 := nsum_le fun s hs => Nat.le_trans (mkA_le hb) (eL_le hI.to4 hb hs)
            have e : nsum (fun _ => 9999) 16 = 16 * 9999 := nsum_c 9999 16
            omega
          · have hb' : nB u ≤ b := by omega
            have h0 := eL_H hI.to4 hb hs ((hI.H.1 b s hb hs).2.2 (Or.inr (Or.inl hb')))
            have := mkA_le (u := u) (q := p / 12) (k := nS u) (s := s) hb
            rw [show mkA u (p / 12) (nS u) s b = 0 by omega]
            rfl
        · have w1 : rd u2 (89 + c) b = rd u (89 + c) b := by
            rw [g2 (89 + c) b (by omega) (by omega), ← hv, rd_wr_ne (by omega), rd_wr_ne (by omega), rd_wr_ne (by omega), g1 (89 + c) b (by omega) (by omega) (by omega), hagw (89 + c) b (by rw [lc_89 hc]; rfl)]
          have w2 : rd u2 161 (24 * c + b) = rd u 161 (24 * c + b) := by
            rw [y2.2.2.1 _ (by omega), a1v 161 _ rfl, hagw 161 _ rfl]
          rw [w1, w2]
          exact ⟨z1, ⟨x, hx, z2⟩, fun z => z3 (by omega)⟩
      · have hne : ¬ c = nC u := by omega
        have w1 : rd u2 109 c = rd u 109 c := by
          rw [a2 109 c rfl, a1v 109 c rfl, ← hw, rd_wr_ne (by omega), rd_wr_ne (by omega)]
        have w2 : rd u2 162 c = rd u 162 c := by
          rw [a2 162 c rfl, ← hv, rd_wr_ne (by omega), rd_wr_ne (by omega), rd_wr_ne (by omega), a1w 162 c rfl, hagw 162 c rfl]
        rw [w1, w2]
        exact c5 c hc
      · have w1 : rd u2 109 (nC u) = 2 := by
          rw [a2 109 _ rfl, a1v 109 _ rfl, ← hw, rd_wr_ne (by omega), rd_wr, if_pos rfl, if_pos rfl]
        have w2 : rd u2 162 (nC u) = 2 := by
          rw [a2 162 _ rfl, ← hv, rd_wr_ne (by omega), rd_wr, if_pos rfl, if_pos rfl]
        rw [w1, w2]
        exact ⟨rfl, 2, by omega, rfl⟩
  · have e11 : f_X11_make a1 u = some (-1, u) := by
      simp only [f_X11_make, lies_eq, ite_10, c_inAll, Option.bind_some, c_hasFor hI]
      by_cases h1 : 12 ≤ a1 ∧ a1 ≤ 9996
      · by_cases h2 : irem a1 12 = 0
        · by_cases h3 : isum (fun s => rd u 80 s) 16 = 12
          · by_cases h4 : nC u < 20
            · have h5 : ¬ enb u (a1 / 12) (nS u) = true := fun z => h ⟨h1, h2, h3, h4, z⟩
              rw [if_pos h1, if_pos h2, if_pos h3, if_neg (show ¬ (20 : Int32) ≤ rd u 87 2 from fun z => (le60 (k := 20) c1 (by omega) (by omega)).mp z h4), if_neg h5]
            · rw [if_pos h1, if_pos h2, if_pos h3, if_pos (show (20 : Int32) ≤ rd u 87 2 from (le60 (k := 20) c1 (by omega) (by omega)).mpr h4)]
          · rw [if_pos h1, if_pos h2, if_neg h3]
        · rw [if_pos h1, if_neg h2]
      · rw [if_neg h1]
    have e12 : f_X12_make a1 u = some (-1, wr u 135 0 0) := by
      rw [f_X12_make, c_partsInAll n2 s3, Option.bind_some, e0, L_12, L_9996, in_eq, ite_10, c_isEnough hJ.S hJ.B rfl, Option.bind_some, ite_10, show nS (wr u 135 0 0) = nS u from rfl, enb_fr (u := u) (u' := wr u 135 0 0) rfl (fun i => rfl) (fun i => rfl)]
      by_cases h3 : isum (fun s => rd u 80 s) 16 = 12
      · by_cases h1 : 12 ≤ a1 ∧ a1 ≤ 9996
        · by_cases h2 : irem a1 12 = 0
          · by_cases h4 : nC u < 20
            · have h5 : ¬ enb u (a1 / 12) (nS u) = true := fun z => h ⟨h1, h2, h3, h4, z⟩
              rw [if_pos h3, if_pos h1, if_pos h2, if_neg (show ¬ rd u 135 37 = (20 : Int32) from fun z => (eq60 (k := 20) c2 (by omega) (by omega)).mp z h4), if_neg h5]
            · rw [if_pos h3, if_pos h1, if_pos h2, if_pos (show rd u 135 37 = (20 : Int32) from (eq60 (k := 20) c2 (by omega) (by omega)).mpr h4)]
          · rw [if_pos h3, if_pos h1, if_neg h2]
        · rw [if_pos h3, if_neg h1]
      · rw [if_neg h3]
    exact ok_is e11 (ok_is e12 ⟨rfl, hJ⟩)
