/-! A RECIPE AND A BLEND -/
def bsm (u : xS) (P : Nat → Int32) (f n : Nat) : Int32 := isum (fun s => P s * rd u 136 (7 * s + f)) n
def bcn (P : Nat → Int32) (n : Nat) : Int32 := it (fun s a => if P s ≤ 0 then a else a + 1) 0 n
def bmx (P : Nat → Int32) (n : Nat) : Int32 := it (fun s a => imax a (P s)) 0 n
def sdJ (u : xS) (P : Nat → Int32) (n : Nat) : Nat → Int32 := up (up (up (up (up (up (up (up (fun _ => 0) 5 (bsm u P 0 n / 12)) 6 (bsm u P 1 n / 12)) 7 (bsm u P 2 n / 12)) 8 (bsm u P 3 n / 12)) 9 (bsm u P 4 n / 12)) 10 (bsm u P 5 n / 12)) 11 (bcn P n)) 12 (bmx P n)
theorem bmx_0 (P : Nat → Int32) : ∀ n, 0 ≤ bmx P n := by
  intro n
  induction n with
  | zero => exact Int32.le_refl _
  | succ n ih =>
    show 0 ≤ imax (bmx P n) (P n)
    unfold imax
    by_cases h : bmx P n < P n
    · rw [if_pos h]; exact Int32.le_trans ih (Int32.le_of_lt h)
    · rw [if_neg h]; exact ih
theorem addF {u : xS} {s : Nat} {v : Int32} (hs : s < 16) : ∃ u', f_X8_addFeatures (nI s) v 81 u = some u' ∧ (∀ f, f < 6 → rd u' 81 f = rd u 81 f + rd u (3 + f) s * v) ∧ ∀ c j, ¬ c = 81 → rd u' c j = rd u c j := by
  have x81 : xisI 81 = true ∧ xlen 81 = 6 := by decide +kernel
  have key : ∀ (N i : Nat) (u1 : xS), 6 < N + i → i ≤ 6 → (∀ f, f < i → rd u1 81 f = rd u 81 f + rd u (3 + f) s * v) → (∀ f, i ≤ f → rd u1 81 f = rd u 81 f) → (∀ c j, ¬ c = 81 → rd u1 c j = rd u c j) → ∃ u', f_X8_addFeatures_3 N (nI s) v 81 (nI i) u1 = some u' ∧ (∀ f, f < 6 → rd u' 81 f = rd u 81 f + rd u (3 + f) s * v) ∧ ∀ c j, ¬ c = 81 → rd u' c j = rd u c j := by
    intro N
    induction N with
    | zero => intro i u1 h1 h2; omega
    | succ N ih =>
      intro i u1 h1 h2 h3 h4 h5
      by_cases hi : i = 6
      · subst hi
        refine ⟨u1, ?_, h3, h5⟩
        rw [f_X8_addFeatures_3, l_6, ite_yle (by omega) (by omega)]
      · obtain ⟨u', q1, q2⟩ := ih (i + 1) (wr u1 81 i (rd u1 81 i + rd u1 (3 + i) s * v)) (by omega) (by omega) (fun f hf => by
          by_cases e : f = i
          · rw [e, rd_wr, if_pos rfl, if_pos rfl, h4 i (by omega), h5 (3 + i) s (by omega)]
          · rw [rd_wr_ne (fun z => e z.2)]
            exact h3 f (by omega)) (fun f hf => by rw [rd_wr_ne (by omega)]; exact h4 f (by omega)) (fun c j hc => (rd_wr_ne (fun z => hc z.1)).trans (h5 c j hc))
        refine ⟨u', ?_, q2⟩
        rw [f_X8_addFeatures_3, l_6, ite_nle (by omega) (by omega), x81.1, x81.2, gd_t, gd_t, gd_t, show Int32.ofNat 6 = nI 6 from rfl, ite_nle (by omega) (by omega), gd_nI (by omega) (by omega), gd_nI (by omega) (by omega), gd_nI (by omega) (by omega), gd_nI (by omega) (by omega), nI_cl (by omega), nI_cl (by omega), nI_1]
        exact q1
  exact key xN 0 u (xN_lt (by omega)) (by omega) (fun f hf => by omega) (fun _ _ => rfl) (fun _ _ _ => rfl)
theorem letters11 {u1 : xS} {r0 r1 r2 r3 r4 r5 n m : Int32} (a0 : rd u1 81 0 = r0) (a1 : rd u1 81 1 = r1) (a2 : rd u1 81 2 = r2) (a3 : rd u1 81 3 = r3) (a4 : rd u1 81 4 = r4) (a5 : rd u1 81 5 = r5) : ∃ u', f_X11_tellBlend_81 n m u1 = some u' ∧ SL11 u' (up (up (up (up (up (up (up (up (fun _ => 0) 5 (r0 / 12)) 6 (r1 / 12)) 7 (r2 / 12)) 8 (r3 / 12)) 9 (r4 / 12)) 10 (r5 / 12)) 11 n) 12 m) ∧ ∀ c j, ¬ c = 72 → rd u' c j = rd u1 c j := by
  obtain ⟨w0, p0, q0, g0⟩ := clear u1
  have g : ∀ (w : xS) (j : Nat) (v : Int32), (∀ c j, ¬ c = 72 → rd w c j = rd u1 c j) → ∀ c i, ¬ c = 72 → rd (wr w 72 j v) c i = rd u1 c i := fun w j v h c i hc => (rd_wr_ne (fun z => hc z.1)).trans (h c i hc)
  obtain ⟨p1, q1⟩ := tell (c := 114) (v := r0 / 12) 5 (by omega) rfl q0
  have g1 := g _ (lt 5 - 97) (r0 / 12) g0
  obtain ⟨p2, q2⟩ := tell (c := 103) (v := r1 / 12) 6 (by omega) rfl q1
  have g2 := g _ (lt 6 - 97) (r1 / 12) g1
  obtain ⟨p3, q3⟩ := tell (c := 98) (v := r2 / 12) 7 (by omega) rfl q2
  have g3 := g _ (lt 7 - 97) (r2 / 12) g2
  obtain ⟨p4, q4⟩ := tell (c := 115) (v := r3 / 12) 8 (by omega) rfl q3
  have g4 := g _ (lt 8 - 97) (r3 / 12) g3
  obtain ⟨p5, q5⟩ := tell (c := 119) (v := r4 / 12) 9 (by omega) rfl q4
  have g5 := g _ (lt 9 - 97) (r4 / 12) g4
  obtain ⟨p6, q6⟩ := tell (c := 118) (v := r5 / 12) 10 (by omega) rfl q5
  have g6 := g _ (lt 10 - 97) (r5 / 12) g5
  obtain ⟨p7, q7⟩ := tell (c := 110) (v := n) 11 (by omega) rfl q6
  have g7 := g _ (lt 11 - 97) n g6
  obtain ⟨p8, q8⟩ := tell (c := 109) (v := m) 12 (by omega) rfl q7
  have g8 := g _ (lt 12 - 97) m g7
  refine ⟨_, ?_, q8, g8⟩
  rw [f_X11_tellBlend_81, p0, Option.bind_some, (g0 81 0 (by decide)).trans a0, p1, Option.bind_some, (g1 81 1 (by decide)).trans a1, p2, Option.bind_some, (g2 81 2 (by decide)).trans a2, p3, Option.bind_some, (g3 81 3 (by decide)).trans a3, p4, Option.bind_some, (g4 81 4 (by decide)).trans a4, p5, Option.bind_some, (g5 81 5 (by decide)).trans a5, p6, Option.bind_some, p7, Option.bind_some, p8, Option.bind_some]
theorem tb11 {u : xS} {c S : Nat} {P : Nat → Int32} (hc : c = 80 ∨ c = 85) (h12 : rd u 1 2 = nI S) (hS : S ≤ 16) (hF : ∀ s, s < S → ∀ f, f < 6 → rd u (3 + f) s = rd u 136 (7 * s + f)) (hP : ∀ s, s < S → rd u c s = P s ∧ ∃ k, k ≤ 12 ∧ P s = nI k) :
    ∃ u', f_X11_tellBlend c u = some u' ∧ SL11 u' (sdJ u P S) ∧ ∀ c' j, ¬ c' = 81 → ¬ c' = 72 → rd u' c' j = rd u c' j := by
  have hx : xisI c = true ∧ xlen c = 16 ∧ ¬ c = 81 := by
    rcases hc with hc | hc <;> rw [hc] <;> decide +kernel
  obtain ⟨u0, z1, z2, z3⟩ := fill_ok (c := 81) (L := 6) (by decide +kernel) (by decide +kernel) (by omega) u
  have key : ∀ (N i : Nat) (u1 : xS), S < N + i → i ≤ S → (∀ f, f < 6 → rd u1 81 f = bsm u P f i) → (∀ c j, ¬ c = 81 → rd u1 c j = rd u c j) → ∃ u', f_X11_tellBlend_21 N c (bcn P i) (bmx P i) (nI i) u1 = some u' ∧ SL11 u' (sdJ u P S) ∧ ∀ c' j, ¬ c' = 81 → ¬ c' = 72 → rd u' c' j = rd u c' j := by
    intro N
    induction N with
    | zero => intro i u1 h1 h2; omega
    | succ N ih =>
      intro i u1 h1 h2 h3 h4
      have e12 : rd u1 1 2 = nI S := (h4 1 2 (by decide)).trans h12
      by_cases hi : i = S
      · subst hi
        obtain ⟨u', q1, q2, q3⟩ := letters11 (n := bcn P i) (m := bmx P i) (h3 0 (by omega)) (h3 1 (by omega)) (h3 2 (by omega)) (h3 3 (by omega)) (h3 4 (by omega)) (h3 5 (by omega))
        refine ⟨u', ?_, q2, fun c' j h5 h6 => (q3 c' j h6).trans (h4 c' j h5)⟩
        rw [f_X11_tellBlend_21, e12, ite_yle (Nat.le_refl _) (by omega)]
        exact q1
      · obtain ⟨eP, k, hk, ek⟩ := hP i (by omega)
        have op : f_X11_tellBlend_21 (N + 1) c (bcn P i) (bmx P i) (nI i) u1 = if P i ≤ 0 then f_X11_tellBlend_21 N c (bcn P i) (bmx P i) (nI (i + 1)) u1 else (f_X8_addFeatures (nI i) (P i) 81 u1).bind fun u20 => f_X11_tellBlend_21 N c (bcn P i + 1) (imax (bmx P i) (P i)) (nI (i + 1)) u20 := by
          rw [f_X11_tellBlend_21, e12, ite_nle (by omega) (by omega), hx.1, hx.2.1, gd_t, gd_t, gd_t, gd_t, show Int32.ofNat 16 = nI 16 from rfl, ite_nle (by omega) (by omega), gd_nI (by omega) (by omega), gd_nI (by omega) (by omega), gd_nI (by omega) (by omega), nI_cl (by omega), (h4 c i hx.2.2).trans eP]
          unfold f_X11_tellBlend_75
          rw [nI_1]
        rw [op]
        by_cases c0 : P i ≤ 0
        · have k0 : k = 0 := by
            rw [ek] at c0
            have := (nI_leI (a := k) (b := 0) (by omega) (by omega)).mp c0
            omega
          subst k0
          rw [if_pos c0]
          have b1 : bcn P (i + 1) = bcn P i := by
            show (if P i ≤ 0 then bcn P i else bcn P i + 1) = _
            rw [if_pos c0]
          have b2 : bmx P (i + 1) = bmx P i := by
            show imax (bmx P i) (P i) = _
            unfold imax
            rw [if_neg]
            rw [ek]
            exact Int32.not_lt.mpr (bmx_0 P i)
          have b3 : ∀ f, bsm u P f (i + 1) = bsm u P f i := fun f => by
            show bsm u P f i + P i * _ = _
            rw [ek, nI_zero, Int32.zero_mul, Int32.add_zero]
          have := ih (i + 1) u1 (by omega) (by omega) (fun f hf => by rw [b3]; exact h3 f hf) h4
          rwa [b1, b2] at this
        · rw [if_neg c0]
          obtain ⟨u2, y1, y2, y3⟩ := addF (u := u1) (s := i) (v := P i) (by omega)
          rw [y1, Option.bind_some]
          have b1 : bcn P (i + 1) = bcn P i + 1 := by
            show (if P i ≤ 0 then bcn P i else bcn P i + 1) = _
            rw [if_neg c0]
          have := ih (i + 1) u2 (by omega) (by omega) (fun f hf => by
            rw [y2 f hf, h3 f hf, h4 (3 + f) i (by omega), hF i (by omega) f hf, Int32.mul_comm]
            rfl) (fun c' j h5 => (y3 c' j h5).trans (h4 c' j h5))
          rwa [b1] at this
  rw [f_X11_tellBlend, z1, Option.bind_some]
  exact key xN 0 u0 (xN_lt (by omega)) (by omega) (fun f hf => z2 f hf) (fun c' j h5 => z3 c' j (fun z => h5 z.1))
theorem letters12 {u1 : xS} {S : Nat} {n m : Int32} (h1 : rd u1 135 1 = nI S) (hS : S ≤ 16) {k : xS → Option (Int32 × xS)} : ∃ u', ((f_X12_hush u1).bind fun u3 => (f_X12_blended u3 (0 : Int32)).bind fun x5 => (f_X12_says (114 : Int32) x5 u3).bind fun u7 => (f_X12_blended u7 (1 : Int32)).bind fun x9 => (f_X12_says (103 : Int32) x9 u7).bind fun u11 => (f_X12_blended u11 (2 : Int32)).bind fun x13 => (f_X12_says (98 : Int32) x13 u11).bind fun u15 => (f_X12_blended u15 (3 : Int32)).bind fun x17 => (f_X12_says (115 : Int32) x17 u15).bind fun u19 => (f_X12_blended u19 (4 : Int32)).bind fun x21 => (f_X12_says (119 : Int32) x21 u19).bind fun u23 => (f_X12_blended u23 (5 : Int32)).bind fun x25 => (f_X12_says (118 : Int32) x25 u23).bind fun u27 => (f_X12_says (110 : Int32) n u27).bind fun u29 => (f_X12_says (109 : Int32) m u29).bind fun u31 => k u31) = k u' ∧ SL12 u' (up (up (up (up (up (up (up (up (fun _ => 0) 5 (bsm u1 (rd u1 160) 0 S / 12)) 6 (bsm u1 (rd u1 160) 1 S / 12)) 7 (bsm u1 (rd u1 160) 2 S / 12)) 8 (bsm u1 (rd u1 160) 3 S / 12)) 9 (bsm u1 (rd u1 160) 4 S / 12)) 10 (bsm u1 (rd u1 160) 5 S / 12)) 11 n) 12 m) ∧ ∀ c j, ¬ c = 158 → rd u' c j = rd u1 c j := by
  obtain ⟨w0, p0, q0, g0⟩ := hush u1
  have g : ∀ (w : xS) (j : Nat) (v : Int32), (∀ c j, ¬ c = 158 → rd w c j = rd u1 c j) → ∀ c i, ¬ c = 158 → rd (wr w 158 j v) c i = rd u1 c i := fun w j v h c i hc => (rd_wr_ne (fun z => hc z.1)).trans (h c i hc)
  have bl : ∀ (w : xS) (f : Nat), f < 7 → (∀ c j, ¬ c = 158 → rd w c j = rd u1 c j) → f_X12_blended w (nI f) = some (bsm u1 (rd u1 160) f S / 12) := fun w f hf h => by
    rw [c_blended ((h 135 1 (by decide)).trans h1) hS hf]
    have q2 : ∀ i, rd w 160 i = rd u1 160 i := fun i => h 160 i (by decide)
    have q3 : ∀ i, rd w 136 i = rd u1 136 i := fun i => h 136 i (by decide)
    simp only [q2, q3]
    rfl
  obtain ⟨p1, q1⟩ := says (c := 114) (v := bsm u1 (rd u1 160) 0 S / 12) 5 (by omega) rfl q0
  have g1 := g _ 5 (bsm u1 (rd u1 160) 0 S / 12) g0
  obtain ⟨p2, q2⟩ := says (c := 103) (v := bsm u1 (rd u1 160) 1 S / 12) 6 (by omega) rfl q1
  have g2 := g _ 6 (bsm u1 (rd u1 160) 1 S / 12) g1
  obtain ⟨p3, q3⟩ := says (c := 98) (v := bsm u1 (rd u1 160) 2 S / 12) 7 (by omega) rfl q2
  have g3 := g _ 7 (bsm u1 (rd u1 160) 2 S / 12) g2
  obtain ⟨p4, q4⟩ := says (c := 115) (v := bsm u1 (rd u1 160) 3 S / 12) 8 (by omega) rfl q3
  have g4 := g _ 8 (bsm u1 (rd u1 160) 3 S / 12) g3
  obtain ⟨p5, q5⟩ := says (c := 119) (v := bsm u1 (rd u1 160) 4 S / 12) 9 (by omega) rfl q4
  have g5 := g _ 9 (bsm u1 (rd u1 160) 4 S / 12) g4
  obtain ⟨p6, q6⟩ := says (c := 118) (v := bsm u1 (rd u1 160) 5 S / 12) 10 (by omega) rfl q5
  have g6 := g _ 10 (bsm u1 (rd u1 160) 5 S / 12) g5
  obtain ⟨p7, q7⟩ := says (c := 110) (v := n) 11 (by omega) rfl q6
  have g7 := g _ 11 n g6
  obtain ⟨p8, q8⟩ := says (c := 109) (v := m) 12 (by omega) rfl q7
  have g8 := g _ 12 m g7
  refine ⟨_, ?_, q8, g8⟩
  rw [p0, Option.bind_some, show (0 : Int32) = nI 0 from rfl, bl _ 0 (by omega) g0, Option.bind_some, p1, Option.bind_some, show (1 : Int32) = nI 1 from rfl, bl _ 1 (by omega) g1, Option.bind_some, p2, Option.bind_some, show (2 : Int32) = nI 2 from rfl, bl _ 2 (by omega) g2, Option.bind_some, p3, Option.bind_some, show (3 : Int32) = nI 3 from rfl, bl _ 3 (by omega) g3, Option.bind_some, p4, Option.bind_some, show (4 : Int32) = nI 4 from rfl, bl _ 4 (by omega) g4, Option.bind_some, p5, Option.bind_some, show (5 : Int32) = nI 5 from rfl, bl _ 5 (by omega) g5, Option.bind_some, p6, Option.bind_some, p7, Option.bind_some, p8, Option.bind_some]
theorem jd12' {sd : Nat → Int32} {E : Nat} (hE : E ≤ 768) : ∀ (n : Nat) (R : List Int32) (N i : Nat) (e : Int32) (u : xS), R.length ≤ n → R.length + 1 < N → dep (R ++ [-300]) 0 = some 0 → isMark u i R → i + R.length = E → R.length ≤ 64 → SL12 u sd →
    ∃ u', f_X12_judged_163 N (nI i) (nI E) e u = some ((fbk sd (R ++ [-300]) e []).getD (-1), u') ∧ ∀ c j, ¬ c = 157 → ¬ (c = 135 ∧ j = 35) → rd u' c j = rd u c j := by
  intro n
  induction n with
  | zero =>
    intro R N i e u h1 h2 h4 h5 h6 h7 h8
    match R, h1, h4 with
    | [], _, h4 => exact absurd h4 (by decide +kernel)
  | succ n ih =>
    intro R N i e u h1 h2 h4 h5 h6 h7 h8
    obtain ⟨M, rfl⟩ : ∃ M, N = M + 1 := ⟨N - 1, by omega⟩
    have hR : ¬ R = [] := fun z => by
      rw [z] at h4
      exact absurd h4 (by decide +kernel)
    have hR2 : 0 < R.length := List.length_pos_iff.mpr hR
    have dsemi : ∀ (A B : List Int32), dep (A ++ -300 :: B) 0 = some 0 → dep A 0 = some 1 ∧ dep B 0 = some 0 := by
      intro A B hq4
      rw [dep_app] at hq4
      cases hq : dep A 0 with
      | none => rw [hq] at hq4; cases hq4
      | some q =>
        rw [hq, Option.bind_some, dep, if_neg (by decide), if_neg (by decide), if_neg (by decide), if_pos rfl] at hq4
        by_cases c : q = 1
        · rw [if_pos c] at hq4
          exact ⟨by rw [c], hq4⟩
        · rw [if_neg c] at hq4
          cases hq4
    by_cases hmem : -300 ∈ R
    · obtain ⟨A, R', eR, hA⟩ := semi R hmem
      have hlen : R.length = A.length + (R'.length + 1) := by rw [eR]; simp
      have eR2 : R ++ [-300] = A ++ -300 :: (R' ++ [-300]) := by rw [eR]; simp
      have hd := dsemi A (R' ++ [-300]) (by rw [← eR2]; exact h4)
      have mk : isMark u i A ∧ rd u 155 (i + A.length) = -300 ∧ isMark u (i + A.length + 1) R' := by
        refine ⟨fun k m hk => h5 k m ?_, h5 A.length (-300) ?_, fun k m hk => ?_⟩
        · rw [eR, List.getElem?_append_left (by
            have := List.getElem?_eq_some_iff.mp hk
            exact this.1)]
          exact hk
        · rw [eR, List.getElem?_append_right (Nat.le_refl _), Nat.sub_self]
          rfl
        · have := h5 (A.length + 1 + k) m (by
            rw [eR, List.getElem?_append_right (by omega), show A.length + 1 + k - A.length = k + 1 by omega]
            simpa using hk)
          rwa [show i + A.length + 1 + k = i + (A.length + 1 + k) by omega]
      obtain ⟨x, u1, q1, q2, q3⟩ := val12 (E := E) (i := i) hE (by omega) mk.1 hA hd.1 (Or.inr ⟨by omega, mk.2.1⟩) h8
      have k4 : ∀ c j, ¬ c = 157 → ¬ (c = 135 ∧ j = 35) → rd (wr u1 135 35 (nI (i + A.length))) c j = rd u c j := fun c j h9 h10 => (rd_wr_ne h10).trans (q3 c j h9)
      rw [f_X12_judged_163, ite_nle (by omega) (by omega), q1, Option.bind_some]
      dsimp only
      rw [eR2, fbk_app A [] hA q2]
      by_cases hx : x = 0
      · rw [if_pos hx, if_pos hx]
        exact ⟨_, rfl, k4⟩
      · rw [if_neg hx, if_neg hx, show rd (wr u1 135 35 (nI (i + A.length))) 135 35 = nI (i + A.length) from rfl, nI_1]
        obtain ⟨u', g1, g2⟩ := ih R' M (i + A.length + 1) (e + 1) (wr u1 135 35 (nI (i + A.length))) (by omega) (by omega) hd.2 (fun k m hk => (k4 _ _ (by decide) (by omega)).trans (mk.2.2 k m hk)) (by omega) (by omega) (fun j hj => (k4 _ _ (by decide) (by omega)).trans (h8 j hj))
        exact ⟨u', g1, fun c j h9 h10 => (g2 c j h9 h10).trans (k4 c j h9 h10)⟩
    · have hd := dsemi R [] h4
      obtain ⟨x, u1, q1, q2, q3⟩ := val12 (E := E) (i := i) hE (by omega) h5 hmem hd.1 (Or.inl h6.symm) h8
      have k4 : ∀ c j, ¬ c = 157 → ¬ (c = 135 ∧ j = 35) → rd (wr u1 135 35 (nI (i + R.length))) c j = rd u c j := fun c j h9 h10 => (rd_wr_ne h10).trans (q3 c j h9)
      rw [f_X12_judged_163, ite_nle (by omega) (by omega), q1, Option.bind_some]
      dsimp only
      rw [fbk_app R [] hmem q2]
      by_cases hx : x = 0
      · rw [if_pos hx, if_pos hx]
        exact ⟨_, rfl, k4⟩
      · rw [if_neg hx, if_neg hx, show rd (wr u1 135 35 (nI (i + R.length))) 135 35 = nI (i + R.length) from rfl, nI_1]
        obtain ⟨M', rfl⟩ : ∃ M', M = M' + 1 := ⟨M - 1, by omega⟩
        refine ⟨_, ?_, k4⟩
        rw [f_X12_judged_163, ite_yle (by omega) (by omega)]
        rfl
/-- the recipe, as both hold it -/
def rcp (u : xS) (r : Nat) (l : List Int32) : Prop := l.length ≤ 60 ∧ isCode u (64 + r) 0 (l ++ [-300]) ∧ rd u 71 (4 + r) = nI (l.length + 1) ∧ isMark u (64 * (4 + r)) l ∧ rd u 156 (4 + r) = nI l.length ∧ dep (l ++ [-300]) 0 = some 0
theorem rcp_at {u : xS} (hX : i_X u) {r : Nat} (hr : r < nR u) : ∃ l, rcp u r l := by
  obtain ⟨l, ⟨h1, h2, h3⟩, h4, h5, h6⟩ := hX.2.2.2.2 r hr
  have e : 60 + (4 + r) = 64 + r := by omega
  rw [e] at h5 h3
  refine ⟨l, h1, fun k m hk => ?_, h4, fun k m hk => (h3 k m hk).1, h2, h6⟩
  rw [Nat.zero_add]
  rw [List.getElem?_append] at hk
  by_cases c : k < l.length
  · rw [if_pos c] at hk
    exact (h3 k m hk).2
  · rw [if_neg c] at hk
    have hk2 : k - l.length = 0 := by
      cases hq : k - l.length with
      | zero => rfl
      | succ q => rw [hq] at hk; simp at hk
    rw [hk2] at hk
    have hm : m = -300 := by simpa using hk.symm
    rw [hm, show k = l.length by omega, h5]
    decide +kernel
theorem rcp_fr {u u' : xS} {r : Nat} {l : List Int32} (hr : r < 6) (h : sm kX u u') (H : rcp u r l) : rcp u' r l := by
  obtain ⟨h1, h2, h3, h4, h5, h6⟩ := H
  refine ⟨h1, fun k m hk => ?_, (h 71 _ rfl).trans h3, fun k m hk => (h 155 _ rfl).trans (h4 k m hk), (h 156 _ rfl).trans h5, h6⟩
  rw [show 64 + r = 60 + (4 + r) by omega, h (60 + (4 + r)) _ (by rw [lc_60 (by omega)]; rfl), show 60 + (4 + r) = 64 + r by omega]
  exact h2 k m hk
theorem bsm_fr {u u' : xS} (h : ∀ i, rd u' 136 i = rd u 136 i) (P : Nat → Int32) (n : Nat) : sdJ u' P n = sdJ u P n := by
  have e : ∀ f, bsm u' P f n = bsm u P f n := fun f => by
    unfold bsm
    simp only [h]
  unfold sdJ
  simp only [e]
/-- the first broken of the blend P -/
def jgv (u : xS) (P : Nat → Int32) (S : Nat) (l : List Int32) : Option Int32 := fbk (sdJ u P S) (l ++ [-300]) 0 []
theorem fb_11 {u : xS} {r S : Nat} {P : Nat → Int32} {l : List Int32} {nr : Nat} (h58 : rd u 58 5 = nI nr) (hr : r < nr) (hr6 : nr ≤ 6) (hs : SL11 u (sdJ u P S)) (H : rcp u r l) : ∃ u', f_X10_firstBroken (nI r) u = some ((jgv u P S l).getD (-2), u') ∧ fr73 u u' := by
  obtain ⟨h1, h2, h3, h4, h5, h6⟩ := H
  have k0 : fr73 u (wr u 58 4 0) := fr73_d (fr73_r u)
  have hx : ∀ r, r < 6 → 60 + (4 + r) = 64 + r := fun r _ => by omega
  obtain ⟨u', q1, q2⟩ := fb11 (sd := sdJ u P S) (r := r) (by omega) (l ++ [-300]) xN 0 [] 0 (wr u 58 4 0) (xN_lt (by simp; omega)) (fun k m hk => (k0 _ _ (by omega) (by omega)).trans (h2 k m hk)) ((k0 _ _ (by omega) (by omega)).trans (by rw [h3]; simp)) (by simp; omega) (fun i hi => (k0 _ _ (by omega) (by omega)).trans (hs i hi)) trivial rfl (by simp; omega) h6
  refine ⟨u', ?_, fr73_t k0 q2⟩
  have eh : f_X10_hasRecipe u (nI r) = 1 := by rw [hasR h58, if_pos ⟨nI_lo (by omega), nI_lt hr (by omega)⟩]
  rw [f_X10_firstBroken, eh, if_neg (by decide), show (4 : Int32) + nI r = nI (4 + r) from nI_add 4 r, gd_nI (by omega) (by omega), nI_cl (by omega), hx r (by omega)]
  exact q1
theorem jd_12 {u : xS} {r S : Nat} {l : List Int32} (hr : r < 6) (h1 : rd u 135 1 = nI S) (hS : S ≤ 16) (H : rcp u r l) : ∃ u', f_X12_judged (nI r) u = some ((jgv u (rd u 160) S l).getD (-1), u') ∧ ∀ c j, ¬ c = 157 → ¬ c = 158 → ¬ (c = 135 ∧ j = 35) → rd u' c j = rd u c j := by
  obtain ⟨t1, t2, t3, t4, t5, t6⟩ := H
  obtain ⟨u1, q1, q2, q3⟩ := letters12 (u1 := u) (n := bcn (rd u 160) S) (m := bmx (rd u 160) S) h1 hS (k := fun u31 => gd (xin ((4 : Int32) + nI r) 12) ((f_X12_judged_163 xN ((64 : Int32) * ((4 : Int32) + nI r)) (((64 : Int32) * ((4 : Int32) + nI r)) + (rd u31 156 ((4 : Int32) + nI r).toNatClampNeg)) (0 : Int32) u31)))
  obtain ⟨u', g1, g2⟩ := jd12' (sd := sdJ u (rd u 160) S) (E := 64 * (4 + r) + l.length) (by omega) l.length l xN (64 * (4 + r)) 0 u1 (Nat.le_refl _) (xN_lt (by omega)) t6 (fun k m hk => (q3 155 _ (by decide)).trans (t4 k m hk)) rfl (by omega) q2
  refine ⟨u', ?_, fun c j h5 h6 h7 => (g2 c j h5 h7).trans (q3 c j h6)⟩
  have t0 : f_X12_truth 0 = 0 := rfl
  have t1' : f_X12_truth 1 = 1 := rfl
  rw [f_X12_judged]
  refine (it_loop (S := S) (F := fun N i (p : Int32 × Int32) => f_X12_judged_7 N (nI r) p.1 p.2 (nI i) u) (a := ((0 : Int32), (0 : Int32))) (fun s p => (if rd u 160 s ≤ 0 then p.1 else p.1 + 1, imax p.2 (rd u 160 s))) (fun p => f_X12_judged_7 1 (nI r) p.1 p.2 (nI S) u) (fun n i p hi => ?_) (fun n p => ?_) (xN_lt (by omega))).trans ?_
  · rw [f_X12_judged_7, h1, ite_nle hi (by omega), gd_nI (by omega) (by omega), nI_cl (by omega)]
    unfold f_X12_judged_32
    rw [gd_nI (by omega) (by omega), gd_nI (by omega) (by omega), nI_cl (by omega), nI_1, t0, t1', Int32.add_zero]
    by_cases c : rd u 160 i ≤ 0
    · rw [if_pos c, if_pos c]
    · rw [if_neg c, if_neg c]
  · rw [f_X12_judged_7, f_X12_judged_7, h1, ite_yle (Nat.le_refl _) (by omega), ite_yle (Nat.le_refl _) (by omega)]
  · have ep : ∀ n, it (fun s (p : Int32 × Int32) => (if rd u 160 s ≤ 0 then p.1 else p.1 + 1, imax p.2 (rd u 160 s))) ((0 : Int32), (0 : Int32)) n = (bcn (rd u 160) n, bmx (rd u 160) n) := by
      intro n
      induction n with
      | zero => rfl
      | succ n ih => rw [it_s, ih]; rfl
    rw [ep]
    dsimp only
    rw [f_X12_judged_7, h1, ite_yle (Nat.le_refl _) (by omega), q1]
    rw [show (4 : Int32) + nI r = nI (4 + r) from nI_add 4 r, gd_nI (by omega) (by omega), nI_cl (by omega), q3 156 _ (by decide), t5, l_64, pk_mul, nI_add]
    exact g1
theorem fbk_nn {sd : Nat → Int32} : ∀ (R : List Int32) (n : Nat) (st : List Int32) (e : Int32), fbk sd R (nI n) st = some e → ∃ k, k ≤ n + R.length ∧ e = nI k := by
  intro R
  induction R with
  | nil => intro n st e h; cases h
  | cons m R ih =>
    intro n st e h
    rw [List.length_cons]
    by_cases hm : m = -300
    · subst hm
      match st, h with
      | [], h => rw [fbk.eq_def] at h; dsimp only at h; rw [if_pos rfl] at h; cases h
      | x :: st, h =>
        rw [fbk, if_pos rfl] at h
        by_cases hx : x = 0
        · rw [if_pos hx] at h
          cases h
          exact ⟨n, by omega, rfl⟩
        · rw [if_neg hx, nI_1] at h
          obtain ⟨k, hk, e1⟩ := ih _ _ _ h
          exact ⟨k, by omega, e1⟩
    · rw [fbk_c hm] at h
      obtain ⟨k, hk, e1⟩ := ih _ _ _ h
      exact ⟨k, by omega, e1⟩
theorem jgv_fr {u u' : xS} (h : ∀ i, rd u' 136 i = rd u 136 i) (P : Nat → Int32) (S : Nat) (l : List Int32) : jgv u' P S l = jgv u P S l := by
  unfold jgv
  rw [bsm_fr h]
theorem jgv_nn {u : xS} {P : Nat → Int32} {S : Nat} {l : List Int32} (hl : l.length ≤ 60) {e : Int32} (h : jgv u P S l = some e) : ∃ k, k ≤ 61 ∧ e = nI k := by
  obtain ⟨k, hk, h2⟩ := fbk_nn (l ++ [-300]) 0 [] e h
  exact ⟨k, by simp at hk; omega, h2⟩
theorem F_sum {u : xS} (hS : i_S u) (hF : i_F u) : isum (fun s => rd u 80 s) 16 = isum (fun s => rd u 160 s) (nS u) := by
  rw [isum_congr (g := fun s => rd u 160 s) (fun s hs => (hF s hs).1), isum_ext hS.2.2.1]
  exact fun s h1 h2 => (hF s h2).2.2 h1
theorem s_judge : xS_judge Inv := by
  intro u a1 hI
  apply st_W
  have hJ := Inv_thr hI
  obtain ⟨x1, x2, x3, x4, x5⟩ := hI.X
  have hS3 := hI.S.2.2.1
  simp only [f_X11_judge, f_X12_judge, hasR x1, ite_10]
  by_cases h1 : 0 ≤ a1 ∧ a1 < nI (nR u)
  · obtain ⟨r, hr, rfl⟩ := nI_ix (by omega) h1.1 h1.2
    rw [if_pos h1, c_inAll, Option.bind_some, F_sum hI.S hI.F]
    by_cases h2 : isum (fun s => rd u 160 s) (nS u) = 12
    · obtain ⟨l, hl⟩ := rcp_at hI.X hr
      obtain ⟨u1, p1, p2, p3⟩ := tb11 (c := 80) (P := rd u 160) (Or.inl rfl) hI.S.1 hS3 (fun s hs => (hI.S.2.2.2 s hs).1) (fun s hs => by
        obtain ⟨q1, ⟨v, hv, q2⟩, -⟩ := hI.F s (by omega)
        exact ⟨q1, v, hv, q2⟩)
      have g1 : ag wX u u1 := fun c j hc => p3 c j (ne_W 81 (fun _ => rfl) hc) (ne_W 72 (fun _ => rfl) hc)
      have e136 : ∀ i, rd u1 136 i = rd u 136 i := fun i => g1 136 i rfl
      obtain ⟨u2, q1, q2⟩ := fb_11 (u := u1) (P := rd u 160) (S := nS u) (l := l) ((g1 58 5 rfl).trans x1) hr x3 (by rw [bsm_fr e136]; exact p2) (rcp_fr (by omega) (ag_sm g1 rfl) hl)
      have g2 : ag wX u u2 := fun c j hc => (q2 c j (ne_W 73 (fun _ => rfl) hc) (fun z => by rw [z.1, z.2] at hc; revert hc; decide)).trans (g1 c j hc)
      rw [if_pos h2, p1, Option.bind_some, q1, Option.bind_some, ok_some]
      dsimp only
      have g3 : ag wX u (wr u2 135 0 0) := ag_wr g2 rfl
      generalize wr u2 135 0 0 = u3 at g3 ⊢
      have e : f_X12_isRecipe u3 (nI r) = 1 := by rw [isR ((g3 135 28 rfl).trans x2) (by omega), if_pos h1]
      have e160 : rd u3 160 = rd u 160 := funext fun i => g3 160 i rfl
      obtain ⟨u4, z1, z2⟩ := jd_12 (u := u3) (r := r) (S := nS u) (l := l) (by omega) ((g3 135 1 rfl).trans hI.S.2.1) hS3 (rcp_fr (by omega) (ag_sm g3 rfl) hl)
      have g4 : ag wX u u4 := fun c j hc => (z2 c j (ne_W 157 (fun _ => rfl) hc) (ne_W 158 (fun _ => rfl) hc) (fun z => by rw [z.1, z.2] at hc; revert hc; decide)).trans (g3 c j hc)
      rw [e160, jgv_fr (fun i => g3 136 i rfl)] at z1
      rw [jgv_fr e136]
      have ep : f_X12_partsInAll u3 = some 12 := by
        rw [c_partsInAll ((g3 135 1 rfl).trans hI.S.2.1) hS3, e160, h2]
      rw [e, if_neg (by decide), ep, Option.bind_some, if_pos rfl, z1, Option.bind_some]
      dsimp only
      cases hj : jgv u (rd u 160) (nS u) l with
      | none =>
        rw [Option.getD_none, if_neg (by decide), ok_some]
        exact ⟨rfl, Inv_scr g4 hI⟩
      | some e =>
        obtain ⟨k, hk, ek⟩ := jgv_nn hl.1 hj
        rw [Option.getD_some, Option.getD_some, ek, if_pos (nI_lo (by omega)), ok_some]
        exact ⟨rfl, Inv_scr g4 hI⟩
    · rw [if_neg h2, ok_some]
      dsimp only
      have e : f_X12_isRecipe (wr u 135 0 0) (nI r) = 1 := by rw [isR (u := wr u 135 0 0) x2 (by omega), if_pos h1]
      have ep : f_X12_partsInAll (wr u 135 0 0) = some (isum (fun s => rd u 160 s) (nS u)) := c_partsInAll (u := wr u 135 0 0) hI.S.2.1 hS3
      rw [e, if_neg (by decide), ep, Option.bind_some, if_neg h2, ok_some]
      exact ⟨rfl, hJ⟩
  · rw [if_neg h1, ok_some]
    have e : f_X12_isRecipe (wr u 135 0 0) a1 = 0 := by rw [isR (u := wr u 135 0 0) x2 (by omega), if_neg h1]
    dsimp only
    rw [e, if_pos rfl, ok_some]
    exact ⟨rfl, hJ⟩
