/-! MIX: the reference's search -/
abbrev wM : List (Nat × Nat) := [(135, 1), (135, 36), (135, 43), (157, 0), (158, 0), (160, 0), (164, 0)]
theorem isum_below {f g : Nat → Int32} {n : Nat} (h : ∀ i, i < n → f i = g i) : isum f n = isum g n := isum_congr h
theorem jgv_below {u : xS} {P P' : Nat → Int32} {S : Nat} {L : List Int32} (h : ∀ s, s < S → P s = P' s) : jgv u P S L = jgv u P' S L := by
  have e1 : ∀ f, bsm u P f S = bsm u P' f S := fun f => isum_congr fun s hs => by rw [h s hs]
  have e2 : bcn P S = bcn P' S := it_congr fun s x hs => by rw [h s hs]
  have e3 : bmx P S = bmx P' S := it_congr fun s x hs => by rw [h s hs]
  unfold jgv sdJ
  simp only [e1, e2, e3]
theorem enb_iff {u : xS} {q : Int32} : ∀ n, enb u q n = true ↔ ∀ s, s < n → rd u 160 s * q ≤ sto u s := by
  intro n
  induction n with
  | zero => exact ⟨fun _ s hs => by omega, fun _ => rfl⟩
  | succ n ih =>
    rw [enb, Bool.and_eq_true, ih]
    constructor
    · rintro ⟨h1, h2⟩ s hs
      by_cases e : s = n
      · rw [e]
        exact of_decide_eq_true h2
      · exact h1 s (by omega)
    · intro h
      exact ⟨fun s hs => h s (by omega), decide_eq_true (h n (by omega))⟩
def stoN (u : xS) (s : Nat) : Nat := nsum (fun b => eL u b s) (nB u)
/-- the most parts that a sort has pounds for -/
def mMn (u : xS) (q s : Nat) : Nat := if q = 0 then 12 else min 12 (stoN u s / q)
theorem mMn_le (u : xS) (q s : Nat) : mMn u q s ≤ 12 := by
  unfold mMn
  by_cases c : q = 0
  · rw [if_pos c]; omega
  · rw [if_neg c]; omega
theorem stoN_le {u : xS} (hI : Inv4 u) {s : Nat} (hs : s < 16) : stoN u s ≤ 300000 := by
  have h24 := hI.B.2.2.1
  have := nsum_bd (f := fun b => eL u b s) (c := 9999) (n := nB u) fun b hb => eL_le hI (by omega) hs
  unfold stoN
  omega
theorem mMn_iff {u : xS} (hI : Inv4 u) {q s v : Nat} (hs : s < 16) (hq : q ≤ 833) (hv : v ≤ 12) : v ≤ mMn u q s ↔ nI v * nI q ≤ sto u s := by
  have h1 := stoN_le hI hs
  have h2 : v * q ≤ 12 * 833 := Nat.mul_le_mul hv hq
  have e : sto u s = nI (stoN u s) := sto_nI hI.L hI.B hs
  rw [e, pk_mul, nI_leI (by omega) (by omega)]
  unfold mMn
  by_cases c : q = 0
  · rw [if_pos c, c, Nat.mul_zero]
    exact ⟨fun _ => Nat.zero_le _, fun _ => hv⟩
  · rw [if_neg c, ← Nat.le_div_iff_mul_le (by omega)]
    omega
section MIXES
variable {u : xS} {r q : Nat} {L : List Int32} {ch : Nat → Bool} {pr : Nat → Nat} {w : Int32}
/-- the tests of the reference -/
abbrev rT (u : xS) (ch : Nat → Bool) (q : Nat) (L : List Int32) : (Nat → Nat) → Bool := mT u ch (nS u) (mMn u q) L
def MS (u : xS) (C : (Nat → Nat) → Nat) (a : Nat → Nat) (b : Option (Nat → Nat)) (u' : xS) : Prop := ag wM u u' ∧ (∀ s, s < 16 → rd u' 160 s = nI (a s)) ∧ rd u' 135 42 = mls C (-1) b ∧ ∀ p, b = some p → ∀ s, s < nS u → rd u' 164 s = nI (p s)
/-- what stands before a search -/
def rB (u : xS) (r q : Nat) (L : List Int32) (pr : Nat → Nat) (w : Int32) : Prop := i_S u ∧ i_P u ∧ Inv4 u ∧ r < 6 ∧ rcp u r L ∧ q ≤ 833 ∧ (∀ s, prc u (nI s) w = nI (pr s)) ∧ ∀ s, pr s ≤ 999
theorem copy63 {k : Int32 → Int32 → Int32 → Int32 → Int32 → Int32 → xS → Option xS} {S : Nat} {a : Nat → Nat} (hS : S ≤ 16) : ∀ (N i : Nat) (u : xS), S < N + i → i ≤ S → rd u 135 1 = nI S → (∀ s, s < S → rd u 160 s = nI (a s)) → (∀ s, s < i → rd u 164 s = nI (a s)) → ∃ u', f_X12_mixes_63 k N (nI i) u = some u' ∧ (∀ s, s < S → rd u' 164 s = nI (a s)) ∧ ∀ c j, ¬ c = 164 → rd u' c j = rd u c j := by
  intro N
  induction N with
  | zero => intro i u h1 h2; omega
  | succ N ih =>
    intro i u h1 h2 h3 h4 h5
    by_cases hi : i = S
    · subst hi
      refine ⟨u, ?_, h5, fun _ _ _ => rfl⟩
      rw [f_X12_mixes_63, h3, ite_yle (Nat.le_refl _) (by omega)]
    · obtain ⟨u', z1, z2, z3⟩ := ih (i + 1) (wr u 164 i (nI (a i))) (by omega) (by omega) h3 (fun j hj => (rd_wr_ne (by omega)).trans (h4 j hj)) (fun j hj => by
        by_cases e : j = i
        · rw [e, rd_wr, if_pos rfl, if_pos rfl]
        · rw [rd_wr_ne (by omega)]
          exact h5 j (by omega))
      refine ⟨u', ?_, z2, fun c j hc => (z3 c j hc).trans (rd_wr_ne (fun z => hc z.1))⟩
      rw [f_X12_mixes_63, h3, ite_nle (by omega) (by omega), gd_nI (by omega) (by omega), nI_cl (by omega), h4 i (by omega), nI_1]
      exact z1
theorem leafM (hB : rB u r q L pr w) {k : Int32 → Int32 → Int32 → Int32 → Int32 → Int32 → xS → Option xS} {a : Nat → Nat} (ha : ∀ s, a s ≤ 12) (h0 : ∀ s, s < nS u → ¬ ch s = true → a s = 0) {b : Option (Nat → Nat)} (hb : ∀ p, b = some p → ∀ s, p s ≤ 12) {left : Nat} (hl : left ≤ 12) {bits : Int32} {u' : xS} (h : MS u (mC pr (nS u)) a b u') :
    ∃ u'', f_X12_mixes k (nI r) bits (nI (12 * q)) w (nI (nS u)) (nI left) u' = some u'' ∧ MS u (mC pr (nS u)) a ((if left = 0 then [a] else []).foldl (mup (rT u ch q L) (mC pr (nS u))) b) u'' := by
  obtain ⟨bS, bP, b4, br, bL, bq, bp, bpr⟩ := hB
  obtain ⟨g, m1, m2, m3⟩ := h
  have hS := bS.2.2.1
  have s1 : rd u' 135 1 = nI (nS u) := (g 135 1 rfl).trans bS.2.1
  have hSb : i_S u' := fr_S (ag_sm g rfl) bS
  have hBb : i_B u' := fr_B (ag_sm g rfl) b4.B
  have hPb : i_P u' := fr_P (ag_sm g rfl) bP
  have enS : nS u' = nS u := congrArg nv (g 135 1 rfl)
  rw [f_X12_mixes, s1, if_pos rfl]
  by_cases c0 : left = 0
  · subst c0
    rw [if_pos rfl, if_pos (show nI 0 = 0 from rfl), List.foldl_cons, List.foldl_nil]
    have hq12 : nI (12 * q) / 12 = nI q := by
      rw [l_12, pk_div (by omega) (by omega) (by omega), show 12 * q / 12 = q by omega]
    have hEn := c_isEnough (u := u') hSb hBb hq12
    rw [enS] at hEn
    have hEi : enb u' (nI q) (nS u) = true ↔ ∀ s, s < nS u → ch s = true → a s ≤ mMn u q s := by
      rw [enb_iff]
      have est : ∀ s, sto u' s = sto u s := fun s => sto_fr (g 135 7 rfl) (fun i => g 147 i rfl) s
      constructor
      · intro z s hs _
        have := z s hs
        rw [m1 s (by omega), est] at this
        exact (mMn_iff b4 (by omega) bq (ha s)).mpr this
      · intro z s hs
        rw [m1 s (by omega), est]
        by_cases hc : ch s = true
        · exact (mMn_iff b4 (by omega) bq (ha s)).mp (z s hs hc)
        · refine (mMn_iff b4 (by omega) bq (ha s)).mp ?_
          rw [h0 s hs hc]
          exact Nat.zero_le _
    rw [hEn, Option.bind_some, ite_10]
    by_cases hE : enb u' (nI q) (nS u) = true
    · rw [if_pos hE]
      obtain ⟨u1, j1, j2⟩ := jd_12 (u := u') (r := r) (S := nS u) (l := L) br s1 hS (rcp_fr br (ag_sm g rfl) bL)
      have g1 : ag wM u u1 := fun c j hc => (j2 c j (ne_W 157 (fun _ => rfl) hc) (ne_W 158 (fun _ => rfl) hc) (fun z => by rw [z.1, z.2] at hc; revert hc; decide)).trans (g c j hc)
      have ej : jgv u' (rd u' 160) (nS u) L = jgv u (fun s => nI (a s)) (nS u) L := by
        rw [jgv_fr (fun i => g 136 i rfl)]
        exact jgv_below fun s hs => m1 s (by omega)
      have n160 : ∀ s, s < 16 → rd u1 160 s = nI (a s) := fun s hs => (j2 160 s (by decide) (by decide) (by omega)).trans (m1 s hs)
      have n42 : rd u1 135 42 = mls (mC pr (nS u)) (-1) b := (j2 135 42 (by decide) (by decide) (by omega)).trans m2
      have n164 : ∀ p, b = some p → ∀ s, s < nS u → rd u1 164 s = nI (p s) := fun p hp s hs => (j2 164 s (by decide) (by decide) (by omega)).trans (m3 p hp s hs)
      have hTj : rT u ch q L a = (jgv u (fun s => nI (a s)) (nS u) L).isNone := by
        show mT u ch (nS u) (mMn u q) L a = _
        unfold mT
        rw [decide_eq_true (hEi.mp hE), Bool.true_and]
      rw [j1, Option.bind_some, ej]
      dsimp only
      cases hj : jgv u (fun s => nI (a s)) (nS u) L with
      | some e =>
        obtain ⟨kk, hkk, ekk⟩ := jgv_nn bL.1 hj
        rw [hj] at hTj
        rw [Option.getD_some, ekk, if_pos (nI_lo (by omega)), mup_no (fun z => by rw [hTj] at z; cases z)]
        exact ⟨u1, rfl, g1, n160, n42, n164⟩
      | none =>
        rw [hj] at hTj
        have hT : rT u ch q L a = true := hTj
        rw [Option.getD_none, if_neg (by decide)]
        have hSc : i_S u1 := fr_S (ag_sm g1 rfl) bS
        have hPc : i_P u1 := fr_P (ag_sm g1 rfl) bP
        have enS1 : nS u1 = nS u := congrArg nv (g1 135 1 rfl)
        have ecost : f_X12_costOf u1 w = some (nI (mC pr (nS u) a)) := by
          rw [c_costOf hSc hPc]
          unfold cst
          rw [enS1]
          refine congrArg some (isum_nI fun s hs => ?_)
          rw [n160 s (by omega), prc_fr (ag_sm g1 rfl), bp s, pk_mul]
        have save : ∃ u'', f_X12_mixes_50 k w u1 = some u'' ∧ MS u (mC pr (nS u)) a (some a) u'' := by
          obtain ⟨u2, y1, y2, y3⟩ := copy63 (k := k) (a := a) hS xN 0 (wr u1 135 42 (nI (mC pr (nS u) a))) (xN_lt (by omega)) (Nat.zero_le _) ((rd_wr_ne (by omega)).trans ((g1 135 1 rfl).trans bS.2.1)) (fun s hs => (rd_wr_ne (by omega)).trans (n160 s (by omega))) (fun s hs => by omega)
          refine ⟨u2, ?_, fun c j hc => (y3 c j (ne_W 164 (fun _ => rfl) hc)).trans ((rd_wr_ne (fun z => by rw [z.1, z.2] at hc; revert hc; decide)).trans (g1 c j hc)), fun s hs => (y3 160 s (by decide)).trans ((rd_wr_ne (by omega)).trans (n160 s hs)), (y3 135 42 (by decide)).trans rfl, fun p hp s hs => ?_⟩
          · rw [f_X12_mixes_50, ecost, Option.bind_some]
            exact y1
          · cases hp
            exact y2 s hs
        have hCa := mC_le (S := nS u) hS bpr ha
        cases b with
        | none =>
          obtain ⟨u2, y1, y2⟩ := save
          rw [n42, show mls (mC pr (nS u)) (-1) none = -1 from rfl, if_pos (by decide), y1, mup_0 hT]
          exact ⟨u2, rfl, y2⟩
        | some p =>
          have hCp := mC_le (S := nS u) hS bpr (hb p rfl)
          rw [n42, show mls (mC pr (nS u)) (-1) (some p) = nI (mC pr (nS u) p) from rfl, if_neg (nI_pos (by omega)), ecost, Option.bind_some]
          by_cases c2 : mC pr (nS u) p ≤ mC pr (nS u) a
          · rw [if_pos (nI_le c2 (by omega)), mup_dear c2]
            exact ⟨u1, rfl, g1, n160, n42, n164⟩
          · obtain ⟨u2, y1, y2⟩ := save
            rw [if_neg (nI_ge (by omega) (by omega)), y1, mup_1 hT (by omega)]
            exact ⟨u2, rfl, y2⟩
    · have hT : ¬ rT u ch q L a = true := fun z => by
        have z2 : mT u ch (nS u) (mMn u q) L a = true := z
        unfold mT at z2
        rw [Bool.and_eq_true] at z2
        exact hE (hEi.mpr (of_decide_eq_true z2.1))
      rw [if_neg hE, mup_no hT]
      exact ⟨u', rfl, g, m1, m2, m3⟩
  · rw [if_neg c0, if_neg (nI_ne0 (by omega) (by omega))]
    exact ⟨u', rfl, g, m1, m2, m3⟩
/-- the values of one sort -/
theorem rowM {k : Int32 → Int32 → Int32 → Int32 → Int32 → Int32 → xS → Option xS} {C : (Nat → Nat) → Nat} {T : (Nat → Nat) → Bool} {v1 v3 bits : Int32} {i left : Nat} {a : Nat → Nat} (hi : i < 16) (hl : left ≤ 12) (hbit : ((bits >>> (nI i &&& 31)) &&& (1 : Int32)) = (1 : Int32)) (a0 : a i = 0) {f : Nat → Nat → List (Nat → Nat)} (hk : ∀ v m b u', v + m = left → (∀ p, b = some p → ∀ s, p s ≤ 12) → MS u C (ua a i v) b u' → ∃ u'', k v1 bits v3 w (nI (i + 1)) (nI m) u' = some u'' ∧ MS u C (ua a i v) ((f v m).foldl (mup T C) b) u'' ∧ ∀ p, (f v m).foldl (mup T C) b = some p → ∀ s, p s ≤ 12) : ∀ (j v N : Nat) (b : Option (Nat → Nat)) (u' : xS) (x : Nat), v + j = left → j + 1 < N → (∀ p, b = some p → ∀ s, p s ≤ 12) → MS u C (ua a i x) b u' → ∃ u'', f_X12_mixes_96 k N v1 bits v3 w (nI i) (nI left) (nI v) u' = some u'' ∧ MS u C a ((lrow f v j).foldl (mup T C) b) u'' ∧ ∀ p, (lrow f v j).foldl (mup T C) b = some p → ∀ s, p s ≤ 12 := by
  have put : ∀ (x y : Nat) (b : Option (Nat → Nat)) (u' : xS), MS u C (ua a i x) b u' → MS u C (ua a i y) b (wr u' 160 i (nI y)) := fun x y b u' h => by
    obtain ⟨g, m1, m2, m3⟩ := h
    refine ⟨ag_wr g rfl, fun s hs => ?_, (rd_wr_ne (by omega)).trans m2, fun p hp s hs => (rd_wr_ne (by omega)).trans (m3 p hp s hs)⟩
    by_cases e : s = i
    · rw [e, rd_wr, if_pos rfl, if_pos rfl, ua_i]
    · rw [rd_wr_ne (fun z => e z.2), m1 s hs, ua_n e, ua_n e]
  have done : ∀ (N : Nat) (v : Nat), left < v → v ≤ 13 → ∀ (b : Option (Nat → Nat)) (u' : xS) (x : Nat), MS u C (ua a i x) b u' → f_X12_mixes_96 k (N + 1) v1 bits v3 w (nI i) (nI left) (nI v) u' = some (wr u' 160 i 0) ∧ MS u C a b (wr u' 160 i 0) := fun N v h1 h2 b u' x h => by
    refine ⟨?_, ?_⟩
    · rw [f_X12_mixes_96, if_pos hbit, f_X12_mixes_114, if_pos (nI_lt h1 (by omega)), gd_nI hi (by omega), nI_cl (by omega)]
    · have := put x 0 b u' h
      rw [ua_0 a0] at this
      exact this
  have one : ∀ (N v m : Nat) (b : Option (Nat → Nat)) (u' : xS) (x : Nat), v + m = left → (∀ p, b = some p → ∀ s, p s ≤ 12) → MS u C (ua a i x) b u' → ∃ u'', f_X12_mixes_96 k (N + 1) v1 bits v3 w (nI i) (nI left) (nI v) u' = f_X12_mixes_96 k N v1 bits v3 w (nI i) (nI left) (nI (v + 1)) u'' ∧ MS u C (ua a i v) ((f v m).foldl (mup T C) b) u'' ∧ ∀ p, (f v m).foldl (mup T C) b = some p → ∀ s, p s ≤ 12 := fun N v m b u' x h1 h2 h => by
    obtain ⟨u'', z1, z2, z3⟩ := hk v m b (wr u' 160 i (nI v)) h1 h2 (put x v b u' h)
    refine ⟨u'', ?_, z2, z3⟩
    rw [f_X12_mixes_96, if_pos hbit, f_X12_mixes_114, if_neg (nI_nlt (by omega) (by omega)), gd_nI hi (by omega), nI_cl (by omega), nI_1, nI_sub (by omega), show left - v = m by omega, z1, Option.bind_some, nI_1]
  intro j
  induction j with
  | zero =>
    intro v N b u' x h1 h2 h3 h
    obtain ⟨N, rfl⟩ : ∃ M, N = M + 1 + 1 := ⟨N - 2, by omega⟩
    obtain ⟨u1, z1, z2, z3⟩ := one (N + 1) v 0 b u' x h1 h3 h
    obtain ⟨y1, y2⟩ := done N (v + 1) (by omega) (by omega) _ u1 v z2
    exact ⟨_, z1.trans y1, y2, z3⟩
  | succ j ih =>
    intro v N b u' x h1 h2 h3 h
    obtain ⟨N, rfl⟩ : ∃ M, N = M + 1 := ⟨N - 1, by omega⟩
    obtain ⟨u1, z1, z2, z3⟩ := one N v (j + 1) b u' x (by omega) h3 h
    obtain ⟨u2, y1, y2, y3⟩ := ih (v + 1) N _ u1 v (by omega) (by omega) z3 z2
    rw [lrow, List.foldl_append]
    exact ⟨u2, z1.trans y1, y2, y3⟩
theorem mup_12f {T : (Nat → Nat) → Bool} {C : (Nat → Nat) → Nat} : ∀ (l : List (Nat → Nat)) (b : Option (Nat → Nat)), (∀ a, a ∈ l → ∀ s, a s ≤ 12) → (∀ p, b = some p → ∀ s, p s ≤ 12) → ∀ p, l.foldl (mup T C) b = some p → ∀ s, p s ≤ 12 := by
  intro l
  induction l with
  | nil => intro b _ h; exact h
  | cons a l ih =>
    intro b h1 h2
    rw [List.foldl_cons]
    exact ih _ (fun x hx => h1 x (List.mem_cons_of_mem _ hx)) (mup_12 h2 (h1 a List.mem_cons_self))
theorem mixes12 (hB : rB u r q L pr w) {bits : Int32} (hbits : ∀ s, s < 16 → (((bits >>> (nI s &&& 31)) &&& (1 : Int32)) = (1 : Int32) ↔ ch s = true)) : ∀ (d i left F : Nat) (a : Nat → Nat) (b : Option (Nat → Nat)) (u' : xS), i + d = nS u → d < F → left ≤ 12 → (∀ s, a s ≤ 12) → (∀ s, s < i → ¬ ch s = true → a s = 0) → (∀ s, i ≤ s → a s = 0) → (∀ p, b = some p → ∀ s, p s ≤ 12) → MS u (mC pr (nS u)) a b u' →
    ∃ u'', fr_mixes F (nI r) bits (nI (12 * q)) w (nI i) (nI left) u' = some u'' ∧ MS u (mC pr (nS u)) a ((lvs ch d i left a).foldl (mup (rT u ch q L) (mC pr (nS u))) b) u'' ∧ ∀ p, (lvs ch d i left a).foldl (mup (rT u ch q L) (mC pr (nS u))) b = some p → ∀ s, p s ≤ 12 := by
  have hS := hB.1.2.2.1
  intro d
  induction d with
  | zero =>
    intro i left F a b u' h1 h2 h3 h4 h5 h6 h7 h
    obtain ⟨F, rfl⟩ : ∃ M, F = M + 1 := ⟨F - 1, by omega⟩
    have ei : i = nS u := by omega
    subst ei
    obtain ⟨u'', z1, z2⟩ := leafM (ch := ch) (k := fr_mixes F) hB h4 h5 h7 h3 (bits := bits) h
    refine ⟨u'', z1, z2, mup_12f _ b (fun x hx => ?_) h7⟩
    rw [lvs] at hx
    by_cases c : left = 0
    · rw [if_pos c, List.mem_singleton] at hx
      rw [hx]
      exact h4
    · rw [if_neg c] at hx
      cases hx
  | succ d ih =>
    intro i left F a b u' h1 h2 h3 h4 h5 h6 h7 h
    obtain ⟨F, rfl⟩ : ∃ M, F = M + 1 := ⟨F - 1, by omega⟩
    have s1 : rd u' 135 1 = nI (nS u) := (h.1 135 1 rfl).trans hB.1.2.1
    have op : fr_mixes (F + 1) (nI r) bits (nI (12 * q)) w (nI i) (nI left) u' = f_X12_mixes_96 (fr_mixes F) xN (nI r) bits (nI (12 * q)) w (nI i) (nI left) (nI 0) u' := by
      show f_X12_mixes (fr_mixes F) (nI r) bits (nI (12 * q)) w (nI i) (nI left) u' = _
      rw [f_X12_mixes, s1, if_neg (fun z => by have := (nI_eq (by omega) (by omega)).mp z; omega), l_0]
    have ua12 : ∀ v, v ≤ 12 → ∀ s, ua a i v s ≤ 12 := fun v hv s => by
      by_cases e : s = i
      · rw [e, ua_i]; exact hv
      · rw [ua_n e]; exact h4 s
    have ua5 : ∀ v, (ch i = true ∨ v = 0) → ∀ s, s < i + 1 → ¬ ch s = true → ua a i v s = 0 := fun v hv s hs hn => by
      by_cases e : s = i
      · rw [e, ua_i]
        rcases hv with hv | hv
        · rw [e] at hn
          exact absurd hv hn
        · exact hv
      · rw [ua_n e]
        exact h5 s (by omega) hn
    rw [op, lvs]
    by_cases c : ch i = true
    · rw [if_pos c]
      refine rowM (u := u) (w := w) (a := a) (i := i) (left := left) (k := fr_mixes F) (by omega) h3 ((hbits i (by omega)).mpr c) (h6 i (Nat.le_refl _)) (f := fun v m => lvs ch d (i + 1) m (ua a i v)) (fun v m b2 u2 q1 q2 q3 => ih (i + 1) m F (ua a i v) b2 u2 (by omega) (by omega) (by omega) (ua12 v (by omega)) (ua5 v (Or.inl c)) (ua_z h6) q2 q3) left 0 xN b u' 0 (by omega) (xN_lt (by omega)) h7 ?_
      rw [ua_0 (h6 i (Nat.le_refl _))]
      exact h
    · have nb : ¬ ((bits >>> (nI i &&& 31)) &&& (1 : Int32)) = (1 : Int32) := fun z => c ((hbits i (by omega)).mp z)
      have e0 := ua_0 (a := a) (i := i) (h6 i (Nat.le_refl _))
      rw [if_neg c, e0]
      obtain ⟨g, m1, m2, m3⟩ := h
      have w0 : ∀ (b2 : Option (Nat → Nat)) (u2 : xS), MS u (mC pr (nS u)) a b2 u2 → MS u (mC pr (nS u)) a b2 (wr u2 160 i 0) := fun b2 u2 hh => by
        obtain ⟨g', n1, n2, n3⟩ := hh
        refine ⟨ag_wr g' rfl, fun s hs => ?_, (rd_wr_ne (by omega)).trans n2, fun p hp s hs => (rd_wr_ne (by omega)).trans (n3 p hp s hs)⟩
        by_cases e : s = i
        · rw [e, rd_wr, if_pos rfl, if_pos rfl, h6 i (Nat.le_refl _)]
          rfl
        · rw [rd_wr_ne (fun z => e z.2), n1 s hs]
      obtain ⟨u1, z1, z2, z3⟩ := ih (i + 1) left F a b (wr u' 160 i 0) (by omega) (by omega) h3 h4 (fun s hs hn => by
        by_cases e : s = i
        · rw [e]; exact h6 i (Nat.le_refl _)
        · exact h5 s (by omega) hn) (fun s hs => h6 s (by omega)) h7 (w0 b u' ⟨g, m1, m2, m3⟩)
      refine ⟨wr u1 160 i 0, ?_, w0 _ u1 z2, z3⟩
      have e1 : xN = 999998 + 1 + 1 := rfl
      rw [e1, f_X12_mixes_96, if_neg nb, f_X12_mixes_114, if_neg (show ¬ (0 : Int32) < nI 0 from by decide), gd_nI (by omega) (by omega), nI_cl (by omega), nI_1, nI_sub (Nat.zero_le _), Nat.sub_zero, show wr u' 160 i (nI 0) = wr u' 160 i 0 from rfl, z1, Option.bind_some, nI_1, f_X12_mixes_96, if_neg nb, f_X12_mixes_114, if_pos (show (0 : Int32) < nI (0 + 1) from by decide), gd_nI (by omega) (by omega), nI_cl (by omega)]
end MIXES
