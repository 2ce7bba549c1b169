/-! THE VALUE OF A CONTRACT, OF THE PAY -/
def tv (sd : Nat → Int32) (l : List Int32) : Int32 := (evA sd l []).headD 0
theorem v11 {u : xS} {sd : Nat → Int32} {t : Nat} {l : List Int32} (ht : t < 11) (hl : l.length ≤ 60) (hc : ∀ k m, l[k]? = some m → rd u (60 + t) k = em m) (h71 : rd u 71 t = nI l.length) (hn : ¬ (-300) ∈ l) (hd : l = [] ∨ dep l 0 = some 1) (hs : SL11 u sd) : ∃ u', f_X10_valueOf (nI t) u = some (tv sd l, u') ∧ fr73 u u' := by
  have k0 : fr73 u (wr u 58 4 0) := fr73_d (fr73_r u)
  have e1 : f_X11_lies (nI t) 0 10 = 1 := by
    rw [lies_eq, if_pos ⟨nI_lo (by omega), nI_le (b := 10) (by omega) (by omega)⟩]
  rcases hd with hd | hd
  · subst hd
    refine ⟨_, ?_, k0⟩
    rw [f_X10_valueOf, e1, if_neg (by decide), show xN = 999999 + 1 from rfl, f_X10_valueOf_19, gd_nI ht (by omega), nI_cl (by omega), show rd (wr u 58 4 0) 71 t = nI 0 from h71, if_pos (by decide), f_X10_pop, if_pos (show rd (wr u 58 4 0) 58 4 = 0 from rfl), Option.bind_some]
    rfl
  · have hc' : isCode (wr u 58 4 0) (60 + t) 0 l := fun k m hk => by
      rw [Nat.zero_add, k0 _ _ (by omega) (by omega)]
      exact hc k m hk
    obtain ⟨x, u', q1, q2, q3⟩ := val11 (sd := sd) (d := 1) ht l xN 0 [] (wr u 58 4 0) (xN_lt (by omega)) hc' (by rw [k0 _ _ (by omega) (by omega), h71, Nat.zero_add]) (by omega) (fun i hi => (k0 _ _ (by omega) (by omega)).trans (hs i hi)) trivial rfl (by simpa using by omega) hn hd rfl
    refine ⟨u', ?_, fr73_t k0 q3⟩
    rw [f_X10_valueOf, e1, if_neg (by decide)]
    unfold tv
    rw [q2]
    exact q1
theorem v12 {u : xS} {sd : Nat → Int32} {t : Nat} {l : List Int32} (ht : t < 12) (hl : l.length ≤ 60) (hc : ∀ k m, l[k]? = some m → rd u 155 (64 * t + k) = m) (h156 : rd u 156 t = nI l.length) (hn : ¬ (-300) ∈ l) (hd : dep l 0 = some 1) (hs : SL12 u sd) : ∃ u', f_X12_value (nI t) u = some (tv sd l, u') ∧ ∀ c j, ¬ c = 157 → ¬ (c = 135 ∧ j = 35) → rd u' c j = rd u c j := by
  obtain ⟨x, u', q1, q2, q3⟩ := val12 (E := 64 * t + l.length) (i := 64 * t) (sd := sd) (u := u) (A := l) (by omega) (by omega) hc hn hd (Or.inl rfl) hs
  refine ⟨wr u' 135 35 (nI (64 * t + l.length)), ?_, fun c j h1 h2 => (rd_wr_ne h2).trans (q3 c j h1)⟩
  unfold tv
  rw [f_X12_value, gd_nI ht (by omega), show (64 : Int32) = nI 64 from rfl, pk_mul, nI_cl (by omega), h156, nI_add, q1, Option.bind_some, q2]
  rfl
theorem up_comm {sd : Nat → Int32} {j k : Nat} {v w : Int32} (h : ¬ j = k) : up (up sd j v) k w = up (up sd k w) j v := by
  funext i
  unfold up
  by_cases e1 : i = k
  · rw [if_pos e1, if_neg (by omega), if_pos e1]
  · rw [if_neg e1]
    by_cases e2 : i = j
    · rw [if_pos e2, if_pos e2]
    · rw [if_neg e2, if_neg e2, if_neg e1]
theorem up_same {sd : Nat → Int32} {k : Nat} {v : Int32} (h : sd k = v) : up sd k v = sd := by
  funext i
  unfold up
  by_cases e : i = k
  · rw [if_pos e, e, h]
  · rw [if_neg e]
/-- the letters of a contract -/
def sdO (L D K O Q : Int32) : Nat → Int32 := up (up (up (up (up (fun _ => 0) 0 L) 1 D) 2 K) 3 O) 4 Q
/-- what is short of the weight, dry -/
theorem drop_eq {w r d : Nat} (hw0 : 1 ≤ w) (hw : w ≤ 9999) (hr : r ≤ 9999) (hd : d ≤ 1000) : ∃ L, imax 0 (((nI w - nI r * (1000 - nI d) / 1000) * 1000) / nI w) = nI L ∧ f_X11_inThousand (imax 0 (nI w - nI r * (1000 - nI d) / 1000)) (nI w) = some (nI L) := by
  have e1 : (1000 : Int32) - nI d = nI (1000 - d) := pk_sub (a := 1000) hd
  have h1 : r * (1000 - d) ≤ 9999 * 1000 := Nat.mul_le_mul hr (by omega)
  have e2 : nI r * (1000 - nI d) / 1000 = nI (r * (1000 - d) / 1000) := by
    rw [e1, pk_mul]
    exact pk_div (d := 1000) (by omega) (by omega) (by omega)
  rw [e2]
  obtain ⟨y, hy⟩ : ∃ y, y = r * (1000 - d) / 1000 := ⟨_, rfl⟩
  have hy2 : y ≤ 9999 := by omega
  rw [← hy]
  by_cases c : y ≤ w
  · have h2 : (w - y) * 1000 ≤ 9999 * 1000 := Nat.mul_le_mul (by omega) (Nat.le_refl _)
    have h3 : (w - y) * 1000 / w ≤ (w - y) * 1000 := Nat.div_le_self _ _
    have e3 : ∀ n, n < 2147483648 → imax 0 (nI n) = nI n := fun n hn => by
      have := imax_nI (a := 0) (b := n) (by omega) hn
      rw [nI_zero] at this
      rw [this, Nat.max_eq_right (Nat.zero_le _)]
    refine ⟨(w - y) * 1000 / w, ?_, ?_⟩
    · rw [pk_sub c, show (1000 : Int32) = nI 1000 from rfl, pk_mul, pk_div (by omega) (by omega) (by omega), e3 _ (by omega)]
    · rw [pk_sub c, e3 _ (by omega), inT (by omega) (by omega) (by omega)]
  · have hneg : nI w - nI y < 0 := pk_sneg (by omega) (by omega)
    have e3 : imax 0 (nI w - nI y) = nI 0 := by
      unfold imax
      rw [if_neg]
      · rfl
      · intro z
        exact absurd (Int32.lt_trans z hneg) (by decide)
    refine ⟨0, ?_, ?_⟩
    · have hT : (nI w - nI y).toInt = (w : Int) - y := pk_sub_toInt (by omega) (by omega)
      have hM : ((nI w - nI y) * 1000).toInt = ((w : Int) - y) * 1000 := by
        rw [Int32.toInt_mul, hT, show (1000 : Int32).toInt = 1000 from by decide, Int.bmod_eq_of_le (by omega) (by omega)]
      have hD : (((nI w - nI y) * 1000) / nI w).toInt ≤ 0 := by
        rw [Int32.toInt_div, hM, nI_toInt (by omega)]
        obtain ⟨a, ha⟩ : ∃ a : Nat, a = (y - w) * 1000 := ⟨_, rfl⟩
        have e4 : ((w : Int) - y) * 1000 = -(a : Int) := by omega
        have ha2 : a ≤ 9999 * 1000 := by omega
        have h5 : a / w ≤ a := Nat.div_le_self _ _
        rw [e4, Int.neg_tdiv, ← Int.ofNat_tdiv]
        obtain ⟨q, hq⟩ : ∃ q, q = a / w := ⟨_, rfl⟩
        rw [← hq] at h5 ⊢
        rw [Int.bmod_eq_of_le (by omega) (by omega)]
        omega
      unfold imax
      rw [if_neg]
      · rfl
      · intro z
        rw [Int32.lt_iff_toInt_lt] at z
        have : (0 : Int32).toInt = 0 := rfl
        omega
    · rw [e3, inT (a := 0) (b := w) (by simp) (by omega) (by omega), Nat.zero_mul, Nat.zero_div]
/-- pounds of wool that there isn't -/
def noWool (u : xS) (b : Nat) : Nat := nsum (fun s => if rd u 136 (7 * s + 5) = 0 then eH u b s else 0) (nS u)
theorem noWool_le {u : xS} (hI : Inv u) {b : Nat} (hb : b < nB u) : noWool u b ≤ nv (rd u 142 b) := by
  refine Nat.le_trans (Nat.le_trans (nsum_le (g := eH u b) (fun s _ => ?_)) (nsum_mono hI.S.2.2.1)) (hI.H.2 b hb).1
  by_cases h : rd u 136 (7 * s + 5) = 0
  · rw [if_pos h]; exact Nat.le_refl _
  · rw [if_neg h]; exact Nat.zero_le _
theorem noWool_i {u : xS} (hI : Inv u) {b : Nat} (hb : b < 24) : isum (fun s => if rd u 136 (7 * s + 5) = 0 then rd u 146 (24 * s + b) else 0) (nS u) = nI (noWool u b) := by
  have hS3 := hI.S.2.2.1
  refine isum_nI fun s hs => ?_
  rw [(hI.H.1 b s hb (by omega)).2.1]
  by_cases h : rd u 136 (7 * s + 5) = 0
  · rw [if_pos h, if_pos h]
  · rw [if_neg h, if_neg h]; rfl
theorem woolless11 {u : xS} (hI : Inv u) {b : Nat} (hb : b < 24) : f_X11_woolless u (nI b) = some (nI (noWool u b)) := by
  have hS3 := hI.S.2.2.1
  rw [c_woolless hI.S.1 hS3 hb, ← noWool_i hI hb]
  congr 1
  refine isum_congr fun s hs => ?_
  rw [show rd u 8 s = rd u 136 (7 * s + 5) from (hI.S.2.2.2 s hs).1 5 (by omega), (hI.H.1 b s hb (by omega)).1]
theorem lm1 : f_X11_lies (-1) 0 59 = 0 := by decide
theorem lnI {k : Nat} (h : k < 60) : f_X11_lies (nI k) 0 59 = 1 := by
  rw [lies_eq, if_pos ⟨nI_lo (by omega), nI_le (b := 59) (by omega) (by omega)⟩]
/-- a text of the two, as the parts of the state that stay say it -/
theorem text_at {u : xS} (hI : Inv u) {t : Nat} (ht : t < 4 ∨ t = 10) : ∃ l, (l.length ≤ 60 ∧ ¬ (-300) ∈ l ∧ (l = [] ∨ dep l 0 = some 1) ∧ (rd u 154 t = 0 → l = []) ∧ (¬ rd u 154 t = 0 → dep l 0 = some 1)) ∧
    (∀ k m, l[k]? = some m → rd u (60 + t) k = em m) ∧ rd u 71 t = nI l.length ∧ (∀ k m, l[k]? = some m → rd u 155 (64 * t + k) = m) ∧ rd u 156 t = nI l.length := by
  obtain ⟨l, ⟨h1, h2, h3⟩, h4, h5, h6, h7⟩ := hI.X.2.2.2.1 t ht
  refine ⟨l, ⟨h1, h5, ?_, h6, h7⟩, fun k m hk => (h3 k m hk).2, h4, fun k m hk => (h3 k m hk).1, h2⟩
  by_cases q : rd u 154 t = 0
  · exact Or.inl (h6 q)
  · exact Or.inr (h7 q)
theorem noWool_fr {u u' : xS} (h : ag wX u u') (b : Nat) : noWool u' b = noWool u b := by
  have q1 : nS u' = nS u := congrArg nv (h 135 1 rfl)
  have q2 : ∀ i, rd u' 136 i = rd u 136 i := fun i => h 136 i rfl
  have q3 : ∀ i, rd u' 146 i = rd u 146 i := fun i => h 146 i rfl
  unfold noWool eH
  rw [q1]
  simp only [q2, q3]
def clampT (x : Int32) : Int32 := imax 0 (imin 1000 x)
theorem tv_nil (sd : Nat → Int32) : tv sd [] = 0 := rfl
theorem clampT_0 : clampT 0 = 0 := by decide
theorem offOf_both {u : xS} (hI : Inv u) {b : Nat} (hb : b < nB u) (v : Int32) : ∃ r, (∀ u', ag wX u u' → ∃ u1, f_X11_offOf (nI b) v u' = some (r, u1) ∧ ag wX u u1) ∧ (∀ u', ag wX u u' → ∃ u1, f_X12_offOf (nI b) v u' = some (r, u1) ∧ ag wX u u1) ∧ (r = -1 ∨ 0 ≤ r) := by
  have hB3 := hI.B.2.2.1
  have hb24 : b < 24 := by omega
  have hS3 := hI.S.2.2.1
  obtain ⟨x1, x2, x3, x4, x5, ⟨kd, hkd, h140⟩, ⟨w, hw0, hw, h142⟩, hso⟩ := hI.B.2.2.2.1 b hb
  have hle := (hI.H.2 b hb).1
  have h19 := (hI.H.2 b hb).2
  rw [h142, nv_nI (by omega)] at hle h19
  obtain ⟨-, -, c3⟩ := c_look hI.K (nI b) v
  have hK3 := hI.K.2.2.1
  have g16 : ∀ u', ag wX u u' → rd u' 16 b = nI w := fun u' h => (h 16 b rfl).trans (x3.trans h142)
  have g142 : ∀ u', ag wX u u' → rd u' 142 b = nI w := fun u' h => (h 142 b rfl).trans h142
  have g140 : ∀ u', ag wX u u' → rd u' 140 b = nI kd := fun u' h => (h 140 b rfl).trans h140
  rcases c3 with c3 | ⟨k, hk, c3⟩
  · refine ⟨-1, fun u' h => ?_, fun u' h => ?_, Or.inl rfl⟩
    · refine ⟨u', ?_, h⟩
      rw [f_X11_offOf, (c_look (Inv_scr h hI).K (nI b) v).1, lko_fr (ag_sm h rfl), c3, Option.bind_some, lm1, if_pos rfl]
    · refine ⟨u', ?_, h⟩
      rw [f_X12_offOf, (c_look (Inv_scr h hI).K (nI b) v).2.1, lko_fr (ag_sm h rfl), c3, Option.bind_some, if_neg (by decide)]
  · obtain ⟨y1, y2, y3, y4, y5, -, ⟨r, hr, h152⟩, ⟨d, hd, h153⟩⟩ := hI.K.2.2.2.2 k hk
    obtain ⟨L, eL1, eL2⟩ := drop_eq hw0 hw hr hd
    obtain ⟨l, ⟨t1, t2, t3, t4, t5⟩, t6, t7, t8, t9⟩ := text_at hI (t := kd) (by omega)
    obtain ⟨K, hK⟩ : ∃ K : Int32, K = if rd u 144 b = -1 then 0 else nI ((w - nsum (eH u b) 16) * 1000 / w) := ⟨_, rfl⟩
    obtain ⟨O, hO⟩ : ∃ O : Int32, O = if rd u 144 b = -1 then 0 else nI (noWool u b * 1000 / w) := ⟨_, rfl⟩
    have hnw := noWool_le hI hb
    rw [h142, nv_nI (by omega)] at hnw
    have hm1 : (w - nsum (eH u b) 16) * 1000 ≤ 9999 * 1000 := Nat.mul_le_mul (by omega) (Nat.le_refl _)
    have hm2 : noWool u b * 1000 ≤ 9999 * 1000 := Nat.mul_le_mul (by omega) (Nat.le_refl _)
    have g50 : ∀ u', ag wX u u' → rd u' 50 k = nI r := fun u' h => (h 50 k rfl).trans (y4.trans h152)
    have g51 : ∀ u', ag wX u u' → rd u' 51 k = nI d := fun u' h => (h 51 k rfl).trans (y5.trans h153)
    have g152 : ∀ u', ag wX u u' → rd u' 152 k = nI r := fun u' h => (h 152 k rfl).trans h152
    have g153 : ∀ u', ag wX u u' → rd u' 153 k = nI d := fun u' h => (h 153 k rfl).trans h153
    have g15 : ∀ u', ag wX u u' → rd u' 15 b = rd u 141 b := fun u' h => (h 15 b rfl).trans x2
    have g141 : ∀ u', ag wX u u' → rd u' 141 b = rd u 141 b := fun u' h => h 141 b rfl
    have fin11 : ∀ u', ag wX u u' → SL11 u' (sdO (nI L) (nI d) K O (rd u 141 b)) → ∃ u1, f_X11_offOf_181 (nI b) u' = some (clampT (tv (sdO (nI L) (nI d) K O (rd u 141 b)) l), u1) ∧ ag wX u u1 := by
      intro u' h hs
      obtain ⟨u1, q1, q2⟩ := v11 (t := kd) (l := l) (u := u') (by omega) t1 (fun k m hk => (h (60 + kd) k (by rw [lc_60 (by omega)]; rfl)).trans (t6 k m hk)) ((h 71 kd rfl).trans t7) t2 t3 hs
      refine ⟨u1, ?_, fun c j hc => (q2 c j (ne_W 73 (fun _ => rfl) hc) (fun z => by rw [z.1, z.2] at hc; revert hc; decide)).trans (h c j hc)⟩
      rw [f_X11_offOf_181, gd_nI hb24 (by omega), nI_cl (by omega), (h 14 b rfl).trans (x1.trans h140), q1, Option.bind_some]
      rfl
    refine ⟨clampT (tv (sdO (nI L) (nI d) K O (rd u 141 b)) l), fun u' h => ?_, fun u' h => ?_, Or.inr ?_⟩
    · obtain ⟨u1, p1, p2, p3⟩ := clear u'
      have h1 : ag wX u u1 := fun c j hc => (p3 c j (ne_W 72 (fun _ => rfl) hc)).trans (h c j hc)
      obtain ⟨p4, p5⟩ := tell (c := 108) (v := nI L) 0 (by omega) rfl p2
      have h2 := ag_wr (c := 72) (j := lt 0 - 97) (v := nI L) h1 rfl
      obtain ⟨p6, p7⟩ := tell (c := 100) (v := nI d) 1 (by omega) rfl p5
      have h3 := ag_wr (c := 72) (j := lt 1 - 97) (v := nI d) h2 rfl
      obtain ⟨p8, p9⟩ := tell (c := 113) (v := rd u 141 b) 4 (by omega) rfl p7
      have h4 := ag_wr (c := 72) (j := lt 4 - 97) (v := rd u 141 b) h3 rfl
      have base : f_X11_offOf (nI b) v u' = (f_X0_isSorted (wr (wr (wr u1 72 (lt 0 - 97) (nI L)) 72 (lt 1 - 97) (nI d)) 72 (lt 4 - 97) (rd u 141 b)) (nI b)).bind fun x17 => if x17 = 0 then ((f_X11_offOf_181 (nI b) (wr (wr (wr u1 72 (lt 0 - 97) (nI L)) 72 (lt 1 - 97) (nI d)) 72 (lt 4 - 97) (rd u 141 b)))) else ((f_X11_inThousand (rd (wr (wr (wr u1 72 (lt 0 - 97) (nI L)) 72 (lt 1 - 97) (nI d)) 72 (lt 4 - 97) (rd u 141 b)) 19 b) (nI w)).bind fun x20 => (f_X10_tell (107 : Int32) x20 (wr (wr (wr u1 72 (lt 0 - 97) (nI L)) 72 (lt 1 - 97) (nI d)) 72 (lt 4 - 97) (rd u 141 b))).bind fun u22 => (f_X11_woolless u22 (nI b)).bind fun x24 => (f_X11_inThousand x24 (nI w)).bind fun x26 => (f_X10_tell (111 : Int32) x26 u22).bind fun u28 => (f_X11_offOf_181 (nI b) u28)) := by
        rw [f_X11_offOf, (c_look (Inv_scr h hI).K (nI b) v).1, lko_fr (ag_sm h rfl), c3, Option.bind_some, lnI (by omega), if_neg (by decide), gd_nI hb24 (by omega), gd_nI (by omega) (by omega), p1, Option.bind_some, nI_cl (by omega), nI_cl (by omega), g16 u' h, g50 u' h, g51 u' h, eL2, Option.bind_some, p4, Option.bind_some, g51 _ h2, p6, Option.bind_some, g15 _ h3, p8, Option.bind_some]
      rw [base]
      generalize hu4 : wr (wr (wr u1 72 (lt 0 - 97) (nI L)) 72 (lt 1 - 97) (nI d)) 72 (lt 4 - 97) (rd u 141 b) = u4 at h4 p9 ⊢
      have e18 : rd u4 18 b = rd u 144 b := (h4 18 b rfl).trans x5
      have hsd : f_X0_isSorted u4 (nI b) = some (if rd u 144 b = -1 then 0 else 1) := by
        have hh : f_X0_has u4 (nI b) = 1 := by rw [hasB (h4 13 8 rfl |>.trans hI.B.1), if_pos ⟨nI_lo (by omega), nI_lt hb (by omega)⟩]
        rw [f_X0_isSorted, hh, if_neg (by decide), gd_nI hb24 (by omega), nI_cl (by omega), e18]
        by_cases q : rd u 144 b = -1
        · rw [if_pos q, if_pos q]
        · rw [if_neg q, if_neg q]
      rw [hsd, Option.bind_some]
      by_cases q : rd u 144 b = -1
      · rw [if_pos q, if_pos rfl]
        refine fin11 _ h4 ?_
        rw [hK, hO, if_pos q, if_pos q]
        unfold sdO
        rw [up_same (sd := up (up (fun _ => 0) 0 (nI L)) 1 (nI d)) (k := 2) (v := 0) rfl, up_same (sd := up (up (fun _ => 0) 0 (nI L)) 1 (nI d)) (k := 3) (v := 0) rfl]
        exact p9
      · rw [if_neg q, if_neg (by decide)]
        rw [if_neg q] at h19 hK hO
        rw [h4 19 b rfl, h19, inT (by omega) (by omega) (by omega), Option.bind_some]
        obtain ⟨p10, p11⟩ := tell (c := 107) (v := nI ((w - nsum (eH u b) 16) * 1000 / w)) 2 (by omega) rfl p9
        have h5 := ag_wr (c := 72) (j := lt 2 - 97) (v := nI ((w - nsum (eH u b) 16) * 1000 / w)) h4 rfl
        have ew : noWool (wr u4 72 (lt 2 - 97) (nI ((w - nsum (eH u b) 16) * 1000 / w))) b = noWool u b := noWool_fr h5 b
        rw [p10, Option.bind_some, woolless11 (Inv_scr h5 hI) hb24, Option.bind_some, ew, inT (by omega) (by omega) (by omega), Option.bind_some]
        obtain ⟨p12, p13⟩ := tell (c := 111) (v := nI (noWool u b * 1000 / w)) 3 (by omega) rfl p11
        have h6 := ag_wr (c := 72) (j := lt 3 - 97) (v := nI (noWool u b * 1000 / w)) h5 rfl
        rw [p12, Option.bind_some]
        refine fin11 _ h6 ?_
        unfold sdO
        rw [hK, hO]
        rw [up_comm (j := 4) (k := 2) (by omega), up_comm (j := 4) (k := 3) (by omega)] at p13
        exact p13
    · have hl12 : f_X12_lookOf u' (nI b) v = some (nI k) := by rw [(c_look (Inv_scr h hI).K (nI b) v).2.1, lko_fr (ag_sm h rfl), c3]
      rw [f_X12_offOf, hl12, Option.bind_some, if_pos (nI_lo (by omega)), gd_nI hb24 (by omega), nI_cl (by omega), g140 u' h, gd_nI (by omega) (by omega), nI_cl (by omega), h 154 kd rfl]
      by_cases qt : rd u 154 kd = 0
      · rw [if_pos qt, t4 qt, tv_nil, clampT_0]
        exact ⟨u', rfl, h⟩
      · rw [if_neg qt]
        have hJ := Inv_scr h hI
        have eN : nS u' = nS u := congrArg nv (h 135 1 rfl)
        have loop : f_X12_offOf_35 xN (nI b) (nI k) 0 0 u' = f_X12_offOf_35 1 (nI b) (nI k) (isum (fun s => if rd u' 136 (7 * s + 5) = 0 then rd u' 146 (24 * s + b) else 0) (nS u)) (nI (nS u)) u' := by
          refine it_loop (S := nS u) (F := fun N i a => f_X12_offOf_35 N (nI b) (nI k) a (nI i) u') (a := (0 : Int32)) (fun s a => a + if rd u' 136 (7 * s + 5) = 0 then rd u' 146 (24 * s + b) else 0) (fun a => f_X12_offOf_35 1 (nI b) (nI k) a (nI (nS u)) u') (fun n i a hi => ?_) (fun n a => ?_) (xN_lt (by omega))
          · rw [f_X12_offOf_35, (h 135 1 rfl).trans hI.S.2.1, ite_nle hi (by omega), show (7 : Int32) = nI 7 from rfl, show (24 : Int32) = nI 24 from rfl, show (5 : Int32) = nI 5 from rfl, pk_mul, pk_mul, nI_add, nI_add, gd_nI (by omega) (by omega), nI_cl (by omega), gd_nI (by omega) (by omega), nI_cl (by omega)]
            unfold f_X12_offOf_77
            rw [nI_1]
            by_cases q : rd u' 136 (7 * i + 5) = 0
            · rw [if_pos q, if_pos q]
            · rw [if_neg q, if_neg q]
          · rw [f_X12_offOf_35, f_X12_offOf_35, (h 135 1 rfl).trans hI.S.2.1, ite_yle (Nat.le_refl _) (by omega), ite_yle (Nat.le_refl _) (by omega)]
        have ew : isum (fun s => if rd u' 136 (7 * s + 5) = 0 then rd u' 146 (24 * s + b) else 0) (nS u) = nI (noWool u b) := by
          have q2 : ∀ i, rd u' 136 i = rd u 136 i := fun i => h 136 i rfl
          have q3 : ∀ i, rd u' 146 i = rd u 146 i := fun i => h 146 i rfl
          simp only [q2, q3]
          exact noWool_i hI hb24
        rw [loop, ew]
        obtain ⟨u1, p1, p2, p3⟩ := hush u'
        have h1 : ag wX u u1 := fun c j hc => (p3 c j (ne_W 158 (fun _ => rfl) hc)).trans (h c j hc)
        obtain ⟨p4, p5⟩ := says (c := 108) (v := nI L) 0 (by omega) rfl p2
        have h2 := ag_wr (c := 158) (j := 0) (v := nI L) h1 rfl
        obtain ⟨p6, p7⟩ := says (c := 100) (v := nI d) 1 (by omega) rfl p5
        have h3 := ag_wr (c := 158) (j := 1) (v := nI d) h2 rfl
        obtain ⟨p8, p9⟩ := says (c := 107) (v := K) 2 (by omega) rfl p7
        have h4 := ag_wr (c := 158) (j := 2) (v := K) h3 rfl
        obtain ⟨p10, p11⟩ := says (c := 111) (v := O) 3 (by omega) rfl p9
        have h5 := ag_wr (c := 158) (j := 3) (v := O) h4 rfl
        obtain ⟨p12, p13⟩ := says (c := 113) (v := rd u 141 b) 4 (by omega) rfl p11
        have h6 := ag_wr (c := 158) (j := 4) (v := rd u 141 b) h5 rfl
        have hnz : ∀ u', ag wX u u' → xnz (rd u' 142 b) = true := fun u' h => by
          rw [g142 u' h]
          unfold xnz
          exact decide_eq_true (nI_ne0 (by omega) (by omega))
        have fin12 : ∃ u1', f_X12_value (rd (wr (wr (wr (wr (wr u1 158 0 (nI L)) 158 1 (nI d)) 158 2 K) 158 3 O) 158 4 (rd u 141 b)) 140 b) (wr (wr (wr (wr (wr u1 158 0 (nI L)) 158 1 (nI d)) 158 2 K) 158 3 O) 158 4 (rd u 141 b)) = some (tv (sdO (nI L) (nI d) K O (rd u 141 b)) l, u1') ∧ ag wX u u1' := by
          obtain ⟨u1', q1, q2⟩ := v12 (t := kd) (l := l) (by omega) t1 (fun k m hk => (h6 155 _ rfl).trans (t8 k m hk)) ((h6 156 kd rfl).trans t9) t2 (t5 qt) p13
          refine ⟨u1', ?_, fun c j hc => (q2 c j (ne_W 157 (fun _ => rfl) hc) (fun z => by rw [z.1, z.2] at hc; revert hc; decide)).trans (h6 c j hc)⟩
          rw [g140 _ h6, q1]
          rfl
        have tail : ∀ v4 : Int32, ∀ O', O' = O → (∀ (k' : Int32), k' = K → f_X12_offOf_187 (nI b) (nI (noWool u b)) 107 k' (wr (wr u1 158 0 (nI L)) 158 1 (nI d)) = f_X12_offOf_219 (nI b) 111 O' (wr (wr (wr u1 158 0 (nI L)) 158 1 (nI d)) 158 2 K)) → f_X12_offOf_187 (nI b) (nI (noWool u b)) 107 K (wr (wr u1 158 0 (nI L)) 158 1 (nI d)) = f_X12_offOf_219 (nI b) 111 O (wr (wr (wr u1 158 0 (nI L)) 158 1 (nI d)) 158 2 K) := by
          intro v4 O' hO' hh
          rw [hh K rfl, hO']
        have e219 : ∃ u1', f_X12_offOf_219 (nI b) 111 O (wr (wr (wr u1 158 0 (nI L)) 158 1 (nI d)) 158 2 K) = some (clampT (tv (sdO (nI L) (nI d) K O (rd u 141 b)) l), u1') ∧ ag wX u u1' := by
          obtain ⟨u1', q1, q2⟩ := fin12
          refine ⟨u1', ?_, q2⟩
          rw [f_X12_offOf_219, p10, Option.bind_some, gd_nI hb24 (by omega), nI_cl (by omega), g141 _ h5, p12, Option.bind_some, q1, Option.bind_some]
          rfl
        obtain ⟨u1', q1, q2⟩ := e219
        refine ⟨u1', ?_, q2⟩
        rw [← q1, f_X12_offOf_35, (h 135 1 rfl).trans hI.S.2.1, ite_yle (Nat.le_refl _) (by omega), gd_nI (by omega) (by omega), p1, Option.bind_some, gd_nI hb24 (by omega), nI_cl (by omega), nI_cl (by omega), hnz _ h1, gd_t, g142 _ h1, g152 _ h, g153 _ h, eL1, p4, Option.bind_some, g153 _ h2, p6, Option.bind_some]
        have s0 := srt hI.B hb
        have e144 : ∀ u', ag wX u u' → rd u' 144 b = rd u 144 b := fun u' h => h 144 b rfl
        rw [e144 _ h3]
        by_cases q : rd u 144 b = -1
        · rw [if_neg (fun z => s0.mp z q)]
          rw [if_pos q] at hK hO
          subst hK hO
          rw [f_X12_offOf_187, p8, Option.bind_some, gd_nI hb24 (by omega), nI_cl (by omega), e144 _ h4, if_neg (fun z => s0.mp z q)]
        · rw [if_pos (s0.mpr q)]
          rw [if_neg q] at hK hO
          have eNB : nB (wr (wr u1 158 0 (nI L)) 158 1 (nI d)) = nB u := congrArg nv (h3 135 7 rfl)
          have eHH : ∀ s, eH (wr (wr u1 158 0 (nI L)) 158 1 (nI d)) b s = eH u b s := fun s => congrArg nv (h3 146 _ rfl)
          have ed : f_X12_dust (wr (wr u1 158 0 (nI L)) 158 1 (nI d)) (nI b) = some (nI (w - nsum (eH u b) 16)) := by
            rw [dust_eq (Inv_scr h3 hI) (by rw [eNB]; exact hb), g142 _ h3, nv_nI (by omega), nsum_congr (fun s _ => eHH s)]
          have eK : nI (w - nsum (eH u b) 16) * 1000 / nI w = K := by
            rw [hK, show (1000 : Int32) = nI 1000 from rfl, pk_mul, pk_div (by omega) (by omega) (by omega)]
          have eO' : nI (noWool u b) * 1000 / nI w = O := by
            rw [hO, show (1000 : Int32) = nI 1000 from rfl, pk_mul, pk_div (by omega) (by omega) (by omega)]
          rw [ed, Option.bind_some, hnz _ h3, gd_t, g142 _ h3, eK, f_X12_offOf_187, p8, Option.bind_some, gd_nI hb24 (by omega), nI_cl (by omega), e144 _ h4, if_pos (s0.mpr q), hnz _ h4, gd_t, g142 _ h4, eO']
    · unfold clampT imax
      by_cases q : 0 < imin 1000 (tv (sdO (nI L) (nI d) K O (rd u 141 b)) l)
      · rw [if_pos q]; exact Int32.le_of_lt q
      · rw [if_neg q]; exact Int32.le_refl _
