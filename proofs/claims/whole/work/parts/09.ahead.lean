/-! what lies ahead of the run: reads -/
section XO
variable {sc : Nat × (Nat → Int32)} {k : xm} {d mc ms : Nat} {Q : xE} {cl sl pc : Nat} {L L' : xL} {st : List Value} {μ : xM}
theorem g_sload {i v : Int32} (hd : decode k.2.1 pc = .ok (.iaload, 1)) (hi : vp_in i sc.1) (hv : sc.2 i.toNatClampNeg = v) (h : xG sc k d mc ms Q cl sl (pc + 1) L (.int v :: st) μ) : xG sc k d mc ms Q cl sl pc L (.int i :: .ref 1000 :: st) μ := by
  subst hv
  intro p l e R s m args below meth c X D cA n0 ad0 ad A H locs ls hn ha hR hl
  obtain ⟨cell, h1, h2, h3, h4, h5, h6⟩ := hR.2.2.2.2.2.1
  have hlt : i.toNatClampNeg < sc.1 := Nat.not_le.mp fun q => hi (Or.inr q)
  exact W.iald (v := .int (sc.2 i.toNatClampNeg)) X.1 X.2.1 (by rw [hR.2.2.2.1.2.1 _ (Array.getElem?_eq_some_iff.mp h1).1 h6]; exact h1) h2 h3 (by rw [h4]; exact hi) (h5 _ hlt) rfl rfl hd (h p l e R s m args below meth c X D cA n0 ad0 ad A H locs ls hn ha hR hl)
theorem g_slen {v : Int32} (hd : decode k.2.1 pc = .ok (.arraylength, 1)) (hv : Int32.ofNat sc.1 = v) (h : xG sc k d mc ms Q cl sl (pc + 1) L (.int v :: st) μ) : xG sc k d mc ms Q cl sl pc L (.ref 1000 :: st) μ := by
  subst hv
  intro p l e R s m args below meth c X D cA n0 ad0 ad A H locs ls hn ha hR hl
  obtain ⟨cell, h1, h2, h3, h4, h5, h6⟩ := hR.2.2.2.2.2.1
  exact W.alen (n := Int32.ofNat sc.1) X.1 X.2.1 (by rw [hR.2.2.2.1.2.1 _ (Array.getElem?_eq_some_iff.mp h1).1 h6]; exact h1) h2 (by rw [h4] <;> rfl) rfl rfl hd (h p l e R s m args below meth c X D cA n0 ad0 ad A H locs ls hn ha hR hl)
theorem g_getsW {idx : Nat} (hd : decode k.2.1 pc = .ok (.getstatic idx, 3)) (hw : Cond.fieldLink k.1.cls idx "RagTown$LandBook" "WEIGHT" "[I" ∈ xW) (h : xG sc k d mc ms Q cl sl (pc + 3) L (.ref 1001 :: st) μ) : xG sc k d mc ms Q cl sl pc L st μ := by
  intro p l e R s m args below meth c X D cA n0 ad0 ad A H locs ls hn ha hR hl
  exact va_gets X.1 X.2.1 hR.2.2.2.2.2.2.1 hR.2.2.2.1 X.2.2.2.2.1 (X.2.2.2.2.2.1 _ hw) (fun x hx => hx) hd (h p l e R s m args below meth c X D cA n0 ad0 ad A H locs ls hn ha hR hl)
theorem g_wload {i v : Int32} (hd : decode k.2.1 pc = .ok (.iaload, 1)) (hi : vp_in i 8) (hv : xWt i.toNatClampNeg = v) (h : xG sc k d mc ms Q cl sl (pc + 1) L (.int v :: st) μ) : xG sc k d mc ms Q cl sl pc L (.int i :: .ref 1001 :: st) μ := by
  subst hv
  intro p l e R s m args below meth c X D cA n0 ad0 ad A H locs ls hn ha hR hl
  obtain ⟨cell, h1, h2, h3, h4, h5, h6, h7⟩ := hR.2.2.2.2.2.2.2.1
  have hlt : i.toNatClampNeg < 8 := Nat.not_le.mp fun q => hi (Or.inr q)
  have hi2 : ¬ (i < 0 ∨ cell.slots.size ≤ i.toNatClampNeg) := fun z => z.elim (fun z => hi (Or.inl z)) (fun z => by omega)
  exact W.iald (v := .int (xWt i.toNatClampNeg)) X.1 X.2.1 (by rw [hR.2.2.2.1.2.1 _ (Array.getElem?_eq_some_iff.mp h1).1 h7]; exact h1) h2 h3 hi2 (h6 _ hlt) rfl rfl hd (h p l e R s m args below meth c X D cA n0 ad0 ad A H locs ls hn ha hR hl)
theorem g_getsC {idx : Nat} (hd : decode k.2.1 pc = .ok (.getstatic idx, 3)) (hw : Cond.fieldLink k.1.cls idx "java/lang/String" "COMPACT_STRINGS" "Z" ∈ xW) (h : xG sc k d mc ms Q cl sl (pc + 3) L (.int 1 :: st) μ) : xG sc k d mc ms Q cl sl pc L st μ := by
  intro p l e R s m args below meth c X D cA n0 ad0 ad A H locs ls hn ha hR hl
  exact va_gets X.1 X.2.1 hR.2.2.2.2.2.2.2.2.1 hR.2.2.2.1 X.2.2.2.2.1 (X.2.2.2.2.2.1 _ hw) (fun x hx => hx) hd (h p l e R s m args below meth c X D cA n0 ad0 ad A H locs ls hn ha hR hl)
theorem g_ldcS (i : Nat) {idx : Nat} {tx : String} (hd : decode k.2.1 pc = .ok (.ldc idx, 2)) (hk : k.1.cls = "RagTownModel") (hi : xSt[i]? = some (idx, tx)) (h : xG sc k d mc ms Q cl sl (pc + 2) L (.ref (1010 + i) :: st) μ) : xG sc k d mc ms Q cl sl pc L st μ := by
  intro p l e R s m args below meth c X D cA n0 ad0 ad A H locs ls hn ha hR hl
  exact va_ldcS X.1 X.2.1 (hk ▸ X.2.2.2.2.1) (hR.2.2.2.2.2.2.2.2.2.2.1 i _ hi) hd (h p l e R s m args below meth c X D cA n0 ad0 ad A H locs ls hn ha hR hl)
theorem g_strC (i : Nat) {idx : Nat} (hd : decode k.2.1 pc = .ok (.getfield idx, 3)) (hw : Cond.fieldLink k.1.cls idx "java/lang/String" "coder" "B" ∈ xW) (hi : i < 6) (h : xG sc k d mc ms Q cl sl (pc + 3) L (.int 0 :: st) μ) : xG sc k d mc ms Q cl sl pc L (.ref (1010 + i) :: st) μ := by
  intro p l e R s m args below meth c X D cA n0 ad0 ad A H locs ls hn ha hR hl
  exact vk_getf X.1 X.2.1 (hR.2.2.2.2.2.2.2.2.2.1.1 i hi).2.1 hR.2.2.2.1 X.2.2.2.2.1 (X.2.2.2.2.2.1 _ hw) (fun x hx => hx) hd (h p l e R s m args below meth c X D cA n0 ad0 ad A H locs ls hn ha hR hl)
theorem g_strV (i : Nat) {idx : Nat} (hd : decode k.2.1 pc = .ok (.getfield idx, 3)) (hw : Cond.fieldLink k.1.cls idx "java/lang/String" "value" "[B" ∈ xW) (hi : i < 6) (h : xG sc k d mc ms Q cl sl (pc + 3) L (.ref (1020 + i) :: st) μ) : xG sc k d mc ms Q cl sl pc L (.ref (1010 + i) :: st) μ := by
  intro p l e R s m args below meth c X D cA n0 ad0 ad A H locs ls hn ha hR hl
  exact vk_getf X.1 X.2.1 (hR.2.2.2.2.2.2.2.2.2.1.1 i hi).2.2.1 hR.2.2.2.1 X.2.2.2.2.1 (X.2.2.2.2.2.1 _ hw) (fun x hx => hx) hd (h p l e R s m args below meth c X D cA n0 ad0 ad A H locs ls hn ha hR hl)
theorem g_blen (i : Nat) {v : Int32} (hd : decode k.2.1 pc = .ok (.arraylength, 1)) (hi : i < 6) (hv : Int32.ofNat (xLen.getD i 0) = v) (h : xG sc k d mc ms Q cl sl (pc + 1) L (.int v :: st) μ) : xG sc k d mc ms Q cl sl pc L (.ref (1020 + i) :: st) μ := by
  subst hv
  intro p l e R s m args below meth c X D cA n0 ad0 ad A H locs ls hn ha hR hl
  obtain ⟨cell, h1, h2, h3, h4, h5, h6, h7⟩ := (hR.2.2.2.2.2.2.2.2.2.1.1 i hi).2.2.2
  exact W.alen (n := Int32.ofNat (xLen.getD i 0)) X.1 X.2.1 (by rw [hR.2.2.2.1.2.1 _ (Array.getElem?_eq_some_iff.mp h1).1 h7]; exact h1) h2 h5 rfl rfl hd (h p l e R s m args below meth c X D cA n0 ad0 ad A H locs ls hn ha hR hl)
theorem g_bload (i : Nat) {j v : Int32} (hd : decode k.2.1 pc = .ok (.baload, 1)) (hi : i < 6) (hj : vp_in j (xLen.getD i 0)) (hv : (xByt.getD i []).getD j.toNatClampNeg 0 = v) (h : xG sc k d mc ms Q cl sl (pc + 1) L (.int v :: st) μ) : xG sc k d mc ms Q cl sl pc L (.int j :: .ref (1020 + i) :: st) μ := by
  subst hv
  intro p l e R s m args below meth c X D cA n0 ad0 ad A H locs ls hn ha hR hl
  obtain ⟨cell, h1, h2, h3, h4, h5, h6, h7⟩ := (hR.2.2.2.2.2.2.2.2.2.1.1 i hi).2.2.2
  have hlt : j.toNatClampNeg < xLen.getD i 0 := Nat.not_le.mp fun q => hj (Or.inr q)
  have hi2 : ¬ (j < 0 ∨ cell.slots.size ≤ j.toNatClampNeg) := fun z => z.elim (fun z => hj (Or.inl z)) (fun z => by omega)
  exact W.bald (v := .int ((xByt.getD i []).getD j.toNatClampNeg 0)) X.1 X.2.1 (by rw [hR.2.2.2.1.2.1 _ (Array.getElem?_eq_some_iff.mp h1).1 h7]; exact h1) h2 h3 hi2 (h6 _ hlt) rfl rfl hd (h p l e R s m args below meth c X D cA n0 ad0 ad A H locs ls hn ha hR hl)
/-- a call of a text's method -/
theorem g_callT (k' : xm) (i : Nat) {d' idx : Nat} {as st0 : List Value} {r : Option Value} {μ1 : xM} (hd : decode k.2.1 pc = .ok (.invokevirtual idx, 3)) (hM : xMt sc k' d' 0 0 (.ref (1010 + i) :: as) μ r μ1) (hw1 : Cond.methodLink k.1.cls idx k'.1 ∈ xW) (hw2 : Cond.instanceMethod k'.1 ∈ xW) (hw5 : Cond.selects k'.1.cls k'.1 k'.1 ∈ xW) (hw3 : Cond.initialized k'.1.cls ∈ xW) (hw4 : Cond.code k'.1 k'.2.1 k'.2.2.1 k'.2.2.2 ∈ xW)
    (hi : i < 6) (hcq : k'.1.cls = "java/lang/String")
    (hy : k'.1.cls ≠ "java/lang/invoke/MethodHandle" ∧ k'.1.cls ≠ "java/lang/invoke/VarHandle" ∧ (parseMethodDescriptor k'.1.desc).map (fun d => d.parameters.length) = some as.length) (hst : st0 = as.reverse ++ .ref (1010 + i) :: st) (hs8 : (st.map fun v => v.category).sum ≤ 8) (hdd : d' + 1 ≤ d) (hml : k'.2.2.1 ≤ 45) (hΛ : μ1.1.length = μ.1.length) (hcl : cl ≤ mc) (hsl : sl ≤ ms)
    (h : xG sc k d mc ms Q cl sl (pc + 3) L (r.toList ++ st) μ1) : xG sc k d mc ms Q cl sl pc L st0 μ := by
  intro p l e R s m args below meth c X D cA n0 ad0 ad A H locs ls hn ha hR hl
  subst hst
  obtain ⟨hx, hb, hr, hm, hown, hts, hlk, hnm, hfr, hlo, hce, hsl0⟩ := id X
  obtain ⟨hK, hP, hD, hS, hA, hF⟩ := id hR
  have hcw := cwV (R := R) (s := s) (args := args) (C := k'.1.cls) (rm := { frames := d', cells := 0, slots := 0, locals := 64 * d' }) as.length hts (x_goodIn (l := [.methodLink k.1.cls idx k'.1, .instanceMethod k'.1, .selects k'.1.cls k'.1 k'.1, .initialized k'.1.cls]) hw4 (fun w hw => by
    simp only [List.mem_cons, List.not_mem_nil, or_false] at hw
    rcases hw with rfl | rfl | rfl | rfl
    · exact hw1
    · exact hw2
    · exact hw5
    · exact hw3)) rfl rfl rfl ⟨rfl, hy⟩ ⟨by show d' + 1 ≤ R.frames; omega, by show 8 + (k'.2.2.1 + 11) + 64 * d' ≤ R.locals; omega⟩
  have hrec := vk_recv hF.2.2.2.2.1 hi hS
  rw [← hcq] at hrec
  refine x_call (va_runV (As := as.map (x_v ad)) (rest := st.map (x_v ad)) (b := ad (1010 + i)) ⟨hx, hb, hm, hown, hts⟩ (hM l hsl0.2.1 D cA ad H.size) hcw ⟨x_blind, hrec, x_pre hR⟩ rfl (by simp) hl.1 (by simp [x_v]) (lv_room (by rw [x_catsum]; exact hs8)) hd ⟨by omega, by omega⟩) hS (x_A_in hD hS hA) fun ad' t H1 locs1 ht hvm q1 q2 hP1 hK1 hD1 hS1 => ?_
  have had : ad' = ad := funext fun j => q2 j (by omega)
  subst had
  rw [show (r.map (x_v ad')).toList ++ st.map (x_v ad') = (r.toList ++ st).map (x_v ad') by cases r <;> simp]
  exact h p l e R s m args below meth c X D cA n0 ad0 ad' A H1 locs1 ls (by rw [hΛ]; exact hn) (by rw [hΛ]; exact ha) ⟨hK, hP1, hD1.weaken (fun _ q _ hq => x_A_in hD hS hA _ hq), hS1, hA, hF⟩ hl
theorem x_nest {own host : String} {idx : Nat} {y : MethodName} (i : Nat) (h : tables_1[i]? = some (Cond.methodLinkNest own idx y host)) : Cond.methodLinkNest own idx y host ∈ xNest := List.mem_filter.mpr ⟨List.mem_of_getElem? h, rfl⟩
/-- a static call over the nest; nothing is made -/
theorem g_callSN (k' : xm) (host : String) {d' idx : Nat} {as st0 : List Value} {r : Option Value} {μ1 : xM} (hd : decode k.2.1 pc = .ok (.invokestatic idx, 3)) (hM : xMt sc k' d' 0 0 as μ r μ1) (hw1 : Cond.methodLinkNest k.1.cls idx k'.1 host ∈ xNest) (hw2 : Cond.static k'.1 ∈ xW) (hw3 : Cond.initialized k'.1.cls ∈ xW) (hw4 : Cond.code k'.1 k'.2.1 k'.2.2.1 k'.2.2.2 ∈ xW)
    (hy : k'.1.cls ≠ "java/lang/invoke/MethodHandle" ∧ k'.1.cls ≠ "java/lang/invoke/VarHandle" ∧ (parseMethodDescriptor k'.1.desc).map (fun d => d.parameters.length) = some as.length) (hst : st0 = as.reverse ++ st) (hs8 : (st.map fun v => v.category).sum ≤ 8) (hdd : d' + 1 ≤ d) (hml : k'.2.2.1 ≤ 45) (hΛ : μ1.1.length = μ.1.length) (hcl : cl ≤ mc) (hsl : sl ≤ ms)
    (h : xG sc k d mc ms Q cl sl (pc + 3) L (r.toList ++ st) μ1) : xG sc k d mc ms Q cl sl pc L st0 μ := by
  intro p l e R s m args below meth c X D cA n0 ad0 ad A H locs ls hn ha hR hl
  subst hst
  obtain ⟨hx, hb, hr, hm, hown, hts, hlk, hnm, hfr, hlo, hce, hsl0⟩ := id X
  obtain ⟨hK, hP, hD, hS, hA, hF⟩ := id hR
  have hcw := va_cnB (R := R) (s := s) (args := args) (own := k.1.cls) (index := idx) (host := host) (rm := { frames := d', cells := 0, slots := 0, locals := 64 * d' }) (mc := 0) (ms := 0) (ws := Cond.code k'.1 k'.2.1 k'.2.2.1 k'.2.2.2 :: xW) (ws' := xW) as.length hts (x_goodIn (l := []) hw4 (fun w hw => by cases hw)) rfl rfl rfl (hF.2.2.2.2.2.2.1 _ hw1) (hts _ hw3) hy ⟨by show d' + 1 ≤ R.frames; omega, by show 8 + (k'.2.2.1 + 11) + 64 * d' ≤ R.locals; omega⟩
  refine x_call (va_runSN (As := as.map (x_v ad)) (rest := st.map (x_v ad)) ⟨hx, hb, hm, hown, hts⟩ (hM l hsl0.2.1 D cA ad H.size) ⟨hcw, hts _ hw2, trivial⟩ ⟨x_blind, x_pre hR⟩ rfl (by simp) hl.1 (by simp) (lv_room (by rw [x_catsum]; exact hs8)) hd ⟨by omega, by omega⟩) hS (x_A_in hD hS hA) fun ad' t H1 locs1 ht hvm q1 q2 hP1 hK1 hD1 hS1 => ?_
  have had : ad' = ad := funext fun j => q2 j (by omega)
  subst had
  rw [show (r.map (x_v ad')).toList ++ st.map (x_v ad') = (r.toList ++ st).map (x_v ad') by cases r <;> simp]
  exact h p l e R s m args below meth c X D cA n0 ad0 ad' A H1 locs1 ls (by rw [hΛ]; exact hn) (by rw [hΛ]; exact ha) ⟨hK, hP1, hD1.weaken (fun _ q _ hq => x_A_in hD hS hA _ hq), hS1, hA, hF⟩ hl
/-- System.arraycopy of ints -/
def xcpy (u : xS) (c0 : Nat) (sp : Nat) (c1 : Nat) (dp n : Nat) : xS := (fun c' j' => if c' = c1 then (if dp ≤ j' ∧ j' < dp + n then u.1 c0 (sp + (j' - dp)) else u.1 c1 j') else u.1 c' j', u.2)
theorem g_copy {c0 c1 n0' n1' idx : Nat} {rf0 rf1 : List (Option Nat)} {sp dp n : Int32} {G : List xC} {u u' : xS} (hd : decode k.2.1 pc = .ok (.invokestatic idx, 3)) (hw1 : Cond.methodLink k.1.cls idx arraycopyName ∈ xW) (hw2 : Cond.native arraycopyName ∈ xW) (hw3 : Cond.static arraycopyName ∈ xW) (hw4 : Cond.initialized "java/lang/System" ∈ xW)
    (hc0 : G[c0]? = some (0, n0', rf0)) (hc1 : G[c1]? = some (0, n1', rf1)) (h1 : ¬ sp < 0) (h2 : ¬ dp < 0) (h3 : ¬ n < 0) (h4 : sp.toNatClampNeg + n.toNatClampNeg ≤ n0') (h5 : dp.toNatClampNeg + n.toNatClampNeg ≤ n1') (hs8 : (st.map fun v => v.category).sum ≤ 8) (hdd : 1 ≤ d) (hv : xcpy u c0 sp.toNatClampNeg c1 dp.toNatClampNeg n.toNatClampNeg = u')
    (h : xG sc k d mc ms Q cl sl (pc + 3) L st (G, u')) : xG sc k d mc ms Q cl sl pc L (.int n :: .int dp :: .ref c1 :: .int sp :: .ref c0 :: st) (G, u) := by
  subst hv
  intro p l e R s m args below meth c X D cA n0 ad0 ad A H locs ls hn ha hR hl
  obtain ⟨hx, hb, hr, hm, hown, hts, hlk, hnm, hfr, hlo, hce, hsl0⟩ := id X
  obtain ⟨hK, hP, hD, hS, hA, hF⟩ := id hR
  have ha0 : (x_w cA ad (G, u))[c0]? = some (ad c0, .inl (cA 0, n0', .inl (u.1 c0))) := x_w_at (μ := (G, u)) (c := (0, n0', rf0)) hc0
  have ha1 : (x_w cA ad (G, u))[c1]? = some (ad c1, .inl (cA 0, n1', .inl (u.1 c1))) := x_w_at (μ := (G, u)) (c := (0, n1', rf1)) hc1
  refine va_copyi hx hb (hm.trans hl.1.symm) hown (hts _ hw1) (hts _ hw2) (hts _ hw3) (hts _ hw4) hK hP hD hS c0 c1 0 0 ha0 ha1 rfl rfl rfl h1 h2 h3 h4 h5 (fun _ _ => rfl) (by omega) ?_ hd fun H1 locs1 hP1 hD1 hS1 => ?_
  · rw [x_catsum]
    have : nativeFrameWords "java/lang/System" "arraycopy" 5 + 11 ≤ 40 := by decide
    omega
  · have e1 : (x_w cA ad (G, u)).set c1 (ad c1, .inl (cA 0, n1', .inl (va_cpy (u.1 c0) (u.1 c1) sp.toNatClampNeg dp.toNatClampNeg n.toNatClampNeg))) = x_w cA ad (G, xcpy u c0 sp.toNatClampNeg c1 dp.toNatClampNeg n.toNatClampNeg) := x_w_set (c := (0, n1', rf1)) hc1 rfl (by
      simp only [x_e, xcpy, if_true]
      rfl) fun k' c' hk hk2 => ⟨hk2, by
        have e : (xcpy u c0 sp.toNatClampNeg c1 dp.toNatClampNeg n.toNatClampNeg).1 k' = u.1 k' := by funext j'; simp [xcpy, hk]
        have e2 : (xcpy u c0 sp.toNatClampNeg c1 dp.toNatClampNeg n.toNatClampNeg).2 = u.2 := rfl
        unfold x_e
        rw [e, e2]⟩
    exact h p l e R s m args below meth c X D cA n0 ad0 ad A H1 locs1 ls hn ha ⟨hK, e1 ▸ hP1, e1 ▸ hD1, hS1, hA, hF⟩ hl
end XO
