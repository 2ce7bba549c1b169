/-! the law's three that catch; the law's own frame -/
def xMtW (sc : Nat × (Nat → Int32)) (k : xm) (d : Nat) (as : List Value) (μ : xM) (r : Option Value) (μ' : xM) : Prop :=
  ∀ (l : Launch), l.stackTraces = false → ∀ (D : va_G) (cA : Nat → ClassId) (ad : Nat → Nat) (sz : Nat), Met l k.1 (Cond.codeWith k.1 k.2.1 k.2.2.1 k.2.2.2 (xTb k) :: xW) { frames := d, cells := 1, slots := 6, locals := 64 * d }
    (va_Pc (as.map (x_v ad)) (fun U => U.heap.size = sz ∧ va_P D vwCl (x_w cA ad μ) U.heap ∧ va_K D vwCl (x_tys cA) U ∧ va_D (fun _ => True) (x_w cA ad μ) ∧ xFor sc U (va_A (x_w cA ad μ) sz) ad))
    (xQ D cA μ.1.length ad (va_A (x_w cA ad μ) sz) r μ') 1 6 (va_A (x_w cA ad μ) sz)
theorem xMtW.of {sc : Nat × (Nat → Int32)} {k : xm} {d : Nat} {as : List Value} {μ μ' : xM} {r : Option Value} (hp : plainName k.1.cls = true) (hk : k.1.cls = "RagTownLaw") (hn : (x_en as).length ≤ k.2.2.1) {L : xL} (hL : x_en as ++ List.replicate (k.2.2.1 - (x_en as).length) none = L) (h : xG sc k d 1 6 (xR r μ' 1 6) 0 0 0 L [] μ) : xMtW sc k d as μ r μ' := by
  intro l hl0 D cA ad sz
  refine va_MetW (cc := k.2.1) (maxL := k.2.2.1) (ret := k.2.2.2) (hh := xTb k) hp rfl ?_
  intro p e s m args below meth c s₁ B hml hv
  obtain ⟨rfl, hsz, hP, hK, hD0, hF⟩ := hv
  have hts := atoms_spec (ws := Cond.codeWith k.1 k.2.1 k.2.2.1 k.2.2.2 (xTb k) :: xW) B.pre
  have htb : c.exceptionTable.toList = tableOf (xTb k) := vx_table (x := k.1) B (hts _ List.mem_cons_self)
  subst hsz
  have hD := hD0.self (sz := s.heap.size)
  have hl := lv_entry (as.map (x_v ad)) (n := k.2.2.1) (by rw [lg_sl_len]; exact hn)
  rw [lg_entry_eq]
  have hl2 : lv_has (lg_sl (as.map (x_v ad)) ++ List.replicate (k.2.2.1 - (lg_sl (as.map (x_v ad))).length) Slot.unset).toArray k.2.2.1 (x_ls ad 0 L) := by
    refine ⟨hl.1, hl.2.1, fun q hq => hl.2.2 q ?_⟩
    rw [← hL] at hq
    exact x_en_mem as _ 0 hq
  exact h p l e _ s m _ below meth c ⟨B.exec, B.bytes, B.returns, hml, findClass_of_methodNamed B.named, fun w hw => hts w (List.mem_cons_of_mem _ hw), B.notSynchronized, (name_of_methodNamed B.named B.method).1, Nat.le_refl _, Nat.le_refl _, Nat.le_refl _, Nat.le_refl _, hl0, Or.inr ⟨hk, Or.inr htb⟩⟩
    D cA μ.1.length ad ad _ s.heap [] _ (Nat.le_refl _) (fun _ _ => rfl) ⟨hK, hP, hD, va_S.rf, fun q hq => Or.inr hq, hF⟩ hl2
/-- what such a helper answers and leaves, by what its callee did -/
def hR (o : Option Int32) : Int32 := match o with
  | some _ => 0
  | none => 1
def hU (o : Option Int32) (u : xS) : xS := match o with
  | some r => wl u 181 0 r.toInt64
  | none => u
section XLW
variable {sc : Nat × (Nat → Int32)} {k : xm} {d mc ms : Nat} {Q : xE} {cl sl pc : Nat} {L L' : xL} {st : List Value} {μ : xM}
theorem g_iretW {r : Int32} {μ' : xM} (hd : decode k.2.1 pc = .ok (.ireturn, 1)) (hr : k.2.2.2 = some .int) (hQ : Q = xR (some (.int r)) μ' 1 6) (hμ : μ = μ') (hc : cl ≤ 1) (hs : sl ≤ 6) : xG sc k d 1 6 Q cl sl pc L [.int r] μ := g_iret hd hr hQ hμ hc hs
def xcW (own : String) (idx : Nat) (k' : xm) (n : Nat) : Prop := Cond.methodLink own idx k'.1 ∈ xW ∧ Cond.static k'.1 ∈ xW ∧ Cond.initialized k'.1.cls ∈ xW ∧ Cond.codeWith k'.1 k'.2.1 k'.2.2.1 k'.2.2.2 (xTb k') ∈ xW ∧ (k'.1.cls ≠ "java/lang/invoke/MethodHandle" ∧ k'.1.cls ≠ "java/lang/invoke/VarHandle" ∧ (parseMethodDescriptor k'.1.desc).map (fun d => d.parameters.length) = some n) ∧ k'.2.2.1 ≤ 45
/-- a call of a helper -/
theorem g_cW {k' : xm} {d' idx n : Nat} {as st0 : List Value} {r : Option Value} {μ1 : xM} (hd : decode k.2.1 pc = .ok (.invokestatic idx, 3)) (hb : xcW k.1.cls idx k' n) (hM : xMtW sc k' d' as μ r μ1) (hn : as.length = n) (hst : st0 = as.reverse ++ st) (hs8 : (st.map fun v => v.category).sum ≤ 8) (hdd : d' + 1 ≤ d) (hΛ : μ1.1.length = μ.1.length) (hcl : cl + 1 ≤ mc) (hsl : sl + 6 ≤ ms)
    (h : xG sc k d mc ms Q (cl + 1) (sl + 6) (pc + 3) L (r.toList ++ st) μ1) : xG sc k d mc ms Q cl sl pc L st0 μ := by
  intro p l e R s m args below meth c X D cA n0 ad0 ad A H locs ls hn0 ha hR hl
  subst hst
  subst hn
  obtain ⟨hx, hb0, hr, hm, hown, hts, hlk, hnm, hfr, hlo, hce, hsl0⟩ := id X
  obtain ⟨hK, hP, hD, hS, hA, hF⟩ := id hR
  obtain ⟨b1, b2, b3, b4, b5, b6⟩ := hb
  have hgi : GoodIn xW (va_wsS k.1.cls idx k'.1 (Cond.codeWith k'.1 k'.2.1 k'.2.2.1 k'.2.2.2 (xTb k') :: xW)) := by
    intro w hw
    have h1 : w ∈ xW := by
      simp only [va_wsS, List.mem_append, List.mem_cons, List.not_mem_nil, or_false] at hw
      rcases hw with (rfl | rfl | rfl) | rfl | h
      · exact b1
      · exact b2
      · exact b3
      · exact b4
      · exact h
    exact ⟨h1, x_good w h1⟩
  have hcw := vx_cwSW (R := R) (s := s) (args := args) (rm := { frames := d', cells := 1, slots := 6, locals := 64 * d' }) as.length hts hgi rfl rfl rfl b5 ⟨by show d' + 1 ≤ R.frames; omega, by show 8 + (k'.2.2.1 + 11) + 64 * d' ≤ R.locals; omega⟩
  refine x_call (vx_runSW (As := as.map (x_v ad)) (rest := st.map (x_v ad)) ⟨hx, hb0, hm, hown, hts⟩ (hM l hsl0.2.1 D cA ad H.size) hcw ⟨x_blind, x_pre hR⟩ rfl (by simp) hl.1 (by simp) (lv_room (by rw [x_catsum]; exact hs8)) hd ⟨by omega, by omega⟩) hS (x_A_in hD hS hA) fun ad' t H1 locs1 ht hvm q1 q2 hP1 hK1 hD1 hS1 => ?_
  have had : ad' = ad := funext fun j => q2 j (by omega)
  subst had
  rw [show (r.map (x_v ad')).toList ++ st.map (x_v ad') = (r.toList ++ st).map (x_v ad') by cases r <;> simp]
  exact h p l e R s m args below meth c X D cA n0 ad0 ad' A H1 locs1 ls (by rw [hΛ]; exact hn0) (by rw [hΛ]; exact ha) ⟨hK, hP1, hD1.weaken (fun _ q _ hq => x_A_in hD hS hA _ hq), hS1, hA, hF⟩ hl
/-- a call in the law's frame: its counts stay -/
theorem g_cVl {k' : xm} {ci c0 n0 : Nat} {rf : List (Option Nat)} {d' idx n : Nat} {as st0 : List Value} {r : Option Value} {μ1 : xM} (hd : decode k.2.1 pc = .ok (.invokevirtual idx, 3)) (hb : xcV k.1.cls idx k' ci n) (hM : xMt sc k' d' 0 0 (.ref c0 :: as) μ r μ1) (hc : μ.1[c0]? = some (ci + 4, n0, rf)) (hn : as.length = n) (hst : st0 = as.reverse ++ .ref c0 :: st) (hs8 : (st.map fun v => v.category).sum ≤ 8) (hdd : d' + 1 ≤ d) (hΛ : μ1.1.length = μ.1.length) (hcl : cl ≤ mc) (hsl : sl ≤ ms)
    (h : xG sc k d mc ms Q cl sl (pc + 3) L (r.toList ++ st) μ1) : xG sc k d mc ms Q cl sl pc L st0 μ := by
  subst hn
  obtain ⟨h1, h2, h3, ⟨h4, h5, h6, h7⟩, q, h8, h9⟩ := hb
  exact g_callV k' ci hd hM h1 h2 h3 h4 h5 hc h8 h9 h6 hst hs8 hdd h7 hΛ hcl hsl h
end XLW
theorem x_cns : Cond.castable xNS xNS ∈ xNest := List.mem_filter.mpr ⟨List.mem_of_getElem? (i := 979) (by decide +kernel), rfl⟩
theorem cVL_split : xcV RL 7 mX11_split 11 2 := ⟨x_mem 973 (by decide +kernel) rfl, x_mem 974 (by decide +kernel) rfl, x_mem 975 (by decide +kernel) rfl, ⟨x_mem 1 (by decide +kernel) rfl, x_mem 976 (by decide +kernel) rfl, by decide +kernel, by decide⟩, _, rfl, rfl⟩
set_option maxRecDepth 100000 in
set_option maxHeartbeats 4000000 in
theorem H_split {sc : Nat × (Nat → Int32)} {d : Nat} (hd : 40 ≤ d) {u u1 : xS} {o : Option Int32} {a1 a2 : Int32} (h : f_X11_split a1 a2 u = some (o, u1)) : xMtW sc mL_split d [.ref 0, .int a1, .int a2, .ref 181] (xL0, u) (some (.int (hR o))) (xL0, hU o u1) := by
  refine xMtW.of (by decide +kernel) rfl (Nat.le_of_ble_eq_true rfl) (L := [some (.ref 0), some (.int a1), some (.int a2), some (.ref 181), none]) rfl ?_
  refine g_aload_n (pc := 0) dL_split_0 rfl ?_
  refine g_iconst (pc := 1) dL_split_1 ic_0 ?_
  refine g_aload_n (pc := 2) dL_split_2 rfl ?_
  refine g_iload_n (pc := 3) dL_split_3 rfl ?_
  refine g_iload_n (pc := 4) dL_split_4 rfl ?_
  refine g_callX (nx := 15) (i := 4) (⟨0, 10, 13, 13⟩ : ExceptionTableEntry) (pc := 5) dL_split_5 cVL_split (M_X11_split (Nat.le_refl _) h) xc_0 (as := [.int a1, .int a2]) (st := [.int (0 : Int32), .ref 181]) rfl rfl (Nat.le_of_ble_eq_true rfl) (Nat.le_trans (Nat.le_of_ble_eq_true rfl) hd) rfl (Nat.le_refl _) (Nat.le_refl _) rfl (by decide) rfl rfl (by decide) (x_mem 972 (by decide +kernel) rfl) x_cns (Or.inl ⟨dL_split_13, rfl⟩) (Nat.le_of_ble_eq_true rfl) rfl (fun r ho => ?_) (fun ho => ?_)
  · subst ho
    refine g_i2l (pc := 8) dL_split_8 rfl ?_
    refine g_lastore (pc := 9) dL_split_9 xc_181 (by unfold vp_in; decide) (u' := wl u1 181 0 r.toInt64) rfl ?_
    refine g_goto (tgt := 17) (pc := 10) dL_split_10 (by decide) ?_
    refine g_iconst (pc := 17) dL_split_17 ic_0 ?_
    exact g_iretW (pc := 18) dL_split_18 rfl rfl rfl (Nat.le_refl _) (Nat.le_refl _)
  · subst ho
    refine g_iconst (pc := 15) dL_split_15 ic_1 ?_
    exact g_iretW (pc := 16) dL_split_16 rfl rfl rfl (Nat.le_refl _) (Nat.le_refl _)
theorem cW_split : xcW RL 108 mL_split 4 := ⟨x_mem 969 (by decide +kernel) rfl, x_mem 970 (by decide +kernel) rfl, x_mem 0 (by decide +kernel) rfl, x_mem 971 (by decide +kernel) rfl, by decide +kernel, by decide⟩
theorem cVL_wish : xcV RL 15 mX11_wish 11 3 := ⟨x_mem 1045 (by decide +kernel) rfl, x_mem 1046 (by decide +kernel) rfl, x_mem 1047 (by decide +kernel) rfl, ⟨x_mem 1 (by decide +kernel) rfl, x_mem 1048 (by decide +kernel) rfl, by decide +kernel, by decide⟩, _, rfl, rfl⟩
set_option maxRecDepth 100000 in
set_option maxHeartbeats 4000000 in
theorem H_wish {sc : Nat × (Nat → Int32)} {d : Nat} (hd : 40 ≤ d) {u u1 : xS} {o : Option Int32} {a1 a2 a3 : Int32} (h : f_X11_wish a1 a2 a3 u = some (o, u1)) : xMtW sc mL_wish d [.ref 0, .int a1, .int a2, .int a3, .ref 181] (xL0, u) (some (.int (hR o))) (xL0, hU o u1) := by
  refine xMtW.of (by decide +kernel) rfl (Nat.le_of_ble_eq_true rfl) (L := [some (.ref 0), some (.int a1), some (.int a2), some (.int a3), some (.ref 181), none]) rfl ?_
  refine g_aload (pc := 0) dL_wish_0 rfl ?_
  refine g_iconst (pc := 2) dL_wish_2 ic_0 ?_
  refine g_aload_n (pc := 3) dL_wish_3 rfl ?_
  refine g_iload_n (pc := 4) dL_wish_4 rfl ?_
  refine g_iload_n (pc := 5) dL_wish_5 rfl ?_
  refine g_iload_n (pc := 6) dL_wish_6 rfl ?_
  refine g_callX (nx := 17) (i := 5) (⟨0, 12, 15, 13⟩ : ExceptionTableEntry) (pc := 7) dL_wish_7 cVL_wish (M_X11_wish (Nat.le_refl _) h) xc_0 (as := [.int a1, .int a2, .int a3]) (st := [.int (0 : Int32), .ref 181]) rfl rfl (Nat.le_of_ble_eq_true rfl) (Nat.le_trans (Nat.le_of_ble_eq_true rfl) hd) rfl (Nat.le_refl _) (Nat.le_refl _) rfl (by decide) rfl rfl (by decide) (x_mem 972 (by decide +kernel) rfl) x_cns (Or.inl ⟨dL_wish_15, rfl⟩) (Nat.le_of_ble_eq_true rfl) rfl (fun r ho => ?_) (fun ho => ?_)
  · subst ho
    refine g_i2l (pc := 10) dL_wish_10 rfl ?_
    refine g_lastore (pc := 11) dL_wish_11 xc_181 (by unfold vp_in; decide) (u' := wl u1 181 0 r.toInt64) rfl ?_
    refine g_goto (tgt := 19) (pc := 12) dL_wish_12 (by decide) ?_
    refine g_iconst (pc := 19) dL_wish_19 ic_0 ?_
    exact g_iretW (pc := 20) dL_wish_20 rfl rfl rfl (Nat.le_refl _) (Nat.le_refl _)
  · subst ho
    refine g_iconst (pc := 17) dL_wish_17 ic_1 ?_
    exact g_iretW (pc := 18) dL_wish_18 rfl rfl rfl (Nat.le_refl _) (Nat.le_refl _)
theorem cW_wish : xcW RL 174 mL_wish 5 := ⟨x_mem 1042 (by decide +kernel) rfl, x_mem 1043 (by decide +kernel) rfl, x_mem 0 (by decide +kernel) rfl, x_mem 1044 (by decide +kernel) rfl, by decide +kernel, by decide⟩
theorem cVL_row : xcV RL 19 mX11_row 11 1 := ⟨x_mem 1052 (by decide +kernel) rfl, x_mem 1053 (by decide +kernel) rfl, x_mem 1054 (by decide +kernel) rfl, ⟨x_mem 1 (by decide +kernel) rfl, x_mem 1055 (by decide +kernel) rfl, by decide +kernel, by decide⟩, _, rfl, rfl⟩
set_option maxRecDepth 100000 in
set_option maxHeartbeats 4000000 in
theorem H_row {sc : Nat × (Nat → Int32)} {d : Nat} (hd : 40 ≤ d) {u u1 : xS} {o : Option Int32} {a1 : Int32} (h : f_X11_row a1 u = some (o, u1)) : xMtW sc mL_row d [.ref 0, .int a1, .ref 181] (xL0, u) (some (.int (hR o))) (xL0, hU o u1) := by
  refine xMtW.of (by decide +kernel) rfl (Nat.le_of_ble_eq_true rfl) (L := [some (.ref 0), some (.int a1), some (.ref 181), none]) rfl ?_
  refine g_aload_n (pc := 0) dL_row_0 rfl ?_
  refine g_iconst (pc := 1) dL_row_1 ic_0 ?_
  refine g_aload_n (pc := 2) dL_row_2 rfl ?_
  refine g_iload_n (pc := 3) dL_row_3 rfl ?_
  refine g_callX (nx := 13) (i := 3) (⟨0, 9, 12, 13⟩ : ExceptionTableEntry) (pc := 4) dL_row_4 cVL_row (M_X11_row (Nat.le_refl _) h) xc_0 (as := [.int a1]) (st := [.int (0 : Int32), .ref 181]) rfl rfl (Nat.le_of_ble_eq_true rfl) (Nat.le_trans (Nat.le_of_ble_eq_true rfl) hd) rfl (Nat.le_refl _) (Nat.le_refl _) rfl (by decide) rfl rfl (by decide) (x_mem 972 (by decide +kernel) rfl) x_cns (Or.inr ⟨3, rfl, dL_row_12, rfl⟩) (Nat.le_of_ble_eq_true rfl) rfl (fun r ho => ?_) (fun ho => ?_)
  · subst ho
    refine g_i2l (pc := 7) dL_row_7 rfl ?_
    refine g_lastore (pc := 8) dL_row_8 xc_181 (by unfold vp_in; decide) (u' := wl u1 181 0 r.toInt64) rfl ?_
    refine g_goto (tgt := 15) (pc := 9) dL_row_9 (by decide) ?_
    refine g_iconst (pc := 15) dL_row_15 ic_0 ?_
    exact g_iretW (pc := 16) dL_row_16 rfl rfl rfl (Nat.le_refl _) (Nat.le_refl _)
  · subst ho
    refine g_iconst (pc := 13) dL_row_13 ic_1 ?_
    exact g_iretW (pc := 14) dL_row_14 rfl rfl rfl (Nat.le_refl _) (Nat.le_refl _)
theorem cW_row : xcW RL 198 mL_row 3 := ⟨x_mem 1049 (by decide +kernel) rfl, x_mem 1050 (by decide +kernel) rfl, x_mem 0 (by decide +kernel) rfl, x_mem 1051 (by decide +kernel) rfl, by decide +kernel, by decide⟩
