/-! calls -/
theorem x_aoa_spec {args : Array Value} {first s : State} {o : Option Outcome} {idx : List Nat} {t : FieldType} (h : (Cond.arrayOver (.array t)).holds args first o s idx = true) :
    ∃ comp c k, s.vm.findClass (FieldType.array t).toString = some comp ∧ (s.vm.classes.findIdx? fun x => match x.kind with | .array component _ => component == comp | _ => false) = some c ∧ s.vm.classes[c]? = some k ∧ k.kind = .array comp (.array t) ∧ s.vm.findClass ("[" ++ (FieldType.array t).toString) = some c := by
  simp only [Cond.holds, Cond.value, beq_iff_eq] at h
  cases hc : s.vm.findClass (FieldType.array t).toString with
  | none => simp [hc] at h
  | some comp =>
    simp only [hc, Option.bind_some, Option.bind_eq_some_iff, Option.map_eq_some_iff] at h
    obtain ⟨c, hi, k, hk, hb⟩ := h
    obtain ⟨hlt, hp, -⟩ := Array.findIdx?_eq_some_iff_getElem.mp hi
    have hkk : s.vm.classes[c] = k := (Array.getElem?_eq_some_iff.mp hk).2
    rw [hkk] at hp
    cases hkind : k.kind with
    | array component ty =>
      rw [hkind] at hb hp
      simp at hb hp
      exact ⟨comp, c, k, rfl, hi, hk, by rw [hkind, hp, hb.1], hb.2⟩
    | _ => rw [hkind] at hb; simp at hb
theorem va_AOA.moved {t : FieldType} {u U : State} (hvm : u.vm.Alike U.vm) (h : va_AOA t u) : va_AOA t U := by
  obtain ⟨comp, c, k, h1, h2, h3, h4, h5⟩ := x_aoa_spec h
  obtain ⟨k', hk', he⟩ := hvm.2.2 _ _ h3
  have hi : (U.vm.classes.findIdx? fun (x : Class) => match x.kind with | .array component _ => component == comp | _ => false) = some c := by
    have e1 := va_idx_bare U.vm comp
    have e2 := va_idx_bare u.vm comp
    have e3 : U.vm.bare = u.vm.bare := by first | exact hvm.bare_eq | exact hvm.bare_eq.symm
    rw [e3] at e1
    exact (e1.symm.trans e2).trans h2
  have hkind : k'.kind = .array comp (.array t) := by rw [he]; exact h4
  have f1 : U.vm.findClass (FieldType.array t).toString = some comp := by rw [hvm.findClass]; exact h1
  have f2 : U.vm.findClass ("[" ++ (FieldType.array t).toString) = some c := by rw [hvm.findClass]; exact h5
  unfold va_AOA Cond.before Cond.holds
  simp only [Cond.value]
  rw [f1, Option.bind_some]
  refine (congrArg (fun o : Option Nat => (o.bind (fun c => (U.vm.classes[c]?).map fun (k : Class) => match k.kind with | .array _ ty => decide (ty = FieldType.array t) && decide (U.vm.findClass ("[" ++ (FieldType.array t).toString) = some c) | _ => false) == some true)) hi).trans ?_
  simp [hk', hkind, f2]
theorem xFor.same {sc : Nat × (Nat → Int32)} {u U : State} {A : Nat → Prop} {ad : Nat → Nat} (hv : U.vm = u.vm) (hh : U.heap = u.heap) (h : xFor sc u A ad) : xFor sc U A ad := by
  have hvm : u.vm.Alike U.vm := by rw [hv]; exact Vm.Alike.refl _
  obtain ⟨⟨cell, h1, h2, h3⟩, hz, ht, hz2, hs, hr, hw, hao, hx1, hx2⟩ := h
  refine ⟨⟨cell, by rw [hh]; exact h1, State.isArrayOf_alike hvm h2, h3⟩, ?_, ?_, ?_, ?_, ?_, ?_, va_AOA.moved hvm hao, by rw [hh]; exact vx_Zq.moved hvm hx1, by rw [hh]; exact vx_Zq.moved hvm hx2⟩
  · have := va_Z.moved hvm hz
    rw [hh]; exact this
  · have := va_T.moved hvm ht
    rw [hh]; exact this
  · have := va_Z.moved hvm hz2
    rw [hh]; exact this
  · have := vk_S.moved hvm hs
    rw [hh]; exact this
  · exact fun i q hq => vk_R.same hv (hr i q hq)
  · intro w hw1
    have h9 := hw w hw1
    have hw2 := (List.mem_filter.mp hw1).2
    cases w <;> first | (cases hw2; done) | exact va_Nw.same rfl hv.symm h9
/-- at a callee's start -/
theorem xFor.go {sc : Nat × (Nat → Int32)} {s U : State} {A B : Nat → Prop} {ad : Nat → Nat} {H : Heap} (hW : s.WarmedH U.vm) (hU : U.heap = H) (hk : ∀ q : Nat, q < s.heap.size → ¬ A q → H[q]? = s.heap[q]?) (hBA : ∀ q, B q → A q) (h : xFor sc s A ad) : xFor sc U B ad := by
  have hvm : s.vm.Alike U.vm := hW.alike
  obtain ⟨⟨cell, h1, h2, h3, h4, h5, h6⟩, hz, ht, hz2, hs, hr, hw, hao, hx1, hx2⟩ := h
  refine ⟨⟨cell, ?_, State.isArrayOf_alike hvm h2, h3, h4, h5, fun z => h6 (hBA _ z)⟩, ?_, ?_, ?_, ?_, ?_, ?_, va_AOA.moved hvm hao, by rw [hU]; exact ((vx_Zq.moved hvm hx1).kept hk).narrow hBA, by rw [hU]; exact ((vx_Zq.moved hvm hx2).kept hk).narrow hBA⟩
  · rw [hU, hk _ (Array.getElem?_eq_some_iff.mp h1).1 h6]
    exact h1
  · rw [hU]; exact ((va_Z.moved hvm hz).kept hk).narrow hBA
  · rw [hU]; exact ((va_T.moved hvm ht).kept hk).narrow hBA
  · rw [hU]; exact ((va_Z.moved hvm hz2).kept hk).narrow hBA
  · rw [hU]; exact ((vk_S.moved hvm hs).kept hk).narrow hBA
  · exact fun i q hq => vk_R.warm hW (hr i q hq)
  · intro w hw1
    have h9 := hw w hw1
    have hw2 := (List.mem_filter.mp hw1).2
    cases w <;> first | (cases hw2; done) | exact va_Nw.warmM hW h9 | exact va_Nw.warmD hW h9 | exact va_Nw.warmC hW h9
section XC
variable {p : Program} {l : Launch} {e : Env} {R : Room} {s : State} {m : MethodId} {args : Array Value} {below : List Frame} {meth : Method} {c : Code} {H : Heap} {locs : List Loc} {cells slots : Nat} {Q : State → Prop}
theorem x_call {D : va_G} {cA : Nat → ClassId} {n1 : Nat} {ad : Nat → Nat} {A A1 : Nat → Prop} {r : Option Value} {μ1 : xM} {a : Array Value} {mc ms pc : Nat} {ls : Array Slot} {st0 rest : List Value} {H0 : Heap}
    (hr : va_Run p l e R s m args below meth c H locs cells slots mc ms (F0 m pc ls st0) rest (xQ D cA n1 ad A1 r μ1 a) A1) (hS : va_S A H0 H locs) (hA : ∀ q, A1 q → A q)
    (kk : ∀ (ad' : Nat → Nat) (t : State) (H1 : Heap) (locs1 : List Loc), t.heap = H1 → s.vm.Alike t.vm → n1 ≤ μ1.1.length → (∀ j, ¬ (n1 ≤ j ∧ j < μ1.1.length) → ad' j = ad j) → va_P D vwCl (x_w cA ad' μ1) H1 → va_K D vwCl (x_tys cA) t → va_D A1 (x_w cA ad' μ1) → va_S A H0 H1 locs1 →
      W p l e R s m args below meth c H1 locs1 (cells + mc) (slots + ms) Q (F0 m (pc + 3) ls ((r.map (x_v ad')).toList ++ rest))) : W p l e R s m args below meth c H locs cells slots Q (F0 m pc ls st0) := by
  intro T hT X
  obtain ⟨v, st₀, t, T', L, h0, X', hL, e1, e2, ⟨⟨ad', q1, q2, hv, hP, hK, hD⟩, hz, hk⟩, st⟩ := hr T hT X
  cases hv
  rw [h0] at hz hk
  obtain ⟨t2, a1, b1⟩ := kk ad' t T'.heap (locs ++ L) e1.symm (by rw [← e2]; exact X'.warmed.alike) q1 q2 (by rw [e1]; exact hP) hK hD
    ⟨Nat.le_trans hS.1 (by rw [e1]; exact hz), fun q h1 h2 => by rw [e1, hk q (Nat.lt_of_lt_of_le h1 hS.1) (fun z => h2 (hA q z))]; exact hS.2.1 q h1 h2, fun q hq => by
      rcases List.mem_append.mp hq with h | h
      · exact hS.2.2 q h
      · exact hA _ (hL q h)⟩ T' rfl X'
  exact ⟨t2, st t2 a1, b1⟩
end XC
theorem x_A_in {A : Nat → Prop} {ws : va_W} {H0 H : Heap} {locs : List Loc} (hD : va_D A ws) (hS : va_S A H0 H locs) (hA : ∀ q, H0.size ≤ q → A q) : ∀ q, va_A ws H.size q → A q := by
  intro q h
  rcases h with ⟨k, e, h⟩ | h
  · exact hD.2 k (q, e) h
  · exact hA q (Nat.le_trans hS.1 h)
theorem x_blind {sc : Nat × (Nat → Int32)} {D : va_G} {cA : Nat → ClassId} {ad : Nat → Nat} {μ : xM} {sz : Nat} {B : Nat → Prop} {as : List Value} : FrameBlind (va_Pc as (fun U => U.heap.size = sz ∧ va_P D vwCl (x_w cA ad μ) U.heap ∧ va_K D vwCl (x_tys cA) U ∧ va_D (fun _ => True) (x_w cA ad μ) ∧ xFor sc U B ad)) := by
  intro a U g mk q
  obtain ⟨q0, q1, qP, qK, qD, qF⟩ := q
  exact ⟨q0, q1, qP, va_K.moved (u := U) (U := U.calling g mk a) (Vm.Alike.refl U.vm) qK, qD, xFor.same (u := U) (U := U.calling g mk a) rfl rfl qF⟩
theorem x_pre {sc : Nat × (Nat → Int32)} {D : va_G} {cA : Nat → ClassId} {ad : Nat → Nat} {μ : xM} {A : Nat → Prop} {s : State} {H : Heap} {locs : List Loc} {as : List Value} (hR : xRel sc D cA ad A μ s H locs) :
    ∀ U : State, U.heap = H → s.WarmedH U.vm → va_Pc as (fun U => U.heap.size = H.size ∧ va_P D vwCl (x_w cA ad μ) U.heap ∧ va_K D vwCl (x_tys cA) U ∧ va_D (fun _ => True) (x_w cA ad μ) ∧ xFor sc U (va_A (x_w cA ad μ) H.size) ad) as.toArray U := by
  obtain ⟨hK, hP, hD, hS, hA, hF⟩ := hR
  exact fun U hU hW => ⟨rfl, by rw [hU], by rw [hU]; exact hP, va_K.moved hW.alike hK, hD.weaken (fun _ _ _ _ => trivial), hF.go hW hU hS.2.1 (x_A_in hD hS hA)⟩
theorem x_catsum (ad : Nat → Nat) (st : List Value) : ((st.map (x_v ad)).map fun v => v.category).sum = (st.map fun v => v.category).sum := by
  rw [List.map_map]
  congr 1
  apply List.map_congr_left
  intro v _
  exact x_v_cat ad v
/-- the words of a contract are good -/
theorem x_goodIn {k' : xm} {l : List Cond} (hc : Cond.code k'.1 k'.2.1 k'.2.2.1 k'.2.2.2 ∈ xW) (hl : ∀ w ∈ l, w ∈ xW) : GoodIn xW (l ++ (Cond.code k'.1 k'.2.1 k'.2.2.1 k'.2.2.2 :: xW)) := by
  intro w hw
  have h1 : w ∈ xW := by
    rcases List.mem_append.mp hw with h | h
    · exact hl w h
    · rcases List.mem_cons.mp h with rfl | h
      · exact hc
      · exact h
  exact ⟨h1, x_good w h1⟩
section XD
variable {sc : Nat × (Nat → Int32)} {k : xm} {d mc ms : Nat} {Q : xE} {cl sl pc : Nat} {L L' : xL} {st : List Value} {μ : xM}
/-- a static call; nothing is made -/
theorem g_callS (k' : xm) {d' idx : Nat} {as st0 : List Value} {r : Option Value} {μ1 : xM} (hd : decode k.2.1 pc = .ok (.invokestatic idx, 3)) (hM : xMt sc k' d' 0 0 as μ r μ1) (hw1 : Cond.methodLink k.1.cls idx k'.1 ∈ xW) (hw2 : Cond.static k'.1 ∈ xW) (hw3 : Cond.initialized k'.1.cls ∈ xW) (hw4 : Cond.code k'.1 k'.2.1 k'.2.2.1 k'.2.2.2 ∈ xW)
    (hy : k'.1.cls ≠ "java/lang/invoke/MethodHandle" ∧ k'.1.cls ≠ "java/lang/invoke/VarHandle" ∧ (parseMethodDescriptor k'.1.desc).map (fun d => d.parameters.length) = some as.length) (hst : st0 = as.reverse ++ st) (hs8 : (st.map fun v => v.category).sum ≤ 8) (hdd : d' + 1 ≤ d) (hml : k'.2.2.1 ≤ 45) (hΛ : μ1.1.length = μ.1.length) (hcl : cl ≤ mc) (hsl : sl ≤ ms)
    (h : xG sc k d mc ms Q cl sl (pc + 3) L (r.toList ++ st) μ1) : xG sc k d mc ms Q cl sl pc L st0 μ := by
  intro p l e R s m args below meth c X D cA n0 ad0 ad A H locs ls hn ha hR hl
  subst hst
  obtain ⟨hx, hb, hr, hm, hown, hts, hlk, hnm, hfr, hlo, hce, hsl0⟩ := id X
  obtain ⟨hK, hP, hD, hS, hA, hF⟩ := id hR
  have hcw := va_cwS (R := R) (s := s) (args := args) (rm := { frames := d', cells := 0, slots := 0, locals := 64 * d' }) as.length hts (x_goodIn (l := [.methodLink k.1.cls idx k'.1, .static k'.1, .initialized k'.1.cls]) hw4 (fun w hw => by
    simp only [List.mem_cons, List.not_mem_nil, or_false] at hw
    rcases hw with rfl | rfl | rfl
    · exact hw1
    · exact hw2
    · exact hw3)) rfl rfl rfl hy ⟨by show d' + 1 ≤ R.frames; omega, by show 8 + (k'.2.2.1 + 11) + 64 * d' ≤ R.locals; omega⟩
  refine x_call (va_runS (As := as.map (x_v ad)) (rest := st.map (x_v ad)) ⟨hx, hb, hm, hown, hts⟩ (hM l hsl0.2.1 D cA ad H.size) hcw ⟨x_blind, x_pre hR⟩ rfl (by simp) hl.1 (by simp) (lv_room (by rw [x_catsum]; exact hs8)) hd ⟨by omega, by omega⟩) hS (x_A_in hD hS hA) fun ad' t H1 locs1 ht hvm q1 q2 hP1 hK1 hD1 hS1 => ?_
  have had : ad' = ad := funext fun j => q2 j (by omega)
  subst had
  rw [show (r.map (x_v ad')).toList ++ st.map (x_v ad') = (r.toList ++ st).map (x_v ad') by cases r <;> simp]
  exact h p l e R s m args below meth c X D cA n0 ad0 ad' A H1 locs1 ls (by rw [hΛ]; exact hn) (by rw [hΛ]; exact ha) ⟨hK, hP1, hD1.weaken (fun _ q _ hq => x_A_in hD hS hA _ hq), hS1, hA, hF⟩ hl
/-- a call of a method of the object on the stack; nothing is made -/
theorem g_callV (k' : xm) (ci : Nat) {d' idx c0 n : Nat} {rf : List (Option Nat)} {as st0 : List Value} {r : Option Value} {μ1 : xM} {q : vw_C} (hd : decode k.2.1 pc = .ok (.invokevirtual idx, 3)) (hM : xMt sc k' d' 0 0 (.ref c0 :: as) μ r μ1) (hw1 : Cond.methodLink k.1.cls idx k'.1 ∈ xW) (hw2 : Cond.instanceMethod k'.1 ∈ xW) (hw5 : Cond.selects k'.1.cls k'.1 k'.1 ∈ xW) (hw3 : Cond.initialized k'.1.cls ∈ xW) (hw4 : Cond.code k'.1 k'.2.1 k'.2.2.1 k'.2.2.2 ∈ xW)
    (hc : μ.1[c0]? = some (ci + 4, n, rf)) (hq : vwCl[ci]? = some q) (hcq : q.1 = k'.1.cls)
    (hy : k'.1.cls ≠ "java/lang/invoke/MethodHandle" ∧ k'.1.cls ≠ "java/lang/invoke/VarHandle" ∧ (parseMethodDescriptor k'.1.desc).map (fun d => d.parameters.length) = some as.length) (hst : st0 = as.reverse ++ .ref c0 :: st) (hs8 : (st.map fun v => v.category).sum ≤ 8) (hdd : d' + 1 ≤ d) (hml : k'.2.2.1 ≤ 45) (hΛ : μ1.1.length = μ.1.length) (hcl : cl ≤ mc) (hsl : sl ≤ ms)
    (h : xG sc k d mc ms Q cl sl (pc + 3) L (r.toList ++ st) μ1) : xG sc k d mc ms Q cl sl pc L st0 μ := by
  intro p l e R s m args below meth c X D cA n0 ad0 ad A H locs ls hn ha hR hl
  subst hst
  obtain ⟨hx, hb, hr, hm, hown, hts, hlk, hnm, hfr, hlo, hce, hsl0⟩ := id X
  obtain ⟨hK, hP, hD, hS, hA, hF⟩ := id hR
  have hcw := cwV (R := R) (s := s) (args := args) (C := k'.1.cls) (rm := { frames := d', cells := 0, slots := 0, locals := 64 * d' }) as.length hts (x_goodIn (l := [.methodLink k.1.cls idx k'.1, .instanceMethod k'.1, .selects k'.1.cls k'.1 k'.1, .initialized k'.1.cls]) hw4 (fun w hw => by
    simp only [List.mem_cons, List.not_mem_nil, or_false] at hw
    rcases hw with rfl | rfl | rfl | rfl
    · exact hw1
    · exact hw2
    · exact hw5
    · exact hw3)) rfl rfl rfl ⟨rfl, hy⟩ ⟨by show d' + 1 ≤ R.frames; omega, by show 8 + (k'.2.2.1 + 11) + 64 * d' ≤ R.locals; omega⟩
  have ha0 : (x_w cA ad μ)[c0]? = some (ad c0, .inr (ci, x_fs ad (μ.2.1 c0) ci rf)) := x_w_at (c := (ci + 4, n, rf)) hc
  have hrec := va_recv hK hP hq ha0
  rw [hcq] at hrec
  refine x_call (va_runV (As := as.map (x_v ad)) (rest := st.map (x_v ad)) (b := ad c0) ⟨hx, hb, hm, hown, hts⟩ (hM l hsl0.2.1 D cA ad H.size) hcw ⟨x_blind, hrec, x_pre hR⟩ rfl (by simp) hl.1 (by simp [x_v]) (lv_room (by rw [x_catsum]; exact hs8)) hd ⟨by omega, by omega⟩) hS (x_A_in hD hS hA) fun ad' t H1 locs1 ht hvm q1 q2 hP1 hK1 hD1 hS1 => ?_
  have had : ad' = ad := funext fun j => q2 j (by omega)
  subst had
  rw [show (r.map (x_v ad')).toList ++ st.map (x_v ad') = (r.toList ++ st).map (x_v ad') by cases r <;> simp]
  exact h p l e R s m args below meth c X D cA n0 ad0 ad' A H1 locs1 ls (by rw [hΛ]; exact hn) (by rw [hΛ]; exact ha) ⟨hK, hP1, hD1.weaken (fun _ q _ hq => x_A_in hD hS hA _ hq), hS1, hA, hF⟩ hl
end XD
