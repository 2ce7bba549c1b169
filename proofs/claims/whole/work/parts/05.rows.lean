/-! CONTRACTS AND ROWS over the plain memory -/
def xW : List Cond := lw_tbl.filter goodWord
theorem x_good : ∀ w ∈ xW, (w.onTables && w.keeps) = true ∨ ∃ ty, w = .arrayClass ty := fun _ hw => good_of_word (List.mem_filter.mp hw).2
theorem x_mem (i : Nat) {w : Cond} (h : tables_1[i]? = some w) (g : goodWord w = true) : w ∈ xW := List.mem_filter.mpr ⟨List.mem_append_right _ (List.mem_of_getElem? h), g⟩
theorem x_memS (i : Nat) {w : Cond} (h : (k2_sels lw_privs)[i]? = some w) (g : goodWord w = true) : w ∈ xW := List.mem_filter.mpr ⟨List.mem_append_left _ (List.mem_of_getElem? h), g⟩
def xWt (j : Nat) : Int32 := ([78125, 15625, 3125, 625, 125, 25, 5, 1] : List Int32).getD j 0
def xSt : List (Nat × String) := [(270, "ldkoqrgbswvnmpze"), (280, "0123456789"), (289, "!-"), (300, "*/%"), (305, "+-"), (310, "<>=")]
def xByt : List (List Int32) := xSt.map fun q => q.2.toList.map fun c => Int32.ofNat c.toNat
def xLen : List Nat := xByt.map List.length
/-- the words that no filter keeps: calls over the nest -/
def xNest : List Cond := tables_1.filter fun w => match w with
  | .methodLinkNest .. => true
  | .declares .. => true
  | .castable .. => true
  | _ => false
/-- what lies ahead of the run: the script, a static array, a static int, the texts -/
def xFor (sc : Nat × (Nat → Int32)) (s : State) (A : Nat → Prop) (ad : Nat → Nat) : Prop :=
  (∃ cell : Cell, s.heap[ad 1000]? = some cell ∧ s.isArrayOf cell .int ∧ cell.vm ≠ .unknown ∧ cell.slots.size = sc.1 ∧ (∀ j : Nat, j < sc.1 → cell.slots[j]? = some (.int (sc.2 j))) ∧ ¬ A (ad 1000)) ∧
  va_Z "RagTown$LandBook" "WEIGHT" "[I" (.ref (ad 1001)) A s s.heap ∧ va_T .int (ad 1001) 8 (fun j => .int (xWt j)) A s s.heap ∧
  va_Z "java/lang/String" "COMPACT_STRINGS" "Z" (.int 1) A s s.heap ∧
  vk_S 6 xLen xByt (fun i => ad (1010 + i)) (fun i => ad (1020 + i)) A s s.heap ∧
  (∀ i q, xSt[i]? = some q → vk_R "RagTownModel" q.1 q.2 (ad (1010 + i)) s) ∧
  (∀ w ∈ xNest, va_Nw w s) ∧ va_AOA .int s ∧ vx_Zq Bundle.tN "UNASSIGNED_STACK" Bundle.steD A s s.heap ∧ vx_Zq Bundle.tN "SUPPRESSED_SENTINEL" Bundle.listD A s s.heap
def xRel (sc : Nat × (Nat → Int32)) (D : va_G) (cA : Nat → ClassId) (ad : Nat → Nat) (A : Nat → Prop) (μ : xM) (s : State) (H : Heap) (locs : List Loc) : Prop :=
  va_K D vwCl (x_tys cA) s ∧ va_P D vwCl (x_w cA ad μ) H ∧ va_D A (x_w cA ad μ) ∧ va_S A s.heap H locs ∧ (∀ q, s.heap.size ≤ q → A q) ∧ xFor sc s A ad
/-- the exception tables -/
def xTb (k : xm) : List (Nat × Nat × Nat × Nat) := if k.1.name = "split" then [(0, 10, 13, 13)] else if k.1.name = "wish" then [(0, 12, 15, 13)] else [(0, 9, 12, 13)]
def xTab (k : xm) (c : Code) : Prop := (k.1.cls ≠ "RagTownLaw" ∧ c.exceptionTable.toList = []) ∨ (k.1.cls = "RagTownLaw" ∧ (k.1.name = "law" ∨ c.exceptionTable.toList = tableOf (xTb k)))
def xCx (k : xm) (d mc ms : Nat) (p : Program) (l : Launch) (R : Room) (s : State) (m : MethodId) (args : Array Value) (meth : Method) (c : Code) : Prop :=
  p.tables.exec = Jvm.exec ∧ c.code = k.2.1 ∧ meth.sig.returnType = k.2.2.2 ∧ c.maxLocals = k.2.2.1 ∧ s.vm.findClass k.1.cls = some m.cls ∧ (∀ w ∈ xW, w.before args s = true) ∧ meth.locks = false ∧ meth.name = k.1.name ∧ d ≤ R.frames ∧ 64 * d ≤ R.locals ∧ mc ≤ R.cells ∧ ms ≤ R.slots ∧ l.stackTraces = false ∧ xTab k c
/-- how a walk ends -/
abbrev xE : Type := List Frame → Array Value → State → va_G → (Nat → ClassId) → Nat → (Nat → Nat) → (Nat → Prop) → State → Prop
/-- THE JUDGEMENT: from this place with these locals, stack, memory, the method comes to its end Q -/
def xG (sc : Nat × (Nat → Int32)) (k : xm) (d mc ms : Nat) (Q : xE) (cl sl pc : Nat) (L : xL) (st : List Value) (μ : xM) : Prop :=
  ∀ (p : Program) (l : Launch) (e : Env) (R : Room) (s : State) (m : MethodId) (args : Array Value) (below : List Frame) (meth : Method) (c : Code), xCx k d mc ms p l R s m args meth c →
    ∀ (D : va_G) (cA : Nat → ClassId) (n0 : Nat) (ad0 ad : Nat → Nat) (A : Nat → Prop) (H : Heap) (locs : List Loc) (ls : Array Slot), n0 ≤ μ.1.length → (∀ j, ¬ (n0 ≤ j ∧ j < μ.1.length) → ad j = ad0 j) →
      xRel sc D cA ad A μ s H locs → lv_has ls k.2.2.1 (x_ls ad 0 L) → W p l e R s m args below meth c H locs cl sl (Q below args s D cA n0 ad0 A) (F0 m pc ls (st.map (x_v ad)))
def xQ (D : va_G) (cA : Nat → ClassId) (n0 : Nat) (ad0 : Nat → Nat) (A : Nat → Prop) (r : Option Value) (μ' : xM) : Array Value → State → Outcome → State → Prop := fun _ st o t =>
  (∃ ad' : Nat → Nat, n0 ≤ μ'.1.length ∧ (∀ j, ¬ (n0 ≤ j ∧ j < μ'.1.length) → ad' j = ad0 j) ∧ o = .returned (r.map (x_v ad')) ∧ va_P D vwCl (x_w cA ad' μ') t.heap ∧ va_K D vwCl (x_tys cA) t ∧ va_D A (x_w cA ad' μ')) ∧ va_F A st t
/-- a method's end: it returns r with the memory μ' -/
def xR (r : Option Value) (μ' : xM) (mc ms : Nat) : xE := fun below args s D cA n0 ad0 A => MQ below (xQ D cA n0 ad0 A r μ') args s mc ms A
def xMt (sc : Nat × (Nat → Int32)) (k : xm) (d mc ms : Nat) (as : List Value) (μ : xM) (r : Option Value) (μ' : xM) : Prop :=
  ∀ (l : Launch), l.stackTraces = false → ∀ (D : va_G) (cA : Nat → ClassId) (ad : Nat → Nat) (sz : Nat), Met l k.1 (Cond.code k.1 k.2.1 k.2.2.1 k.2.2.2 :: xW) { frames := d, cells := mc, slots := ms, locals := 64 * d }
    (va_Pc (as.map (x_v ad)) (fun U => U.heap.size = sz ∧ va_P D vwCl (x_w cA ad μ) U.heap ∧ va_K D vwCl (x_tys cA) U ∧ va_D (fun _ => True) (x_w cA ad μ) ∧ xFor sc U (va_A (x_w cA ad μ) sz) ad))
    (xQ D cA μ.1.length ad (va_A (x_w cA ad μ) sz) r μ') mc ms (va_A (x_w cA ad μ) sz)
theorem lg_sl_len (as : List Value) : ∀ ad : Nat → Nat, (lg_sl (as.map (x_v ad))).length = (x_en as).length := by
  intro ad
  induction as with
  | nil => rfl
  | cons v t ih =>
    rw [List.map_cons]
    by_cases hc : v.category = 2
    · simp only [lg_sl, List.flatMap_cons, x_v_cat, hc, if_true, x_en, List.length_append, List.length_cons, List.length_nil]
      have : (List.flatMap (fun v => if v.category = 2 then [Slot.val v, Slot.second] else [Slot.val v]) (List.map (x_v ad) t)).length = (x_en t).length := ih
      omega
    · simp only [lg_sl, List.flatMap_cons, x_v_cat, hc, if_false, x_en, List.length_append, List.length_cons, List.length_nil]
      have : (List.flatMap (fun v => if v.category = 2 then [Slot.val v, Slot.second] else [Slot.val v]) (List.map (x_v ad) t)).length = (x_en t).length := ih
      omega
/-- from a walk from the entry to the contract -/
theorem xMt.of {sc : Nat × (Nat → Int32)} {k : xm} {d mc ms : Nat} {as : List Value} {μ μ' : xM} {r : Option Value} (hp : plainName k.1.cls = true) (hk : k.1.cls ≠ "RagTownLaw") (hn : (x_en as).length ≤ k.2.2.1) {L : xL} (hL : x_en as ++ List.replicate (k.2.2.1 - (x_en as).length) none = L) (h : xG sc k d mc ms (xR r μ' mc ms) 0 0 0 L [] μ) : xMt sc k d mc ms as μ r μ' := by
  intro l hl0 D cA ad sz
  refine Met.ofW (cc := k.2.1) (maxL := k.2.2.1) (ret := k.2.2.2) hp rfl ?_
  intro p e s m args below meth c s₁ B hml hv
  obtain ⟨rfl, hsz, hP, hK, hD0, hF⟩ := hv
  have hts := atoms_spec (ws := Cond.code k.1 k.2.1 k.2.2.1 k.2.2.2 :: xW) B.pre
  have htb : c.exceptionTable.toList = [] := by
    obtain ⟨meth9, c9, h1, h2, -, -, -, -, h7, -⟩ := Cond.code_spec B.named (hts _ List.mem_cons_self)
    cases Option.some.inj (h1.symm.trans B.method)
    cases Option.some.inj (h2.symm.trans (Stand.of_body B).code)
    rw [Array.isEmpty_iff.mp h7]
  subst hsz
  have hD := hD0.self (sz := s.heap.size)
  have hl := lv_entry (as.map (x_v ad)) (n := k.2.2.1) (by rw [lg_sl_len]; exact hn)
  rw [lg_entry_eq]
  have hl2 : lv_has (lg_sl (as.map (x_v ad)) ++ List.replicate (k.2.2.1 - (lg_sl (as.map (x_v ad))).length) Slot.unset).toArray k.2.2.1 (x_ls ad 0 L) := by
    refine ⟨hl.1, hl.2.1, fun q hq => hl.2.2 q ?_⟩
    rw [← hL] at hq
    exact x_en_mem as _ 0 hq
  exact h p l e _ s m _ below meth c ⟨B.exec, B.bytes, B.returns, hml, findClass_of_methodNamed B.named, fun w hw => hts w (List.mem_cons_of_mem _ hw), B.notSynchronized, (name_of_methodNamed B.named B.method).1, Nat.le_refl _, Nat.le_refl _, Nat.le_refl _, Nat.le_refl _, hl0, Or.inl ⟨hk, htb⟩⟩
    D cA μ.1.length ad ad _ s.heap [] _ (Nat.le_refl _) (fun _ _ => rfl) ⟨hK, hP, hD, va_S.rf, fun q hq => Or.inr hq, hF⟩ hl2
section XR
variable {sc : Nat × (Nat → Int32)} {k : xm} {d mc ms : Nat} {Q : xE} {cl sl pc : Nat} {L L' : xL} {st : List Value} {μ : xM}
theorem g_w {cl' sl' : Nat} (h1 : cl ≤ cl') (h2 : sl ≤ sl') (h : xG sc k d mc ms Q cl' sl' pc L st μ) : xG sc k d mc ms Q cl sl pc L st μ :=
  fun p l e R s m args below meth c X D cA n0 ad0 ad A H locs ls hn ha hR hl => W.widen h1 h2 (h p l e R s m args below meth c X D cA n0 ad0 ad A H locs ls hn ha hR hl)
theorem g_iconst {n : Int} {v : Int32} (hd : decode k.2.1 pc = .ok (.iconst n, 1)) (hv : Int32.ofInt n = v) (h : xG sc k d mc ms Q cl sl (pc + 1) L (.int v :: st) μ) : xG sc k d mc ms Q cl sl pc L st μ :=
  fun p l e R s m args below meth c X D cA n0 ad0 ad A H locs ls hn ha hR hl => lv_iconst X.1 X.2.1 hd hv (h p l e R s m args below meth c X D cA n0 ad0 ad A H locs ls hn ha hR hl)
theorem g_bipush {n : Int} {v : Int32} (hd : decode k.2.1 pc = .ok (.bipush n, 2)) (hv : (Int8.ofInt n).toInt32 = v) (h : xG sc k d mc ms Q cl sl (pc + 2) L (.int v :: st) μ) : xG sc k d mc ms Q cl sl pc L st μ :=
  fun p l e R s m args below meth c X D cA n0 ad0 ad A H locs ls hn ha hR hl => lv_bipush X.1 X.2.1 hd hv (h p l e R s m args below meth c X D cA n0 ad0 ad A H locs ls hn ha hR hl)
theorem g_sipush {n : Int} {v : Int32} (hd : decode k.2.1 pc = .ok (.sipush n, 3)) (hv : (Int16.ofInt n).toInt32 = v) (h : xG sc k d mc ms Q cl sl (pc + 3) L (.int v :: st) μ) : xG sc k d mc ms Q cl sl pc L st μ :=
  fun p l e R s m args below meth c X D cA n0 ad0 ad A H locs ls hn ha hR hl => lv_sipush X.1 X.2.1 hd hv (h p l e R s m args below meth c X D cA n0 ad0 ad A H locs ls hn ha hR hl)
theorem g_lconst {n : Fin 2} {v : Int64} (hd : decode k.2.1 pc = .ok (.lconst n, 1)) (hv : Int64.ofNat (n : Nat) = v) (h : xG sc k d mc ms Q cl sl (pc + 1) L (.long v :: st) μ) : xG sc k d mc ms Q cl sl pc L st μ :=
  fun p l e R s m args below meth c X D cA n0 ad0 ad A H locs ls hn ha hR hl => lv_lconst X.1 X.2.1 hd hv (h p l e R s m args below meth c X D cA n0 ad0 ad A H locs ls hn ha hR hl)
theorem g_ldc {i : Nat} {v : Int32} (hd : decode k.2.1 pc = .ok (.ldc i, 2)) (hw : Cond.constant k.1.cls i v ∈ xW) (h : xG sc k d mc ms Q cl sl (pc + 2) L (.int v :: st) μ) : xG sc k d mc ms Q cl sl pc L st μ :=
  fun p l e R s m args below meth c X D cA n0 ad0 ad A H locs ls hn ha hR hl => lv_ldc X.1 X.2.1 X.2.2.2.2.1 (X.2.2.2.2.2.1 _ hw) hd (h p l e R s m args below meth c X D cA n0 ad0 ad A H locs ls hn ha hR hl)
theorem g_ldcw {i : Nat} {v : Int32} (hd : decode k.2.1 pc = .ok (.ldc_w i, 3)) (hw : Cond.constant k.1.cls i v ∈ xW) (h : xG sc k d mc ms Q cl sl (pc + 3) L (.int v :: st) μ) : xG sc k d mc ms Q cl sl pc L st μ :=
  fun p l e R s m args below meth c X D cA n0 ad0 ad A H locs ls hn ha hR hl => lv_ldcw X.1 X.2.1 X.2.2.2.2.1 (X.2.2.2.2.2.1 _ hw) hd (h p l e R s m args below meth c X D cA n0 ad0 ad A H locs ls hn ha hR hl)
theorem g_ldc2 {i : Nat} {v : Int64} (hd : decode k.2.1 pc = .ok (.ldc2_w i, 3)) (hw : Cond.constantLong k.1.cls i v ∈ xW) (h : xG sc k d mc ms Q cl sl (pc + 3) L (.long v :: st) μ) : xG sc k d mc ms Q cl sl pc L st μ :=
  fun p l e R s m args below meth c X D cA n0 ad0 ad A H locs ls hn ha hR hl => lv_ldc2 X.1 X.2.1 X.2.2.2.2.1 (X.2.2.2.2.2.1 _ hw) hd (h p l e R s m args below meth c X D cA n0 ad0 ad A H locs ls hn ha hR hl)
theorem g_iload {i : Nat} {v : Int32} (hd : decode k.2.1 pc = .ok (.iload i, 2)) (hi : L[i]? = some (some (.int v))) (h : xG sc k d mc ms Q cl sl (pc + 2) L (.int v :: st) μ) : xG sc k d mc ms Q cl sl pc L st μ :=
  fun p l e R s m args below meth c X D cA n0 ad0 ad A H locs ls hn ha hR hl => lv_iload X.1 X.2.1 hd (x_ls_at hl hi) (h p l e R s m args below meth c X D cA n0 ad0 ad A H locs ls hn ha hR hl)
theorem g_iload_n {i : Fin 4} {v : Int32} (hd : decode k.2.1 pc = .ok (.iload_n i, 1)) (hi : L[(i : Nat)]? = some (some (.int v))) (h : xG sc k d mc ms Q cl sl (pc + 1) L (.int v :: st) μ) : xG sc k d mc ms Q cl sl pc L st μ :=
  fun p l e R s m args below meth c X D cA n0 ad0 ad A H locs ls hn ha hR hl => lv_iload_n X.1 X.2.1 hd rfl (x_ls_at hl hi) (h p l e R s m args below meth c X D cA n0 ad0 ad A H locs ls hn ha hR hl)
theorem g_lload {i : Nat} {v : Int64} (hd : decode k.2.1 pc = .ok (.lload i, 2)) (hi : L[i]? = some (some (.long v))) (h : xG sc k d mc ms Q cl sl (pc + 2) L (.long v :: st) μ) : xG sc k d mc ms Q cl sl pc L st μ :=
  fun p l e R s m args below meth c X D cA n0 ad0 ad A H locs ls hn ha hR hl => lv_lload X.1 X.2.1 hd (x_ls_at hl hi) (h p l e R s m args below meth c X D cA n0 ad0 ad A H locs ls hn ha hR hl)
theorem g_lload_n {i : Fin 4} {v : Int64} (hd : decode k.2.1 pc = .ok (.lload_n i, 1)) (hi : L[(i : Nat)]? = some (some (.long v))) (h : xG sc k d mc ms Q cl sl (pc + 1) L (.long v :: st) μ) : xG sc k d mc ms Q cl sl pc L st μ :=
  fun p l e R s m args below meth c X D cA n0 ad0 ad A H locs ls hn ha hR hl => lv_lload_n X.1 X.2.1 hd rfl (x_ls_at hl hi) (h p l e R s m args below meth c X D cA n0 ad0 ad A H locs ls hn ha hR hl)
theorem g_aload {i : Nat} {v : Nat} (hd : decode k.2.1 pc = .ok (.aload i, 2)) (hi : L[i]? = some (some (.ref v))) (h : xG sc k d mc ms Q cl sl (pc + 2) L (.ref v :: st) μ) : xG sc k d mc ms Q cl sl pc L st μ :=
  fun p l e R s m args below meth c X D cA n0 ad0 ad A H locs ls hn ha hR hl => lv_aload X.1 X.2.1 hd (x_ls_at hl hi) (h p l e R s m args below meth c X D cA n0 ad0 ad A H locs ls hn ha hR hl)
theorem g_aload_n {i : Fin 4} {v : Nat} (hd : decode k.2.1 pc = .ok (.aload_n i, 1)) (hi : L[(i : Nat)]? = some (some (.ref v))) (h : xG sc k d mc ms Q cl sl (pc + 1) L (.ref v :: st) μ) : xG sc k d mc ms Q cl sl pc L st μ :=
  fun p l e R s m args below meth c X D cA n0 ad0 ad A H locs ls hn ha hR hl => lv_aload_n X.1 X.2.1 hd rfl (x_ls_at hl hi) (h p l e R s m args below meth c X D cA n0 ad0 ad A H locs ls hn ha hR hl)
theorem g_istore {i : Nat} {v : Int32} (hd : decode k.2.1 pc = .ok (.istore i, 2)) (hi : i < k.2.2.1) (hL : x_st1 L i (.int v) = L') (h : xG sc k d mc ms Q cl sl (pc + 2) L' st μ) : xG sc k d mc ms Q cl sl pc L (.int v :: st) μ := by
  intro p l e R s m args below meth c X D cA n0 ad0 ad A H locs ls hn ha hR hl
  subst hL
  exact lv_istore X.1 X.2.1 hd hl hi rfl fun ls' hl' => h p l e R s m args below meth c X D cA n0 ad0 ad A H locs ls' hn ha hR (x_keep1 (v := .int v) hl')
theorem g_istore_n {i : Fin 4} {v : Int32} (hd : decode k.2.1 pc = .ok (.istore_n i, 1)) (hi : (i : Nat) < k.2.2.1) (hL : x_st1 L i (.int v) = L') (h : xG sc k d mc ms Q cl sl (pc + 1) L' st μ) : xG sc k d mc ms Q cl sl pc L (.int v :: st) μ := by
  intro p l e R s m args below meth c X D cA n0 ad0 ad A H locs ls hn ha hR hl
  subst hL
  exact lv_istore_n X.1 X.2.1 hd rfl hl hi rfl fun ls' hl' => h p l e R s m args below meth c X D cA n0 ad0 ad A H locs ls' hn ha hR (x_keep1 (v := .int v) hl')
theorem g_astore {i : Nat} {v : Nat} (hd : decode k.2.1 pc = .ok (.astore i, 2)) (hi : i < k.2.2.1) (hL : x_st1 L i (.ref v) = L') (h : xG sc k d mc ms Q cl sl (pc + 2) L' st μ) : xG sc k d mc ms Q cl sl pc L (.ref v :: st) μ := by
  intro p l e R s m args below meth c X D cA n0 ad0 ad A H locs ls hn ha hR hl
  subst hL
  exact lv_astore X.1 X.2.1 hd hl hi rfl fun ls' hl' => h p l e R s m args below meth c X D cA n0 ad0 ad A H locs ls' hn ha hR (x_keep1 (v := .ref v) hl')
theorem g_astore_n {i : Fin 4} {v : Nat} (hd : decode k.2.1 pc = .ok (.astore_n i, 1)) (hi : (i : Nat) < k.2.2.1) (hL : x_st1 L i (.ref v) = L') (h : xG sc k d mc ms Q cl sl (pc + 1) L' st μ) : xG sc k d mc ms Q cl sl pc L (.ref v :: st) μ := by
  intro p l e R s m args below meth c X D cA n0 ad0 ad A H locs ls hn ha hR hl
  subst hL
  exact lv_astore_n X.1 X.2.1 hd rfl hl hi rfl fun ls' hl' => h p l e R s m args below meth c X D cA n0 ad0 ad A H locs ls' hn ha hR (x_keep1 (v := .ref v) hl')
theorem g_lstore {i : Nat} {v : Int64} (hd : decode k.2.1 pc = .ok (.lstore i, 2)) (hi : i + 1 < k.2.2.1) (hi2 : i + 1 < L.length) (hL : x_st2 L i (.long v) = L') (h : xG sc k d mc ms Q cl sl (pc + 2) L' st μ) : xG sc k d mc ms Q cl sl pc L (.long v :: st) μ := by
  intro p l e R s m args below meth c X D cA n0 ad0 ad A H locs ls hn ha hR hl
  subst hL
  exact lv_lstore X.1 X.2.1 hd hl hi rfl fun ls' hl' => h p l e R s m args below meth c X D cA n0 ad0 ad A H locs ls' hn ha hR (x_keep2 (v := .long v) hi2 hl')
theorem g_lstore_n {i : Fin 4} {v : Int64} (hd : decode k.2.1 pc = .ok (.lstore_n i, 1)) (hi : (i : Nat) + 1 < k.2.2.1) (hi2 : (i : Nat) + 1 < L.length) (hL : x_st2 L i (.long v) = L') (h : xG sc k d mc ms Q cl sl (pc + 1) L' st μ) : xG sc k d mc ms Q cl sl pc L (.long v :: st) μ := by
  intro p l e R s m args below meth c X D cA n0 ad0 ad A H locs ls hn ha hR hl
  subst hL
  exact lv_lstore_n X.1 X.2.1 hd rfl hl hi rfl fun ls' hl' => h p l e R s m args below meth c X D cA n0 ad0 ad A H locs ls' hn ha hR (x_keep2 (v := .long v) hi2 hl')
theorem g_iinc {i : Nat} {n : Int} {x v : Int32} (hd : decode k.2.1 pc = .ok (.iinc i n, 3)) (hi : i < k.2.2.1) (hx : L[i]? = some (some (.int x))) (hv : x + Int32.ofInt n = v) (hL : x_st1 L i (.int v) = L') (h : xG sc k d mc ms Q cl sl (pc + 3) L' st μ) : xG sc k d mc ms Q cl sl pc L st μ := by
  intro p l e R s m args below meth c X D cA n0 ad0 ad A H locs ls hn ha hR hl
  subst hL
  obtain ⟨q, hq⟩ := List.getElem?_of_mem ((x_ls_mem (ad := ad) (q := (i, .int x)) L 0).mpr ⟨i, .int x, hx, by simp [x_v]⟩)
  exact lv_iinc X.1 X.2.1 hd hl hq hv hi rfl fun ls' hl' => h p l e R s m args below meth c X D cA n0 ad0 ad A H locs ls' hn ha hR (x_keep1 (v := .int v) hl')
theorem g_goto {off : Int} {tgt : Nat} (hd : decode k.2.1 pc = .ok (.goto off, 3)) (ht : (pc : Int) + off = (tgt : Int)) (h : xG sc k d mc ms Q cl sl tgt L st μ) : xG sc k d mc ms Q cl sl pc L st μ :=
  fun p l e R s m args below meth c X D cA n0 ad0 ad A H locs ls hn ha hR hl => lv_goto X.1 X.2.1 hd ht (h p l e R s m args below meth c X D cA n0 ad0 ad A H locs ls hn ha hR hl)
theorem g_dup {v : Value} (hd : decode k.2.1 pc = .ok (.dup, 1)) (hc : v.category = 1) (h : xG sc k d mc ms Q cl sl (pc + 1) L (v :: v :: st) μ) : xG sc k d mc ms Q cl sl pc L (v :: st) μ :=
  fun p l e R s m args below meth c X D cA n0 ad0 ad A H locs ls hn ha hR hl => lv_dup X.1 X.2.1 hd (by rw [x_v_cat]; exact hc) (h p l e R s m args below meth c X D cA n0 ad0 ad A H locs ls hn ha hR hl)
theorem g_pop {v : Value} (hd : decode k.2.1 pc = .ok (.pop, 1)) (hc : v.category = 1) (h : xG sc k d mc ms Q cl sl (pc + 1) L st μ) : xG sc k d mc ms Q cl sl pc L (v :: st) μ :=
  fun p l e R s m args below meth c X D cA n0 ad0 ad A H locs ls hn ha hR hl => lv_pop X.1 X.2.1 hd (by rw [x_v_cat]; exact hc) (h p l e R s m args below meth c X D cA n0 ad0 ad A H locs ls hn ha hR hl)
theorem g_dup2 {v w : Value} (hd : decode k.2.1 pc = .ok (.dup2, 1)) (hc : v.category = 1) (hc2 : w.category = 1) (h : xG sc k d mc ms Q cl sl (pc + 1) L (v :: w :: v :: w :: st) μ) : xG sc k d mc ms Q cl sl pc L (v :: w :: st) μ :=
  fun p l e R s m args below meth c X D cA n0 ad0 ad A H locs ls hn ha hR hl => lv_dup2_11 X.1 X.2.1 hd (by rw [x_v_cat]; exact hc) (by rw [x_v_cat]; exact hc2) (h p l e R s m args below meth c X D cA n0 ad0 ad A H locs ls hn ha hR hl)
theorem g_dup_x1 {v w : Value} (hd : decode k.2.1 pc = .ok (.dup_x1, 1)) (hc : v.category = 1) (hc2 : w.category = 1) (h : xG sc k d mc ms Q cl sl (pc + 1) L (v :: w :: v :: st) μ) : xG sc k d mc ms Q cl sl pc L (v :: w :: st) μ :=
  fun p l e R s m args below meth c X D cA n0 ad0 ad A H locs ls hn ha hR hl => lv_dup_x1 X.1 X.2.1 hd (by rw [x_v_cat]; exact hc) (by rw [x_v_cat]; exact hc2) (h p l e R s m args below meth c X D cA n0 ad0 ad A H locs ls hn ha hR hl)
def irem (x y : Int32) : Int32 := x - x / y * y
def lrem (x y : Int64) : Int64 := x - x / y * y
theorem g_iadd {x y v : Int32} (hd : decode k.2.1 pc = .ok (.iadd, 1)) (hv : x + y = v) (h : xG sc k d mc ms Q cl sl (pc + 1) L (.int v :: st) μ) : xG sc k d mc ms Q cl sl pc L (.int y :: .int x :: st) μ := by
  subst hv
  exact fun p l e R s m args below meth c X D cA n0 ad0 ad A H locs ls hn ha hR hl => lv_iadd X.1 X.2.1 hd (h p l e R s m args below meth c X D cA n0 ad0 ad A H locs ls hn ha hR hl)
theorem g_isub {x y v : Int32} (hd : decode k.2.1 pc = .ok (.isub, 1)) (hv : x - y = v) (h : xG sc k d mc ms Q cl sl (pc + 1) L (.int v :: st) μ) : xG sc k d mc ms Q cl sl pc L (.int y :: .int x :: st) μ := by
  subst hv
  exact fun p l e R s m args below meth c X D cA n0 ad0 ad A H locs ls hn ha hR hl => lv_isub X.1 X.2.1 hd (h p l e R s m args below meth c X D cA n0 ad0 ad A H locs ls hn ha hR hl)
theorem g_imul {x y v : Int32} (hd : decode k.2.1 pc = .ok (.imul, 1)) (hv : x * y = v) (h : xG sc k d mc ms Q cl sl (pc + 1) L (.int v :: st) μ) : xG sc k d mc ms Q cl sl pc L (.int y :: .int x :: st) μ := by
  subst hv
  exact fun p l e R s m args below meth c X D cA n0 ad0 ad A H locs ls hn ha hR hl => lv_imul X.1 X.2.1 hd (h p l e R s m args below meth c X D cA n0 ad0 ad A H locs ls hn ha hR hl)
theorem g_iand {x y v : Int32} (hd : decode k.2.1 pc = .ok (.iand, 1)) (hv : x &&& y = v) (h : xG sc k d mc ms Q cl sl (pc + 1) L (.int v :: st) μ) : xG sc k d mc ms Q cl sl pc L (.int y :: .int x :: st) μ := by
  subst hv
  exact fun p l e R s m args below meth c X D cA n0 ad0 ad A H locs ls hn ha hR hl => lv_iand X.1 X.2.1 hd (h p l e R s m args below meth c X D cA n0 ad0 ad A H locs ls hn ha hR hl)
theorem g_ior {x y v : Int32} (hd : decode k.2.1 pc = .ok (.ior, 1)) (hv : x ||| y = v) (h : xG sc k d mc ms Q cl sl (pc + 1) L (.int v :: st) μ) : xG sc k d mc ms Q cl sl pc L (.int y :: .int x :: st) μ := by
  subst hv
  exact fun p l e R s m args below meth c X D cA n0 ad0 ad A H locs ls hn ha hR hl => lv_ior X.1 X.2.1 hd (h p l e R s m args below meth c X D cA n0 ad0 ad A H locs ls hn ha hR hl)
theorem g_ixor {x y v : Int32} (hd : decode k.2.1 pc = .ok (.ixor, 1)) (hv : x ^^^ y = v) (h : xG sc k d mc ms Q cl sl (pc + 1) L (.int v :: st) μ) : xG sc k d mc ms Q cl sl pc L (.int y :: .int x :: st) μ := by
  subst hv
  exact fun p l e R s m args below meth c X D cA n0 ad0 ad A H locs ls hn ha hR hl => lv_ixor X.1 X.2.1 hd (h p l e R s m args below meth c X D cA n0 ad0 ad A H locs ls hn ha hR hl)
theorem g_ishl {x y v : Int32} (hd : decode k.2.1 pc = .ok (.ishl, 1)) (hv : x <<< (y &&& 31) = v) (h : xG sc k d mc ms Q cl sl (pc + 1) L (.int v :: st) μ) : xG sc k d mc ms Q cl sl pc L (.int y :: .int x :: st) μ := by
  subst hv
  exact fun p l e R s m args below meth c X D cA n0 ad0 ad A H locs ls hn ha hR hl => lv_ishl X.1 X.2.1 hd (h p l e R s m args below meth c X D cA n0 ad0 ad A H locs ls hn ha hR hl)
theorem g_ishr {x y v : Int32} (hd : decode k.2.1 pc = .ok (.ishr, 1)) (hv : x >>> (y &&& 31) = v) (h : xG sc k d mc ms Q cl sl (pc + 1) L (.int v :: st) μ) : xG sc k d mc ms Q cl sl pc L (.int y :: .int x :: st) μ := by
  subst hv
  exact fun p l e R s m args below meth c X D cA n0 ad0 ad A H locs ls hn ha hR hl => lv_ishr X.1 X.2.1 hd (h p l e R s m args below meth c X D cA n0 ad0 ad A H locs ls hn ha hR hl)
theorem g_idiv {x y v : Int32} (hd : decode k.2.1 pc = .ok (.idiv, 1)) (hne : ¬ y = 0) (hv : x / y = v) (h : xG sc k d mc ms Q cl sl (pc + 1) L (.int v :: st) μ) : xG sc k d mc ms Q cl sl pc L (.int y :: .int x :: st) μ := by
  subst hv
  exact fun p l e R s m args below meth c X D cA n0 ad0 ad A H locs ls hn ha hR hl => lv_idiv X.1 X.2.1 hd hne (h p l e R s m args below meth c X D cA n0 ad0 ad A H locs ls hn ha hR hl)
theorem g_irem {x y v : Int32} (hd : decode k.2.1 pc = .ok (.irem, 1)) (hne : ¬ y = 0) (hv : irem x y = v) (h : xG sc k d mc ms Q cl sl (pc + 1) L (.int v :: st) μ) : xG sc k d mc ms Q cl sl pc L (.int y :: .int x :: st) μ := by
  subst hv
  exact fun p l e R s m args below meth c X D cA n0 ad0 ad A H locs ls hn ha hR hl => lv_irem X.1 X.2.1 hd hne (h p l e R s m args below meth c X D cA n0 ad0 ad A H locs ls hn ha hR hl)
theorem g_ladd {x y v : Int64} (hd : decode k.2.1 pc = .ok (.ladd, 1)) (hv : x + y = v) (h : xG sc k d mc ms Q cl sl (pc + 1) L (.long v :: st) μ) : xG sc k d mc ms Q cl sl pc L (.long y :: .long x :: st) μ := by
  subst hv
  exact fun p l e R s m args below meth c X D cA n0 ad0 ad A H locs ls hn ha hR hl => lv_ladd X.1 X.2.1 hd (h p l e R s m args below meth c X D cA n0 ad0 ad A H locs ls hn ha hR hl)
theorem g_lsub {x y v : Int64} (hd : decode k.2.1 pc = .ok (.lsub, 1)) (hv : x - y = v) (h : xG sc k d mc ms Q cl sl (pc + 1) L (.long v :: st) μ) : xG sc k d mc ms Q cl sl pc L (.long y :: .long x :: st) μ := by
  subst hv
  exact fun p l e R s m args below meth c X D cA n0 ad0 ad A H locs ls hn ha hR hl => lv_lsub X.1 X.2.1 hd (h p l e R s m args below meth c X D cA n0 ad0 ad A H locs ls hn ha hR hl)
theorem g_lmul {x y v : Int64} (hd : decode k.2.1 pc = .ok (.lmul, 1)) (hv : x * y = v) (h : xG sc k d mc ms Q cl sl (pc + 1) L (.long v :: st) μ) : xG sc k d mc ms Q cl sl pc L (.long y :: .long x :: st) μ := by
  subst hv
  exact fun p l e R s m args below meth c X D cA n0 ad0 ad A H locs ls hn ha hR hl => lv_lmul X.1 X.2.1 hd (h p l e R s m args below meth c X D cA n0 ad0 ad A H locs ls hn ha hR hl)
theorem g_ldiv {x y v : Int64} (hd : decode k.2.1 pc = .ok (.ldiv, 1)) (hne : ¬ y = 0) (hv : x / y = v) (h : xG sc k d mc ms Q cl sl (pc + 1) L (.long v :: st) μ) : xG sc k d mc ms Q cl sl pc L (.long y :: .long x :: st) μ := by
  subst hv
  exact fun p l e R s m args below meth c X D cA n0 ad0 ad A H locs ls hn ha hR hl => lv_ldiv X.1 X.2.1 hd hne (h p l e R s m args below meth c X D cA n0 ad0 ad A H locs ls hn ha hR hl)
theorem g_lrem {x y v : Int64} (hd : decode k.2.1 pc = .ok (.lrem, 1)) (hne : ¬ y = 0) (hv : lrem x y = v) (h : xG sc k d mc ms Q cl sl (pc + 1) L (.long v :: st) μ) : xG sc k d mc ms Q cl sl pc L (.long y :: .long x :: st) μ := by
  subst hv
  exact fun p l e R s m args below meth c X D cA n0 ad0 ad A H locs ls hn ha hR hl => lv_lrem X.1 X.2.1 hd hne (h p l e R s m args below meth c X D cA n0 ad0 ad A H locs ls hn ha hR hl)
theorem g_iushr {x y v : Int32} (hd : decode k.2.1 pc = .ok (.iushr, 1)) (hv : (x.toUInt32 >>> (y.toUInt32 &&& Int32.toUInt32 31)).toInt32 = v) (h : xG sc k d mc ms Q cl sl (pc + 1) L (.int v :: st) μ) : xG sc k d mc ms Q cl sl pc L (.int y :: .int x :: st) μ :=
  fun p l e R s m args below meth c X D cA n0 ad0 ad A H locs ls hn ha hR hl => lv_iushr X.1 X.2.1 hd hv (h p l e R s m args below meth c X D cA n0 ad0 ad A H locs ls hn ha hR hl)
theorem g_ineg {x v : Int32} (hd : decode k.2.1 pc = .ok (.ineg, 1)) (hv : -x = v) (h : xG sc k d mc ms Q cl sl (pc + 1) L (.int v :: st) μ) : xG sc k d mc ms Q cl sl pc L (.int x :: st) μ := by
  subst hv
  exact fun p l e R s m args below meth c X D cA n0 ad0 ad A H locs ls hn ha hR hl => lv_ineg X.1 X.2.1 hd (h p l e R s m args below meth c X D cA n0 ad0 ad A H locs ls hn ha hR hl)
theorem g_lneg {x v : Int64} (hd : decode k.2.1 pc = .ok (.lneg, 1)) (hv : -x = v) (h : xG sc k d mc ms Q cl sl (pc + 1) L (.long v :: st) μ) : xG sc k d mc ms Q cl sl pc L (.long x :: st) μ := by
  subst hv
  exact fun p l e R s m args below meth c X D cA n0 ad0 ad A H locs ls hn ha hR hl => lv_lneg X.1 X.2.1 hd (h p l e R s m args below meth c X D cA n0 ad0 ad A H locs ls hn ha hR hl)
theorem g_i2l {x : Int32} {v : Int64} (hd : decode k.2.1 pc = .ok (.i2l, 1)) (hv : x.toInt64 = v) (h : xG sc k d mc ms Q cl sl (pc + 1) L (.long v :: st) μ) : xG sc k d mc ms Q cl sl pc L (.int x :: st) μ :=
  fun p l e R s m args below meth c X D cA n0 ad0 ad A H locs ls hn ha hR hl => lv_i2l X.1 X.2.1 hd hv (h p l e R s m args below meth c X D cA n0 ad0 ad A H locs ls hn ha hR hl)
theorem g_l2i {x : Int64} {v : Int32} (hd : decode k.2.1 pc = .ok (.l2i, 1)) (hv : x.toInt32 = v) (h : xG sc k d mc ms Q cl sl (pc + 1) L (.int v :: st) μ) : xG sc k d mc ms Q cl sl pc L (.long x :: st) μ :=
  fun p l e R s m args below meth c X D cA n0 ad0 ad A H locs ls hn ha hR hl => lv_l2i X.1 X.2.1 hd hv (h p l e R s m args below meth c X D cA n0 ad0 ad A H locs ls hn ha hR hl)
theorem g_i2b {x : Int32} {v : Int32} (hd : decode k.2.1 pc = .ok (.i2b, 1)) (hv : x.toInt8.toInt32 = v) (h : xG sc k d mc ms Q cl sl (pc + 1) L (.int v :: st) μ) : xG sc k d mc ms Q cl sl pc L (.int x :: st) μ :=
  fun p l e R s m args below meth c X D cA n0 ad0 ad A H locs ls hn ha hR hl => lv_i2b X.1 X.2.1 hd hv (h p l e R s m args below meth c X D cA n0 ad0 ad A H locs ls hn ha hR hl)
theorem g_i2s {x : Int32} {v : Int32} (hd : decode k.2.1 pc = .ok (.i2s, 1)) (hv : x.toInt16.toInt32 = v) (h : xG sc k d mc ms Q cl sl (pc + 1) L (.int v :: st) μ) : xG sc k d mc ms Q cl sl pc L (.int x :: st) μ :=
  fun p l e R s m args below meth c X D cA n0 ad0 ad A H locs ls hn ha hR hl => lv_i2s X.1 X.2.1 hd hv (h p l e R s m args below meth c X D cA n0 ad0 ad A H locs ls hn ha hR hl)
theorem g_lcmp {x y : Int64} {v : Int32} (hd : decode k.2.1 pc = .ok (.lcmp, 1)) (hv : lg_cmp x y = v) (h : xG sc k d mc ms Q cl sl (pc + 1) L (.int v :: st) μ) : xG sc k d mc ms Q cl sl pc L (.long y :: .long x :: st) μ := by
  subst hv
  exact fun p l e R s m args below meth c X D cA n0 ad0 ad A H locs ls hn ha hR hl => W.lcmp X.1 X.2.1 hd (h p l e R s m args below meth c X D cA n0 ad0 ad A H locs ls hn ha hR hl)
theorem g_if_eq {x : Int32} {off : Int} {tgt : Nat} (hd : decode k.2.1 pc = .ok (.ifCond .eq off, 3)) (ht : (pc : Int) + off = (tgt : Int)) (ht2 : x = 0 → xG sc k d mc ms Q cl sl tgt L st μ) (hf : ¬ x = 0 → xG sc k d mc ms Q cl sl (pc + 3) L st μ) : xG sc k d mc ms Q cl sl pc L (.int x :: st) μ :=
  fun p l e R s m args below meth c X D cA n0 ad0 ad A H locs ls hn ha hR hl => lv_if_eq X.1 X.2.1 hd ht (fun z => (ht2 z p l e R s m args below meth c X D cA n0 ad0 ad A H locs ls hn ha hR hl)) (fun z => (hf z p l e R s m args below meth c X D cA n0 ad0 ad A H locs ls hn ha hR hl))
theorem g_if_ne {x : Int32} {off : Int} {tgt : Nat} (hd : decode k.2.1 pc = .ok (.ifCond .ne off, 3)) (ht : (pc : Int) + off = (tgt : Int)) (ht2 : ¬ x = 0 → xG sc k d mc ms Q cl sl tgt L st μ) (hf : x = 0 → xG sc k d mc ms Q cl sl (pc + 3) L st μ) : xG sc k d mc ms Q cl sl pc L (.int x :: st) μ :=
  fun p l e R s m args below meth c X D cA n0 ad0 ad A H locs ls hn ha hR hl => lv_if_ne X.1 X.2.1 hd ht (fun z => (ht2 z p l e R s m args below meth c X D cA n0 ad0 ad A H locs ls hn ha hR hl)) (fun z => (hf z p l e R s m args below meth c X D cA n0 ad0 ad A H locs ls hn ha hR hl))
theorem g_if_lt {x : Int32} {off : Int} {tgt : Nat} (hd : decode k.2.1 pc = .ok (.ifCond .lt off, 3)) (ht : (pc : Int) + off = (tgt : Int)) (ht2 : x < 0 → xG sc k d mc ms Q cl sl tgt L st μ) (hf : ¬ x < 0 → xG sc k d mc ms Q cl sl (pc + 3) L st μ) : xG sc k d mc ms Q cl sl pc L (.int x :: st) μ :=
  fun p l e R s m args below meth c X D cA n0 ad0 ad A H locs ls hn ha hR hl => lv_if_lt X.1 X.2.1 hd ht (fun z => (ht2 z p l e R s m args below meth c X D cA n0 ad0 ad A H locs ls hn ha hR hl)) (fun z => (hf z p l e R s m args below meth c X D cA n0 ad0 ad A H locs ls hn ha hR hl))
theorem g_if_ge {x : Int32} {off : Int} {tgt : Nat} (hd : decode k.2.1 pc = .ok (.ifCond .ge off, 3)) (ht : (pc : Int) + off = (tgt : Int)) (ht2 : 0 ≤ x → xG sc k d mc ms Q cl sl tgt L st μ) (hf : ¬ 0 ≤ x → xG sc k d mc ms Q cl sl (pc + 3) L st μ) : xG sc k d mc ms Q cl sl pc L (.int x :: st) μ :=
  fun p l e R s m args below meth c X D cA n0 ad0 ad A H locs ls hn ha hR hl => lv_if_ge X.1 X.2.1 hd ht (fun z => (ht2 z p l e R s m args below meth c X D cA n0 ad0 ad A H locs ls hn ha hR hl)) (fun z => (hf z p l e R s m args below meth c X D cA n0 ad0 ad A H locs ls hn ha hR hl))
theorem g_if_gt {x : Int32} {off : Int} {tgt : Nat} (hd : decode k.2.1 pc = .ok (.ifCond .gt off, 3)) (ht : (pc : Int) + off = (tgt : Int)) (ht2 : 0 < x → xG sc k d mc ms Q cl sl tgt L st μ) (hf : ¬ 0 < x → xG sc k d mc ms Q cl sl (pc + 3) L st μ) : xG sc k d mc ms Q cl sl pc L (.int x :: st) μ :=
  fun p l e R s m args below meth c X D cA n0 ad0 ad A H locs ls hn ha hR hl => lv_if_gt X.1 X.2.1 hd ht (fun z => (ht2 z p l e R s m args below meth c X D cA n0 ad0 ad A H locs ls hn ha hR hl)) (fun z => (hf z p l e R s m args below meth c X D cA n0 ad0 ad A H locs ls hn ha hR hl))
theorem g_if_le {x : Int32} {off : Int} {tgt : Nat} (hd : decode k.2.1 pc = .ok (.ifCond .le off, 3)) (ht : (pc : Int) + off = (tgt : Int)) (ht2 : x ≤ 0 → xG sc k d mc ms Q cl sl tgt L st μ) (hf : ¬ x ≤ 0 → xG sc k d mc ms Q cl sl (pc + 3) L st μ) : xG sc k d mc ms Q cl sl pc L (.int x :: st) μ :=
  fun p l e R s m args below meth c X D cA n0 ad0 ad A H locs ls hn ha hR hl => lv_if_le X.1 X.2.1 hd ht (fun z => (ht2 z p l e R s m args below meth c X D cA n0 ad0 ad A H locs ls hn ha hR hl)) (fun z => (hf z p l e R s m args below meth c X D cA n0 ad0 ad A H locs ls hn ha hR hl))
theorem g_icmp_eq {x y : Int32} {off : Int} {tgt : Nat} (hd : decode k.2.1 pc = .ok (.if_icmp .eq off, 3)) (ht : (pc : Int) + off = (tgt : Int)) (ht2 : x = y → xG sc k d mc ms Q cl sl tgt L st μ) (hf : ¬ x = y → xG sc k d mc ms Q cl sl (pc + 3) L st μ) : xG sc k d mc ms Q cl sl pc L (.int y :: .int x :: st) μ :=
  fun p l e R s m args below meth c X D cA n0 ad0 ad A H locs ls hn ha hR hl => lv_icmp_eq X.1 X.2.1 hd ht (fun z => (ht2 z p l e R s m args below meth c X D cA n0 ad0 ad A H locs ls hn ha hR hl)) (fun z => (hf z p l e R s m args below meth c X D cA n0 ad0 ad A H locs ls hn ha hR hl))
theorem g_icmp_ne {x y : Int32} {off : Int} {tgt : Nat} (hd : decode k.2.1 pc = .ok (.if_icmp .ne off, 3)) (ht : (pc : Int) + off = (tgt : Int)) (ht2 : ¬ x = y → xG sc k d mc ms Q cl sl tgt L st μ) (hf : x = y → xG sc k d mc ms Q cl sl (pc + 3) L st μ) : xG sc k d mc ms Q cl sl pc L (.int y :: .int x :: st) μ :=
  fun p l e R s m args below meth c X D cA n0 ad0 ad A H locs ls hn ha hR hl => lv_icmp_ne X.1 X.2.1 hd ht (fun z => (ht2 z p l e R s m args below meth c X D cA n0 ad0 ad A H locs ls hn ha hR hl)) (fun z => (hf z p l e R s m args below meth c X D cA n0 ad0 ad A H locs ls hn ha hR hl))
theorem g_icmp_lt {x y : Int32} {off : Int} {tgt : Nat} (hd : decode k.2.1 pc = .ok (.if_icmp .lt off, 3)) (ht : (pc : Int) + off = (tgt : Int)) (ht2 : x < y → xG sc k d mc ms Q cl sl tgt L st μ) (hf : ¬ x < y → xG sc k d mc ms Q cl sl (pc + 3) L st μ) : xG sc k d mc ms Q cl sl pc L (.int y :: .int x :: st) μ :=
  fun p l e R s m args below meth c X D cA n0 ad0 ad A H locs ls hn ha hR hl => lv_icmp_lt X.1 X.2.1 hd ht (fun z => (ht2 z p l e R s m args below meth c X D cA n0 ad0 ad A H locs ls hn ha hR hl)) (fun z => (hf z p l e R s m args below meth c X D cA n0 ad0 ad A H locs ls hn ha hR hl))
theorem g_icmp_ge {x y : Int32} {off : Int} {tgt : Nat} (hd : decode k.2.1 pc = .ok (.if_icmp .ge off, 3)) (ht : (pc : Int) + off = (tgt : Int)) (ht2 : y ≤ x → xG sc k d mc ms Q cl sl tgt L st μ) (hf : ¬ y ≤ x → xG sc k d mc ms Q cl sl (pc + 3) L st μ) : xG sc k d mc ms Q cl sl pc L (.int y :: .int x :: st) μ :=
  fun p l e R s m args below meth c X D cA n0 ad0 ad A H locs ls hn ha hR hl => lv_icmp_ge X.1 X.2.1 hd ht (fun z => (ht2 z p l e R s m args below meth c X D cA n0 ad0 ad A H locs ls hn ha hR hl)) (fun z => (hf z p l e R s m args below meth c X D cA n0 ad0 ad A H locs ls hn ha hR hl))
theorem g_icmp_gt {x y : Int32} {off : Int} {tgt : Nat} (hd : decode k.2.1 pc = .ok (.if_icmp .gt off, 3)) (ht : (pc : Int) + off = (tgt : Int)) (ht2 : y < x → xG sc k d mc ms Q cl sl tgt L st μ) (hf : ¬ y < x → xG sc k d mc ms Q cl sl (pc + 3) L st μ) : xG sc k d mc ms Q cl sl pc L (.int y :: .int x :: st) μ :=
  fun p l e R s m args below meth c X D cA n0 ad0 ad A H locs ls hn ha hR hl => lv_icmp_gt X.1 X.2.1 hd ht (fun z => (ht2 z p l e R s m args below meth c X D cA n0 ad0 ad A H locs ls hn ha hR hl)) (fun z => (hf z p l e R s m args below meth c X D cA n0 ad0 ad A H locs ls hn ha hR hl))
theorem g_icmp_le {x y : Int32} {off : Int} {tgt : Nat} (hd : decode k.2.1 pc = .ok (.if_icmp .le off, 3)) (ht : (pc : Int) + off = (tgt : Int)) (ht2 : x ≤ y → xG sc k d mc ms Q cl sl tgt L st μ) (hf : ¬ x ≤ y → xG sc k d mc ms Q cl sl (pc + 3) L st μ) : xG sc k d mc ms Q cl sl pc L (.int y :: .int x :: st) μ :=
  fun p l e R s m args below meth c X D cA n0 ad0 ad A H locs ls hn ha hR hl => lv_icmp_le X.1 X.2.1 hd ht (fun z => (ht2 z p l e R s m args below meth c X D cA n0 ad0 ad A H locs ls hn ha hR hl)) (fun z => (hf z p l e R s m args below meth c X D cA n0 ad0 ad A H locs ls hn ha hR hl))
theorem g_tableOut {dflt lo hi : Int} {offs : Array Int} {len : Nat} {x : Int32} {tgt : Nat} (hd : decode k.2.1 pc = .ok (.tableswitch dflt lo hi offs, len)) (h0 : x.toInt < lo ∨ hi < x.toInt) (ht : (pc : Int) + dflt = (tgt : Int)) (h : xG sc k d mc ms Q cl sl tgt L st μ) : xG sc k d mc ms Q cl sl pc L (.int x :: st) μ :=
  fun p l e R s m args below meth c X D cA n0 ad0 ad A H locs ls hn ha hR hl => lv_tableOut X.1 X.2.1 hd h0 ht (h p l e R s m args below meth c X D cA n0 ad0 ad A H locs ls hn ha hR hl)
theorem g_tableIn {dflt lo hi : Int} {offs : Array Int} {len : Nat} {x : Int32} {off : Int} {tgt : Nat} (hd : decode k.2.1 pc = .ok (.tableswitch dflt lo hi offs, len)) (h1 : ¬ x.toInt < lo) (h2 : ¬ hi < x.toInt) (ho : offs[(x.toInt - lo).toNat]? = some off) (ht : (pc : Int) + off = (tgt : Int)) (h : xG sc k d mc ms Q cl sl tgt L st μ) : xG sc k d mc ms Q cl sl pc L (.int x :: st) μ :=
  fun p l e R s m args below meth c X D cA n0 ad0 ad A H locs ls hn ha hR hl => lv_tableIn X.1 X.2.1 hd h1 h2 ho ht (h p l e R s m args below meth c X D cA n0 ad0 ad A H locs ls hn ha hR hl)
theorem g_lookup {dflt : Int} {ps : Array (Int × Int)} {len : Nat} {x : Int32} {off : Int} {tgt : Nat} (hd : decode k.2.1 pc = .ok (.lookupswitch dflt ps, len)) (hp : (ps.toList.zip (ps.toList.drop 1)).all (fun (a, next) => a.1 < next.1) = true) (ho : Op.lookupswitch.offset ps.toList dflt x.toInt = off) (ht : (pc : Int) + off = (tgt : Int)) (h : xG sc k d mc ms Q cl sl tgt L st μ) : xG sc k d mc ms Q cl sl pc L (.int x :: st) μ :=
  fun p l e R s m args below meth c X D cA n0 ad0 ad A H locs ls hn ha hR hl => lv_lookup X.1 X.2.1 hd hp ho ht (h p l e R s m args below meth c X D cA n0 ad0 ad A H locs ls hn ha hR hl)
theorem g_iaload {c0 n : Nat} {rf : List (Option Nat)} {i v : Int32} (hd : decode k.2.1 pc = .ok (.iaload, 1)) (hc : μ.1[c0]? = some (0, n, rf)) (hi : vp_in i n) (hv : rd μ.2 c0 i.toNatClampNeg = v) (h : xG sc k d mc ms Q cl sl (pc + 1) L (.int v :: st) μ) : xG sc k d mc ms Q cl sl pc L (.int i :: .ref c0 :: st) μ := by
  subst hv
  exact fun p l e R s m args below meth c X D cA n0 ad0 ad A H locs ls hn ha hR hl => va_iald X.1 X.2.1 hR.1 hR.2.1 c0 0 (x_w_at hc) rfl hi hd (h p l e R s m args below meth c X D cA n0 ad0 ad A H locs ls hn ha hR hl)
theorem g_baload {c0 n : Nat} {rf : List (Option Nat)} {i v : Int32} (hd : decode k.2.1 pc = .ok (.baload, 1)) (hc : μ.1[c0]? = some (1, n, rf)) (hi : vp_in i n) (hv : rd μ.2 c0 i.toNatClampNeg = v) (h : xG sc k d mc ms Q cl sl (pc + 1) L (.int v :: st) μ) : xG sc k d mc ms Q cl sl pc L (.int i :: .ref c0 :: st) μ := by
  subst hv
  exact fun p l e R s m args below meth c X D cA n0 ad0 ad A H locs ls hn ha hR hl => va_zald X.1 X.2.1 hR.1 hR.2.1 c0 1 (x_w_at hc) rfl hi hd (h p l e R s m args below meth c X D cA n0 ad0 ad A H locs ls hn ha hR hl)
theorem g_laload {c0 n : Nat} {rf : List (Option Nat)} {i : Int32} {v : Int64} (hd : decode k.2.1 pc = .ok (.laload, 1)) (hc : μ.1[c0]? = some (2, n, rf)) (hi : vp_in i n) (hv : rl μ.2 c0 i.toNatClampNeg = v) (h : xG sc k d mc ms Q cl sl (pc + 1) L (.long v :: st) μ) : xG sc k d mc ms Q cl sl pc L (.int i :: .ref c0 :: st) μ := by
  subst hv
  exact fun p l e R s m args below meth c X D cA n0 ad0 ad A H locs ls hn ha hR hl => va_lald X.1 X.2.1 hR.1 hR.2.1 c0 2 (x_w_at hc) rfl hi hd (h p l e R s m args below meth c X D cA n0 ad0 ad A H locs ls hn ha hR hl)
theorem g_aaload {c0 n v : Nat} {rf : List (Option Nat)} {i : Int32} (hd : decode k.2.1 pc = .ok (.aaload, 1)) (hc : μ.1[c0]? = some (3, n, rf)) (hi : vp_in i n) (hv : rf.getD i.toNatClampNeg none = some v) (h : xG sc k d mc ms Q cl sl (pc + 1) L (.ref v :: st) μ) : xG sc k d mc ms Q cl sl pc L (.int i :: .ref c0 :: st) μ := by
  intro p l e R s m args below meth c X D cA n0 ad0 ad A H locs ls hn ha hR hl
  have hlt : i.toNatClampNeg < n := Nat.not_le.mp fun q => hi (Or.inr q)
  refine W.aald (v := .ref (ad v)) (ty := .array .int) X.1 X.2.1 (hR.2.1 c0 _ (x_w_at hc)) ((hR.1.2 3 _ rfl).1 n (fun j => va_rf ((rf.getD j none).map ad))) rfl (fun q => by cases q) (by show ¬ (i < 0 ∨ (arrV _ _ _).slots.size ≤ _); rw [arrV_size]; exact hi) (by show (arrV _ _ _).slots[_]? = _; rw [arrV_read _ _ hlt]; show some (va_rf ((rf.getD i.toNatClampNeg none).map ad)) = _; rw [hv]; rfl) rfl rfl hd (h p l e R s m args below meth c X D cA n0 ad0 ad A H locs ls hn ha hR hl)
theorem g_alen {c0 t n : Nat} {rf : List (Option Nat)} {v : Int32} (hd : decode k.2.1 pc = .ok (.arraylength, 1)) (hc : μ.1[c0]? = some (t, n, rf)) (ht : t < 2) (hv : Int32.ofNat n = v) (h : xG sc k d mc ms Q cl sl (pc + 1) L (.int v :: st) μ) : xG sc k d mc ms Q cl sl pc L (.ref c0 :: st) μ := by
  intro p l e R s m args below meth c X D cA n0 ad0 ad A H locs ls hn ha hR hl
  match t, ht with
  | 0, _ => exact va_alen X.1 X.2.1 hR.1 hR.2.1 c0 0 (x_w_at hc) rfl hv hd (h p l e R s m args below meth c X D cA n0 ad0 ad A H locs ls hn ha hR hl)
  | 1, _ => exact va_alen X.1 X.2.1 hR.1 hR.2.1 c0 1 (x_w_at hc) rfl hv hd (h p l e R s m args below meth c X D cA n0 ad0 ad A H locs ls hn ha hR hl)
theorem g_lalen {c0 n : Nat} {rf : List (Option Nat)} {v : Int32} (hd : decode k.2.1 pc = .ok (.arraylength, 1)) (hc : μ.1[c0]? = some (2, n, rf)) (hv : Int32.ofNat n = v) (h : xG sc k d mc ms Q cl sl (pc + 1) L (.int v :: st) μ) : xG sc k d mc ms Q cl sl pc L (.ref c0 :: st) μ := by
  intro p l e R s m args below meth c X D cA n0 ad0 ad A H locs ls hn ha hR hl
  exact va_alen X.1 X.2.1 hR.1 hR.2.1 c0 2 (x_w_at hc) rfl hv hd (h p l e R s m args below meth c X D cA n0 ad0 ad A H locs ls hn ha hR hl)
theorem g_iastore {c0 n : Nat} {rf : List (Option Nat)} {i : Int32} {v : Int32} {G : List xC} {u u' : xS} (hd : decode k.2.1 pc = .ok (.iastore, 1)) (hc : G[c0]? = some (0, n, rf)) (hi : vp_in i n) (hv : wr u c0 i.toNatClampNeg v = u') (h : xG sc k d mc ms Q cl sl (pc + 1) L st (G, u')) : xG sc k d mc ms Q cl sl pc L (.int v :: .int i :: .ref c0 :: st) (G, u) := by
  intro p l e R s m args below meth c X D cA n0 ad0 ad A H locs ls hn ha hR hl
  subst hv
  obtain ⟨hK, hP, hD, hS, hA, hF⟩ := hR
  have ha0 : (x_w cA ad (G, u))[c0]? = some (ad c0, .inl (cA 0, n, .inl (u.1 c0))) := x_w_at (μ := (G, u)) (c := (0, n, rf)) hc
  refine va_iast X.1 X.2.1 hK hP hD hS c0 0 ha0 rfl hi hd fun H1 locs1 hP1 hD1 hS1 => ?_
  have e1 : (x_w cA ad (G, u)).set c0 (ad c0, .inl (cA 0, n, .inl (upd (u.1 c0) i.toNatClampNeg v))) = x_w cA ad (G, wr u c0 i.toNatClampNeg v) := x_w_wr hc (by
    simp only [x_e, wr, wl, if_true]
    rfl)
  exact h p l e R s m args below meth c X D cA n0 ad0 ad A H1 locs1 ls hn ha ⟨hK, e1 ▸ hP1, e1 ▸ hD1, hS1, hA, hF⟩ hl
theorem g_bastore {c0 n : Nat} {rf : List (Option Nat)} {i : Int32} {v : Int32} {G : List xC} {u u' : xS} (hd : decode k.2.1 pc = .ok (.bastore, 1)) (hc : G[c0]? = some (1, n, rf)) (hi : vp_in i n) (hv : wr u c0 i.toNatClampNeg (vp_nar .boolean v) = u') (h : xG sc k d mc ms Q cl sl (pc + 1) L st (G, u')) : xG sc k d mc ms Q cl sl pc L (.int v :: .int i :: .ref c0 :: st) (G, u) := by
  intro p l e R s m args below meth c X D cA n0 ad0 ad A H locs ls hn ha hR hl
  subst hv
  obtain ⟨hK, hP, hD, hS, hA, hF⟩ := hR
  have ha0 : (x_w cA ad (G, u))[c0]? = some (ad c0, .inl (cA 1, n, .inl (u.1 c0))) := x_w_at (μ := (G, u)) (c := (1, n, rf)) hc
  refine va_zast X.1 X.2.1 hK hP hD hS c0 1 ha0 rfl hi hd fun H1 locs1 hP1 hD1 hS1 => ?_
  have e1 : (x_w cA ad (G, u)).set c0 (ad c0, .inl (cA 1, n, .inl (upd (u.1 c0) i.toNatClampNeg (vp_nar .boolean v)))) = x_w cA ad (G, wr u c0 i.toNatClampNeg (vp_nar .boolean v)) := x_w_wr hc (by
    simp only [x_e, wr, wl, if_true]
    rfl)
  exact h p l e R s m args below meth c X D cA n0 ad0 ad A H1 locs1 ls hn ha ⟨hK, e1 ▸ hP1, e1 ▸ hD1, hS1, hA, hF⟩ hl
theorem g_lastore {c0 n : Nat} {rf : List (Option Nat)} {i : Int32} {v : Int64} {G : List xC} {u u' : xS} (hd : decode k.2.1 pc = .ok (.lastore, 1)) (hc : G[c0]? = some (2, n, rf)) (hi : vp_in i n) (hv : wl u c0 i.toNatClampNeg v = u') (h : xG sc k d mc ms Q cl sl (pc + 1) L st (G, u')) : xG sc k d mc ms Q cl sl pc L (.long v :: .int i :: .ref c0 :: st) (G, u) := by
  intro p l e R s m args below meth c X D cA n0 ad0 ad A H locs ls hn ha hR hl
  subst hv
  obtain ⟨hK, hP, hD, hS, hA, hF⟩ := hR
  have ha0 : (x_w cA ad (G, u))[c0]? = some (ad c0, .inl (cA 2, n, .inr (.inl (u.2 c0)))) := x_w_at (μ := (G, u)) (c := (2, n, rf)) hc
  refine va_last X.1 X.2.1 hK hP hD hS c0 2 ha0 rfl hi hd fun H1 locs1 hP1 hD1 hS1 => ?_
  have e1 : (x_w cA ad (G, u)).set c0 (ad c0, .inl (cA 2, n, .inr (.inl (vp_updL (u.2 c0) i.toNatClampNeg v)))) = x_w cA ad (G, wl u c0 i.toNatClampNeg v) := x_w_wl hc (by
    simp only [x_e, wr, wl, if_true]
    rfl)
  exact h p l e R s m args below meth c X D cA n0 ad0 ad A H1 locs1 ls hn ha ⟨hK, e1 ▸ hP1, e1 ▸ hD1, hS1, hA, hF⟩ hl
theorem g_iret {r : Int32} {μ' : xM} (hd : decode k.2.1 pc = .ok (.ireturn, 1)) (hr : k.2.2.2 = some .int) (hQ : Q = xR (some (.int r)) μ' mc ms) (hμ : μ = μ') (hc : cl ≤ mc) (hs : sl ≤ ms) : xG sc k d mc ms Q cl sl pc L [.int r] μ := by
  subst hQ
  subst hμ
  intro p l e R s m args below meth c X D cA n0 ad0 ad A H locs ls hn ha hR hl
  obtain ⟨hK, hP, hD, hS, hA, hF⟩ := hR
  refine W.widen hc hs ?_
  exact W.iret X.1 X.2.1 (X.2.2.1.trans hr) (fun t ht hW => ⟨⟨ad, hn, ha, rfl, by rw [ht]; exact hP, va_K.moved hW.alike hK, hD⟩, hS.F ht⟩) hS.2.2 hd X.2.2.2.2.2.2.1
theorem g_zret {r : Int32} {μ' : xM} (hd : decode k.2.1 pc = .ok (.ireturn, 1)) (hr : k.2.2.2 = some .boolean) (hb : r = 0 ∨ r = 1) (hQ : Q = xR (some (.int r)) μ' mc ms) (hμ : μ = μ') (hc : cl ≤ mc) (hs : sl ≤ ms) : xG sc k d mc ms Q cl sl pc L [.int r] μ := by
  subst hQ
  subst hμ
  intro p l e R s m args below meth c X D cA n0 ad0 ad A H locs ls hn ha hR hl
  obtain ⟨hK, hP, hD, hS, hA, hF⟩ := hR
  refine W.widen hc hs ?_
  exact W.zret X.1 X.2.1 (X.2.2.1.trans hr) (by rcases hb with rfl | rfl <;> rfl) (fun t ht hW => ⟨⟨ad, hn, ha, rfl, by rw [ht]; exact hP, va_K.moved hW.alike hK, hD⟩, hS.F ht⟩) hS.2.2 hd X.2.2.2.2.2.2.1
theorem g_lret {r : Int64} {μ' : xM} (hd : decode k.2.1 pc = .ok (.lreturn, 1)) (hr : k.2.2.2 = some .long) (hQ : Q = xR (some (.long r)) μ' mc ms) (hμ : μ = μ') (hc : cl ≤ mc) (hs : sl ≤ ms) : xG sc k d mc ms Q cl sl pc L [.long r] μ := by
  subst hQ
  subst hμ
  intro p l e R s m args below meth c X D cA n0 ad0 ad A H locs ls hn ha hR hl
  obtain ⟨hK, hP, hD, hS, hA, hF⟩ := hR
  refine W.widen hc hs ?_
  exact W.lret X.1 X.2.1 (X.2.2.1.trans hr) (fun t ht hW => ⟨⟨ad, hn, ha, rfl, by rw [ht]; exact hP, va_K.moved hW.alike hK, hD⟩, hS.F ht⟩) hS.2.2 hd X.2.2.2.2.2.2.1
theorem g_ret {μ' : xM} (hd : decode k.2.1 pc = .ok (.return_, 1)) (hr : k.2.2.2 = none) (hQ : Q = xR none μ' mc ms) (hμ : μ = μ') (hc : cl ≤ mc) (hs : sl ≤ ms) : xG sc k d mc ms Q cl sl pc L [] μ := by
  subst hQ
  subst hμ
  intro p l e R s m args below meth c X D cA n0 ad0 ad A H locs ls hn ha hR hl
  obtain ⟨hK, hP, hD, hS, hA, hF⟩ := hR
  refine W.widen hc hs ?_
  exact W.vret X.1 X.2.1 (X.2.2.1.trans hr) (fun t ht hW => ⟨⟨ad, hn, ha, rfl, by rw [ht]; exact hP, va_K.moved hW.alike hK, hD⟩, hS.F ht⟩) hS.2.2 hd X.2.2.2.2.2.2.1
end XR
