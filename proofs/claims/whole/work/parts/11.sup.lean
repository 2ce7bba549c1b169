/-! guards of the plain functions; rows in bundles -/
def xN : Nat := 1000000
def gd {α : Type} (b : Bool) (x : Option α) : Option α := match b with
  | true => x
  | false => none
theorem gd_t {α : Type} (x : Option α) : gd true x = x := rfl
theorem gd_f {α : Type} (x : Option α) : gd false x = none := rfl
theorem x_gd {α : Type} {b : Bool} {x : Option α} {r : α} (h : gd b x = some r) : b = true ∧ x = some r := by
  cases b with
  | true => exact ⟨rfl, h⟩
  | false => cases h
theorem x_inj2 {α β : Type} {a r : α} {b u : β} (h : some (a, b) = some (r, u)) : a = r ∧ b = u := by
  have h1 := Option.some.inj h
  exact ⟨congrArg Prod.fst h1, congrArg Prod.snd h1⟩
theorem x_bind {α β : Type} {o : Option α} {f : α → Option β} {r : β} (h : o.bind f = some r) : ∃ q, o = some q ∧ f q = some r := by
  cases o with
  | none => cases h
  | some q => exact ⟨q, rfl, h⟩
def xin (i : Int32) (n : Nat) : Bool := decide (¬ (i < 0 ∨ n ≤ i.toNatClampNeg))
theorem xin_of {i : Int32} {n : Nat} (h : xin i n = true) : vp_in i n := by
  unfold vp_in
  exact of_decide_eq_true h
theorem xin_lt {i : Int32} {n : Nat} (h : xin i n = true) : i.toNatClampNeg < n := Nat.not_le.mp fun q => xin_of h (Or.inr q)
def xb (v : Int32) : Bool := decide (v = 0 ∨ v = 1)
theorem xb_of {v : Int32} (h : xb v = true) : v = 0 ∨ v = 1 := of_decide_eq_true h
def xnz (v : Int32) : Bool := decide (¬ v = 0)
theorem xnz_of {v : Int32} (h : xnz v = true) : ¬ v = 0 := of_decide_eq_true h
def xnzJ (v : Int64) : Bool := decide (¬ v = 0)
theorem xnzJ_of {v : Int64} (h : xnzJ v = true) : ¬ v = 0 := of_decide_eq_true h
def xcok (sp dp n : Int32) (n0 n1 : Nat) : Bool := decide ((¬ sp < 0 ∧ ¬ dp < 0 ∧ ¬ n < 0) ∧ sp.toNatClampNeg + n.toNatClampNeg ≤ n0 ∧ dp.toNatClampNeg + n.toNatClampNeg ≤ n1)
theorem xcok_of {sp dp n : Int32} {n0 n1 : Nat} (h : xcok sp dp n n0 n1 = true) : (¬ sp < 0 ∧ ¬ dp < 0 ∧ ¬ n < 0) ∧ sp.toNatClampNeg + n.toNatClampNeg ≤ n0 ∧ dp.toNatClampNeg + n.toNatClampNeg ≤ n1 := of_decide_eq_true h
def xbyte (i j : Nat) : Int32 := (xByt.getD i []).getD j 0
theorem i32_ne {x v : Int32} {m : Int} (h : ¬ x = v) (hm : v.toInt = m) : x.toInt ≠ m := fun e => h (Int32.toInt_inj.mp (e.trans hm.symm))
/-- fewer locals known -/
def x_le : xL → xL → Prop
  | [], _ => True
  | none :: t, _ :: t' => x_le t t'
  | none :: t, [] => x_le t []
  | some v :: t, o :: t' => o = some v ∧ x_le t t'
  | some _ :: _, [] => False
theorem x_le_get : ∀ (L' L : xL), x_le L' L → ∀ (j : Nat) (v : Value), L'[j]? = some (some v) → L[j]? = some (some v)
  | [], _, _, j, v, hj => by simp at hj
  | none :: t, _ :: t', h, j, v, hj => by
    cases j with
    | zero => simp at hj
    | succ j => simp only [List.getElem?_cons_succ] at hj ⊢; exact x_le_get t t' h j v hj
  | none :: t, [], h, j, v, hj => by
    cases j with
    | zero => simp at hj
    | succ j =>
      simp only [List.getElem?_cons_succ] at hj
      have := x_le_get t [] h j v hj
      simp at this
  | some w :: t, o :: t', h, j, v, hj => by
    obtain ⟨h1, h2⟩ := h
    cases j with
    | zero =>
      simp only [List.getElem?_cons_zero, Option.some.injEq] at hj ⊢
      rw [h1, hj]
    | succ j => simp only [List.getElem?_cons_succ] at hj ⊢; exact x_le_get t t' h2 j v hj
  | some w :: t, [], h, j, v, hj => h.elim
section XS
variable {sc : Nat × (Nat → Int32)} {k : xm} {d mc ms : Nat} {Q : xE} {cl sl pc : Nat} {L L' : xL} {st : List Value} {μ : xM}
theorem g_L (hL : x_le L' L) (h : xG sc k d mc ms Q cl sl pc L' st μ) : xG sc k d mc ms Q cl sl pc L st μ := by
  intro p l e R s m args below meth c X D cA n0 ad0 ad A H locs ls hn ha hR hl
  refine h p l e R s m args below meth c X D cA n0 ad0 ad A H locs ls hn ha hR ⟨hl.1, hl.2.1, fun q hq => hl.2.2 q ?_⟩
  obtain ⟨j, v, h1, h2⟩ := (x_ls_mem L' 0).mp hq
  exact (x_ls_mem L 0).mpr ⟨j, v, x_le_get L' L hL j v h1, h2⟩
theorem g_inc {i : Nat} {n : Int} {nn x : Int32} (hd : decode k.2.1 pc = .ok (.iinc i n, 3)) (hi : i < k.2.2.1) (hx : L[i]? = some (some (.int x))) (hv : Int32.ofInt n = nn) (hL : x_st1 L i (.int (x + nn)) = L') (h : xG sc k d mc ms Q cl sl (pc + 3) L' st μ) : xG sc k d mc ms Q cl sl pc L st μ := by
  subst hv
  exact g_iinc hd hi hx rfl hL h
def xfB (own : String) (idx ci j : Nat) (b : Bool) : Prop := ∃ C T N, Cond.fieldLink own idx C (T j).2.1 (T j).2.2.1 ∈ xW ∧ vwCl[ci]? = some (C, T, N) ∧ j < N ∧ (T j).1 = C ∧ x_isR (x_fty ci j) = b
theorem g_gI {ci j c0 idx n : Nat} {rf : List (Option Nat)} {v : Int32} (hd : decode k.2.1 pc = .ok (.getfield idx, 3)) (hb : xfB k.1.cls idx ci j false) (hc : μ.1[c0]? = some (ci + 4, n, rf)) (hv : rd μ.2 c0 j = v)
    (h : xG sc k d mc ms Q cl sl (pc + 3) L (.int v :: st) μ) : xG sc k d mc ms Q cl sl pc L (.ref c0 :: st) μ := by
  obtain ⟨C, T, N, h1, h2, h3, h4, h5⟩ := hb
  exact g_getI ci j hd h1 hc h2 h3 h4 h5 hv h
theorem g_gR {ci j c0 idx n v : Nat} {rf : List (Option Nat)} (hd : decode k.2.1 pc = .ok (.getfield idx, 3)) (hb : xfB k.1.cls idx ci j true) (hc : μ.1[c0]? = some (ci + 4, n, rf)) (hv : rf.getD j none = some v)
    (h : xG sc k d mc ms Q cl sl (pc + 3) L (.ref v :: st) μ) : xG sc k d mc ms Q cl sl pc L (.ref c0 :: st) μ := by
  obtain ⟨C, T, N, h1, h2, h3, h4, h5⟩ := hb
  exact g_getR ci j hd h1 hc h2 h3 h4 h5 hv h
def xpB (own : String) (idx ci j : Nat) (ty : FieldType) : Prop := ∃ C T N, Cond.fieldLink own idx C (T j).2.1 (T j).2.2.1 ∈ xW ∧ vwCl[ci]? = some (C, T, N) ∧ j < N ∧ (T j).1 = C ∧ (T j).2.2.2 = false ∧ x_fty ci j = ty
theorem g_pI {ci j c0 idx n : Nat} {rf : List (Option Nat)} {v : Int32} {G : List xC} {u u' : xS} (hd : decode k.2.1 pc = .ok (.putfield idx, 3)) (hb : xpB k.1.cls idx ci j .int) (hc : G[c0]? = some (ci + 4, n, rf)) (hv : wr u c0 j v = u')
    (h : xG sc k d mc ms Q cl sl (pc + 3) L st (G, u')) : xG sc k d mc ms Q cl sl pc L (.int v :: .ref c0 :: st) (G, u) := by
  obtain ⟨C, T, N, h1, h2, h3, h4, h5, h6⟩ := hb
  exact g_putI ci j hd h1 hc h2 h3 h4 h5 (Or.inl h6) hv h
theorem g_pZ {ci j c0 idx n : Nat} {rf : List (Option Nat)} {v : Int32} {G : List xC} {u u' : xS} (hd : decode k.2.1 pc = .ok (.putfield idx, 3)) (hb : xpB k.1.cls idx ci j .boolean) (hc : G[c0]? = some (ci + 4, n, rf)) (hz : v = 0 ∨ v = 1) (hv : wr u c0 j v = u')
    (h : xG sc k d mc ms Q cl sl (pc + 3) L st (G, u')) : xG sc k d mc ms Q cl sl pc L (.int v :: .ref c0 :: st) (G, u) := by
  obtain ⟨C, T, N, h1, h2, h3, h4, h5, h6⟩ := hb
  exact g_putI ci j hd h1 hc h2 h3 h4 h5 (Or.inr ⟨h6, hz⟩) hv h
theorem g_bastoreB {c0 n : Nat} {rf : List (Option Nat)} {i v : Int32} {G : List xC} {u u' : xS} (hd : decode k.2.1 pc = .ok (.bastore, 1)) (hc : G[c0]? = some (1, n, rf)) (hi : vp_in i n) (hz : v = 0 ∨ v = 1) (hv : wr u c0 i.toNatClampNeg v = u') (h : xG sc k d mc ms Q cl sl (pc + 1) L st (G, u')) : xG sc k d mc ms Q cl sl pc L (.int v :: .int i :: .ref c0 :: st) (G, u) := by
  refine g_bastore hd hc hi ?_ h
  rw [← hv]
  rcases hz with rfl | rfl <;> rfl
def xcp (own : String) (idx : Nat) : Prop := Cond.methodLink own idx arraycopyName ∈ xW ∧ Cond.native arraycopyName ∈ xW ∧ Cond.static arraycopyName ∈ xW ∧ Cond.initialized "java/lang/System" ∈ xW
theorem g_cp {c0 c1 n0' n1' idx : Nat} {rf0 rf1 : List (Option Nat)} {sp dp n : Int32} {G : List xC} {u u' : xS} (hd : decode k.2.1 pc = .ok (.invokestatic idx, 3)) (hb : xcp k.1.cls idx)
    (hc0 : G[c0]? = some (0, n0', rf0)) (hc1 : G[c1]? = some (0, n1', rf1)) (hok : (¬ sp < 0 ∧ ¬ dp < 0 ∧ ¬ n < 0) ∧ sp.toNatClampNeg + n.toNatClampNeg ≤ n0' ∧ dp.toNatClampNeg + n.toNatClampNeg ≤ n1') (hs8 : (st.map fun v => v.category).sum ≤ 8) (hdd : 1 ≤ d) (hv : xcpy u c0 sp.toNatClampNeg c1 dp.toNatClampNeg n.toNatClampNeg = u')
    (h : xG sc k d mc ms Q cl sl (pc + 3) L st (G, u')) : xG sc k d mc ms Q cl sl pc L (.int n :: .int dp :: .ref c1 :: .int sp :: .ref c0 :: st) (G, u) :=
  g_copy hd hb.1 hb.2.1 hb.2.2.1 hb.2.2.2 hc0 hc1 hok.1.1 hok.1.2.1 hok.1.2.2 hok.2.1 hok.2.2 hs8 hdd hv h
/-- what the tables say of a callee -/
def xcK (k' : xm) (n : Nat) : Prop := Cond.initialized k'.1.cls ∈ xW ∧ Cond.code k'.1 k'.2.1 k'.2.2.1 k'.2.2.2 ∈ xW ∧ (k'.1.cls ≠ "java/lang/invoke/MethodHandle" ∧ k'.1.cls ≠ "java/lang/invoke/VarHandle" ∧ (parseMethodDescriptor k'.1.desc).map (fun d => d.parameters.length) = some n) ∧ k'.2.2.1 ≤ 45
def xcS (own : String) (idx : Nat) (k' : xm) (n : Nat) : Prop := Cond.methodLink own idx k'.1 ∈ xW ∧ Cond.static k'.1 ∈ xW ∧ xcK k' n
theorem g_cS {k' : xm} {d' idx n : Nat} {as st0 : List Value} {r : Option Value} {μ1 : xM} (hd : decode k.2.1 pc = .ok (.invokestatic idx, 3)) (hb : xcS k.1.cls idx k' n) (hM : xMt sc k' d' 0 0 as μ r μ1) (hn : as.length = n) (hst : st0 = as.reverse ++ st) (hs8 : (st.map fun v => v.category).sum ≤ 8) (hdd : d' + 1 ≤ d) (hΛ : μ1.1.length = μ.1.length)
    (h : xG sc k d mc ms Q 0 0 (pc + 3) L (r.toList ++ st) μ1) : xG sc k d mc ms Q 0 0 pc L st0 μ := by
  subst hn
  obtain ⟨h1, h2, h3, h4, h5, h6⟩ := hb
  exact g_callS k' hd hM h1 h2 h3 h4 h5 hst hs8 hdd h6 hΛ (Nat.zero_le _) (Nat.zero_le _) h
def xcN (own : String) (idx : Nat) (k' : xm) (host : String) (n : Nat) : Prop := Cond.methodLinkNest own idx k'.1 host ∈ xNest ∧ Cond.static k'.1 ∈ xW ∧ xcK k' n
theorem g_cN {k' : xm} {host : String} {d' idx n : Nat} {as st0 : List Value} {r : Option Value} {μ1 : xM} (hd : decode k.2.1 pc = .ok (.invokestatic idx, 3)) (hb : xcN k.1.cls idx k' host n) (hM : xMt sc k' d' 0 0 as μ r μ1) (hn : as.length = n) (hst : st0 = as.reverse ++ st) (hs8 : (st.map fun v => v.category).sum ≤ 8) (hdd : d' + 1 ≤ d) (hΛ : μ1.1.length = μ.1.length)
    (h : xG sc k d mc ms Q 0 0 (pc + 3) L (r.toList ++ st) μ1) : xG sc k d mc ms Q 0 0 pc L st0 μ := by
  subst hn
  obtain ⟨h1, h2, h3, h4, h5, h6⟩ := hb
  exact g_callSN k' host hd hM h1 h2 h3 h4 h5 hst hs8 hdd h6 hΛ (Nat.zero_le _) (Nat.zero_le _) h
def xcV (own : String) (idx : Nat) (k' : xm) (ci n : Nat) : Prop := Cond.methodLink own idx k'.1 ∈ xW ∧ Cond.instanceMethod k'.1 ∈ xW ∧ Cond.selects k'.1.cls k'.1 k'.1 ∈ xW ∧ xcK k' n ∧ ∃ q, vwCl[ci]? = some q ∧ q.1 = k'.1.cls
theorem g_cV {k' : xm} {ci c0 n0 : Nat} {rf : List (Option Nat)} {d' idx n : Nat} {as st0 : List Value} {r : Option Value} {μ1 : xM} (hd : decode k.2.1 pc = .ok (.invokevirtual idx, 3)) (hb : xcV k.1.cls idx k' ci n) (hM : xMt sc k' d' 0 0 (.ref c0 :: as) μ r μ1) (hc : μ.1[c0]? = some (ci + 4, n0, rf)) (hn : as.length = n) (hst : st0 = as.reverse ++ .ref c0 :: st) (hs8 : (st.map fun v => v.category).sum ≤ 8) (hdd : d' + 1 ≤ d) (hΛ : μ1.1.length = μ.1.length)
    (h : xG sc k d mc ms Q 0 0 (pc + 3) L (r.toList ++ st) μ1) : xG sc k d mc ms Q 0 0 pc L st0 μ := by
  subst hn
  obtain ⟨h1, h2, h3, ⟨h4, h5, h6, h7⟩, q, h8, h9⟩ := hb
  exact g_callV k' ci hd hM h1 h2 h3 h4 h5 hc h8 h9 h6 hst hs8 hdd h7 hΛ (Nat.zero_le _) (Nat.zero_le _) h
def xcT (own : String) (idx : Nat) (k' : xm) (n : Nat) : Prop := Cond.methodLink own idx k'.1 ∈ xW ∧ Cond.instanceMethod k'.1 ∈ xW ∧ Cond.selects k'.1.cls k'.1 k'.1 ∈ xW ∧ xcK k' n ∧ k'.1.cls = "java/lang/String"
theorem g_cT (i : Nat) {k' : xm} {d' idx n : Nat} {as st0 : List Value} {r : Option Value} {μ1 : xM} (hd : decode k.2.1 pc = .ok (.invokevirtual idx, 3)) (hb : xcT k.1.cls idx k' n) (hM : xMt sc k' d' 0 0 (.ref (1010 + i) :: as) μ r μ1) (hi : i < 6) (hn : as.length = n) (hst : st0 = as.reverse ++ .ref (1010 + i) :: st) (hs8 : (st.map fun v => v.category).sum ≤ 8) (hdd : d' + 1 ≤ d) (hΛ : μ1.1.length = μ.1.length)
    (h : xG sc k d mc ms Q 0 0 (pc + 3) L (r.toList ++ st) μ1) : xG sc k d mc ms Q 0 0 pc L st0 μ := by
  subst hn
  obtain ⟨h1, h2, h3, ⟨h4, h5, h6, h7⟩, h8⟩ := hb
  exact g_callT k' i hd hM h1 h2 h3 h4 h5 hi h8 h6 hst hs8 hdd h7 hΛ (Nat.zero_le _) (Nat.zero_le _) h
end XS
def imax (x y : Int32) : Int32 := if x < y then y else x
def imin (x y : Int32) : Int32 := if y < x then y else x
def lmax (x y : Int64) : Int64 := if y < x then x else y
def xmK (own : String) (idx : Nat) (y : MethodName) (b : ByteArray) (n : Nat) (ty : FieldType) : Prop := Cond.methodLink own idx y ∈ xW ∧ Cond.static y ∈ xW ∧ Cond.initialized "java/lang/Math" ∈ xW ∧ Cond.code y b n (some ty) ∈ xW
section XZ
variable {sc : Nat × (Nat → Int32)} {k : xm} {d mc ms : Nat} {Q : xE} {cl sl pc : Nat} {L L' : xL} {st : List Value} {μ : xM}
theorem g_ldcSw (i : Nat) {idx : Nat} {tx : String} (hd : decode k.2.1 pc = .ok (.ldc_w idx, 3)) (hk : k.1.cls = "RagTownModel") (hi : xSt[i]? = some (idx, tx)) (h : xG sc k d mc ms Q cl sl (pc + 3) L (.ref (1010 + i) :: st) μ) : xG sc k d mc ms Q cl sl pc L st μ := by
  intro p l e R s m args below meth c X D cA n0 ad0 ad A H locs ls hn ha hR hl
  have hZ := hR.2.2.2.2.2.2.2.2.2.2.1 i _ hi
  have hown : s.vm.findClass "RagTownModel" = some m.cls := hk ▸ X.2.2.2.2.1
  have h9 := h p l e R s m args below meth c X D cA n0 ad0 ad A H locs ls hn ha hR hl
  intro T hT Y
  obtain ⟨t, a1, b1⟩ := h9 T hT Y
  exact ⟨t, Y.ldcStringW X.1 hown (text := tx) (a := ad (1010 + i)) hZ.1 hZ.2 (g := F0 m pc ls (st.map (x_v ad))) rfl (by rw [X.2.1]; exact hd) t a1, b1⟩
theorem g_bret {r : Int32} {μ' : xM} (hd : decode k.2.1 pc = .ok (.ireturn, 1)) (hr : k.2.2.2 = some .byte) (hb : narrow .byte (.int r) = .int r) (hQ : Q = xR (some (.int r)) μ' mc ms) (hμ : μ = μ') (hc : cl ≤ mc) (hs : sl ≤ ms) : xG sc k d mc ms Q cl sl pc L [.int r] μ := by
  subst hQ
  subst hμ
  intro p l e R s m args below meth c X D cA n0 ad0 ad A H locs ls hn ha hR hl
  obtain ⟨hK, hP, hD, hS, hA, hF⟩ := hR
  refine W.widen hc hs ?_
  exact W.zret X.1 X.2.1 (X.2.2.1.trans hr) hb (fun t ht hW => ⟨⟨ad, hn, ha, rfl, by rw [ht]; exact hP, va_K.moved hW.alike hK, hD⟩, hS.F ht⟩) hS.2.2 hd X.2.2.2.2.2.2.1
theorem g_max {idx : Nat} {x y : Int32} (hd : decode k.2.1 pc = .ok (.invokestatic idx, 3)) (hb : xmK k.1.cls idx Lib.Math.max.name Lib.Math.max.code 2 .int) (hs8 : (st.map fun v => v.category).sum ≤ 8) (hdd : 1 ≤ d) (hc : cl ≤ mc) (hs : sl ≤ ms) (h : xG sc k d mc ms Q cl sl (pc + 3) L (.int (imax x y) :: st) μ) : xG sc k d mc ms Q cl sl pc L (.int y :: .int x :: st) μ := by
  intro p l e R s m args below meth c X D cA n0 ad0 ad A H locs ls hn ha hR hl
  obtain ⟨hx, hb0, hr, hm, hown, hts, hlk, hnm, hfr, hlo, hce, hsl0⟩ := id X
  exact va_mmax hx hb0 (hm.trans hl.1.symm) hown (hts _ hb.1) (hts _ hb.2.1) (hts _ hb.2.2.1) (hts _ hb.2.2.2) (by omega) (by rw [x_catsum]; omega) (by omega) (by omega) hd (h p l e R s m args below meth c X D cA n0 ad0 ad A H locs ls hn ha hR hl)
theorem g_min {idx : Nat} {x y : Int32} (hd : decode k.2.1 pc = .ok (.invokestatic idx, 3)) (hb : xmK k.1.cls idx Lib.Math.min.name Lib.Math.min.code 2 .int) (hs8 : (st.map fun v => v.category).sum ≤ 8) (hdd : 1 ≤ d) (hc : cl ≤ mc) (hs : sl ≤ ms) (h : xG sc k d mc ms Q cl sl (pc + 3) L (.int (imin x y) :: st) μ) : xG sc k d mc ms Q cl sl pc L (.int y :: .int x :: st) μ := by
  intro p l e R s m args below meth c X D cA n0 ad0 ad A H locs ls hn ha hR hl
  obtain ⟨hx, hb0, hr, hm, hown, hts, hlk, hnm, hfr, hlo, hce, hsl0⟩ := id X
  exact va_mmin hx hb0 (hm.trans hl.1.symm) hown (hts _ hb.1) (hts _ hb.2.1) (hts _ hb.2.2.1) (hts _ hb.2.2.2) (by omega) (by rw [x_catsum]; omega) (by omega) (by omega) hd (h p l e R s m args below meth c X D cA n0 ad0 ad A H locs ls hn ha hR hl)
theorem g_maxJ {idx : Nat} {x y : Int64} (hd : decode k.2.1 pc = .ok (.invokestatic idx, 3)) (hb : xmK k.1.cls idx Lib.MathLoose.max_long.x Lib.MathLoose.max_long.code 4 .long) (hs8 : (st.map fun v => v.category).sum ≤ 8) (hdd : 1 ≤ d) (hc : cl ≤ mc) (hs : sl ≤ ms) (h : xG sc k d mc ms Q cl sl (pc + 3) L (.long (lmax x y) :: st) μ) : xG sc k d mc ms Q cl sl pc L (.long y :: .long x :: st) μ := by
  intro p l e R s m args below meth c X D cA n0 ad0 ad A H locs ls hn ha hR hl
  obtain ⟨hx, hb0, hr, hm, hown, hts, hlk, hnm, hfr, hlo, hce, hsl0⟩ := id X
  exact va_mmax_long hx hb0 (hm.trans hl.1.symm) hown (hts _ hb.1) (hts _ hb.2.1) (hts _ hb.2.2.1) (hts _ hb.2.2.2) (by omega) (by rw [x_catsum]; omega) (by omega) (by omega) hd (h p l e R s m args below meth c X D cA n0 ad0 ad A H locs ls hn ha hR hl)
end XZ
theorem x_lsw {dflt x : Int} : ∀ {ps : List (Int × Int)}, (∀ q ∈ ps, q.1 ≠ x) → Op.lookupswitch.offset ps dflt x = dflt
  | [], _ => rfl
  | (a, o) :: r, h => by
    rw [Op.lookupswitch.offset_cons, if_neg (h (a, o) List.mem_cons_self)]
    exact x_lsw fun q hq => h q (List.mem_cons_of_mem _ hq)
def xL0 : List xC := [(15, 13, [some 1, some 13, some 46, some 52, some 54, some 58, some 74, some 79, some 87, some 113, some 121, some 134, none]), (12, 7, [some 2, some 9, none, some 10, some 11, some 12, none]), (3, 6, [some 3, some 4, some 5, some 6, some 7, some 8]), (0, 16, []), (0, 16, []), (0, 16, []), (0, 16, []), (0, 16, []), (0, 16, []), (0, 16, []), (0, 60, []), (0, 60, []), (0, 60, []), (4, 9, [some 14, some 15, some 16, some 17, some 18, some 19, some 20, some 21, none]), (0, 24, []), (0, 24, []), (0, 24, []), (0, 24, []), (0, 24, []), (0, 24, []), (0, 24, []), (3, 24, [some 22, some 23, some 24, some 25, some 26, some 27, some 28, some 29, some 30, some 31, some 32, some 33, some 34, some 35, some 36, some 37, some 38, some 39, some 40, some 41, some 42, some 43, some 44, some 45]), (0, 16, []), (0, 16, []), (0, 16, []), (0, 16, []), (0, 16, []), (0, 16, []), (0, 16, []), (0, 16, []), (0, 16, []), (0, 16, []), (0, 16, []), (0, 16, []), (0, 16, []), (0, 16, []), (0, 16, []), (0, 16, []), (0, 16, []), (0, 16, []), (0, 16, []), (0, 16, []), (0, 16, []), (0, 16, []), (0, 16, []), (0, 16, []), (9, 7, [some 47, some 48, some 49, some 50, some 51, none, none]), (0, 60, []), (0, 60, []), (0, 60, []), (0, 60, []), (0, 60, []), (13, 2, [some 53, none]), (0, 100, []), (11, 9, [some 55, none, some 56, none, some 57, none, none, none, none]), (0, 64, []), (0, 64, []), (1, 64, []), (14, 6, [some 59, some 71, some 72, some 73, none, none]), (3, 11, [some 60, some 61, some 62, some 63, some 64, some 65, some 66, some 67, some 68, some 69, some 70]), (0, 64, []), (0, 64, []), (0, 64, []), (0, 64, []), (0, 64, []), (0, 64, []), (0, 64, []), (0, 64, []), (0, 64, []), (0, 64, []), (0, 64, []), (0, 11, []), (0, 26, []), (0, 64, []), (10, 5, [some 75, some 76, some 77, some 78, none]), (0, 384, []), (0, 384, []), (0, 384, []), (0, 16, []), (5, 8, [some 80, some 81, some 82, some 83, some 84, none, some 85, some 86]), (0, 16, []), (0, 6, []), (0, 6, []), (0, 6, []), (0, 6, []), (0, 16, []), (0, 16, []), (6, 7, [some 88, some 109, none, some 110, some 111, none, some 112]), (3, 20, [some 89, some 90, some 91, some 92, some 93, some 94, some 95, some 96, some 97, some 98, some 99, some 100, some 101, some 102, some 103, some 104, some 105, some 106, some 107, some 108]), (0, 24, []), (0, 24, []), (0, 24, []), (0, 24, []), (0, 24, []), (0, 24, []), (0, 24, []), (0, 24, []), (0, 24, []), (0, 24, []), (0, 24, []), (0, 24, []), (0, 24, []), (0, 24, []), (0, 24, []), (0, 24, []), (0, 24, []), (0, 24, []), (0, 24, []), (0, 24, []), (0, 20, []), (0, 24, []), (0, 24, []), (0, 4, []), (7, 4, [some 114, some 117, some 120, none]), (3, 2, [some 115, some 116]), (0, 99, []), (0, 99, []), (3, 2, [some 118, some 119]), (0, 99, []), (0, 99, []), (0, 16, []), (8, 9, [some 122, some 127, some 128, some 129, some 130, some 131, none, some 132, some 133]), (3, 4, [some 123, some 124, some 125, some 126]), (0, 16, []), (0, 16, []), (0, 16, []), (0, 16, []), (0, 4, []), (0, 8, []), (0, 8, []), (0, 8, []), (0, 8, []), (2, 256, []), (2, 256, []), (0, 48, []), (16, 63, [none, none, some 136, none, some 137, some 138, some 139, none, some 140, some 141, some 142, some 143, some 144, some 145, some 146, some 147, none, some 148, none, some 149, some 150, some 151, some 152, some 153, none, some 154, some 155, some 156, none, some 157, some 158, some 159, none, none, none, none, some 160, none, some 161, some 162, some 163, some 164, none, none, some 165, some 166, none, some 167, some 168, some 169, some 170, some 171, some 172, some 173, none, some 174, some 175, some 176, some 177, some 178, some 179, some 180, none]), (0, 112, []), (0, 60, []), (0, 60, []), (0, 60, []), (0, 24, []), (0, 24, []), (0, 24, []), (0, 24, []), (0, 24, []), (0, 24, []), (0, 384, []), (0, 384, []), (0, 24, []), (0, 60, []), (0, 60, []), (0, 60, []), (0, 60, []), (0, 60, []), (1, 12, []), (0, 768, []), (0, 12, []), (0, 64, []), (0, 16, []), (0, 100, []), (0, 16, []), (0, 480, []), (0, 20, []), (0, 16, []), (0, 16, []), (0, 48, []), (0, 4, []), (0, 99, []), (0, 99, []), (0, 99, []), (0, 99, []), (1, 6, []), (0, 64, []), (0, 4, []), (0, 8, []), (0, 8, []), (0, 8, []), (0, 8, []), (0, 8, []), (0, 8, []), (0, 4, []), (2, 1, [])]
theorem xc_0 : xL0[0]? = some (15, 13, [some 1, some 13, some 46, some 52, some 54, some 58, some 74, some 79, some 87, some 113, some 121, some 134, none]) := rfl
theorem xc_1 : xL0[1]? = some (12, 7, [some 2, some 9, none, some 10, some 11, some 12, none]) := rfl
theorem xc_2 : xL0[2]? = some (3, 6, [some 3, some 4, some 5, some 6, some 7, some 8]) := rfl
theorem xc_9 : xL0[9]? = some (0, 16, []) := rfl
theorem xc_10 : xL0[10]? = some (0, 60, []) := rfl
theorem xc_11 : xL0[11]? = some (0, 60, []) := rfl
theorem xc_12 : xL0[12]? = some (0, 60, []) := rfl
theorem xc_13 : xL0[13]? = some (4, 9, [some 14, some 15, some 16, some 17, some 18, some 19, some 20, some 21, none]) := rfl
theorem xc_14 : xL0[14]? = some (0, 24, []) := rfl
theorem xc_15 : xL0[15]? = some (0, 24, []) := rfl
theorem xc_16 : xL0[16]? = some (0, 24, []) := rfl
theorem xc_17 : xL0[17]? = some (0, 24, []) := rfl
theorem xc_18 : xL0[18]? = some (0, 24, []) := rfl
theorem xc_19 : xL0[19]? = some (0, 24, []) := rfl
theorem xc_20 : xL0[20]? = some (0, 24, []) := rfl
theorem xc_21 : xL0[21]? = some (3, 24, [some 22, some 23, some 24, some 25, some 26, some 27, some 28, some 29, some 30, some 31, some 32, some 33, some 34, some 35, some 36, some 37, some 38, some 39, some 40, some 41, some 42, some 43, some 44, some 45]) := rfl
theorem xc_46 : xL0[46]? = some (9, 7, [some 47, some 48, some 49, some 50, some 51, none, none]) := rfl
theorem xc_47 : xL0[47]? = some (0, 60, []) := rfl
theorem xc_48 : xL0[48]? = some (0, 60, []) := rfl
theorem xc_49 : xL0[49]? = some (0, 60, []) := rfl
theorem xc_50 : xL0[50]? = some (0, 60, []) := rfl
theorem xc_51 : xL0[51]? = some (0, 60, []) := rfl
theorem xc_52 : xL0[52]? = some (13, 2, [some 53, none]) := rfl
theorem xc_53 : xL0[53]? = some (0, 100, []) := rfl
theorem xc_54 : xL0[54]? = some (11, 9, [some 55, none, some 56, none, some 57, none, none, none, none]) := rfl
theorem xc_55 : xL0[55]? = some (0, 64, []) := rfl
theorem xc_56 : xL0[56]? = some (0, 64, []) := rfl
theorem xc_57 : xL0[57]? = some (1, 64, []) := rfl
theorem xc_58 : xL0[58]? = some (14, 6, [some 59, some 71, some 72, some 73, none, none]) := rfl
theorem xc_59 : xL0[59]? = some (3, 11, [some 60, some 61, some 62, some 63, some 64, some 65, some 66, some 67, some 68, some 69, some 70]) := rfl
theorem xc_71 : xL0[71]? = some (0, 11, []) := rfl
theorem xc_72 : xL0[72]? = some (0, 26, []) := rfl
theorem xc_73 : xL0[73]? = some (0, 64, []) := rfl
theorem xc_74 : xL0[74]? = some (10, 5, [some 75, some 76, some 77, some 78, none]) := rfl
theorem xc_75 : xL0[75]? = some (0, 384, []) := rfl
theorem xc_76 : xL0[76]? = some (0, 384, []) := rfl
theorem xc_77 : xL0[77]? = some (0, 384, []) := rfl
theorem xc_78 : xL0[78]? = some (0, 16, []) := rfl
theorem xc_79 : xL0[79]? = some (5, 8, [some 80, some 81, some 82, some 83, some 84, none, some 85, some 86]) := rfl
theorem xc_80 : xL0[80]? = some (0, 16, []) := rfl
theorem xc_81 : xL0[81]? = some (0, 6, []) := rfl
theorem xc_82 : xL0[82]? = some (0, 6, []) := rfl
theorem xc_83 : xL0[83]? = some (0, 6, []) := rfl
theorem xc_84 : xL0[84]? = some (0, 6, []) := rfl
theorem xc_85 : xL0[85]? = some (0, 16, []) := rfl
theorem xc_86 : xL0[86]? = some (0, 16, []) := rfl
theorem xc_87 : xL0[87]? = some (6, 7, [some 88, some 109, none, some 110, some 111, none, some 112]) := rfl
theorem xc_88 : xL0[88]? = some (3, 20, [some 89, some 90, some 91, some 92, some 93, some 94, some 95, some 96, some 97, some 98, some 99, some 100, some 101, some 102, some 103, some 104, some 105, some 106, some 107, some 108]) := rfl
theorem xc_109 : xL0[109]? = some (0, 20, []) := rfl
theorem xc_110 : xL0[110]? = some (0, 24, []) := rfl
theorem xc_111 : xL0[111]? = some (0, 24, []) := rfl
theorem xc_112 : xL0[112]? = some (0, 4, []) := rfl
theorem xc_113 : xL0[113]? = some (7, 4, [some 114, some 117, some 120, none]) := rfl
theorem xc_114 : xL0[114]? = some (3, 2, [some 115, some 116]) := rfl
theorem xc_117 : xL0[117]? = some (3, 2, [some 118, some 119]) := rfl
theorem xc_120 : xL0[120]? = some (0, 16, []) := rfl
theorem xc_121 : xL0[121]? = some (8, 9, [some 122, some 127, some 128, some 129, some 130, some 131, none, some 132, some 133]) := rfl
theorem xc_122 : xL0[122]? = some (3, 4, [some 123, some 124, some 125, some 126]) := rfl
theorem xc_127 : xL0[127]? = some (0, 4, []) := rfl
theorem xc_128 : xL0[128]? = some (0, 8, []) := rfl
theorem xc_129 : xL0[129]? = some (0, 8, []) := rfl
theorem xc_130 : xL0[130]? = some (0, 8, []) := rfl
theorem xc_131 : xL0[131]? = some (0, 8, []) := rfl
theorem xc_132 : xL0[132]? = some (2, 256, []) := rfl
theorem xc_133 : xL0[133]? = some (2, 256, []) := rfl
theorem xc_134 : xL0[134]? = some (0, 48, []) := rfl
theorem xc_135 : xL0[135]? = some (16, 63, [none, none, some 136, none, some 137, some 138, some 139, none, some 140, some 141, some 142, some 143, some 144, some 145, some 146, some 147, none, some 148, none, some 149, some 150, some 151, some 152, some 153, none, some 154, some 155, some 156, none, some 157, some 158, some 159, none, none, none, none, some 160, none, some 161, some 162, some 163, some 164, none, none, some 165, some 166, none, some 167, some 168, some 169, some 170, some 171, some 172, some 173, none, some 174, some 175, some 176, some 177, some 178, some 179, some 180, none]) := rfl
theorem xc_136 : xL0[136]? = some (0, 112, []) := rfl
theorem xc_137 : xL0[137]? = some (0, 60, []) := rfl
theorem xc_138 : xL0[138]? = some (0, 60, []) := rfl
theorem xc_139 : xL0[139]? = some (0, 60, []) := rfl
theorem xc_140 : xL0[140]? = some (0, 24, []) := rfl
theorem xc_141 : xL0[141]? = some (0, 24, []) := rfl
theorem xc_142 : xL0[142]? = some (0, 24, []) := rfl
theorem xc_143 : xL0[143]? = some (0, 24, []) := rfl
theorem xc_144 : xL0[144]? = some (0, 24, []) := rfl
theorem xc_145 : xL0[145]? = some (0, 24, []) := rfl
theorem xc_146 : xL0[146]? = some (0, 384, []) := rfl
theorem xc_147 : xL0[147]? = some (0, 384, []) := rfl
theorem xc_148 : xL0[148]? = some (0, 24, []) := rfl
theorem xc_149 : xL0[149]? = some (0, 60, []) := rfl
theorem xc_150 : xL0[150]? = some (0, 60, []) := rfl
theorem xc_151 : xL0[151]? = some (0, 60, []) := rfl
theorem xc_152 : xL0[152]? = some (0, 60, []) := rfl
theorem xc_153 : xL0[153]? = some (0, 60, []) := rfl
theorem xc_154 : xL0[154]? = some (1, 12, []) := rfl
theorem xc_155 : xL0[155]? = some (0, 768, []) := rfl
theorem xc_156 : xL0[156]? = some (0, 12, []) := rfl
theorem xc_157 : xL0[157]? = some (0, 64, []) := rfl
theorem xc_158 : xL0[158]? = some (0, 16, []) := rfl
theorem xc_159 : xL0[159]? = some (0, 100, []) := rfl
theorem xc_160 : xL0[160]? = some (0, 16, []) := rfl
theorem xc_161 : xL0[161]? = some (0, 480, []) := rfl
theorem xc_162 : xL0[162]? = some (0, 20, []) := rfl
theorem xc_163 : xL0[163]? = some (0, 16, []) := rfl
theorem xc_164 : xL0[164]? = some (0, 16, []) := rfl
theorem xc_165 : xL0[165]? = some (0, 48, []) := rfl
theorem xc_166 : xL0[166]? = some (0, 4, []) := rfl
theorem xc_167 : xL0[167]? = some (0, 99, []) := rfl
theorem xc_168 : xL0[168]? = some (0, 99, []) := rfl
theorem xc_169 : xL0[169]? = some (0, 99, []) := rfl
theorem xc_170 : xL0[170]? = some (0, 99, []) := rfl
theorem xc_171 : xL0[171]? = some (1, 6, []) := rfl
theorem xc_172 : xL0[172]? = some (0, 64, []) := rfl
theorem xc_173 : xL0[173]? = some (0, 4, []) := rfl
theorem xc_174 : xL0[174]? = some (0, 8, []) := rfl
theorem xc_175 : xL0[175]? = some (0, 8, []) := rfl
theorem xc_176 : xL0[176]? = some (0, 8, []) := rfl
theorem xc_177 : xL0[177]? = some (0, 8, []) := rfl
theorem xc_178 : xL0[178]? = some (0, 8, []) := rfl
theorem xc_179 : xL0[179]? = some (0, 8, []) := rfl
theorem xc_180 : xL0[180]? = some (0, 4, []) := rfl
theorem xc_181 : xL0[181]? = some (2, 1, []) := rfl
theorem xc_3 : xL0[3]? = some (0, 16, []) := rfl
theorem xc_4 : xL0[4]? = some (0, 16, []) := rfl
theorem xc_5 : xL0[5]? = some (0, 16, []) := rfl
theorem xc_6 : xL0[6]? = some (0, 16, []) := rfl
theorem xc_7 : xL0[7]? = some (0, 16, []) := rfl
theorem xc_8 : xL0[8]? = some (0, 16, []) := rfl
theorem xrow_2 : ∀ i, i < 6 → xL0[3 + i]? = some (0, 16, []) := by decide +kernel
theorem xrf_2 : ∀ i, i < 6 → ([some 3, some 4, some 5, some 6, some 7, some 8] : List (Option Nat)).getD i none = some (3 + i) := by decide +kernel
theorem xc_22 : xL0[22]? = some (0, 16, []) := rfl
theorem xc_23 : xL0[23]? = some (0, 16, []) := rfl
theorem xc_24 : xL0[24]? = some (0, 16, []) := rfl
theorem xc_25 : xL0[25]? = some (0, 16, []) := rfl
theorem xc_26 : xL0[26]? = some (0, 16, []) := rfl
theorem xc_27 : xL0[27]? = some (0, 16, []) := rfl
theorem xc_28 : xL0[28]? = some (0, 16, []) := rfl
theorem xc_29 : xL0[29]? = some (0, 16, []) := rfl
theorem xc_30 : xL0[30]? = some (0, 16, []) := rfl
theorem xc_31 : xL0[31]? = some (0, 16, []) := rfl
theorem xc_32 : xL0[32]? = some (0, 16, []) := rfl
theorem xc_33 : xL0[33]? = some (0, 16, []) := rfl
theorem xc_34 : xL0[34]? = some (0, 16, []) := rfl
theorem xc_35 : xL0[35]? = some (0, 16, []) := rfl
theorem xc_36 : xL0[36]? = some (0, 16, []) := rfl
theorem xc_37 : xL0[37]? = some (0, 16, []) := rfl
theorem xc_38 : xL0[38]? = some (0, 16, []) := rfl
theorem xc_39 : xL0[39]? = some (0, 16, []) := rfl
theorem xc_40 : xL0[40]? = some (0, 16, []) := rfl
theorem xc_41 : xL0[41]? = some (0, 16, []) := rfl
theorem xc_42 : xL0[42]? = some (0, 16, []) := rfl
theorem xc_43 : xL0[43]? = some (0, 16, []) := rfl
theorem xc_44 : xL0[44]? = some (0, 16, []) := rfl
theorem xc_45 : xL0[45]? = some (0, 16, []) := rfl
theorem xrow_21 : ∀ i, i < 24 → xL0[22 + i]? = some (0, 16, []) := by decide +kernel
theorem xrf_21 : ∀ i, i < 24 → ([some 22, some 23, some 24, some 25, some 26, some 27, some 28, some 29, some 30, some 31, some 32, some 33, some 34, some 35, some 36, some 37, some 38, some 39, some 40, some 41, some 42, some 43, some 44, some 45] : List (Option Nat)).getD i none = some (22 + i) := by decide +kernel
theorem xc_60 : xL0[60]? = some (0, 64, []) := rfl
theorem xc_61 : xL0[61]? = some (0, 64, []) := rfl
theorem xc_62 : xL0[62]? = some (0, 64, []) := rfl
theorem xc_63 : xL0[63]? = some (0, 64, []) := rfl
theorem xc_64 : xL0[64]? = some (0, 64, []) := rfl
theorem xc_65 : xL0[65]? = some (0, 64, []) := rfl
theorem xc_66 : xL0[66]? = some (0, 64, []) := rfl
theorem xc_67 : xL0[67]? = some (0, 64, []) := rfl
theorem xc_68 : xL0[68]? = some (0, 64, []) := rfl
theorem xc_69 : xL0[69]? = some (0, 64, []) := rfl
theorem xc_70 : xL0[70]? = some (0, 64, []) := rfl
theorem xrow_59 : ∀ i, i < 11 → xL0[60 + i]? = some (0, 64, []) := by decide +kernel
theorem xrf_59 : ∀ i, i < 11 → ([some 60, some 61, some 62, some 63, some 64, some 65, some 66, some 67, some 68, some 69, some 70] : List (Option Nat)).getD i none = some (60 + i) := by decide +kernel
theorem xc_89 : xL0[89]? = some (0, 24, []) := rfl
theorem xc_90 : xL0[90]? = some (0, 24, []) := rfl
theorem xc_91 : xL0[91]? = some (0, 24, []) := rfl
theorem xc_92 : xL0[92]? = some (0, 24, []) := rfl
theorem xc_93 : xL0[93]? = some (0, 24, []) := rfl
theorem xc_94 : xL0[94]? = some (0, 24, []) := rfl
theorem xc_95 : xL0[95]? = some (0, 24, []) := rfl
theorem xc_96 : xL0[96]? = some (0, 24, []) := rfl
theorem xc_97 : xL0[97]? = some (0, 24, []) := rfl
theorem xc_98 : xL0[98]? = some (0, 24, []) := rfl
theorem xc_99 : xL0[99]? = some (0, 24, []) := rfl
theorem xc_100 : xL0[100]? = some (0, 24, []) := rfl
theorem xc_101 : xL0[101]? = some (0, 24, []) := rfl
theorem xc_102 : xL0[102]? = some (0, 24, []) := rfl
theorem xc_103 : xL0[103]? = some (0, 24, []) := rfl
theorem xc_104 : xL0[104]? = some (0, 24, []) := rfl
theorem xc_105 : xL0[105]? = some (0, 24, []) := rfl
theorem xc_106 : xL0[106]? = some (0, 24, []) := rfl
theorem xc_107 : xL0[107]? = some (0, 24, []) := rfl
theorem xc_108 : xL0[108]? = some (0, 24, []) := rfl
theorem xrow_88 : ∀ i, i < 20 → xL0[89 + i]? = some (0, 24, []) := by decide +kernel
theorem xrf_88 : ∀ i, i < 20 → ([some 89, some 90, some 91, some 92, some 93, some 94, some 95, some 96, some 97, some 98, some 99, some 100, some 101, some 102, some 103, some 104, some 105, some 106, some 107, some 108] : List (Option Nat)).getD i none = some (89 + i) := by decide +kernel
theorem xc_115 : xL0[115]? = some (0, 99, []) := rfl
theorem xc_116 : xL0[116]? = some (0, 99, []) := rfl
theorem xrow_114 : ∀ i, i < 2 → xL0[115 + i]? = some (0, 99, []) := by decide +kernel
theorem xrf_114 : ∀ i, i < 2 → ([some 115, some 116] : List (Option Nat)).getD i none = some (115 + i) := by decide +kernel
theorem xc_118 : xL0[118]? = some (0, 99, []) := rfl
theorem xc_119 : xL0[119]? = some (0, 99, []) := rfl
theorem xrow_117 : ∀ i, i < 2 → xL0[118 + i]? = some (0, 99, []) := by decide +kernel
theorem xrf_117 : ∀ i, i < 2 → ([some 118, some 119] : List (Option Nat)).getD i none = some (118 + i) := by decide +kernel
theorem xc_123 : xL0[123]? = some (0, 16, []) := rfl
theorem xc_124 : xL0[124]? = some (0, 16, []) := rfl
theorem xc_125 : xL0[125]? = some (0, 16, []) := rfl
theorem xc_126 : xL0[126]? = some (0, 16, []) := rfl
theorem xrow_122 : ∀ i, i < 4 → xL0[123 + i]? = some (0, 16, []) := by decide +kernel
theorem xrf_122 : ∀ i, i < 4 → ([some 123, some 124, some 125, some 126] : List (Option Nat)).getD i none = some (123 + i) := by decide +kernel
def xisI (k : Nat) : Bool := match xL0[k]? with
  | some (0, _, _) => true
  | _ => false
def xisJ (k : Nat) : Bool := match xL0[k]? with
  | some (2, _, _) => true
  | _ => false
def xlen (k : Nat) : Nat := match xL0[k]? with
  | some (_, n, _) => n
  | _ => 0
theorem xisI_of {k : Nat} (h : xisI k = true) : ∃ rf, xL0[k]? = some (0, xlen k, rf) := by
  unfold xisI at h
  unfold xlen
  split at h
  · rename_i n rf e
    exact ⟨rf, by rw [e]⟩
  · cases h
theorem xisJ_of {k : Nat} (h : xisJ k = true) : ∃ rf, xL0[k]? = some (2, xlen k, rf) := by
  unfold xisJ at h
  unfold xlen
  split at h
  · rename_i n rf e
    exact ⟨rf, by rw [e]⟩
  · cases h
