/-! making cells -/
def x_refsB (G : List xC) : Bool := G.all fun c => c.2.2.all fun o => match o with
  | none => true
  | some a => decide (a < G.length)
theorem x_refs_of {G : List xC} (h : x_refsB G = true) : x_refs G := by
  intro k c hk j a hj
  have h1 := List.all_eq_true.mp h c (List.mem_of_getElem? hk)
  rw [List.getD_eq_getElem?_getD] at hj
  cases ho : c.2.2[j]? with
  | none => rw [ho] at hj; cases hj
  | some o =>
    rw [ho] at hj
    have h2 := List.all_eq_true.mp h1 o (List.mem_of_getElem? ho)
    simp only [Option.getD_some] at hj
    subst hj
    simpa using h2
/-- no reference of the stretch lo .. hi - 1 -/
def x_vB (lo hi : Nat) : Value → Bool
  | .ref k => !(decide (lo ≤ k) && decide (k < hi))
  | _ => true
def x_LB (lo hi : Nat) (L : xL) : Bool := L.all fun o => match o with
  | none => true
  | some v => x_vB lo hi v
theorem x_v_eq {ad ad' : Nat → Nat} {lo hi : Nat} {v : Value} (h : ∀ j, ¬ (lo ≤ j ∧ j < hi) → ad' j = ad j) (hv : x_vB lo hi v = true) : x_v ad' v = x_v ad v := by
  cases v with
  | ref k =>
    have hk : ¬ (lo ≤ k ∧ k < hi) := by
      intro hh
      simp [x_vB, hh.1, hh.2] at hv
    show Value.ref (ad' k) = .ref (ad k)
    rw [h k hk]
  | _ => rfl
theorem x_ls_eq {ad ad' : Nat → Nat} {lo hi : Nat} (h : ∀ j, ¬ (lo ≤ j ∧ j < hi) → ad' j = ad j) : ∀ (L : xL) (b : Nat), x_LB lo hi L = true → x_ls ad' b L = x_ls ad b L
  | [], _, _ => rfl
  | none :: t, b, hL => by
    simp only [x_LB, List.all_cons, Bool.and_eq_true] at hL
    rw [x_ls, x_ls, x_ls_eq h t (b + 1) hL.2]
  | some v :: t, b, hL => by
    simp only [x_LB, List.all_cons, Bool.and_eq_true] at hL
    rw [x_ls, x_ls, x_ls_eq h t (b + 1) hL.2, x_v_eq h hL.1]
theorem x_st_eq {ad ad' : Nat → Nat} {lo hi : Nat} (h : ∀ j, ¬ (lo ≤ j ∧ j < hi) → ad' j = ad j) {st : List Value} (hs : st.all (x_vB lo hi) = true) : st.map (x_v ad') = st.map (x_v ad) :=
  List.map_congr_left fun v hv => x_v_eq h (List.all_eq_true.mp hs v hv)
theorem xFor.ad {sc : Nat × (Nat → Int32)} {s : State} {A : Nat → Prop} {ad ad' : Nat → Nat} (hj : ∀ j, 1000 ≤ j → ad' j = ad j) (h : xFor sc s A ad) : xFor sc s A ad' := by
  have e1 : (fun i => ad' (1010 + i)) = fun i => ad (1010 + i) := funext fun i => hj _ (by omega)
  have e2 : (fun i => ad' (1020 + i)) = fun i => ad (1020 + i) := funext fun i => hj _ (by omega)
  have e3 : ∀ i, ad' (1010 + i) = ad (1010 + i) := fun i => hj _ (by omega)
  unfold xFor at h ⊢
  simp only [hj 1000 (by omega), hj 1001 (by omega), e3]
  rw [e2]
  exact h
/-- addresses behind a making -/
def x_adp (ad : Nat → Nat) (n : Nat) (as : List Nat) : Nat → Nat := fun j => if n ≤ j ∧ j < n + as.length then as.getD (j - n) 0 else ad j
theorem x_w_grow {cA : Nat → ClassId} {ad : Nat → Nat} {G : List xC} {u : xS} (as : List Nat) (cs : List xC) (hl : as.length = cs.length) (hr : x_refs G) :
    x_w cA (x_adp ad G.length as) (G ++ cs, u) = x_w cA ad (G, u) ++ (List.range cs.length).map fun i => (as.getD i 0, x_e cA (x_adp ad G.length as) u (G.length + i) (cs.getD i (0, 0, []))) := by
  have hout : ∀ k, k < G.length → x_adp ad G.length as k = ad k := fun k hk => if_neg (by omega)
  apply List.ext_getElem?
  intro k
  by_cases hk : k < G.length
  · have h1 : G[k]? = some G[k] := List.getElem?_eq_getElem hk
    rw [x_w_at (μ := (G ++ cs, u)) (c := G[k]) (by rw [List.getElem?_append_left hk]; exact h1), List.getElem?_append_left (by rw [x_w_len]; exact hk), x_w_at (μ := (G, u)) h1, hout k hk]
    rw [x_e_ad fun j a hj => hout a (hr k _ h1 j a hj)]
  · by_cases hk2 : k < G.length + cs.length
    · have h2 : k - G.length < cs.length := by omega
      have h1 : cs[k - G.length]? = some cs[k - G.length] := List.getElem?_eq_getElem h2
      rw [x_w_at (μ := (G ++ cs, u)) (c := cs[k - G.length]) (by rw [List.getElem?_append_right (by omega)]; exact h1), List.getElem?_append_right (by rw [x_w_len]; exact Nat.not_lt.mp hk), x_w_len, List.getElem?_map, List.getElem?_range h2]
      show some (x_adp ad G.length as k, _) = some (_, _)
      have e1 : x_adp ad G.length as k = as.getD (k - G.length) 0 := if_pos (by omega)
      have e2 : cs.getD (k - G.length) (0, 0, []) = cs[k - G.length] := by rw [List.getD_eq_getElem?_getD, h1]; rfl
      rw [e1, e2, show G.length + (k - G.length) = k by omega]
    · rw [x_w_out (by show (G ++ cs).length ≤ k; rw [List.length_append]; omega), List.getElem?_append_right (by rw [x_w_len]; exact Nat.not_lt.mp hk)]
      have : cs.length ≤ k - G.length := by omega
      simp [x_w_len, this]
section XN
variable {sc : Nat × (Nat → Int32)} {k : xm} {d mc ms : Nat} {Q : xE} {cl sl pc : Nat} {L L' : xL} {st : List Value} {μ : xM}
theorem g_objInit {c0 idx : Nat} (hd : decode k.2.1 pc = .ok (.invokespecial idx, 3)) (hw1 : Cond.methodLink k.1.cls idx objectInit ∈ xW) (hw2 : Cond.instanceMethod objectInit ∈ xW) (hw3 : Cond.code objectInit ⟨#[0xb1]⟩ 1 none ∈ xW) (hs8 : (st.map fun v => v.category).sum ≤ 8) (hdd : 1 ≤ d) (h : xG sc k d mc ms Q cl sl (pc + 3) L st μ) : xG sc k d mc ms Q cl sl pc L (.ref c0 :: st) μ := by
  intro p l e R s m args below meth c X D cA n0 ad0 ad A H locs ls hn ha hR hl
  obtain ⟨hx, hb, hr, hm, hown, hts, hlk, hnm, hfr, hlo, hce, hsl0⟩ := id X
  refine W.objInit hx hb hown (hts _ hw1) (hts _ hw2) (hts _ hw3) rfl (by rw [hm]; exact hl.1) rfl hd (by omega) ?_ ?_
  · rw [x_catsum]
    show 2 * 0 + _ + 12 ≤ _
    omega
  · exact W.eq rfl (h p l e R s m args below meth c X D cA n0 ad0 ad A H locs ls hn ha hR hl)
theorem x_grown {sc : Nat × (Nat → Int32)} {D : va_G} {cA : Nat → ClassId} {ad : Nat → Nat} {A : Nat → Prop} {G cs : List xC} {u : xS} {s : State} {H1 : Heap} {locs1 : List Loc} {as : List Nat} (hl : as.length = cs.length) (hr : x_refs G) (hlen : G.length + cs.length ≤ 1000) (hK : va_K D vwCl (x_tys cA) s)
    (hP : va_P D vwCl (x_w cA ad (G, u) ++ (List.range cs.length).map fun i => (as.getD i 0, x_e cA (x_adp ad G.length as) u (G.length + i) (cs.getD i (0, 0, [])))) H1) (hD : va_D A (x_w cA ad (G, u) ++ (List.range cs.length).map fun i => (as.getD i 0, x_e cA (x_adp ad G.length as) u (G.length + i) (cs.getD i (0, 0, []))))) (hS : va_S A s.heap H1 locs1) (hA : ∀ q, s.heap.size ≤ q → A q) (hF : xFor sc s A ad) :
    xRel sc D cA (x_adp ad G.length as) A (G ++ cs, u) s H1 locs1 := by
  refine ⟨hK, ?_, ?_, hS, hA, hF.ad fun j hj => if_neg (by omega)⟩
  · rw [x_w_grow as cs hl hr]
    exact hP
  · rw [x_w_grow as cs hl hr]
    exact hD
theorem g_new (ci : Nat) {idx : Nat} {C : String} {T : u_T} {N : Nat} {G G' : List xC} {u : xS} (hd : decode k.2.1 pc = .ok (.new idx, 3)) (hw1 : Cond.classLink k.1.cls idx C ∈ xW) (hw2 : Cond.instantiable C N ∈ xW) (hw3 : Cond.initialized C ∈ xW) (hq : vwCl[ci]? = some (C, T, N)) (hdef : ∀ j, j < N → defaultValue (x_fty ci j) = if x_isR (x_fty ci j) = true then Value.null else .int 0) (hz : ∀ j, rd u G.length j = 0)
    (hr : x_refsB G = true) (hlen : G.length < 1000) (hL : x_LB G.length (G.length + 1) L = true) (hs : st.all (x_vB G.length (G.length + 1)) = true) (hc : cl + 1 ≤ mc) (hsl : sl + N ≤ ms) (hG : G ++ [(ci + 4, N, List.replicate N none)] = G')
    (h : xG sc k d mc ms Q (cl + 1) (sl + N) (pc + 3) L (.ref G.length :: st) (G', u)) : xG sc k d mc ms Q cl sl pc L st (G, u) := by
  subst hG
  intro p l e R s m args below meth c X D cA n0 ad0 ad A H locs ls hn ha hR hl
  obtain ⟨hx, hb, hrt, hm, hown, hts, hlk, hnm, hfr, hlo, hce, hsl0⟩ := id X
  obtain ⟨hK, hP, hD, hS, hA, hF⟩ := id hR
  have hrf : ∀ j, (List.replicate N (none : Option Nat)).getD j none = none := fun j => by
    rw [List.getD_eq_getElem?_getD, List.getElem?_replicate]
    split <;> rfl
  refine va_new (fs := x_fs ad (u.1 G.length) ci (List.replicate N none)) hx hb hts (x_class ci _ hq).1 (x_fty ci) (x_class ci _ hq).2.1 hown (hts _ hw1) (hts _ hw2) (hts _ hw3) hK hP hD hS hA hq ?_ (by omega) (by show sl + N ≤ R.slots; omega) hd fun q H1 hP1 hD1 hS1 => ?_
  · intro j hj
    show _ = (x_fs ad (u.1 G.length) ci (List.replicate N none)).getD j .null
    rw [List.getD_eq_getElem?_getD, x_fs_at hq hj, hdef j hj, hrf]
    have : u.1 G.length j = 0 := hz j
    rw [this]
    rfl
  · have had : ∀ j, ¬ (G.length ≤ j ∧ j < G.length + 1) → x_adp ad G.length [q] j = ad j := fun j hj => if_neg (by simpa using hj)
    have hself : x_adp ad G.length [q] G.length = q := by simp [x_adp]
    have e1 : ((List.range [((ci + 4, N, List.replicate N none) : xC)].length).map fun i => ([q].getD i 0, x_e cA (x_adp ad G.length [q]) u (G.length + i) ([((ci + 4, N, List.replicate N none) : xC)].getD i (0, 0, [])))) = [(q, .inr (ci, x_fs ad (u.1 G.length) ci (List.replicate N none)))] := by
      show [(q, x_e cA (x_adp ad G.length [q]) u (G.length + 0) (ci + 4, N, List.replicate N none))] = _
      rw [x_e_ad (ad := ad) fun j a hj => by rw [show ((ci + 4, N, List.replicate N none) : xC).2.2 = List.replicate N none from rfl, hrf] at hj; cases hj]
      rfl
    have hG1 := x_grown (sc := sc) (as := [q]) (cs := [(ci + 4, N, List.replicate N none)]) rfl (x_refs_of hr) (by simp; omega) hK (by rw [e1]; exact hP1) (by rw [e1]; exact hD1) hS1 hA hF
    have h9 := h p l e R s m args below meth c X D cA n0 ad0 (x_adp ad G.length [q]) A H1 locs ls (by show n0 ≤ (G ++ _).length; have : n0 ≤ G.length := hn; simp; omega) (fun j hj => by
      have hn' : n0 ≤ G.length := hn
      have hj' : ¬ (n0 ≤ j ∧ j < G.length + 1) := by simpa using hj
      rw [had j (by omega)]
      exact ha j (by show ¬ (n0 ≤ j ∧ j < G.length); omega)) hG1 (by rw [x_ls_eq had L 0 hL]; exact hl)
    rw [List.map_cons, x_st_eq had hs, show x_v (x_adp ad G.length [q]) (.ref G.length) = .ref q by simp [x_v, hself]] at h9
    exact h9
theorem g_newarray (t : Nat) {atype : ArrayType} {n : Int32} {N : Nat} {G G' : List xC} {u : xS} (hd : decode k.2.1 pc = .ok (.newarray atype, 2)) (hw1 : Cond.arrayClass (newarray.typeOf atype) ∈ xW) (ht : t < 3) (hty : newarray.typeOf atype = x_ty t) (hz : ∀ j, rd u G.length j = 0) (hz2 : ∀ j, rl u G.length j = 0)
    (hn0 : ¬ n < 0) (hN : n.toNatClampNeg = N) (hbytes : N * componentBytes (newarray.typeOf atype) ≤ 536870912) (hr : x_refsB G = true) (hlen : G.length < 1000) (hL : x_LB G.length (G.length + 1) L = true) (hs : st.all (x_vB G.length (G.length + 1)) = true) (hc : cl + 1 ≤ mc) (hsl : sl + N ≤ ms) (hG : G ++ [(t, N, [])] = G')
    (h : xG sc k d mc ms Q (cl + 1) (sl + N) (pc + 2) L (.ref G.length :: st) (G', u)) : xG sc k d mc ms Q cl sl pc L (.int n :: st) (G, u) := by
  subst hG
  intro p l e R s m args below meth c X D cA n0 ad0 ad A H locs ls hn ha hR hl
  obtain ⟨hx, hb, hrt, hm, hown, hts, hlk, hnm, hfr, hlo, hce, hsl0⟩ := id X
  obtain ⟨hK, hP, hD, hS, hA, hF⟩ := id hR
  refine va_newaK hx hb (hts _ hw1) rfl hd rfl hn0 hN hbytes (by omega) (by omega) rfl fun H1 cA1 e1 z1 o1 hAr hNm => ?_
  have hcA : cA1 = cA t := by
    match t, ht, hty with
    | 0, _, hty => rw [hty] at hNm; have := (hK.2 0 _ rfl).2; exact Option.some.inj (hNm.symm.trans this)
    | 1, _, hty => rw [hty] at hNm; have := (hK.2 1 _ rfl).2; exact Option.some.inj (hNm.symm.trans this)
    | 2, _, hty => rw [hty] at hNm; have := (hK.2 2 _ rfl).2; exact Option.some.inj (hNm.symm.trans this)
  subst hcA
  have hk : ∀ (k9 : Nat) (x : Nat × va_E), (x_w cA ad (G, u))[k9]? = some x → H1[x.1]? = H[x.1]? := fun k9 x hx => o1 x.1 ((hP k9 x hx).lt)
  have had : ∀ j, ¬ (G.length ≤ j ∧ j < G.length + 1) → x_adp ad G.length [H.size] j = ad j := fun j hj => if_neg (by simpa using hj)
  have hself : x_adp ad G.length [H.size] G.length = H.size := by simp [x_adp]
  obtain ⟨E, hE, hcell⟩ : ∃ E : va_E, x_e cA (x_adp ad G.length [H.size]) u G.length (t, N, []) = E ∧ va_at D vwCl (H.size, E) H1 := by
    refine ⟨_, rfl, ?_⟩
    match t, ht, hty with
    | 0, _, hty =>
      show H1[H.size]? = some (vp_cell _ _)
      rw [e1, hty, vp_cell_i]
      congr 2
      funext j
      have : u.1 G.length j = 0 := hz j
      rw [this]
      rfl
    | 1, _, hty =>
      show H1[H.size]? = some (vp_cell _ _)
      rw [e1, hty, vp_cell_i]
      congr 2
      funext j
      have : u.1 G.length j = 0 := hz j
      rw [this]
      rfl
    | 2, _, hty =>
      show H1[H.size]? = some (vp_cell _ _)
      rw [e1, hty, vp_cell_l]
      congr 2
      funext j
      have : u.2 G.length j = 0 := hz2 j
      rw [this]
      rfl
  have e2 : ((List.range [((t, N, []) : xC)].length).map fun i => ([H.size].getD i 0, x_e cA (x_adp ad G.length [H.size]) u (G.length + i) ([((t, N, []) : xC)].getD i (0, 0, [])))) = [(H.size, E)] := by
    show [(H.size, x_e cA (x_adp ad G.length [H.size]) u (G.length + 0) (t, N, []))] = _
    rw [show G.length + 0 = G.length from rfl, hE]
  have hG1 := x_grown (sc := sc) (as := [H.size]) (cs := [(t, N, [])]) (H1 := H1) (locs1 := locs) rfl (x_refs_of hr) (by simp; omega) hK (by
      rw [e2]
      refine (hP.kept hk).app fun k9 x hx => ?_
      have hz9 : k9 < 1 := (List.getElem?_eq_some_iff.mp hx).1
      rw [show k9 = 0 by omega] at hx
      cases hx
      exact hcell) (by rw [e2]; exact hD.push hP rfl (hA _ hS.1)) ⟨Nat.le_trans hS.1 (by omega), fun x h1 h2 => (o1 x (Nat.lt_of_lt_of_le h1 hS.1)).trans (hS.2.1 x h1 h2), hS.2.2⟩ hA hF
  have h9 := h p l e R s m args below meth c X D cA n0 ad0 (x_adp ad G.length [H.size]) A H1 locs ls (by show n0 ≤ (G ++ _).length; have : n0 ≤ G.length := hn; simp; omega) (fun j hj => by
      have hn' : n0 ≤ G.length := hn
      have hj' : ¬ (n0 ≤ j ∧ j < G.length + 1) := by simpa using hj
      rw [had j (by omega)]
      exact ha j (by show ¬ (n0 ≤ j ∧ j < G.length); omega)) hG1 (by rw [x_ls_eq had L 0 hL]; exact hl)
  rw [List.map_cons, x_st_eq had hs, show x_v (x_adp ad G.length [H.size]) (.ref G.length) = .ref H.size by simp [x_v, hself]] at h9
  exact h9
theorem g_mna {idx : Nat} {n kk : Int32} {N K : Nat} {G G' : List xC} {u : xS} (hd : decode k.2.1 pc = .ok (.multianewarray idx 2, 4)) (hw1 : Cond.classLink k.1.cls idx "[[I" ∈ xW) (hw3 : Cond.arrayClass .int ∈ xW) (hz : ∀ i, i < N → ∀ j, rd u (G.length + 1 + i) j = 0)
    (hn0 : ¬ n < 0) (hk0 : ¬ kk < 0) (hN : n.toNatClampNeg = N) (hKK : kk.toNatClampNeg = K) (hb1 : N ≤ 1000) (hb2 : K ≤ 1000) (hr : x_refsB G = true) (hlen : G.length + 1 + N ≤ 1000) (hL : x_LB G.length (G.length + 1 + N) L = true) (hs : st.all (x_vB G.length (G.length + 1 + N)) = true) (hc : cl + 1 + N ≤ mc) (hsl : sl + N + N * K ≤ ms)
    (hG : G ++ ((3, N, (List.range N).map fun i => some (G.length + 1 + i)) :: List.replicate N (0, K, [])) = G')
    (h : xG sc k d mc ms Q (cl + 1 + N) (sl + N + N * K) (pc + 4) L (.ref G.length :: st) (G', u)) : xG sc k d mc ms Q cl sl pc L (.int kk :: .int n :: st) (G, u) := by
  subst hG
  intro p l e R s m args below meth c X D cA n0 ad0 ad A H locs ls hn ha hR hl
  obtain ⟨hx, hb, hrt, hm, hown, hts, hlk, hnm, hfr, hlo, hce, hsl0⟩ := id X
  obtain ⟨hK, hP, hD, hS, hA, hF⟩ := id hR
  have hb9 : K * componentBytes .int ≤ 536870912 := by
    show K * 4 ≤ _
    omega
  refine va_mna (X := x_w cA ad (G, u)) (L := []) (f := fun _ => .inr (0, [])) (ty := .int) (cy := cA 0) (z := (K, .inl fun _ => 0)) hx hb hown (hts _ hw1) hF.2.2.2.2.2.2.2.1 (hts _ hw3) ((hK.2 0 _ rfl).2) hK (by simpa [va_pl] using hP) (by simpa [va_pl] using hD) hS hA hn0 hk0 hN hKK (by omega) hb9 (by omega) rfl rfl (by omega) (by omega) (fun c => ?_) hd fun q r cA1 H1 hinj hnl hK2 hP1 hD1 hS1 => ?_
  · rw [vp_cell_i]
    show _ = arrV c K (fun _ => defaultValue .int)
    rw [← arrV_new]
    rfl
  · have hcA : cA1 = cA 3 := by
      have h1 := (hK2.2 4 _ rfl).2
      have h2 := (hK.2 3 _ rfl).2
      exact Option.some.inj (h1.symm.trans h2)
    subst hcA
    generalize has : q :: (List.range N).map r = as
    have hal : as.length = N + 1 := by rw [← has]; simp
    have had : ∀ j, ¬ (G.length ≤ j ∧ j < G.length + 1 + N) → x_adp ad G.length as j = ad j := fun j hj => if_neg (by omega)
    have hself : x_adp ad G.length as G.length = q := by
      have : x_adp ad G.length as G.length = as.getD (G.length - G.length) 0 := if_pos (by omega)
      rw [this, Nat.sub_self, ← has]
      rfl
    have hrow : ∀ i, i < N → x_adp ad G.length as (G.length + 1 + i) = r i := by
      intro i hi
      have : x_adp ad G.length as (G.length + 1 + i) = as.getD (G.length + 1 + i - G.length) 0 := if_pos (by omega)
      rw [this, show G.length + 1 + i - G.length = i + 1 by omega, ← has, List.getD_cons_succ, List.getD_eq_getElem?_getD, List.getElem?_map, List.getElem?_range hi]
      rfl
    generalize hcs : ((3, N, (List.range N).map fun i => some (G.length + 1 + i)) :: List.replicate N (0, K, []) : List xC) = cs
    have hcl : cs.length = N + 1 := by rw [← hcs]; simp
    have e2 : ((List.range cs.length).map fun i => (as.getD i 0, x_e cA (x_adp ad G.length as) u (G.length + i) (cs.getD i (0, 0, [])))) = [(q, .inl (cA 3, N, .inr (.inr (.inr (.inr (fun i => if i < N then some (r i) else none))))))] ++ va_pl ([] ++ (List.range N).map r) (vr_up (fun _ => .inr (0, [])) ((List.range N).map r) (.inl (cA 0, (K, .inl fun _ => 0)))) := by
      rw [hcl, List.range_succ_eq_map, List.map_cons, List.map_map, List.nil_append, List.singleton_append, va_pl, List.map_map]
      have h0 : (as.getD 0 0, x_e cA (x_adp ad G.length as) u (G.length + 0) (cs.getD 0 (0, 0, []))) = (q, (.inl (cA 3, N, .inr (.inr (.inr (.inr (fun i => if i < N then some (r i) else none))))) : va_E)) := by
        rw [← hcs, ← has]
        show (q, x_e cA _ u _ (3, N, (List.range N).map fun i => some (G.length + 1 + i))) = _
        have hfun : (fun j => (((List.range N).map fun i => some (G.length + 1 + i)).getD j none).map (x_adp ad G.length (q :: (List.range N).map r))) = fun i => if i < N then some (r i) else none := by
          funext j
          by_cases hj : j < N
          · rw [if_pos hj, List.getD_eq_getElem?_getD, List.getElem?_map, List.getElem?_range hj]
            have := hrow j hj
            rw [← has] at this
            simp [this]
          · rw [if_neg hj, List.getD_eq_getElem?_getD, List.getElem?_eq_none (by simpa using hj)]
            rfl
        show (q, (.inl (cA 3, (N, .inr (.inr (.inr (.inr _))))) : va_E)) = _
        rw [hfun]
      rw [h0]
      congr 1
      apply List.map_congr_left
      intro i hi
      have hi : i < N := List.mem_range.mp hi
      show (as.getD (i + 1) 0, x_e cA (x_adp ad G.length as) u (G.length + (i + 1)) (cs.getD (i + 1) (0, 0, []))) = (r i, vr_up _ _ _ (r i))
      rw [vr_up_in (List.mem_map.mpr ⟨i, List.mem_range.mpr hi, rfl⟩), ← has, ← hcs, List.getD_cons_succ, List.getD_cons_succ, List.getD_eq_getElem?_getD, List.getElem?_map, List.getElem?_range hi, List.getD_eq_getElem?_getD, List.getElem?_replicate, if_pos hi]
      show (r i, (.inl (cA 0, (K, .inl (u.1 (G.length + (i + 1))))) : va_E)) = _
      have hu : u.1 (G.length + (i + 1)) = fun _ => 0 := by
        funext j
        have := hz i hi j
        rw [show G.length + 1 + i = G.length + (i + 1) by omega] at this
        exact this
      rw [hu]
    have hG1 := x_grown (sc := sc) (as := as) (cs := cs) (H1 := H1) (locs1 := locs) (by omega) (x_refs_of hr) (by omega) hK (by rw [e2, ← List.append_assoc]; exact hP1) (by rw [e2, ← List.append_assoc]; exact hD1) hS1 hA hF
    have h9 := h p l e R s m args below meth c X D cA n0 ad0 (x_adp ad G.length as) A H1 locs ls (by show n0 ≤ (G ++ _).length; have : n0 ≤ G.length := hn; simp; omega) (fun j hj => by
      have hn' : n0 ≤ G.length := hn
      have hj' : ¬ (n0 ≤ j ∧ j < G.length + (N + 1)) := by simpa using hj
      rw [had j (by omega)]
      exact ha j (by show ¬ (n0 ≤ j ∧ j < G.length); omega)) (by rw [hcs]; exact hG1) (by rw [x_ls_eq had L 0 hL]; exact hl)
    rw [List.map_cons, x_st_eq had hs, show x_v (x_adp ad G.length as) (.ref G.length) = .ref q by simp [x_v, hself]] at h9
    exact h9
/-- what a making callee's end gives its caller -/
theorem x_back {D : va_G} {cA : Nat → ClassId} {ad ad' : Nat → Nat} {A : Nat → Prop} {μ1 : xM} {s : State} {H H1 : Heap} {locs locs1 : List Loc} {ls : Array Slot} {n0 : Nat} {ad0 : Nat → Nat} (hn : n0 ≤ μ.1.length) (ha : ∀ j, ¬ (n0 ≤ j ∧ j < μ.1.length) → ad j = ad0 j) (hR : xRel sc D cA ad A μ s H locs) (hl : lv_has ls k.2.2.1 (x_ls ad 0 L))
    (q1 : μ.1.length ≤ μ1.1.length) (q2 : ∀ j, ¬ (μ.1.length ≤ j ∧ j < μ1.1.length) → ad' j = ad j) (hlen : μ1.1.length ≤ 1000) (hP1 : va_P D vwCl (x_w cA ad' μ1) H1) (hD1 : va_D (va_A (x_w cA ad μ) H.size) (x_w cA ad' μ1)) (hS1 : va_S A s.heap H1 locs1) (hL : x_LB μ.1.length μ1.1.length L = true) :
    n0 ≤ μ1.1.length ∧ (∀ j, ¬ (n0 ≤ j ∧ j < μ1.1.length) → ad' j = ad0 j) ∧ xRel sc D cA ad' A μ1 s H1 locs1 ∧ lv_has ls k.2.2.1 (x_ls ad' 0 L) := by
  obtain ⟨hK, hP, hD, hS, hA, hF⟩ := hR
  refine ⟨Nat.le_trans hn q1, fun j hj => ?_, ⟨hK, hP1, hD1.weaken (fun _ q _ hq => x_A_in hD hS hA _ hq), hS1, hA, hF.ad fun j hj => q2 j (by omega)⟩, by rw [x_ls_eq q2 L 0 hL]; exact hl⟩
  rw [q2 j (by omega)]
  exact ha j (by omega)
/-- a constructor's call -/
theorem g_callI (k' : xm) {d' mc' ms' idx c0 : Nat} {as st0 : List Value} {μ1 : xM} (hd : decode k.2.1 pc = .ok (.invokespecial idx, 3)) (hM : xMt sc k' d' mc' ms' (.ref c0 :: as) μ none μ1) (hw1 : Cond.methodLink k.1.cls idx k'.1 ∈ xW) (hw2 : Cond.instanceMethod k'.1 ∈ xW) (hw3 : Cond.initialized k'.1.cls ∈ xW) (hw4 : Cond.code k'.1 k'.2.1 k'.2.2.1 k'.2.2.2 ∈ xW) (hret : k'.2.2.2 = none) (hnm' : k'.1.name = "<init>")
    (hy : k'.1.cls ≠ "java/lang/invoke/MethodHandle" ∧ k'.1.cls ≠ "java/lang/invoke/VarHandle" ∧ (parseMethodDescriptor k'.1.desc).map (fun d => d.parameters.length) = some as.length) (hst : st0 = as.reverse ++ .ref c0 :: st) (hs8 : (st.map fun v => v.category).sum ≤ 8) (hdd : d' + 1 ≤ d) (hml : k'.2.2.1 ≤ 45) (hlen : μ1.1.length ≤ 1000) (hL : x_LB μ.1.length μ1.1.length L = true) (hs : st.all (x_vB μ.1.length μ1.1.length) = true) (hcl : cl + mc' ≤ mc) (hsl : sl + ms' ≤ ms)
    (h : xG sc k d mc ms Q (cl + mc') (sl + ms') (pc + 3) L st μ1) : xG sc k d mc ms Q cl sl pc L st0 μ := by
  intro p l e R s m args below meth c X D cA n0 ad0 ad A H locs ls hn ha hR hl
  subst hst
  obtain ⟨hx, hb, hr, hm, hown, hts, hlk, hnm, hfr, hlo, hce, hsl0⟩ := id X
  obtain ⟨hK, hP, hD, hS, hA, hF⟩ := id hR
  have hG := x_goodIn (l := []) hw4 (fun w hw => by cases hw)
  have hcb := callB_of (R := R) (s := s) (args := args) (own := k.1.cls) (index := idx) (rm := { frames := d', cells := mc', slots := ms', locals := 64 * d' }) (mc := mc') (ms := ms') (ws := Cond.code k'.1 k'.2.1 k'.2.2.1 k'.2.2.2 :: xW) (ws' := xW) as.length hts hG rfl rfl rfl (hts _ hw3) (hts _ hw1) hy ⟨by show d' + 1 ≤ R.frames; omega, by show 8 + (k'.2.2.1 + 11) + 64 * d' ≤ R.locals; omega⟩
  rw [hret] at hcb
  have hMM := hM l hsl0.2.1 D cA ad H.size
  rw [hret] at hMM
  refine x_call (va_runI (As := as.map (x_v ad)) (rest := st.map (x_v ad)) (b := ad c0) ⟨hx, hb, hm, hown, hts⟩ hMM ⟨hcb, hnm', hts _ hw2⟩ ⟨x_blind, x_pre hR⟩ rfl (by simp) hl.1 (by simp [x_v]) (lv_room (by rw [x_catsum]; exact hs8)) hd ⟨by omega, by omega⟩) hS (x_A_in hD hS hA) fun ad' t H1 locs1 ht hvm q1 q2 hP1 hK1 hD1 hS1 => ?_
  obtain ⟨b1, b2, b3, b4⟩ := x_back hn ha hR hl q1 q2 hlen hP1 hD1 hS1 hL
  have h9 := h p l e R s m args below meth c X D cA n0 ad0 ad' A H1 locs1 ls b1 b2 b3 b4
  rw [x_st_eq q2 hs] at h9
  exact h9
/-- a nest mate's constructor -/
theorem g_callIN (k' : xm) (host : String) {d' mc' ms' idx c0 : Nat} {as st0 : List Value} {μ1 : xM} (hd : decode k.2.1 pc = .ok (.invokespecial idx, 3)) (hM : xMt sc k' d' mc' ms' (.ref c0 :: as) μ none μ1) (hw1 : Cond.methodLinkNest k.1.cls idx k'.1 host ∈ xNest) (hw2 : Cond.instanceMethod k'.1 ∈ xW) (hw3 : Cond.initialized k'.1.cls ∈ xW) (hw4 : Cond.code k'.1 k'.2.1 k'.2.2.1 k'.2.2.2 ∈ xW) (hret : k'.2.2.2 = none) (hnm' : k'.1.name = "<init>")
    (hy : k'.1.cls ≠ "java/lang/invoke/MethodHandle" ∧ k'.1.cls ≠ "java/lang/invoke/VarHandle" ∧ (parseMethodDescriptor k'.1.desc).map (fun d => d.parameters.length) = some as.length) (hst : st0 = as.reverse ++ .ref c0 :: st) (hs8 : (st.map fun v => v.category).sum ≤ 8) (hdd : d' + 1 ≤ d) (hml : k'.2.2.1 ≤ 45) (hlen : μ1.1.length ≤ 1000) (hL : x_LB μ.1.length μ1.1.length L = true) (hs : st.all (x_vB μ.1.length μ1.1.length) = true) (hcl : cl + mc' ≤ mc) (hsl : sl + ms' ≤ ms)
    (h : xG sc k d mc ms Q (cl + mc') (sl + ms') (pc + 3) L st μ1) : xG sc k d mc ms Q cl sl pc L st0 μ := by
  intro p l e R s m args below meth c X D cA n0 ad0 ad A H locs ls hn ha hR hl
  subst hst
  obtain ⟨hx, hb, hr, hm, hown, hts, hlk, hnm, hfr, hlo, hce, hsl0⟩ := id X
  obtain ⟨hK, hP, hD, hS, hA, hF⟩ := id hR
  have hG := x_goodIn (l := []) hw4 (fun w hw => by cases hw)
  have hcw := va_cnB (R := R) (s := s) (args := args) (own := k.1.cls) (index := idx) (host := host) (rm := { frames := d', cells := mc', slots := ms', locals := 64 * d' }) (mc := mc') (ms := ms') (ws := Cond.code k'.1 k'.2.1 k'.2.2.1 k'.2.2.2 :: xW) (ws' := xW) as.length hts hG rfl rfl rfl (hF.2.2.2.2.2.2.1 _ hw1) (hts _ hw3) hy ⟨by show d' + 1 ≤ R.frames; omega, by show 8 + (k'.2.2.1 + 11) + 64 * d' ≤ R.locals; omega⟩
  rw [hret] at hcw
  have hMM := hM l hsl0.2.1 D cA ad H.size
  rw [hret] at hMM
  refine x_call (va_runIN (As := as.map (x_v ad)) (rest := st.map (x_v ad)) (b := ad c0) ⟨hx, hb, hm, hown, hts⟩ hMM ⟨hcw, hnm', hts _ hw2⟩ ⟨x_blind, x_pre hR⟩ rfl (by simp) hl.1 (by simp [x_v]) (lv_room (by rw [x_catsum]; exact hs8)) hd ⟨by omega, by omega⟩) hS (x_A_in hD hS hA) fun ad' t H1 locs1 ht hvm q1 q2 hP1 hK1 hD1 hS1 => ?_
  obtain ⟨b1, b2, b3, b4⟩ := x_back hn ha hR hl q1 q2 hlen hP1 hD1 hS1 hL
  have h9 := h p l e R s m args below meth c X D cA n0 ad0 ad' A H1 locs1 ls b1 b2 b3 b4
  rw [x_st_eq q2 hs] at h9
  exact h9
end XN
