/-! methods that throw, and the law's three that catch -/
def xNS : String := "java/util/NoSuchElementException"
def xNm : List String := ["java/lang/RuntimeException", "java/lang/Exception"]
def xT (D : va_G) (cA : Nat → ClassId) (n0 : Nat) (ad0 : Nat → Nat) (A : Nat → Prop) (μ' : xM) (st t : State) : Prop :=
  (∃ ad' : Nat → Nat, n0 ≤ μ'.1.length ∧ (∀ j, ¬ (n0 ≤ j ∧ j < μ'.1.length) → ad' j = ad0 j) ∧ va_P D vwCl (x_w cA ad' μ') t.heap ∧ va_K D vwCl (x_tys cA) t ∧ va_D A (x_w cA ad' μ')) ∧ va_F A st t
def xXQ (D : va_G) (cA : Nat → ClassId) (n0 : Nat) (ad0 : Nat → Nat) (A : Nat → Prop) (o : Option Int32) (μ' : xM) : Array Value → State → Outcome → State → Prop := fun a st oc t => ∃ r, o = some r ∧ xQ D cA n0 ad0 A (some (.int r)) μ' a st oc t
def xXX (D : va_G) (cA : Nat → ClassId) (n0 : Nat) (ad0 : Nat → Nat) (A : Nat → Prop) (o : Option Int32) (μ' : xM) : String → State → State → Prop := fun E st t => o = none ∧ E = xNS ∧ xT D cA n0 ad0 A μ' st t
/-- a method's end: it returns r (o = some r) or throws (o = none), with the memory μ' -/
def xRX (o : Option Int32) (μ' : xM) : xE := fun below args s D cA n0 ad0 A => vx_MQ below (xXQ D cA n0 ad0 A o μ') (xXX D cA n0 ad0 A o μ') args s 1 6 A
def xMx (sc : Nat × (Nat → Int32)) (k : xm) (d : Nat) (as : List Value) (μ : xM) (o : Option Int32) (μ' : xM) : Prop :=
  ∀ (l : Launch), l.stackTraces = false → ∀ (D : va_G) (cA : Nat → ClassId) (ad : Nat → Nat) (sz : Nat), vx_Met l k.1 (Cond.code k.1 k.2.1 k.2.2.1 k.2.2.2 :: xW) { frames := d, cells := 1, slots := 6, locals := 64 * d }
    (va_Pc (as.map (x_v ad)) (fun U => U.heap.size = sz ∧ va_P D vwCl (x_w cA ad μ) U.heap ∧ va_K D vwCl (x_tys cA) U ∧ va_D (fun _ => True) (x_w cA ad μ) ∧ xFor sc U (va_A (x_w cA ad μ) sz) ad))
    (xXQ D cA μ.1.length ad (va_A (x_w cA ad μ) sz) o μ') (xXX D cA μ.1.length ad (va_A (x_w cA ad μ) sz) o μ') 1 6 (va_A (x_w cA ad μ) sz)
theorem xMx.of {sc : Nat × (Nat → Int32)} {k : xm} {d : Nat} {as : List Value} {μ μ' : xM} {o : Option Int32} (hp : plainName k.1.cls = true) (hk : k.1.cls ≠ "RagTownLaw") (hn : (x_en as).length ≤ k.2.2.1) {L : xL} (hL : x_en as ++ List.replicate (k.2.2.1 - (x_en as).length) none = L) (h : xG sc k d 1 6 (xRX o μ') 0 0 0 L [] μ) : xMx sc k d as μ o μ' := by
  intro l hl0 D cA ad sz
  refine vx_ofW (cc := k.2.1) (maxL := k.2.2.1) (ret := k.2.2.2) hp rfl ?_
  intro p e s m args below meth c s₁ B hml htab hv
  obtain ⟨rfl, hsz, hP, hK, hD0, hF⟩ := hv
  have hts := atoms_spec (ws := Cond.code k.1 k.2.1 k.2.2.1 k.2.2.2 :: xW) B.pre
  have htb : c.exceptionTable.toList = [] := by
    cases hq : c.exceptionTable.toList with
    | nil => rfl
    | cons x t => exact (htab x (by rw [hq]; exact List.mem_cons_self)).elim
  subst hsz
  have hD := hD0.self (sz := s.heap.size)
  have hl := lv_entry (as.map (x_v ad)) (n := k.2.2.1) (by rw [lg_sl_len]; exact hn)
  rw [lg_entry_eq]
  have hl2 : lv_has (lg_sl (as.map (x_v ad)) ++ List.replicate (k.2.2.1 - (lg_sl (as.map (x_v ad))).length) Slot.unset).toArray k.2.2.1 (x_ls ad 0 L) := by
    refine ⟨hl.1, hl.2.1, fun q hq => hl.2.2 q ?_⟩
    rw [← hL] at hq
    exact x_en_mem as _ 0 hq
  exact h p l e _ s m _ below meth c ⟨B.exec, B.bytes, B.returns, hml, findClass_of_methodNamed B.named, fun w hw => hts w (List.mem_cons_of_mem _ hw), B.notSynchronized, (name_of_methodNamed B.named B.method).1, Nat.le_refl _, Nat.le_refl _, Nat.le_refl _, Nat.le_refl _, hl0, Or.inl ⟨hk, htb⟩⟩
    D cA μ.1.length ad ad _ s.heap [] _ (Nat.le_refl _) (fun _ _ => rfl) ⟨hK, hP, hD, va_S.rf, fun q hq => Or.inr hq, hF⟩ hl2
section XX
variable {sc : Nat × (Nat → Int32)} {k : xm} {d mc ms : Nat} {Q : xE} {cl sl pc : Nat} {L L' : xL} {st : List Value} {μ : xM}
theorem g_iretX {r : Int32} {μ' : xM} (hd : decode k.2.1 pc = .ok (.ireturn, 1)) (hr : k.2.2.2 = some .int) (hQ : Q = xRX (some r) μ') (hμ : μ = μ') (hc : cl ≤ 1) (hs : sl ≤ 6) : xG sc k d mc ms Q cl sl pc L [.int r] μ := by
  subst hQ
  subst hμ
  intro p l e R s m args below meth c X D cA n0 ad0 ad A H locs ls hn ha hR hl
  obtain ⟨hK, hP, hD, hS, hA, hF⟩ := hR
  refine W.widen hc hs (vx_ret ?_)
  exact W.iret X.1 X.2.1 (X.2.2.1.trans hr) (fun t ht hW => ⟨r, rfl, ⟨ad, hn, ha, rfl, by rw [ht]; exact hP, va_K.moved hW.alike hK, hD⟩, hS.F ht⟩) hS.2.2 hd X.2.2.2.2.2.2.1
/-- what a throw's words are -/
def xThr (own : String) (ik ic : Nat) : Prop := (Cond.classLink own ik xNS ∈ xW) ∧ (Cond.initialized xNS ∈ xW) ∧ (∀ w ∈ vx_at0 own ic xNS xNm, w ∈ xW ∨ w ∈ xNest) ∧ ∀ w ∈ Cond.classLink own ik xNS :: Cond.initialized xNS :: vx_at0 own ic xNS xNm, vx_ot w = true
theorem g_throw {ik ic : Nat} {μ' : xM} (d0 : decode k.2.1 pc = .ok (.new ik, 3)) (d3 : decode k.2.1 (pc + 3) = .ok (.dup, 1)) (d4 : decode k.2.1 (pc + 4) = .ok (.invokespecial ic, 3)) (d7 : decode k.2.1 (pc + 7) = .ok (.athrow, 1)) (hk : k.1.cls ≠ "RagTownLaw") (hb : xThr k.1.cls ik ic) (hQ : Q = xRX none μ') (hμ : μ = μ') (hdd : 6 ≤ d) (hs8 : (st.map fun v => v.category).sum ≤ 8) (hmc : 1 ≤ mc) (hms : 6 ≤ ms) : xG sc k d mc ms Q 0 0 pc L st μ := by
  subst hQ
  subst hμ
  intro p l e R s m args below meth c X D cA n0 ad0 ad A H locs ls hn ha hR hl
  obtain ⟨hx, hb0, hr, hm, hown, hts, hlk, hnm, hfr, hlo, hce, hsl0, hst, htab⟩ := id X
  obtain ⟨hK, hP, hD, hS, hA, hF⟩ := id hR
  have htb : c.exceptionTable.toList = [] := by
    rcases htab with h | h
    · exact h.2
    · exact absurd h.1 hk
  obtain ⟨w1, w2, w3, w4⟩ := hb
  refine vx_throw0 (names := xNm) hx hb0 hst hown (by decide +kernel) (by decide +kernel) (hts _ w1) (hts _ w2) (fun w hw => ?_) w4 hF.2.2.2.2.2.2.2.2.1 hF.2.2.2.2.2.2.2.2.2 hS (hl.1.trans hm.symm) d0 d3 d4 d7 (by rw [htb]; intro x hx; cases hx) (by show 2 + 3 < R.frames; omega) (by rw [x_catsum]; show _ + (13 * (2 + 1) + 42) ≤ R.locals; omega) (by omega) (by omega) hlk ?_ hS.2.2 (Nat.le_refl _) (Nat.le_refl _)
  · rcases w3 w hw with h | h
    · exact hts _ h
    · have h1 := (List.mem_filter.mp h).2
      have h2 := hF.2.2.2.2.2.2.1 w h
      cases w <;> first | (cases h1; done) | exact va_Nw.use rfl h2
  · intro t hvm hz ho
    have hk9 : ∀ (k9 : Nat) (x : Nat × va_E), (x_w cA ad μ)[k9]? = some x → t.heap[x.1]? = H[x.1]? := fun k9 x hx => ho x.1 ((hP k9 x hx).lt)
    refine ⟨rfl, rfl, ⟨ad, hn, ha, hP.kept hk9, va_K.moved hvm hK, hD⟩, Nat.le_trans hS.1 hz, fun q h1 h2 => ?_⟩
    rw [ho q (Nat.lt_of_lt_of_le h1 hS.1)]
    exact hS.2.1 q h1 h2
end XX
section XC2
variable {p : Program} {l : Launch} {e : Env} {R : Room} {s : State} {m : MethodId} {args : Array Value} {below : List Frame} {meth : Method} {c : Code} {H : Heap} {locs : List Loc} {cells slots : Nat} {Q : State → Prop}
theorem x_callX {D : va_G} {cA : Nat → ClassId} {n1 : Nat} {ad : Nat → Nat} {A A1 : Nat → Prop} {o : Option Int32} {μ1 : xM} {a : Array Value} {mc ms pc : Nat} {ls : Array Slot} {st0 rest : List Value} {H0 : Heap}
    (hr : vx_Run p l e R s m args below meth c H locs cells slots mc ms (F0 m pc ls st0) rest (xXQ D cA n1 ad A1 o μ1 a) (xXX D cA n1 ad A1 o μ1) A1) (hS : va_S A H0 H locs) (hA : ∀ q, A1 q → A q)
    (kk : ∀ (r : Int32) (ad' : Nat → Nat) (t : State) (H1 : Heap) (locs1 : List Loc), o = some r → t.heap = H1 → s.vm.Alike t.vm → n1 ≤ μ1.1.length → (∀ j, ¬ (n1 ≤ j ∧ j < μ1.1.length) → ad' j = ad j) → va_P D vwCl (x_w cA ad' μ1) H1 → va_D A1 (x_w cA ad' μ1) → va_S A H0 H1 locs1 →
      W p l e R s m args below meth c H1 locs1 (cells + mc) (slots + ms) Q (F0 m (pc + 3) ls (.int r :: rest)))
    (kx : ∀ (q9 : Nat) (ce : Cell) (ad' : Nat → Nat) (t : State) (H1 : Heap) (locs1 : List Loc), o = none → t.heap = H1 → s.vm.Alike t.vm → n1 ≤ μ1.1.length → (∀ j, ¬ (n1 ≤ j ∧ j < μ1.1.length) → ad' j = ad j) → va_P D vwCl (x_w cA ad' μ1) H1 → va_D A1 (x_w cA ad' μ1) → va_S A H0 H1 locs1 →
      H1[q9]? = some ce → ce.vm = .none → s.vm.findClass xNS = some ce.cls → vx_W p l e R s m args below meth c H1 locs1 (cells + mc) (slots + ms) Q (F0 m pc ls rest) q9) : W p l e R s m args below meth c H locs cells slots Q (F0 m pc ls st0) := by
  have keep : ∀ {st₀ t T' : State} {L : List Loc}, st₀.heap = H → T'.heap = t.heap → (∀ q ∈ L, A1 q.base) → va_F A1 st₀ t → va_S A H0 T'.heap (locs ++ L) := by
    intro st₀ t T' L h0 e1 hL hF
    obtain ⟨hz, hk⟩ := hF
    rw [h0] at hz hk
    exact ⟨Nat.le_trans hS.1 (by rw [e1]; exact hz), fun q h1 h2 => by rw [e1, hk q (Nat.lt_of_lt_of_le h1 hS.1) (fun z => h2 (hA q z))]; exact hS.2.1 q h1 h2, fun q hq => by
      rcases List.mem_append.mp hq with h | h
      · exact hS.2.2 q h
      · exact hA _ (hL q h)⟩
  intro T hT X
  rcases hr T hT X with ⟨v, st₀, t, T', L, h0, X', hL, e1, e2, ⟨r, ho, ⟨ad', q1, q2, hv, hP, hK, hD⟩, hF⟩, st⟩ | ⟨q, st₀, t, T', L, E, ce, h0, X', hL, e1, e2, ⟨ho, hE, ⟨ad', q1, q2, hP, hK, hD⟩, hF⟩, hce, hcv, hcl, st⟩
  · cases hv
    obtain ⟨t2, a1, b1⟩ := kk r ad' t T'.heap (locs ++ L) ho e1.symm (by rw [← e2]; exact X'.warmed.alike) q1 q2 (by rw [e1]; exact hP) hD (keep h0 e1 hL hF) T' rfl X'
    exact ⟨t2, st t2 a1, b1⟩
  · subst hE
    obtain ⟨t2, a1, b1⟩ := kx q ce ad' t T'.heap (locs ++ L) ho e1.symm (by rw [← e2]; exact X'.warmed.alike) q1 q2 (by rw [e1]; exact hP) hD (keep h0 e1 hL hF) (by rw [e1]; exact hce) hcv hcl T' rfl X'
    exact ⟨t2, st.trans a1, b1⟩
end XC2
theorem x_keepX {ad : Nat → Nat} {ls : Array Slot} {n i q : Nat} {L : xL} (h : lv_has ls n ((i, .ref q) :: (x_ls ad 0 L).filter (fun q => !(q.1 == i) && !(q.1 + 1 == i && q.2.category == 2)))) : lv_has ls n (x_ls ad 0 ((x_st1 L i (.int 0)).set i none)) := by
  refine ⟨h.1, h.2.1, fun z hz => h.2.2 z ?_⟩
  obtain ⟨j, w, h1, rfl⟩ := (x_ls_mem _ 0).mp hz
  by_cases hj : j = i
  · subst hj
    rw [List.getElem?_set] at h1
    simp at h1
  · rw [List.getElem?_set_ne (Ne.symm hj)] at h1
    rcases x_st1_get L i _ j w h1 with ⟨h2, -⟩ | ⟨h2, h3, h4⟩
    · exact absurd h2 hj
    · refine List.mem_cons_of_mem _ (List.mem_filter.mpr ⟨(x_ls_mem L 0).mpr ⟨j, w, h3, rfl⟩, ?_⟩)
      simp only [Nat.zero_add, x_v_cat]
      by_cases h5 : j + 1 = i
      · simp [h2, h4 h5]
      · simp [h2, h5]
section XY
variable {sc : Nat × (Nat → Int32)} {k : xm} {d mc ms : Nat} {Q : xE} {cl sl pc : Nat} {L L' : xL} {st : List Value} {μ : xM}
/-- a call that may throw, in a method whose table catches it: behind the catch an astore -/
theorem g_callX {k' : xm} {ci d' idx c0 n n1 i nx : Nat} {rf : List (Option Nat)} {as st0 : List Value} {o : Option Int32} {μ1 : xM} (x : ExceptionTableEntry) (hd : decode k.2.1 pc = .ok (.invokevirtual idx, 3)) (hb : xcV k.1.cls idx k' ci n) (hM : xMx sc k' d' (.ref c0 :: as) μ o μ1) (hc : μ.1[c0]? = some (ci + 4, n1, rf)) (hn' : as.length = n) (hst : st0 = as.reverse ++ .ref c0 :: st) (hs8 : (st.map fun v => v.category).sum ≤ 8) (hdd : d' + 1 ≤ d) (hΛ : μ1.1.length = μ.1.length) (hcl : cl + 1 ≤ mc) (hsl : sl + 6 ≤ ms)
    (hk1 : k.1.cls = "RagTownLaw") (hk2 : k.1.name ≠ "law") (hT : tableOf (xTb k) = [x]) (hcov : covers x pc = true) (h0 : x.catchType ≠ 0) (hlink : Cond.classLink k.1.cls x.catchType xNS ∈ xW) (hcast : Cond.castable xNS xNS ∈ xNest)
    (hda : (decode k.2.1 x.handlerPc = .ok (.astore i, 2) ∧ nx = x.handlerPc + 2) ∨ (∃ f : Fin 4, (f : Nat) = i ∧ decode k.2.1 x.handlerPc = .ok (.astore_n f, 1) ∧ nx = x.handlerPc + 1)) (hi : i < k.2.2.1) (hL : (x_st1 L i (.int 0)).set i none = L')
    (hret : ∀ r, o = some r → xG sc k d mc ms Q (cl + 1) (sl + 6) (pc + 3) L (.int r :: st) μ1) (hthr : o = none → xG sc k d mc ms Q (cl + 1) (sl + 6) nx L' [] μ1) : xG sc k d mc ms Q cl sl pc L st0 μ := by
  intro p l e R s m args below meth c X D cA n0 ad0 ad A H locs ls hn ha hR hl
  subst hst
  subst hL
  subst hn'
  obtain ⟨hx, hb0, hr, hm, hown, hts, hlk, hnm, hfr, hlo, hce, hsl0, hst, htab⟩ := id X
  obtain ⟨hK, hP, hD, hS, hA, hF⟩ := id hR
  obtain ⟨b1, b2, b3, ⟨b4, b5, b6, b7⟩, q, b8, b9⟩ := hb
  have hcw := cwV (R := R) (s := s) (args := args) (C := k'.1.cls) (rm := { frames := d', cells := 1, slots := 6, locals := 64 * d' }) as.length hts (x_goodIn (l := [.methodLink k.1.cls idx k'.1, .instanceMethod k'.1, .selects k'.1.cls k'.1 k'.1, .initialized k'.1.cls]) b5 (fun w hw => by
    simp only [List.mem_cons, List.not_mem_nil, or_false] at hw
    rcases hw with rfl | rfl | rfl | rfl
    · exact b1
    · exact b2
    · exact b3
    · exact b4)) rfl rfl rfl ⟨rfl, b6⟩ ⟨by show d' + 1 ≤ R.frames; omega, by show 8 + (k'.2.2.1 + 11) + 64 * d' ≤ R.locals; omega⟩
  have ha0 : (x_w cA ad μ)[c0]? = some (ad c0, .inr (ci, x_fs ad (μ.2.1 c0) ci rf)) := x_w_at (c := (ci + 4, n1, rf)) hc
  have hrec := va_recv hK hP b8 ha0
  rw [b9] at hrec
  refine x_callX (vx_runV (As := as.map (x_v ad)) (rest := st.map (x_v ad)) (b := ad c0) ⟨hx, hb0, hm, hown, hts⟩ (hM l hst D cA ad H.size) hcw ⟨x_blind, hrec, x_pre hR⟩ rfl (by simp) hl.1 (by simp [x_v]) (lv_room (by rw [x_catsum]; exact hs8)) hd ⟨by omega, by omega⟩) hS (x_A_in hD hS hA) (fun r ad' t H1 locs1 ho ht hvm q1 q2 hP1 hD1 hS1 => ?_) (fun q9 ce ad' t H1 locs1 ho ht hvm q1 q2 hP1 hD1 hS1 hq9 hcv hcls => ?_)
  · have had : ad' = ad := funext fun j => q2 j (by omega)
    subst had
    exact hret r ho p l e R s m args below meth c X D cA n0 ad0 ad' A H1 locs1 ls (by rw [hΛ]; exact hn) (by rw [hΛ]; exact ha) ⟨hK, hP1, hD1.weaken (fun _ q _ hq => x_A_in hD hS hA _ hq), hS1, hA, hF⟩ hl
  · have had : ad' = ad := funext fun j => q2 j (by omega)
    subst had
    have htb : c.exceptionTable.toList = [] ++ x :: [] := by
      rcases htab with h | ⟨-, h | h⟩
      · exact absurd hk1 h.1
      · exact absurd h hk2
      · rw [h, hT]; rfl
    have hca := hF.2.2.2.2.2.2.1 _ hcast
    refine vx_catch hown [] x [] htb (fun z hz => by cases hz) hcov h0 (hts _ hlink) (va_Nw.use rfl hca) hq9 hcv hcls ?_
    have hgo : ∀ ls' : Array Slot, lv_has ls' k.2.2.1 ((i, .ref q9) :: (x_ls ad' 0 L).filter (fun q => !(q.1 == i) && !(q.1 + 1 == i && q.2.category == 2))) → W p l e R s m args below meth c H1 locs1 (cl + 1) (sl + 6) (Q below args s D cA n0 ad0 A) (F0 m nx ls' []) := fun ls' hl' =>
      hthr ho p l e R s m args below meth c X D cA n0 ad0 ad' A H1 locs1 ls' (by rw [hΛ]; exact hn) (by rw [hΛ]; exact ha) ⟨hK, hP1, hD1.weaken (fun _ q _ hq => x_A_in hD hS hA _ hq), hS1, hA, hF⟩ (x_keepX hl')
    rcases hda with ⟨h1, h2⟩ | ⟨f, hf, h1, h2⟩
    · rw [h2] at hgo
      exact lv_astore hx hb0 h1 hl hi rfl hgo
    · rw [h2] at hgo
      exact lv_astore_n hx hb0 h1 hf hl hi rfl hgo
end XY
theorem thr_RX11_277_279 : xThr RX11 277 279 := ⟨x_mem 977 (by decide +kernel) rfl, x_mem 25 (by decide +kernel) rfl, by decide +kernel, by decide +kernel⟩
set_option maxRecDepth 100000 in
set_option maxHeartbeats 4000000 in
theorem G_X11_row_0 {sc : Nat × (Nat → Int32)} {d : Nat} (hd : 6 ≤ d) {o : Option Int32} {u' : xS} (v1 : Int32) (u : xS) (h : f_X11_row v1 u = some (o, u')) : xG sc mX11_row d 1 6 (xRX o (xL0, u')) 0 0 0 [some (.ref 0), some (.int v1)] [] (xL0, u) := by
  rw [f_X11_row] at h
  refine g_iload_n (pc := 0) dX11_row_0 rfl ?_
  refine g_iconst (pc := 1) dX11_row_1 ic_0 ?_
  refine g_aload_n (pc := 2) dX11_row_2 rfl ?_
  refine g_gI (pc := 3) dX11_row_3 fI_RX11_90 xc_0 (v := (rd u 0 12)) rfl ?_
  refine g_iconst (pc := 6) dX11_row_6 ic_1 ?_
  refine g_isub (pc := 7) dX11_row_7 rfl ?_
  refine g_cS (pc := 8) dX11_row_8 cS_RX11_94 (M_X11_lies (Nat.le_refl _) rfl) (as := [.int v1, .int (0 : Int32), .int ((rd u 0 12) - (1 : Int32))]) (st := []) rfl rfl (Nat.le_of_ble_eq_true rfl) (Nat.le_trans (Nat.le_of_ble_eq_true rfl) hd) rfl ?_
  refine g_if_ne (tgt := 22) (pc := 11) dX11_row_11 (by decide) (fun c1 => ?_) (fun c1 => ?_)
  · replace h := (if_neg c1).symm.trans h
    refine g_aload_n (pc := 22) dX11_row_22 rfl ?_
    refine g_gR (pc := 23) dX11_row_23 fR_RX11_86 xc_0 (v := 134) rfl ?_
    refine g_iload_n (pc := 26) dX11_row_26 rfl ?_
    obtain ⟨g2, h⟩ := x_gd h
    refine g_iaload (pc := 27) dX11_row_27 xc_134 (xin_of g2) (v := (rd u 134 v1.toNatClampNeg)) rfl ?_
    obtain ⟨h1, h2⟩ := x_inj2 h
    subst h1
    subst h2
    exact g_iretX (pc := 28) dX11_row_28 rfl rfl rfl (by decide) (by decide)
  · replace h := (if_pos c1).symm.trans h
    obtain ⟨h1, h2⟩ := x_inj2 h
    subst h1
    subst h2
    exact g_throw (pc := 14) dX11_row_14 dX11_row_17 dX11_row_18 dX11_row_21 (by decide) thr_RX11_277_279 rfl rfl (Nat.le_trans (Nat.le_of_ble_eq_true rfl) hd) (Nat.le_of_ble_eq_true rfl) (Nat.le_refl _) (Nat.le_refl _)
set_option maxRecDepth 100000 in
set_option maxHeartbeats 4000000 in
theorem M_X11_row {sc : Nat × (Nat → Int32)} {d : Nat} (hd : 6 ≤ d) {o : Option Int32} {u u' : xS} {a1 : Int32} (h : f_X11_row a1 u = some (o, u')) : xMx sc mX11_row d [.ref 0, .int a1] (xL0, u) o (xL0, u') :=
  xMx.of (by decide +kernel) (by decide +kernel) (Nat.le_of_ble_eq_true rfl) (L := [some (.ref 0), some (.int a1)]) rfl ((G_X11_row_0 hd a1 u h))
set_option maxRecDepth 100000 in
set_option maxHeartbeats 4000000 in
theorem G_X11_split_18 {sc : Nat × (Nat → Int32)} {d : Nat} (hd : 6 ≤ d) {o : Option Int32} {u' : xS} (u : xS) (h : f_X11_split_18 u = some (o, u')) : xG sc mX11_split d 1 6 (xRX o (xL0, u')) 0 0 18 [none, none, none, none, none, none, none, none, none] [] (xL0, u) := by
  rw [f_X11_split_18] at h
  obtain ⟨h1, h2⟩ := x_inj2 h
  subst h1
  subst h2
  exact g_throw (pc := 18) dX11_split_18 dX11_split_21 dX11_split_22 dX11_split_25 (by decide) thr_RX11_277_279 rfl rfl (Nat.le_trans (Nat.le_of_ble_eq_true rfl) hd) (Nat.le_of_ble_eq_true rfl) (Nat.le_refl _) (Nat.le_refl _)
set_option maxRecDepth 100000 in
set_option maxHeartbeats 4000000 in
theorem G_X11_split_179 {sc : Nat × (Nat → Int32)} {d : Nat} (hd : 6 ≤ d) {o : Option Int32} {u' : xS} {k120 : Int32 → Int32 → Int64 → Int32 → Int64 → Int32 → xS → Option (Option Int32 × xS)} (hk120 : ∀ (v1 : Int32) (v2 : Int32) (v3 : Int64) (v5 : Int32) (v6 : Int64) (v8 : Int32) (u : xS), k120 v1 v2 v3 v5 v6 v8 u = some (o, u') → xG sc mX11_split d 1 6 (xRX o (xL0, u')) 0 0 120 [some (.ref 0), some (.int v1), some (.int v2), some (.long v3), none, some (.int v5), some (.long v6), none, some (.int v8)] [] (xL0, u)) (v1 : Int32) (v2 : Int32) (v3 : Int64) (v5 : Int32) (v6 : Int64) (v8 : Int32) (u : xS) (h : f_X11_split_179 k120 v1 v2 v3 v5 v6 v8 u = some (o, u')) : xG sc mX11_split d 1 6 (xRX o (xL0, u')) 0 0 179 [some (.ref 0), some (.int v1), some (.int v2), some (.long v3), none, some (.int v5), some (.long v6), none, some (.int v8)] [] (xL0, u) := by
  rw [f_X11_split_179] at h
  refine g_inc (pc := 179) dX11_split_179 (Nat.le_of_ble_eq_true rfl) rfl ic_1 (L' := [some (.ref 0), some (.int v1), some (.int v2), some (.long v3), none, some (.int v5), some (.long v6), none, some (.int (v8 + (1 : Int32)))]) rfl ?_
  refine g_goto (tgt := 120) (pc := 182) dX11_split_182 (by decide) ?_
  exact hk120 v1 v2 v3 v5 v6 (v8 + (1 : Int32)) u h
set_option maxRecDepth 100000 in
set_option maxHeartbeats 4000000 in
theorem G_X11_split_120 {sc : Nat × (Nat → Int32)} {d : Nat} (hd : 6 ≤ d) {o : Option Int32} {u' : xS} : ∀ (n : Nat) (v1 : Int32) (v2 : Int32) (v3 : Int64) (v5 : Int32) (v6 : Int64) (v8 : Int32) (u : xS), f_X11_split_120 n v1 v2 v3 v5 v6 v8 u = some (o, u') → xG sc mX11_split d 1 6 (xRX o (xL0, u')) 0 0 120 [some (.ref 0), some (.int v1), some (.int v2), some (.long v3), none, some (.int v5), some (.long v6), none, some (.int v8)] [] (xL0, u) := by
  intro n
  induction n with
  | zero =>
    intro v1 v2 v3 v5 v6 v8 u h
    rw [f_X11_split_120] at h
    cases h
  | succ n ih =>
    intro v1 v2 v3 v5 v6 v8 u h
    rw [f_X11_split_120] at h
    refine g_iload (pc := 120) dX11_split_120 rfl ?_
    refine g_aload_n (pc := 122) dX11_split_122 rfl ?_
    refine g_gR (pc := 123) dX11_split_123 fR_RX11_12 xc_0 (v := 1) rfl ?_
    refine g_gI (pc := 126) dX11_split_126 fI_RX11_102 xc_1 (v := (rd u 1 2)) rfl ?_
    refine g_icmp_ge (tgt := 185) (pc := 129) dX11_split_129 (by decide) (fun c1 => ?_) (fun c1 => ?_)
    · replace h := (if_pos c1).symm.trans h
      refine g_lload (pc := 185) dX11_split_185 rfl ?_
      refine g_l2i (pc := 187) dX11_split_187 rfl ?_
      obtain ⟨h1, h2⟩ := x_inj2 h
      subst h1
      subst h2
      exact g_iretX (pc := 188) dX11_split_188 rfl rfl rfl (by decide) (by decide)
    · replace h := (if_neg c1).symm.trans h
      refine g_aload_n (pc := 132) dX11_split_132 rfl ?_
      refine g_gR (pc := 133) dX11_split_133 fR_RX11_12 xc_0 (v := 1) rfl ?_
      refine g_gR (pc := 136) dX11_split_136 fR_RX11_280 xc_1 (v := 9) rfl ?_
      refine g_iload (pc := 139) dX11_split_139 rfl ?_
      obtain ⟨g2, h⟩ := x_gd h
      refine g_iaload (pc := 141) dX11_split_141 xc_9 (xin_of g2) (v := (rd u 9 v8.toNatClampNeg)) rfl ?_
      refine g_iload_n (pc := 142) dX11_split_142 rfl ?_
      refine g_icmp_ne (tgt := 179) (pc := 143) dX11_split_143 (by decide) (fun c3 => ?_) (fun c3 => ?_)
      · replace h := (if_neg c3).symm.trans h
        exact G_X11_split_179 hd ih v1 v2 v3 v5 v6 v8 u h
      · replace h := (if_pos c3).symm.trans h
        refine g_lload (pc := 146) dX11_split_146 rfl ?_
        refine g_iload (pc := 148) dX11_split_148 rfl ?_
        refine g_i2l (pc := 150) dX11_split_150 rfl ?_
        refine g_aload_n (pc := 151) dX11_split_151 rfl ?_
        refine g_gR (pc := 152) dX11_split_152 fR_RX11_19 xc_0 (v := 13) rfl ?_
        refine g_iload (pc := 155) dX11_split_155 rfl ?_
        obtain ⟨x5, e4, h⟩ := x_bind h
        refine g_cV (pc := 157) dX11_split_157 cV_RX11_283 (M_X0_everOf (Nat.le_refl _) e4) xc_13 (as := [.int v8]) (st := [.long ((v5).toInt64), .long v6]) rfl rfl (Nat.le_of_ble_eq_true rfl) (Nat.le_trans (Nat.le_of_ble_eq_true rfl) hd) rfl ?_
        refine g_i2l (pc := 160) dX11_split_160 rfl ?_
        refine g_lmul (pc := 161) dX11_split_161 rfl ?_
        refine g_lload_n (pc := 162) dX11_split_162 rfl ?_
        obtain ⟨g6, h⟩ := x_gd h
        refine g_ldiv (pc := 163) dX11_split_163 (xnzJ_of g6) rfl ?_
        refine g_aload_n (pc := 164) dX11_split_164 rfl ?_
        refine g_gR (pc := 165) dX11_split_165 fR_RX11_12 xc_0 (v := 1) rfl ?_
        refine g_iload (pc := 168) dX11_split_168 rfl ?_
        refine g_iload_n (pc := 170) dX11_split_170 rfl ?_
        obtain ⟨x8, e7, h⟩ := x_bind h
        refine g_cV (pc := 171) dX11_split_171 cV_RX11_119 (M_X8_priceIn (Nat.le_refl _) e7) xc_1 (as := [.int v8, .int v2]) (st := [.long ((((v5).toInt64) * ((x5).toInt64)) / v3), .long v6]) rfl rfl (Nat.le_of_ble_eq_true rfl) (Nat.le_trans (Nat.le_of_ble_eq_true rfl) hd) rfl ?_
        refine g_i2l (pc := 174) dX11_split_174 rfl ?_
        refine g_lmul (pc := 175) dX11_split_175 rfl ?_
        refine g_ladd (pc := 176) dX11_split_176 rfl ?_
        refine g_lstore (pc := 177) dX11_split_177 (Nat.le_of_ble_eq_true rfl) (Nat.le_of_ble_eq_true rfl) (L' := [some (.ref 0), some (.int v1), some (.int v2), some (.long v3), none, some (.int v5), some (.long (v6 + (((((v5).toInt64) * ((x5).toInt64)) / v3) * ((x8).toInt64)))), none, some (.int v8)]) rfl ?_
        exact G_X11_split_179 hd ih v1 v2 v3 v5 (v6 + (((((v5).toInt64) * ((x5).toInt64)) / v3) * ((x8).toInt64))) v8 u h
set_option maxRecDepth 100000 in
set_option maxHeartbeats 4000000 in
theorem G_X11_split_70 {sc : Nat × (Nat → Int32)} {d : Nat} (hd : 6 ≤ d) {o : Option Int32} {u' : xS} {k31 : Int32 → Int32 → Int64 → Int32 → xS → Option (Option Int32 × xS)} (hk31 : ∀ (v1 : Int32) (v2 : Int32) (v3 : Int64) (v5 : Int32) (u : xS), k31 v1 v2 v3 v5 u = some (o, u') → xG sc mX11_split d 1 6 (xRX o (xL0, u')) 0 0 31 [some (.ref 0), some (.int v1), some (.int v2), some (.long v3), none, some (.int v5), none, none, none] [] (xL0, u)) (v1 : Int32) (v2 : Int32) (v3 : Int64) (v5 : Int32) (u : xS) (h : f_X11_split_70 k31 v1 v2 v3 v5 u = some (o, u')) : xG sc mX11_split d 1 6 (xRX o (xL0, u')) 0 0 70 [some (.ref 0), some (.int v1), some (.int v2), some (.long v3), none, some (.int v5), none, none, none] [] (xL0, u) := by
  rw [f_X11_split_70] at h
  refine g_inc (pc := 70) dX11_split_70 (Nat.le_of_ble_eq_true rfl) rfl ic_1 (L' := [some (.ref 0), some (.int v1), some (.int v2), some (.long v3), none, some (.int (v5 + (1 : Int32))), none, none, none]) rfl ?_
  refine g_goto (tgt := 31) (pc := 73) dX11_split_73 (by decide) ?_
  exact hk31 v1 v2 v3 (v5 + (1 : Int32)) u h
set_option maxRecDepth 100000 in
set_option maxHeartbeats 4000000 in
theorem G_X11_split_31 {sc : Nat × (Nat → Int32)} {d : Nat} (hd : 6 ≤ d) {o : Option Int32} {u' : xS} : ∀ (n : Nat) (v1 : Int32) (v2 : Int32) (v3 : Int64) (v5 : Int32) (u : xS), f_X11_split_31 n v1 v2 v3 v5 u = some (o, u') → xG sc mX11_split d 1 6 (xRX o (xL0, u')) 0 0 31 [some (.ref 0), some (.int v1), some (.int v2), some (.long v3), none, some (.int v5), none, none, none] [] (xL0, u) := by
  intro n
  induction n with
  | zero =>
    intro v1 v2 v3 v5 u h
    rw [f_X11_split_31] at h
    cases h
  | succ n ih =>
    intro v1 v2 v3 v5 u h
    rw [f_X11_split_31] at h
    refine g_iload (pc := 31) dX11_split_31 rfl ?_
    refine g_aload_n (pc := 33) dX11_split_33 rfl ?_
    refine g_gR (pc := 34) dX11_split_34 fR_RX11_12 xc_0 (v := 1) rfl ?_
    refine g_gI (pc := 37) dX11_split_37 fI_RX11_102 xc_1 (v := (rd u 1 2)) rfl ?_
    refine g_icmp_ge (tgt := 76) (pc := 40) dX11_split_40 (by decide) (fun c1 => ?_) (fun c1 => ?_)
    · replace h := (if_pos c1).symm.trans h
      refine g_lload_n (pc := 76) dX11_split_76 rfl ?_
      refine g_lconst (v := (0 : Int64)) (pc := 77) dX11_split_77 rfl ?_
      refine g_lcmp (pc := 78) dX11_split_78 rfl ?_
      refine g_if_ne (tgt := 90) (pc := 79) dX11_split_79 (by decide) (fun c2 => ?_) (fun c2 => ?_)
      · replace h := (if_neg c2).symm.trans h
        refine g_aload_n (pc := 90) dX11_split_90 rfl ?_
        refine g_gR (pc := 91) dX11_split_91 fR_RX11_54 xc_0 (v := 74) rfl ?_
        refine g_iload_n (pc := 94) dX11_split_94 rfl ?_
        obtain ⟨x4, e3, h⟩ := x_bind h
        refine g_cV (pc := 95) dX11_split_95 cV_RX11_263 (M_X6_ofSort (Nat.le_refl _) e3) xc_74 (as := [.int v1]) (st := []) rfl rfl (Nat.le_of_ble_eq_true rfl) (Nat.le_trans (Nat.le_of_ble_eq_true rfl) hd) rfl ?_
        refine g_istore (pc := 98) dX11_split_98 (Nat.le_of_ble_eq_true rfl) (L' := [some (.ref 0), some (.int v1), some (.int v2), some (.long v3), none, some (.int x4), none, none, none]) rfl ?_
        refine g_iload (pc := 100) dX11_split_100 rfl ?_
        refine g_i2l (pc := 102) dX11_split_102 rfl ?_
        refine g_lneg (pc := 103) dX11_split_103 rfl ?_
        refine g_aload_n (pc := 104) dX11_split_104 rfl ?_
        refine g_gR (pc := 105) dX11_split_105 fR_RX11_12 xc_0 (v := 1) rfl ?_
        refine g_iload_n (pc := 108) dX11_split_108 rfl ?_
        refine g_iload_n (pc := 109) dX11_split_109 rfl ?_
        obtain ⟨x6, e5, h⟩ := x_bind h
        refine g_cV (pc := 110) dX11_split_110 cV_RX11_119 (M_X8_priceIn (Nat.le_refl _) e5) xc_1 (as := [.int v1, .int v2]) (st := [.long (-((x4).toInt64))]) rfl rfl (Nat.le_of_ble_eq_true rfl) (Nat.le_trans (Nat.le_of_ble_eq_true rfl) hd) rfl ?_
        refine g_i2l (pc := 113) dX11_split_113 rfl ?_
        refine g_lmul (pc := 114) dX11_split_114 rfl ?_
        refine g_lstore (pc := 115) dX11_split_115 (Nat.le_of_ble_eq_true rfl) (Nat.le_of_ble_eq_true rfl) (L' := [some (.ref 0), some (.int v1), some (.int v2), some (.long v3), none, some (.int x4), some (.long ((-((x4).toInt64)) * ((x6).toInt64))), none, none]) rfl ?_
        refine g_iconst (pc := 117) dX11_split_117 ic_0 ?_
        refine g_istore (pc := 118) dX11_split_118 (Nat.le_of_ble_eq_true rfl) (L' := [some (.ref 0), some (.int v1), some (.int v2), some (.long v3), none, some (.int x4), some (.long ((-((x4).toInt64)) * ((x6).toInt64))), none, some (.int (0 : Int32))]) rfl ?_
        exact G_X11_split_120 hd xN v1 v2 v3 x4 ((-((x4).toInt64)) * ((x6).toInt64)) (0 : Int32) u h
      · replace h := (if_pos c2).symm.trans h
        obtain ⟨h1, h2⟩ := x_inj2 h
        subst h1
        subst h2
        exact g_throw (pc := 82) dX11_split_82 dX11_split_85 dX11_split_86 dX11_split_89 (by decide) thr_RX11_277_279 rfl rfl (Nat.le_trans (Nat.le_of_ble_eq_true rfl) hd) (Nat.le_of_ble_eq_true rfl) (Nat.le_refl _) (Nat.le_refl _)
    · replace h := (if_neg c1).symm.trans h
      refine g_aload_n (pc := 43) dX11_split_43 rfl ?_
      refine g_gR (pc := 44) dX11_split_44 fR_RX11_12 xc_0 (v := 1) rfl ?_
      refine g_gR (pc := 47) dX11_split_47 fR_RX11_280 xc_1 (v := 9) rfl ?_
      refine g_iload (pc := 50) dX11_split_50 rfl ?_
      obtain ⟨g7, h⟩ := x_gd h
      refine g_iaload (pc := 52) dX11_split_52 xc_9 (xin_of g7) (v := (rd u 9 v5.toNatClampNeg)) rfl ?_
      refine g_iload_n (pc := 53) dX11_split_53 rfl ?_
      refine g_icmp_ne (tgt := 70) (pc := 54) dX11_split_54 (by decide) (fun c8 => ?_) (fun c8 => ?_)
      · replace h := (if_neg c8).symm.trans h
        exact G_X11_split_70 hd ih v1 v2 v3 v5 u h
      · replace h := (if_pos c8).symm.trans h
        refine g_lload_n (pc := 57) dX11_split_57 rfl ?_
        refine g_aload_n (pc := 58) dX11_split_58 rfl ?_
        refine g_gR (pc := 59) dX11_split_59 fR_RX11_19 xc_0 (v := 13) rfl ?_
        refine g_iload (pc := 62) dX11_split_62 rfl ?_
        obtain ⟨x10, e9, h⟩ := x_bind h
        refine g_cV (pc := 64) dX11_split_64 cV_RX11_283 (M_X0_everOf (Nat.le_refl _) e9) xc_13 (as := [.int v5]) (st := [.long v3]) rfl rfl (Nat.le_of_ble_eq_true rfl) (Nat.le_trans (Nat.le_of_ble_eq_true rfl) hd) rfl ?_
        refine g_i2l (pc := 67) dX11_split_67 rfl ?_
        refine g_ladd (pc := 68) dX11_split_68 rfl ?_
        refine g_lstore_n (pc := 69) dX11_split_69 (Nat.le_of_ble_eq_true rfl) (Nat.le_of_ble_eq_true rfl) (L' := [some (.ref 0), some (.int v1), some (.int v2), some (.long (v3 + ((x10).toInt64))), none, some (.int v5), none, none, none]) rfl ?_
        exact G_X11_split_70 hd ih v1 v2 (v3 + ((x10).toInt64)) v5 u h
set_option maxRecDepth 100000 in
set_option maxHeartbeats 4000000 in
theorem G_X11_split_0 {sc : Nat × (Nat → Int32)} {d : Nat} (hd : 6 ≤ d) {o : Option Int32} {u' : xS} (v1 : Int32) (v2 : Int32) (u : xS) (h : f_X11_split v1 v2 u = some (o, u')) : xG sc mX11_split d 1 6 (xRX o (xL0, u')) 0 0 0 [some (.ref 0), some (.int v1), some (.int v2), none, none, none, none, none, none] [] (xL0, u) := by
  rw [f_X11_split] at h
  refine g_aload_n (pc := 0) dX11_split_0 rfl ?_
  refine g_gR (pc := 1) dX11_split_1 fR_RX11_12 xc_0 (v := 1) rfl ?_
  refine g_iload_n (pc := 4) dX11_split_4 rfl ?_
  refine g_cV (pc := 5) dX11_split_5 cV_RX11_98 (M_X8_has (Nat.le_refl _) rfl) xc_1 (as := [.int v1]) (st := []) rfl rfl (Nat.le_of_ble_eq_true rfl) (Nat.le_trans (Nat.le_of_ble_eq_true rfl) hd) rfl ?_
  refine g_if_eq (tgt := 18) (pc := 8) dX11_split_8 (by decide) (fun c1 => ?_) (fun c1 => ?_)
  · replace h := (if_pos c1).symm.trans h
    refine g_L (L' := [none, none, none, none, none, none, none, none, none]) trivial ?_
    exact G_X11_split_18 hd u h
  · replace h := (if_neg c1).symm.trans h
    refine g_iload_n (pc := 11) dX11_split_11 rfl ?_
    refine g_cS (pc := 12) dX11_split_12 cS_RX11_109 (M_X11_isDay (Nat.le_refl _) rfl) (as := [.int v2]) (st := []) rfl rfl (Nat.le_of_ble_eq_true rfl) (Nat.le_trans (Nat.le_of_ble_eq_true rfl) hd) rfl ?_
    refine g_if_ne (tgt := 26) (pc := 15) dX11_split_15 (by decide) (fun c2 => ?_) (fun c2 => ?_)
    · replace h := (if_neg c2).symm.trans h
      refine g_lconst (v := (0 : Int64)) (pc := 26) dX11_split_26 rfl ?_
      refine g_lstore_n (pc := 27) dX11_split_27 (Nat.le_of_ble_eq_true rfl) (Nat.le_of_ble_eq_true rfl) (L' := [some (.ref 0), some (.int v1), some (.int v2), some (.long (0 : Int64)), none, none, none, none, none]) rfl ?_
      refine g_iconst (pc := 28) dX11_split_28 ic_0 ?_
      refine g_istore (pc := 29) dX11_split_29 (Nat.le_of_ble_eq_true rfl) (L' := [some (.ref 0), some (.int v1), some (.int v2), some (.long (0 : Int64)), none, some (.int (0 : Int32)), none, none, none]) rfl ?_
      exact G_X11_split_31 hd xN v1 v2 (0 : Int64) (0 : Int32) u h
    · replace h := (if_pos c2).symm.trans h
      refine g_L (L' := [none, none, none, none, none, none, none, none, none]) trivial ?_
      exact G_X11_split_18 hd u h
set_option maxRecDepth 100000 in
set_option maxHeartbeats 4000000 in
theorem M_X11_split {sc : Nat × (Nat → Int32)} {d : Nat} (hd : 6 ≤ d) {o : Option Int32} {u u' : xS} {a1 : Int32} {a2 : Int32} (h : f_X11_split a1 a2 u = some (o, u')) : xMx sc mX11_split d [.ref 0, .int a1, .int a2] (xL0, u) o (xL0, u') :=
  xMx.of (by decide +kernel) (by decide +kernel) (Nat.le_of_ble_eq_true rfl) (L := [some (.ref 0), some (.int a1), some (.int a2), none, none, none, none, none, none]) rfl ((G_X11_split_0 hd a1 a2 u h))
set_option maxRecDepth 100000 in
set_option maxHeartbeats 4000000 in
theorem G_X11_wish_34 {sc : Nat × (Nat → Int32)} {d : Nat} (hd : 6 ≤ d) {o : Option Int32} {u' : xS} (u : xS) (h : f_X11_wish_34 u = some (o, u')) : xG sc mX11_wish d 1 6 (xRX o (xL0, u')) 0 0 34 [none, none, none, none, none] [] (xL0, u) := by
  rw [f_X11_wish_34] at h
  obtain ⟨h1, h2⟩ := x_inj2 h
  subst h1
  subst h2
  exact g_throw (pc := 34) dX11_wish_34 dX11_wish_37 dX11_wish_38 dX11_wish_41 (by decide) thr_RX11_277_279 rfl rfl (Nat.le_trans (Nat.le_of_ble_eq_true rfl) hd) (Nat.le_of_ble_eq_true rfl) (Nat.le_refl _) (Nat.le_refl _)
set_option maxRecDepth 100000 in
set_option maxHeartbeats 4000000 in
theorem G_X11_wish_42 {sc : Nat × (Nat → Int32)} {d : Nat} (hd : 6 ≤ d) {o : Option Int32} {u' : xS} (v1 : Int32) (v2 : Int32) (v3 : Int32) (u : xS) (h : f_X11_wish_42 v1 v2 v3 u = some (o, u')) : xG sc mX11_wish d 1 6 (xRX o (xL0, u')) 0 0 42 [some (.ref 0), some (.int v1), some (.int v2), some (.int v3), none] [] (xL0, u) := by
  rw [f_X11_wish_42] at h
  refine g_aload_n (pc := 42) dX11_wish_42 rfl ?_
  refine g_gR (pc := 43) dX11_wish_43 fR_RX11_82 xc_0 (v := 121) rfl ?_
  refine g_gR (pc := 46) dX11_wish_46 fR_RX11_385 xc_121 (v := 122) rfl ?_
  refine g_iload_n (pc := 49) dX11_wish_49 rfl ?_
  obtain ⟨g1, h⟩ := x_gd h
  refine g_aaload (pc := 50) dX11_wish_50 xc_122 (xin_of g1) (v := (123 + v1.toNatClampNeg)) (xrf_122 _ (xin_lt g1)) ?_
  refine g_iload_n (pc := 51) dX11_wish_51 rfl ?_
  obtain ⟨g2, h⟩ := x_gd h
  refine g_iaload (pc := 52) dX11_wish_52 (xrow_122 _ (xin_lt g1)) (xin_of g2) (v := (rd u (123 + v1.toNatClampNeg) v2.toNatClampNeg)) rfl ?_
  refine g_istore (pc := 53) dX11_wish_53 (Nat.le_of_ble_eq_true rfl) (L' := [some (.ref 0), some (.int v1), some (.int v2), some (.int v3), some (.int (rd u (123 + v1.toNatClampNeg) v2.toNatClampNeg))]) rfl ?_
  refine g_aload_n (pc := 55) dX11_wish_55 rfl ?_
  refine g_gR (pc := 56) dX11_wish_56 fR_RX11_82 xc_0 (v := 121) rfl ?_
  refine g_gR (pc := 59) dX11_wish_59 fR_RX11_385 xc_121 (v := 122) rfl ?_
  refine g_iload_n (pc := 62) dX11_wish_62 rfl ?_
  refine g_aaload (pc := 63) dX11_wish_63 xc_122 (xin_of g1) (v := (123 + v1.toNatClampNeg)) (xrf_122 _ (xin_lt g1)) ?_
  refine g_iload_n (pc := 64) dX11_wish_64 rfl ?_
  refine g_iload_n (pc := 65) dX11_wish_65 rfl ?_
  refine g_iastore (pc := 66) dX11_wish_66 (xrow_122 _ (xin_lt g1)) (xin_of g2) (u' := (wr u (123 + v1.toNatClampNeg) v2.toNatClampNeg v3)) rfl ?_
  refine g_iload (pc := 67) dX11_wish_67 rfl ?_
  obtain ⟨h1, h2⟩ := x_inj2 h
  subst h1
  subst h2
  exact g_iretX (pc := 69) dX11_wish_69 rfl rfl rfl (by decide) (by decide)
set_option maxRecDepth 100000 in
set_option maxHeartbeats 4000000 in
theorem G_X11_wish_0 {sc : Nat × (Nat → Int32)} {d : Nat} (hd : 6 ≤ d) {o : Option Int32} {u' : xS} (v1 : Int32) (v2 : Int32) (v3 : Int32) (u : xS) (h : f_X11_wish v1 v2 v3 u = some (o, u')) : xG sc mX11_wish d 1 6 (xRX o (xL0, u')) 0 0 0 [some (.ref 0), some (.int v1), some (.int v2), some (.int v3), none] [] (xL0, u) := by
  rw [f_X11_wish] at h
  refine g_iload_n (pc := 0) dX11_wish_0 rfl ?_
  refine g_cS (pc := 1) dX11_wish_1 cS_RX11_382 (M_X11_isLand (Nat.le_refl _) rfl) (as := [.int v1]) (st := []) rfl rfl (Nat.le_of_ble_eq_true rfl) (Nat.le_trans (Nat.le_of_ble_eq_true rfl) hd) rfl ?_
  refine g_if_eq (tgt := 34) (pc := 4) dX11_wish_4 (by decide) (fun c1 => ?_) (fun c1 => ?_)
  · replace h := (if_pos c1).symm.trans h
    refine g_L (L' := [none, none, none, none, none]) trivial ?_
    exact G_X11_wish_34 hd u h
  · replace h := (if_neg c1).symm.trans h
    refine g_aload_n (pc := 7) dX11_wish_7 rfl ?_
    refine g_gR (pc := 8) dX11_wish_8 fR_RX11_12 xc_0 (v := 1) rfl ?_
    refine g_iload_n (pc := 11) dX11_wish_11 rfl ?_
    refine g_cV (pc := 12) dX11_wish_12 cV_RX11_98 (M_X8_has (Nat.le_refl _) rfl) xc_1 (as := [.int v2]) (st := []) rfl rfl (Nat.le_of_ble_eq_true rfl) (Nat.le_trans (Nat.le_of_ble_eq_true rfl) hd) rfl ?_
    refine g_if_eq (tgt := 34) (pc := 15) dX11_wish_15 (by decide) (fun c2 => ?_) (fun c2 => ?_)
    · replace h := (if_pos c2).symm.trans h
      refine g_L (L' := [none, none, none, none, none]) trivial ?_
      exact G_X11_wish_34 hd u h
    · replace h := (if_neg c2).symm.trans h
      refine g_iload_n (pc := 18) dX11_wish_18 rfl ?_
      refine g_iconst (pc := 19) dX11_wish_19 ic_m1 ?_
      refine g_icmp_eq (tgt := 42) (pc := 20) dX11_wish_20 (by decide) (fun c3 => ?_) (fun c3 => ?_)
      · replace h := (if_pos c3).symm.trans h
        exact G_X11_wish_42 hd v1 v2 v3 u h
      · replace h := (if_neg c3).symm.trans h
        refine g_iload_n (pc := 23) dX11_wish_23 rfl ?_
        refine g_iconst (pc := 24) dX11_wish_24 ic_0 ?_
        refine g_sipush (pc := 25) dX11_wish_25 sp_999 ?_
        refine g_cS (pc := 28) dX11_wish_28 cS_RX11_94 (M_X11_lies (Nat.le_refl _) rfl) (as := [.int v3, .int (0 : Int32), .int (999 : Int32)]) (st := []) rfl rfl (Nat.le_of_ble_eq_true rfl) (Nat.le_trans (Nat.le_of_ble_eq_true rfl) hd) rfl ?_
        refine g_if_ne (tgt := 42) (pc := 31) dX11_wish_31 (by decide) (fun c4 => ?_) (fun c4 => ?_)
        · replace h := (if_neg c4).symm.trans h
          exact G_X11_wish_42 hd v1 v2 v3 u h
        · replace h := (if_pos c4).symm.trans h
          refine g_L (L' := [none, none, none, none, none]) trivial ?_
          exact G_X11_wish_34 hd u h
set_option maxRecDepth 100000 in
set_option maxHeartbeats 4000000 in
theorem M_X11_wish {sc : Nat × (Nat → Int32)} {d : Nat} (hd : 6 ≤ d) {o : Option Int32} {u u' : xS} {a1 : Int32} {a2 : Int32} {a3 : Int32} (h : f_X11_wish a1 a2 a3 u = some (o, u')) : xMx sc mX11_wish d [.ref 0, .int a1, .int a2, .int a3] (xL0, u) o (xL0, u') :=
  xMx.of (by decide +kernel) (by decide +kernel) (Nat.le_of_ble_eq_true rfl) (L := [some (.ref 0), some (.int a1), some (.int a2), some (.int a3), none]) rfl ((G_X11_wish_0 hd a1 a2 a3 u h))
