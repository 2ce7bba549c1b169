def R_law : String := "RagTownLaw"
def lw_P (b : Addr) (xs : List Int32) (args : Array Value) (s : State) : Prop := args = #[.ref b] ∧ s.IntsAt b xs ∧ xs.length ≤ 4096 ∧ (Jvm.Cond.and given_1 narrow_1).before args s = true
def lw_Q (_ : Array Value) (s : State) (o : Outcome) (t : State) : Prop := o = .returned (some (.int 1)) ∧ Framed s o t [] 601024 7293034
def lw_Z (below : List Frame) (a : Array Value) (s : State) : State → Prop := fun t => ∃ o, t.status = .running ∧ Ended t below o ∧ lw_Q a s o t
/-- the law's own end, with 1 on the stack, nothing written that was there before, its room as the claim has it -/
theorem lw_ret {p : Program} {l : Launch} {e : Env} {s : State} {m : MethodId} {below : List Frame} {meth : Method} {c : Code} {b : Nat} (hx : p.tables.exec = Jvm.exec) (hb : c.code = code) (hr : meth.sig.returnType = ret) (hlocks : meth.locks = false) {pc : Nat} {H : Heap} {ls : Array Slot} (hdg : decode code pc = .ok (.ireturn, 1)) : W p l e room_1 s m #[Value.ref b] below meth c H [] 601024 7293034 (lw_Z below #[Value.ref b] s) (F0 m pc ls [.int 1]) := by
  intro T hT X
  obtain ⟨fs, hret, hrun, hended, hW, hframe⟩ := X.leave (v := some (.int 1)) (hlocks := hlocks) (fun h => by rw [hr] at h; cases h)
  have hmeth' : T.vm.method? m = some meth := X.method'
  refine ⟨T.setFrames fs, ?_, .returned (some (.int 1)), hrun, hended, rfl, ⟨_, rfl⟩, hW, hframe⟩
  jvm_step X.here [X.here.top, hx, hb, hdg, hmeth', hr, ret, narrow_b1]
  (try refine ⟨rfl, ?_⟩); (try refine ⟨rfl, ?_⟩)
  first | (intro acts; rw [hret _ acts rfl rfl rfl]) | rw [hret _ _ rfl rfl rfl]
  exact Steps.refl _
/-- what holds at the law's entry: the machine, the code, the tables' words (any of lw_tbl by 'hts w (by decide +kernel)'), the script of L ints xs at the cell b, what the Statement gives of the start (any of its parts by flat_of_before) -/
def lw_At (p : Program) (s : State) (m : MethodId) (meth : Method) (c : Code) (b L : Nat) (xs : Nat → Int32) : Prop :=
  p.tables.exec = Jvm.exec ∧ c.code = code ∧ meth.sig.returnType = ret ∧ c.maxLocals = 7 ∧ s.vm.findClass R_law = some m.cls ∧ (∀ w ∈ lw_tbl, w.before #[Value.ref b] s = true) ∧ va_X b L xs s s.heap ∧ b < s.heap.size ∧ meth.locks = false ∧ (Jvm.Cond.and given_1 narrow_1).before #[Value.ref b] s = true
/-! THE LAW'S OWN FRAME -/
def lawQ : xE := fun below args s D cA n0 ad0 A t => (∀ q, A q → s.heap.size ≤ q) → lw_Z below args s t
/-- the law's end, in any room -/
theorem lw_retG {p : Program} {l : Launch} {e : Env} {R : Room} {s : State} {m : MethodId} {args : Array Value} {below : List Frame} {meth : Method} {c : Code} {locs : List Loc} (hx : p.tables.exec = Jvm.exec) (hb : c.code = code) (hr : meth.sig.returnType = some .boolean) (hlocks : meth.locks = false) {pc : Nat} {H : Heap} {ls : Array Slot} (hdg : decode code pc = .ok (.ireturn, 1)) : W p l e R s m args below meth c H locs 601024 7293034 (fun t => ∃ o, t.status = .running ∧ Ended t below o ∧ o = .returned (some (.int 1)) ∧ Framed s o t locs 601024 7293034) (F0 m pc ls [.int 1]) := by
  intro T hT X
  obtain ⟨fs, hret, hrun, hended, hW, hframe⟩ := X.leave (v := some (.int 1)) (hlocks := hlocks) (fun h => by rw [hr] at h; cases h)
  have hmeth' : T.vm.method? m = some meth := X.method'
  refine ⟨T.setFrames fs, ?_, .returned (some (.int 1)), hrun, hended, rfl, ⟨_, rfl⟩, hW, hframe⟩
  jvm_step X.here [X.here.top, hx, hb, hdg, hmeth', hr, narrow_b1]
  (try refine ⟨rfl, ?_⟩); (try refine ⟨rfl, ?_⟩)
  first | (intro acts; rw [hret _ acts rfl rfl rfl]) | rw [hret _ _ rfl rfl rfl]
  exact Steps.refl _
abbrev lawL (i : Nat) (a b : Option Value) : xL := [some (.ref 1000), some (.ref 0), some (.ref 135), some (.ref 181), some (.int (nI (8 * i))), a, b]
section XLAW
variable {sc : Nat × (Nat → Int32)} {cl sl pc : Nat} {L : xL} {st : List Value} {μ : xM} {i : Nat} {a b : Option Value}
theorem g_lawend (hd : decode cL_law pc = .ok (.ireturn, 1)) (hcl : cl ≤ 601024) (hsl : sl ≤ 7293034) : xG sc mL_law 1000 601024 7293034 lawQ cl sl pc L [.int 1] μ := by
  intro p l e R s m args below meth c X D cA n0 ad0 ad A H locs ls hn0 ha hR hl
  obtain ⟨hx, hb, hrt, hm, hown, hts, hlk, hnm, hfr, hlo, hce, hsl0⟩ := id X
  by_cases hA : ∀ q, A q → s.heap.size ≤ q
  · intro T hT XT
    obtain ⟨t, k1, o, z1, z2, z3, z4⟩ := va_forget (fun q hq => hA _ (hR.2.2.2.1.2.2 q hq)) (W.widen hcl hsl (lw_retG (locs := []) hx hb hrt hlk hd)) T hT XT
    exact ⟨t, k1, fun _ => ⟨o, z1, z2, z3, z4⟩⟩
  · intro T hT XT
    obtain ⟨t, k1, z⟩ := W.widen hcl hsl (lw_retG (locs := locs) hx hb hrt hlk hd) T hT XT
    exact ⟨t, k1, fun h => absurd h hA⟩
/-- an int of the script, ahead of a call -/
theorem g_argC {j : Nat} {n : Int} (h0 : decode cL_law pc = .ok (.aload_n 0, 1)) (h1 : decode cL_law (pc + 1) = .ok (.iload 4, 2)) (h2 : decode cL_law (pc + 3) = .ok (.iconst n, 1)) (h3 : decode cL_law (pc + 4) = .ok (.iadd, 1)) (h4 : decode cL_law (pc + 5) = .ok (.iaload, 1)) (hn : Int32.ofInt n = nI j) (hj : j < 8) (hi : 8 * i + 8 ≤ sc.1) (hL : sc.1 ≤ 4096) (h : xG sc mL_law 1000 601024 7293034 lawQ cl sl (pc + 6) (lawL i a b) (.int (sc.2 (8 * i + j)) :: st) μ) : xG sc mL_law 1000 601024 7293034 lawQ cl sl pc (lawL i a b) st μ := by
  refine g_aload_n h0 rfl ?_
  refine g_iload h1 rfl ?_
  refine g_iconst h2 hn ?_
  refine g_iadd h3 (nI_add (8 * i) j) ?_
  exact g_sload h4 (vp_in_nI (by omega) (by omega)) (congrArg sc.2 (nI_clamp (by omega))) h
theorem g_argB {j : Nat} {n : Int} (h0 : decode cL_law pc = .ok (.aload_n 0, 1)) (h1 : decode cL_law (pc + 1) = .ok (.iload 4, 2)) (h2 : decode cL_law (pc + 3) = .ok (.bipush n, 2)) (h3 : decode cL_law (pc + 5) = .ok (.iadd, 1)) (h4 : decode cL_law (pc + 6) = .ok (.iaload, 1)) (hn : (Int8.ofInt n).toInt32 = nI j) (hj : j < 8) (hi : 8 * i + 8 ≤ sc.1) (hL : sc.1 ≤ 4096) (h : xG sc mL_law 1000 601024 7293034 lawQ cl sl (pc + 7) (lawL i a b) (.int (sc.2 (8 * i + j)) :: st) μ) : xG sc mL_law 1000 601024 7293034 lawQ cl sl pc (lawL i a b) st μ := by
  refine g_aload_n h0 rfl ?_
  refine g_iload h1 rfl ?_
  refine g_bipush h2 hn ?_
  refine g_iadd h3 (nI_add (8 * i) j) ?_
  exact g_sload h4 (vp_in_nI (by omega) (by omega)) (congrArg sc.2 (nI_clamp (by omega))) h
theorem lg_self (x : Int64) : lg_cmp x x = 0 := by
  simp [lg_cmp]
theorem cVL2_27 : xcV RL 27 mX11_sort 11 7 := ⟨x_mem 414 (by decide +kernel) rfl, x_mem 415 (by decide +kernel) rfl, x_mem 416 (by decide +kernel) rfl, ⟨x_mem 1 (by decide +kernel) rfl, x_mem 417 (by decide +kernel) rfl, by decide +kernel, by decide⟩, _, rfl, rfl⟩
theorem cVL2_31 : xcV RL 31 mX12_sort 12 7 := ⟨x_mem 1256 (by decide +kernel) rfl, x_mem 1257 (by decide +kernel) rfl, x_mem 1258 (by decide +kernel) rfl, ⟨x_mem 13 (by decide +kernel) rfl, x_mem 1259 (by decide +kernel) rfl, by decide +kernel, by decide⟩, _, rfl, rfl⟩
def xS_sort (Inv : xS → Prop) : Prop := ∀ (u : xS) (a1 : Int32) (a2 : Int32) (a3 : Int32) (a4 : Int32) (a5 : Int32) (a6 : Int32) (a7 : Int32), Inv u → ∃ (r : Int32) (u1 u2 : xS), f_X11_sort a1 a2 a3 a4 a5 a6 a7 u = some (r, u1) ∧ f_X12_sort a1 a2 a3 a4 a5 a6 a7 u1 = some (r, u2) ∧ Inv u2
set_option maxRecDepth 100000 in
set_option maxHeartbeats 4000000 in
theorem law_c0 {Inv : xS → Prop} (hS : xS_sort Inv) {u : xS} (hi : 8 * i + 8 ≤ sc.1) (hL : sc.1 ≤ 4096) (hcl : cl + 1 ≤ 601024) (hsl : sl + 6 ≤ 7293034) (hu : Inv u) (h : ∀ (u' : xS) (a' b' : Option Value), Inv u' → xG sc mL_law 1000 601024 7293034 lawQ (cl + 1) (sl + 6) 1896 (lawL i a' b') [] (xL0, u')) : xG sc mL_law 1000 601024 7293034 lawQ cl sl 220 (lawL i a b) [] (xL0, u) := by
  obtain ⟨r, u1, u2, h1, h2, h3⟩ := hS u (sc.2 (8 * i + 1)) (sc.2 (8 * i + 2)) (sc.2 (8 * i + 3)) (sc.2 (8 * i + 4)) (sc.2 (8 * i + 5)) (sc.2 (8 * i + 6)) (sc.2 (8 * i + 7)) hu
  refine g_aload_n (pc := 220) dL_law_220 rfl ?_
  refine g_argC (j := 1) (pc := 221) dL_law_221 dL_law_222 dL_law_224 dL_law_225 dL_law_226 (by decide) (by decide) hi hL ?_
  refine g_argC (j := 2) (pc := 227) dL_law_227 dL_law_228 dL_law_230 dL_law_231 dL_law_232 (by decide) (by decide) hi hL ?_
  refine g_argC (j := 3) (pc := 233) dL_law_233 dL_law_234 dL_law_236 dL_law_237 dL_law_238 (by decide) (by decide) hi hL ?_
  refine g_argC (j := 4) (pc := 239) dL_law_239 dL_law_240 dL_law_242 dL_law_243 dL_law_244 (by decide) (by decide) hi hL ?_
  refine g_argC (j := 5) (pc := 245) dL_law_245 dL_law_246 dL_law_248 dL_law_249 dL_law_250 (by decide) (by decide) hi hL ?_
  refine g_argB (j := 6) (pc := 251) dL_law_251 dL_law_252 dL_law_254 dL_law_256 dL_law_257 (by decide) (by decide) hi hL ?_
  refine g_argB (j := 7) (pc := 258) dL_law_258 dL_law_259 dL_law_261 dL_law_263 dL_law_264 (by decide) (by decide) hi hL ?_
  refine g_cVl (pc := 265) (d' := 900) dL_law_265 cVL2_27 (M_X11_sort (Nat.le_of_ble_eq_true rfl) h1) xc_0 (as := [.int (sc.2 (8 * i + 1)), .int (sc.2 (8 * i + 2)), .int (sc.2 (8 * i + 3)), .int (sc.2 (8 * i + 4)), .int (sc.2 (8 * i + 5)), .int (sc.2 (8 * i + 6)), .int (sc.2 (8 * i + 7))]) (st := []) rfl rfl (Nat.le_of_ble_eq_true rfl) (Nat.le_of_ble_eq_true rfl) rfl (by omega) (by omega) ?_
  refine g_aload_n (pc := 268) dL_law_268 rfl ?_
  refine g_argC (j := 1) (pc := 269) dL_law_269 dL_law_270 dL_law_272 dL_law_273 dL_law_274 (by decide) (by decide) hi hL ?_
  refine g_argC (j := 2) (pc := 275) dL_law_275 dL_law_276 dL_law_278 dL_law_279 dL_law_280 (by decide) (by decide) hi hL ?_
  refine g_argC (j := 3) (pc := 281) dL_law_281 dL_law_282 dL_law_284 dL_law_285 dL_law_286 (by decide) (by decide) hi hL ?_
  refine g_argC (j := 4) (pc := 287) dL_law_287 dL_law_288 dL_law_290 dL_law_291 dL_law_292 (by decide) (by decide) hi hL ?_
  refine g_argC (j := 5) (pc := 293) dL_law_293 dL_law_294 dL_law_296 dL_law_297 dL_law_298 (by decide) (by decide) hi hL ?_
  refine g_argB (j := 6) (pc := 299) dL_law_299 dL_law_300 dL_law_302 dL_law_304 dL_law_305 (by decide) (by decide) hi hL ?_
  refine g_argB (j := 7) (pc := 306) dL_law_306 dL_law_307 dL_law_309 dL_law_311 dL_law_312 (by decide) (by decide) hi hL ?_
  refine g_cVl (pc := 313) (d' := 900) dL_law_313 cVL2_31 (M_X12_sort (Nat.le_of_ble_eq_true rfl) h2) xc_135 (as := [.int (sc.2 (8 * i + 1)), .int (sc.2 (8 * i + 2)), .int (sc.2 (8 * i + 3)), .int (sc.2 (8 * i + 4)), .int (sc.2 (8 * i + 5)), .int (sc.2 (8 * i + 6)), .int (sc.2 (8 * i + 7))]) (st := [.int r]) rfl rfl (Nat.le_of_ble_eq_true rfl) (Nat.le_of_ble_eq_true rfl) rfl (by omega) (by omega) ?_
  refine g_icmp_eq (tgt := 1896) (pc := 316) dL_law_316 (by decide) (fun _ => ?_) (fun hne => absurd rfl hne)
  exact g_w (Nat.le_succ _) (Nat.le_add_right _ 6) (h _ _ _ h3)
theorem cVL2_32 : xcV RL 32 mX11_price 11 3 := ⟨x_mem 429 (by decide +kernel) rfl, x_mem 430 (by decide +kernel) rfl, x_mem 431 (by decide +kernel) rfl, ⟨x_mem 1 (by decide +kernel) rfl, x_mem 432 (by decide +kernel) rfl, by decide +kernel, by decide⟩, _, rfl, rfl⟩
theorem cVL2_35 : xcV RL 35 mX12_price 12 3 := ⟨x_mem 1270 (by decide +kernel) rfl, x_mem 1271 (by decide +kernel) rfl, x_mem 1272 (by decide +kernel) rfl, ⟨x_mem 13 (by decide +kernel) rfl, x_mem 1273 (by decide +kernel) rfl, by decide +kernel, by decide⟩, _, rfl, rfl⟩
def xS_price (Inv : xS → Prop) : Prop := ∀ (u : xS) (a1 : Int32) (a2 : Int32) (a3 : Int32), Inv u → ∃ (r : Int32) (u1 u2 : xS), f_X11_price a1 a2 a3 u = some (r, u1) ∧ f_X12_price a1 a2 a3 u1 = some (r, u2) ∧ Inv u2
set_option maxRecDepth 100000 in
set_option maxHeartbeats 4000000 in
theorem law_c1 {Inv : xS → Prop} (hS : xS_price Inv) {u : xS} (hi : 8 * i + 8 ≤ sc.1) (hL : sc.1 ≤ 4096) (hcl : cl + 1 ≤ 601024) (hsl : sl + 6 ≤ 7293034) (hu : Inv u) (h : ∀ (u' : xS) (a' b' : Option Value), Inv u' → xG sc mL_law 1000 601024 7293034 lawQ (cl + 1) (sl + 6) 1896 (lawL i a' b') [] (xL0, u')) : xG sc mL_law 1000 601024 7293034 lawQ cl sl 321 (lawL i a b) [] (xL0, u) := by
  obtain ⟨r, u1, u2, h1, h2, h3⟩ := hS u (sc.2 (8 * i + 1)) (sc.2 (8 * i + 2)) (sc.2 (8 * i + 3)) hu
  refine g_aload_n (pc := 321) dL_law_321 rfl ?_
  refine g_argC (j := 1) (pc := 322) dL_law_322 dL_law_323 dL_law_325 dL_law_326 dL_law_327 (by decide) (by decide) hi hL ?_
  refine g_argC (j := 2) (pc := 328) dL_law_328 dL_law_329 dL_law_331 dL_law_332 dL_law_333 (by decide) (by decide) hi hL ?_
  refine g_argC (j := 3) (pc := 334) dL_law_334 dL_law_335 dL_law_337 dL_law_338 dL_law_339 (by decide) (by decide) hi hL ?_
  refine g_cVl (pc := 340) (d' := 900) dL_law_340 cVL2_32 (M_X11_price (Nat.le_of_ble_eq_true rfl) h1) xc_0 (as := [.int (sc.2 (8 * i + 1)), .int (sc.2 (8 * i + 2)), .int (sc.2 (8 * i + 3))]) (st := []) rfl rfl (Nat.le_of_ble_eq_true rfl) (Nat.le_of_ble_eq_true rfl) rfl (by omega) (by omega) ?_
  refine g_aload_n (pc := 343) dL_law_343 rfl ?_
  refine g_argC (j := 1) (pc := 344) dL_law_344 dL_law_345 dL_law_347 dL_law_348 dL_law_349 (by decide) (by decide) hi hL ?_
  refine g_argC (j := 2) (pc := 350) dL_law_350 dL_law_351 dL_law_353 dL_law_354 dL_law_355 (by decide) (by decide) hi hL ?_
  refine g_argC (j := 3) (pc := 356) dL_law_356 dL_law_357 dL_law_359 dL_law_360 dL_law_361 (by decide) (by decide) hi hL ?_
  refine g_cVl (pc := 362) (d' := 900) dL_law_362 cVL2_35 (M_X12_price (Nat.le_of_ble_eq_true rfl) h2) xc_135 (as := [.int (sc.2 (8 * i + 1)), .int (sc.2 (8 * i + 2)), .int (sc.2 (8 * i + 3))]) (st := [.int r]) rfl rfl (Nat.le_of_ble_eq_true rfl) (Nat.le_of_ble_eq_true rfl) rfl (by omega) (by omega) ?_
  refine g_icmp_eq (tgt := 1896) (pc := 365) dL_law_365 (by decide) (fun _ => ?_) (fun hne => absurd rfl hne)
  exact g_w (Nat.le_succ _) (Nat.le_add_right _ 6) (h _ _ _ h3)
theorem cVL2_36 : xcV RL 36 mX11_at 11 2 := ⟨x_mem 440 (by decide +kernel) rfl, x_mem 441 (by decide +kernel) rfl, x_mem 442 (by decide +kernel) rfl, ⟨x_mem 1 (by decide +kernel) rfl, x_mem 443 (by decide +kernel) rfl, by decide +kernel, by decide⟩, _, rfl, rfl⟩
theorem cVL2_39 : xcV RL 39 mX12_at 12 2 := ⟨x_mem 1278 (by decide +kernel) rfl, x_mem 1279 (by decide +kernel) rfl, x_mem 1280 (by decide +kernel) rfl, ⟨x_mem 13 (by decide +kernel) rfl, x_mem 1281 (by decide +kernel) rfl, by decide +kernel, by decide⟩, _, rfl, rfl⟩
def xS_at (Inv : xS → Prop) : Prop := ∀ (u : xS) (a1 : Int32) (a2 : Int32), Inv u → ∃ (r : Int32) (u2 : xS), f_X11_at u a1 a2 = some r ∧ f_X12_at a1 a2 u = some (r, u2) ∧ Inv u2
set_option maxRecDepth 100000 in
set_option maxHeartbeats 4000000 in
theorem law_c2 {Inv : xS → Prop} (hS : xS_at Inv) {u : xS} (hi : 8 * i + 8 ≤ sc.1) (hL : sc.1 ≤ 4096) (hcl : cl + 1 ≤ 601024) (hsl : sl + 6 ≤ 7293034) (hu : Inv u) (h : ∀ (u' : xS) (a' b' : Option Value), Inv u' → xG sc mL_law 1000 601024 7293034 lawQ (cl + 1) (sl + 6) 1896 (lawL i a' b') [] (xL0, u')) : xG sc mL_law 1000 601024 7293034 lawQ cl sl 370 (lawL i a b) [] (xL0, u) := by
  obtain ⟨r, u2, h1, h2, h3⟩ := hS u (sc.2 (8 * i + 1)) (sc.2 (8 * i + 2)) hu
  refine g_aload_n (pc := 370) dL_law_370 rfl ?_
  refine g_argC (j := 1) (pc := 371) dL_law_371 dL_law_372 dL_law_374 dL_law_375 dL_law_376 (by decide) (by decide) hi hL ?_
  refine g_argC (j := 2) (pc := 377) dL_law_377 dL_law_378 dL_law_380 dL_law_381 dL_law_382 (by decide) (by decide) hi hL ?_
  refine g_cVl (pc := 383) (d' := 900) dL_law_383 cVL2_36 (M_X11_at (Nat.le_of_ble_eq_true rfl) h1) xc_0 (as := [.int (sc.2 (8 * i + 1)), .int (sc.2 (8 * i + 2))]) (st := []) rfl rfl (Nat.le_of_ble_eq_true rfl) (Nat.le_of_ble_eq_true rfl) rfl (by omega) (by omega) ?_
  refine g_aload_n (pc := 386) dL_law_386 rfl ?_
  refine g_argC (j := 1) (pc := 387) dL_law_387 dL_law_388 dL_law_390 dL_law_391 dL_law_392 (by decide) (by decide) hi hL ?_
  refine g_argC (j := 2) (pc := 393) dL_law_393 dL_law_394 dL_law_396 dL_law_397 dL_law_398 (by decide) (by decide) hi hL ?_
  refine g_cVl (pc := 399) (d' := 900) dL_law_399 cVL2_39 (M_X12_at (Nat.le_of_ble_eq_true rfl) h2) xc_135 (as := [.int (sc.2 (8 * i + 1)), .int (sc.2 (8 * i + 2))]) (st := [.int r]) rfl rfl (Nat.le_of_ble_eq_true rfl) (Nat.le_of_ble_eq_true rfl) rfl (by omega) (by omega) ?_
  refine g_icmp_eq (tgt := 1896) (pc := 402) dL_law_402 (by decide) (fun _ => ?_) (fun hne => absurd rfl hne)
  exact g_w (Nat.le_succ _) (Nat.le_add_right _ 6) (h _ _ _ h3)
theorem cVL2_40 : xcV RL 40 mX11_within 11 2 := ⟨x_mem 448 (by decide +kernel) rfl, x_mem 449 (by decide +kernel) rfl, x_mem 450 (by decide +kernel) rfl, ⟨x_mem 1 (by decide +kernel) rfl, x_mem 451 (by decide +kernel) rfl, by decide +kernel, by decide⟩, _, rfl, rfl⟩
theorem cVL2_43 : xcV RL 43 mX12_within 12 2 := ⟨x_mem 1286 (by decide +kernel) rfl, x_mem 1287 (by decide +kernel) rfl, x_mem 1288 (by decide +kernel) rfl, ⟨x_mem 13 (by decide +kernel) rfl, x_mem 1289 (by decide +kernel) rfl, by decide +kernel, by decide⟩, _, rfl, rfl⟩
def xS_within (Inv : xS → Prop) : Prop := ∀ (u : xS) (a1 : Int32) (a2 : Int32), Inv u → ∃ (r : Int32) (u2 : xS), f_X11_within u a1 a2 = some r ∧ f_X12_within a1 a2 u = some (r, u2) ∧ Inv u2
set_option maxRecDepth 100000 in
set_option maxHeartbeats 4000000 in
theorem law_c3 {Inv : xS → Prop} (hS : xS_within Inv) {u : xS} (hi : 8 * i + 8 ≤ sc.1) (hL : sc.1 ≤ 4096) (hcl : cl + 1 ≤ 601024) (hsl : sl + 6 ≤ 7293034) (hu : Inv u) (h : ∀ (u' : xS) (a' b' : Option Value), Inv u' → xG sc mL_law 1000 601024 7293034 lawQ (cl + 1) (sl + 6) 1896 (lawL i a' b') [] (xL0, u')) : xG sc mL_law 1000 601024 7293034 lawQ cl sl 407 (lawL i a b) [] (xL0, u) := by
  obtain ⟨r, u2, h1, h2, h3⟩ := hS u (sc.2 (8 * i + 1)) (sc.2 (8 * i + 2)) hu
  refine g_aload_n (pc := 407) dL_law_407 rfl ?_
  refine g_argC (j := 1) (pc := 408) dL_law_408 dL_law_409 dL_law_411 dL_law_412 dL_law_413 (by decide) (by decide) hi hL ?_
  refine g_argC (j := 2) (pc := 414) dL_law_414 dL_law_415 dL_law_417 dL_law_418 dL_law_419 (by decide) (by decide) hi hL ?_
  refine g_cVl (pc := 420) (d' := 900) dL_law_420 cVL2_40 (M_X11_within (Nat.le_of_ble_eq_true rfl) h1) xc_0 (as := [.int (sc.2 (8 * i + 1)), .int (sc.2 (8 * i + 2))]) (st := []) rfl rfl (Nat.le_of_ble_eq_true rfl) (Nat.le_of_ble_eq_true rfl) rfl (by omega) (by omega) ?_
  refine g_aload_n (pc := 423) dL_law_423 rfl ?_
  refine g_argC (j := 1) (pc := 424) dL_law_424 dL_law_425 dL_law_427 dL_law_428 dL_law_429 (by decide) (by decide) hi hL ?_
  refine g_argC (j := 2) (pc := 430) dL_law_430 dL_law_431 dL_law_433 dL_law_434 dL_law_435 (by decide) (by decide) hi hL ?_
  refine g_cVl (pc := 436) (d' := 900) dL_law_436 cVL2_43 (M_X12_within (Nat.le_of_ble_eq_true rfl) h2) xc_135 (as := [.int (sc.2 (8 * i + 1)), .int (sc.2 (8 * i + 2))]) (st := [.int r]) rfl rfl (Nat.le_of_ble_eq_true rfl) (Nat.le_of_ble_eq_true rfl) rfl (by omega) (by omega) ?_
  refine g_icmp_eq (tgt := 1896) (pc := 439) dL_law_439 (by decide) (fun _ => ?_) (fun hne => absurd rfl hne)
  exact g_w (Nat.le_succ _) (Nat.le_add_right _ 6) (h _ _ _ h3)
theorem cVL2_44 : xcV RL 44 mX11_bale 11 4 := ⟨x_mem 457 (by decide +kernel) rfl, x_mem 458 (by decide +kernel) rfl, x_mem 459 (by decide +kernel) rfl, ⟨x_mem 1 (by decide +kernel) rfl, x_mem 460 (by decide +kernel) rfl, by decide +kernel, by decide⟩, _, rfl, rfl⟩
theorem cVL2_48 : xcV RL 48 mX12_bale 12 4 := ⟨x_mem 1301 (by decide +kernel) rfl, x_mem 1302 (by decide +kernel) rfl, x_mem 1303 (by decide +kernel) rfl, ⟨x_mem 13 (by decide +kernel) rfl, x_mem 1304 (by decide +kernel) rfl, by decide +kernel, by decide⟩, _, rfl, rfl⟩
def xS_bale (Inv : xS → Prop) : Prop := ∀ (u : xS) (a1 : Int32) (a2 : Int32) (a3 : Int32) (a4 : Int32), Inv u → ∃ (r : Int32) (u1 u2 : xS), f_X11_bale a1 a2 a3 a4 u = some (r, u1) ∧ f_X12_bale a1 a2 a3 a4 u1 = some (r, u2) ∧ Inv u2
set_option maxRecDepth 100000 in
set_option maxHeartbeats 4000000 in
theorem law_c4 {Inv : xS → Prop} (hS : xS_bale Inv) {u : xS} (hi : 8 * i + 8 ≤ sc.1) (hL : sc.1 ≤ 4096) (hcl : cl + 1 ≤ 601024) (hsl : sl + 6 ≤ 7293034) (hu : Inv u) (h : ∀ (u' : xS) (a' b' : Option Value), Inv u' → xG sc mL_law 1000 601024 7293034 lawQ (cl + 1) (sl + 6) 1896 (lawL i a' b') [] (xL0, u')) : xG sc mL_law 1000 601024 7293034 lawQ cl sl 444 (lawL i a b) [] (xL0, u) := by
  obtain ⟨r, u1, u2, h1, h2, h3⟩ := hS u (sc.2 (8 * i + 1)) (sc.2 (8 * i + 2)) (sc.2 (8 * i + 3)) (sc.2 (8 * i + 4)) hu
  refine g_aload_n (pc := 444) dL_law_444 rfl ?_
  refine g_argC (j := 1) (pc := 445) dL_law_445 dL_law_446 dL_law_448 dL_law_449 dL_law_450 (by decide) (by decide) hi hL ?_
  refine g_argC (j := 2) (pc := 451) dL_law_451 dL_law_452 dL_law_454 dL_law_455 dL_law_456 (by decide) (by decide) hi hL ?_
  refine g_argC (j := 3) (pc := 457) dL_law_457 dL_law_458 dL_law_460 dL_law_461 dL_law_462 (by decide) (by decide) hi hL ?_
  refine g_argC (j := 4) (pc := 463) dL_law_463 dL_law_464 dL_law_466 dL_law_467 dL_law_468 (by decide) (by decide) hi hL ?_
  refine g_cVl (pc := 469) (d' := 900) dL_law_469 cVL2_44 (M_X11_bale (Nat.le_of_ble_eq_true rfl) h1) xc_0 (as := [.int (sc.2 (8 * i + 1)), .int (sc.2 (8 * i + 2)), .int (sc.2 (8 * i + 3)), .int (sc.2 (8 * i + 4))]) (st := []) rfl rfl (Nat.le_of_ble_eq_true rfl) (Nat.le_of_ble_eq_true rfl) rfl (by omega) (by omega) ?_
  refine g_aload_n (pc := 472) dL_law_472 rfl ?_
  refine g_argC (j := 1) (pc := 473) dL_law_473 dL_law_474 dL_law_476 dL_law_477 dL_law_478 (by decide) (by decide) hi hL ?_
  refine g_argC (j := 2) (pc := 479) dL_law_479 dL_law_480 dL_law_482 dL_law_483 dL_law_484 (by decide) (by decide) hi hL ?_
  refine g_argC (j := 3) (pc := 485) dL_law_485 dL_law_486 dL_law_488 dL_law_489 dL_law_490 (by decide) (by decide) hi hL ?_
  refine g_argC (j := 4) (pc := 491) dL_law_491 dL_law_492 dL_law_494 dL_law_495 dL_law_496 (by decide) (by decide) hi hL ?_
  refine g_cVl (pc := 497) (d' := 900) dL_law_497 cVL2_48 (M_X12_bale (Nat.le_of_ble_eq_true rfl) h2) xc_135 (as := [.int (sc.2 (8 * i + 1)), .int (sc.2 (8 * i + 2)), .int (sc.2 (8 * i + 3)), .int (sc.2 (8 * i + 4))]) (st := [.int r]) rfl rfl (Nat.le_of_ble_eq_true rfl) (Nat.le_of_ble_eq_true rfl) rfl (by omega) (by omega) ?_
  refine g_icmp_eq (tgt := 1896) (pc := 500) dL_law_500 (by decide) (fun _ => ?_) (fun hne => absurd rfl hne)
  exact g_w (Nat.le_succ _) (Nat.le_add_right _ 6) (h _ _ _ h3)
theorem cVL2_49 : xcV RL 49 mX11_open 11 6 := ⟨x_mem 471 (by decide +kernel) rfl, x_mem 472 (by decide +kernel) rfl, x_mem 473 (by decide +kernel) rfl, ⟨x_mem 1 (by decide +kernel) rfl, x_mem 474 (by decide +kernel) rfl, by decide +kernel, by decide⟩, _, rfl, rfl⟩
theorem cVL2_53 : xcV RL 53 mX12_open 12 6 := ⟨x_mem 1308 (by decide +kernel) rfl, x_mem 1309 (by decide +kernel) rfl, x_mem 1310 (by decide +kernel) rfl, ⟨x_mem 13 (by decide +kernel) rfl, x_mem 1311 (by decide +kernel) rfl, by decide +kernel, by decide⟩, _, rfl, rfl⟩
def xS_open (Inv : xS → Prop) : Prop := ∀ (u : xS) (a1 : Int32) (a2 : Int32) (a3 : Int32) (a4 : Int32) (a5 : Int32) (a6 : Int32), Inv u → ∃ (r : Int32) (u1 u2 : xS), f_X11_open a1 a2 a3 a4 a5 a6 u = some (r, u1) ∧ f_X12_open a1 a2 a3 a4 a5 a6 u1 = some (r, u2) ∧ Inv u2
set_option maxRecDepth 100000 in
set_option maxHeartbeats 4000000 in
theorem law_c5 {Inv : xS → Prop} (hS : xS_open Inv) {u : xS} (hi : 8 * i + 8 ≤ sc.1) (hL : sc.1 ≤ 4096) (hcl : cl + 1 ≤ 601024) (hsl : sl + 6 ≤ 7293034) (hu : Inv u) (h : ∀ (u' : xS) (a' b' : Option Value), Inv u' → xG sc mL_law 1000 601024 7293034 lawQ (cl + 1) (sl + 6) 1896 (lawL i a' b') [] (xL0, u')) : xG sc mL_law 1000 601024 7293034 lawQ cl sl 505 (lawL i a b) [] (xL0, u) := by
  obtain ⟨r, u1, u2, h1, h2, h3⟩ := hS u (sc.2 (8 * i + 1)) (sc.2 (8 * i + 2)) (sc.2 (8 * i + 3)) (sc.2 (8 * i + 4)) (sc.2 (8 * i + 5)) (sc.2 (8 * i + 6)) hu
  refine g_aload_n (pc := 505) dL_law_505 rfl ?_
  refine g_argC (j := 1) (pc := 506) dL_law_506 dL_law_507 dL_law_509 dL_law_510 dL_law_511 (by decide) (by decide) hi hL ?_
  refine g_argC (j := 2) (pc := 512) dL_law_512 dL_law_513 dL_law_515 dL_law_516 dL_law_517 (by decide) (by decide) hi hL ?_
  refine g_argC (j := 3) (pc := 518) dL_law_518 dL_law_519 dL_law_521 dL_law_522 dL_law_523 (by decide) (by decide) hi hL ?_
  refine g_argC (j := 4) (pc := 524) dL_law_524 dL_law_525 dL_law_527 dL_law_528 dL_law_529 (by decide) (by decide) hi hL ?_
  refine g_argC (j := 5) (pc := 530) dL_law_530 dL_law_531 dL_law_533 dL_law_534 dL_law_535 (by decide) (by decide) hi hL ?_
  refine g_argB (j := 6) (pc := 536) dL_law_536 dL_law_537 dL_law_539 dL_law_541 dL_law_542 (by decide) (by decide) hi hL ?_
  refine g_cVl (pc := 543) (d' := 900) dL_law_543 cVL2_49 (M_X11_open (Nat.le_of_ble_eq_true rfl) h1) xc_0 (as := [.int (sc.2 (8 * i + 1)), .int (sc.2 (8 * i + 2)), .int (sc.2 (8 * i + 3)), .int (sc.2 (8 * i + 4)), .int (sc.2 (8 * i + 5)), .int (sc.2 (8 * i + 6))]) (st := []) rfl rfl (Nat.le_of_ble_eq_true rfl) (Nat.le_of_ble_eq_true rfl) rfl (by omega) (by omega) ?_
  refine g_aload_n (pc := 546) dL_law_546 rfl ?_
  refine g_argC (j := 1) (pc := 547) dL_law_547 dL_law_548 dL_law_550 dL_law_551 dL_law_552 (by decide) (by decide) hi hL ?_
  refine g_argC (j := 2) (pc := 553) dL_law_553 dL_law_554 dL_law_556 dL_law_557 dL_law_558 (by decide) (by decide) hi hL ?_
  refine g_argC (j := 3) (pc := 559) dL_law_559 dL_law_560 dL_law_562 dL_law_563 dL_law_564 (by decide) (by decide) hi hL ?_
  refine g_argC (j := 4) (pc := 565) dL_law_565 dL_law_566 dL_law_568 dL_law_569 dL_law_570 (by decide) (by decide) hi hL ?_
  refine g_argC (j := 5) (pc := 571) dL_law_571 dL_law_572 dL_law_574 dL_law_575 dL_law_576 (by decide) (by decide) hi hL ?_
  refine g_argB (j := 6) (pc := 577) dL_law_577 dL_law_578 dL_law_580 dL_law_582 dL_law_583 (by decide) (by decide) hi hL ?_
  refine g_cVl (pc := 584) (d' := 900) dL_law_584 cVL2_53 (M_X12_open (Nat.le_of_ble_eq_true rfl) h2) xc_135 (as := [.int (sc.2 (8 * i + 1)), .int (sc.2 (8 * i + 2)), .int (sc.2 (8 * i + 3)), .int (sc.2 (8 * i + 4)), .int (sc.2 (8 * i + 5)), .int (sc.2 (8 * i + 6))]) (st := [.int r]) rfl rfl (Nat.le_of_ble_eq_true rfl) (Nat.le_of_ble_eq_true rfl) rfl (by omega) (by omega) ?_
  refine g_icmp_eq (tgt := 1896) (pc := 587) dL_law_587 (by decide) (fun _ => ?_) (fun hne => absurd rfl hne)
  exact g_w (Nat.le_succ _) (Nat.le_add_right _ 6) (h _ _ _ h3)
theorem cVL2_54 : xcV RL 54 mX11_of 11 2 := ⟨x_mem 501 (by decide +kernel) rfl, x_mem 502 (by decide +kernel) rfl, x_mem 503 (by decide +kernel) rfl, ⟨x_mem 1 (by decide +kernel) rfl, x_mem 504 (by decide +kernel) rfl, by decide +kernel, by decide⟩, _, rfl, rfl⟩
theorem cVL2_57 : xcV RL 57 mX12_of 12 2 := ⟨x_mem 1331 (by decide +kernel) rfl, x_mem 1332 (by decide +kernel) rfl, x_mem 1333 (by decide +kernel) rfl, ⟨x_mem 13 (by decide +kernel) rfl, x_mem 1334 (by decide +kernel) rfl, by decide +kernel, by decide⟩, _, rfl, rfl⟩
def xS_of (Inv : xS → Prop) : Prop := ∀ (u : xS) (a1 : Int32) (a2 : Int32), Inv u → ∃ (r : Int32) (u2 : xS), f_X11_of u a1 a2 = some r ∧ f_X12_of a1 a2 u = some (r, u2) ∧ Inv u2
set_option maxRecDepth 100000 in
set_option maxHeartbeats 4000000 in
theorem law_c6 {Inv : xS → Prop} (hS : xS_of Inv) {u : xS} (hi : 8 * i + 8 ≤ sc.1) (hL : sc.1 ≤ 4096) (hcl : cl + 1 ≤ 601024) (hsl : sl + 6 ≤ 7293034) (hu : Inv u) (h : ∀ (u' : xS) (a' b' : Option Value), Inv u' → xG sc mL_law 1000 601024 7293034 lawQ (cl + 1) (sl + 6) 1896 (lawL i a' b') [] (xL0, u')) : xG sc mL_law 1000 601024 7293034 lawQ cl sl 592 (lawL i a b) [] (xL0, u) := by
  obtain ⟨r, u2, h1, h2, h3⟩ := hS u (sc.2 (8 * i + 1)) (sc.2 (8 * i + 2)) hu
  refine g_aload_n (pc := 592) dL_law_592 rfl ?_
  refine g_argC (j := 1) (pc := 593) dL_law_593 dL_law_594 dL_law_596 dL_law_597 dL_law_598 (by decide) (by decide) hi hL ?_
  refine g_argC (j := 2) (pc := 599) dL_law_599 dL_law_600 dL_law_602 dL_law_603 dL_law_604 (by decide) (by decide) hi hL ?_
  refine g_cVl (pc := 605) (d' := 900) dL_law_605 cVL2_54 (M_X11_of (Nat.le_of_ble_eq_true rfl) h1) xc_0 (as := [.int (sc.2 (8 * i + 1)), .int (sc.2 (8 * i + 2))]) (st := []) rfl rfl (Nat.le_of_ble_eq_true rfl) (Nat.le_of_ble_eq_true rfl) rfl (by omega) (by omega) ?_
  refine g_aload_n (pc := 608) dL_law_608 rfl ?_
  refine g_argC (j := 1) (pc := 609) dL_law_609 dL_law_610 dL_law_612 dL_law_613 dL_law_614 (by decide) (by decide) hi hL ?_
  refine g_argC (j := 2) (pc := 615) dL_law_615 dL_law_616 dL_law_618 dL_law_619 dL_law_620 (by decide) (by decide) hi hL ?_
  refine g_cVl (pc := 621) (d' := 900) dL_law_621 cVL2_57 (M_X12_of (Nat.le_of_ble_eq_true rfl) h2) xc_135 (as := [.int (sc.2 (8 * i + 1)), .int (sc.2 (8 * i + 2))]) (st := [.int r]) rfl rfl (Nat.le_of_ble_eq_true rfl) (Nat.le_of_ble_eq_true rfl) rfl (by omega) (by omega) ?_
  refine g_icmp_eq (tgt := 1896) (pc := 624) dL_law_624 (by decide) (fun _ => ?_) (fun hne => absurd rfl hne)
  exact g_w (Nat.le_succ _) (Nat.le_add_right _ 6) (h _ _ _ h3)
theorem cVL2_58 : xcV RL 58 mX11_look 11 5 := ⟨x_mem 513 (by decide +kernel) rfl, x_mem 514 (by decide +kernel) rfl, x_mem 515 (by decide +kernel) rfl, ⟨x_mem 1 (by decide +kernel) rfl, x_mem 516 (by decide +kernel) rfl, by decide +kernel, by decide⟩, _, rfl, rfl⟩
theorem cVL2_62 : xcV RL 62 mX12_look 12 5 := ⟨x_mem 1335 (by decide +kernel) rfl, x_mem 1336 (by decide +kernel) rfl, x_mem 1337 (by decide +kernel) rfl, ⟨x_mem 13 (by decide +kernel) rfl, x_mem 1338 (by decide +kernel) rfl, by decide +kernel, by decide⟩, _, rfl, rfl⟩
def xS_look (Inv : xS → Prop) : Prop := ∀ (u : xS) (a1 : Int32) (a2 : Int32) (a3 : Int32) (a4 : Int32) (a5 : Int32), Inv u → ∃ (r : Int32) (u1 u2 : xS), f_X11_look a1 a2 a3 a4 a5 u = some (r, u1) ∧ f_X12_look a1 a2 a3 a4 a5 u1 = some (r, u2) ∧ Inv u2
set_option maxRecDepth 100000 in
set_option maxHeartbeats 4000000 in
theorem law_c7 {Inv : xS → Prop} (hS : xS_look Inv) {u : xS} (hi : 8 * i + 8 ≤ sc.1) (hL : sc.1 ≤ 4096) (hcl : cl + 1 ≤ 601024) (hsl : sl + 6 ≤ 7293034) (hu : Inv u) (h : ∀ (u' : xS) (a' b' : Option Value), Inv u' → xG sc mL_law 1000 601024 7293034 lawQ (cl + 1) (sl + 6) 1896 (lawL i a' b') [] (xL0, u')) : xG sc mL_law 1000 601024 7293034 lawQ cl sl 629 (lawL i a b) [] (xL0, u) := by
  obtain ⟨r, u1, u2, h1, h2, h3⟩ := hS u (sc.2 (8 * i + 1)) (sc.2 (8 * i + 2)) (sc.2 (8 * i + 3)) (sc.2 (8 * i + 4)) (sc.2 (8 * i + 5)) hu
  refine g_aload_n (pc := 629) dL_law_629 rfl ?_
  refine g_argC (j := 1) (pc := 630) dL_law_630 dL_law_631 dL_law_633 dL_law_634 dL_law_635 (by decide) (by decide) hi hL ?_
  refine g_argC (j := 2) (pc := 636) dL_law_636 dL_law_637 dL_law_639 dL_law_640 dL_law_641 (by decide) (by decide) hi hL ?_
  refine g_argC (j := 3) (pc := 642) dL_law_642 dL_law_643 dL_law_645 dL_law_646 dL_law_647 (by decide) (by decide) hi hL ?_
  refine g_argC (j := 4) (pc := 648) dL_law_648 dL_law_649 dL_law_651 dL_law_652 dL_law_653 (by decide) (by decide) hi hL ?_
  refine g_argC (j := 5) (pc := 654) dL_law_654 dL_law_655 dL_law_657 dL_law_658 dL_law_659 (by decide) (by decide) hi hL ?_
  refine g_cVl (pc := 660) (d' := 900) dL_law_660 cVL2_58 (M_X11_look (Nat.le_of_ble_eq_true rfl) h1) xc_0 (as := [.int (sc.2 (8 * i + 1)), .int (sc.2 (8 * i + 2)), .int (sc.2 (8 * i + 3)), .int (sc.2 (8 * i + 4)), .int (sc.2 (8 * i + 5))]) (st := []) rfl rfl (Nat.le_of_ble_eq_true rfl) (Nat.le_of_ble_eq_true rfl) rfl (by omega) (by omega) ?_
  refine g_aload_n (pc := 663) dL_law_663 rfl ?_
  refine g_argC (j := 1) (pc := 664) dL_law_664 dL_law_665 dL_law_667 dL_law_668 dL_law_669 (by decide) (by decide) hi hL ?_
  refine g_argC (j := 2) (pc := 670) dL_law_670 dL_law_671 dL_law_673 dL_law_674 dL_law_675 (by decide) (by decide) hi hL ?_
  refine g_argC (j := 3) (pc := 676) dL_law_676 dL_law_677 dL_law_679 dL_law_680 dL_law_681 (by decide) (by decide) hi hL ?_
  refine g_argC (j := 4) (pc := 682) dL_law_682 dL_law_683 dL_law_685 dL_law_686 dL_law_687 (by decide) (by decide) hi hL ?_
  refine g_argC (j := 5) (pc := 688) dL_law_688 dL_law_689 dL_law_691 dL_law_692 dL_law_693 (by decide) (by decide) hi hL ?_
  refine g_cVl (pc := 694) (d' := 900) dL_law_694 cVL2_62 (M_X12_look (Nat.le_of_ble_eq_true rfl) h2) xc_135 (as := [.int (sc.2 (8 * i + 1)), .int (sc.2 (8 * i + 2)), .int (sc.2 (8 * i + 3)), .int (sc.2 (8 * i + 4)), .int (sc.2 (8 * i + 5))]) (st := [.int r]) rfl rfl (Nat.le_of_ble_eq_true rfl) (Nat.le_of_ble_eq_true rfl) rfl (by omega) (by omega) ?_
  refine g_icmp_eq (tgt := 1896) (pc := 697) dL_law_697 (by decide) (fun _ => ?_) (fun hne => absurd rfl hne)
  exact g_w (Nat.le_succ _) (Nat.le_add_right _ 6) (h _ _ _ h3)
theorem cVL2_63 : xcV RL 63 mX11_as 11 1 := ⟨x_mem 521 (by decide +kernel) rfl, x_mem 522 (by decide +kernel) rfl, x_mem 523 (by decide +kernel) rfl, ⟨x_mem 1 (by decide +kernel) rfl, x_mem 524 (by decide +kernel) rfl, by decide +kernel, by decide⟩, _, rfl, rfl⟩
theorem cVL2_66 : xcV RL 66 mX12_as 12 1 := ⟨x_mem 1342 (by decide +kernel) rfl, x_mem 1343 (by decide +kernel) rfl, x_mem 1344 (by decide +kernel) rfl, ⟨x_mem 13 (by decide +kernel) rfl, x_mem 1345 (by decide +kernel) rfl, by decide +kernel, by decide⟩, _, rfl, rfl⟩
def xS_as (Inv : xS → Prop) : Prop := ∀ (u : xS) (a1 : Int32), Inv u → ∃ (r : Int32) (u1 u2 : xS), f_X11_as a1 u = some (r, u1) ∧ f_X12_as a1 u1 = some (r, u2) ∧ Inv u2
set_option maxRecDepth 100000 in
set_option maxHeartbeats 4000000 in
theorem law_c8 {Inv : xS → Prop} (hS : xS_as Inv) {u : xS} (hi : 8 * i + 8 ≤ sc.1) (hL : sc.1 ≤ 4096) (hcl : cl + 1 ≤ 601024) (hsl : sl + 6 ≤ 7293034) (hu : Inv u) (h : ∀ (u' : xS) (a' b' : Option Value), Inv u' → xG sc mL_law 1000 601024 7293034 lawQ (cl + 1) (sl + 6) 1896 (lawL i a' b') [] (xL0, u')) : xG sc mL_law 1000 601024 7293034 lawQ cl sl 702 (lawL i a b) [] (xL0, u) := by
  obtain ⟨r, u1, u2, h1, h2, h3⟩ := hS u (sc.2 (8 * i + 1)) hu
  refine g_aload_n (pc := 702) dL_law_702 rfl ?_
  refine g_argC (j := 1) (pc := 703) dL_law_703 dL_law_704 dL_law_706 dL_law_707 dL_law_708 (by decide) (by decide) hi hL ?_
  refine g_cVl (pc := 709) (d' := 900) dL_law_709 cVL2_63 (M_X11_as (Nat.le_of_ble_eq_true rfl) h1) xc_0 (as := [.int (sc.2 (8 * i + 1))]) (st := []) rfl rfl (Nat.le_of_ble_eq_true rfl) (Nat.le_of_ble_eq_true rfl) rfl (by omega) (by omega) ?_
  refine g_aload_n (pc := 712) dL_law_712 rfl ?_
  refine g_argC (j := 1) (pc := 713) dL_law_713 dL_law_714 dL_law_716 dL_law_717 dL_law_718 (by decide) (by decide) hi hL ?_
  refine g_cVl (pc := 719) (d' := 900) dL_law_719 cVL2_66 (M_X12_as (Nat.le_of_ble_eq_true rfl) h2) xc_135 (as := [.int (sc.2 (8 * i + 1))]) (st := [.int r]) rfl rfl (Nat.le_of_ble_eq_true rfl) (Nat.le_of_ble_eq_true rfl) rfl (by omega) (by omega) ?_
  refine g_icmp_eq (tgt := 1896) (pc := 722) dL_law_722 (by decide) (fun _ => ?_) (fun hne => absurd rfl hne)
  exact g_w (Nat.le_succ _) (Nat.le_add_right _ 6) (h _ _ _ h3)
theorem cVL2_67 : xcV RL 67 mX11_off 11 2 := ⟨x_mem 525 (by decide +kernel) rfl, x_mem 526 (by decide +kernel) rfl, x_mem 527 (by decide +kernel) rfl, ⟨x_mem 1 (by decide +kernel) rfl, x_mem 528 (by decide +kernel) rfl, by decide +kernel, by decide⟩, _, rfl, rfl⟩
theorem cVL2_70 : xcV RL 70 mX12_off 12 2 := ⟨x_mem 1346 (by decide +kernel) rfl, x_mem 1347 (by decide +kernel) rfl, x_mem 1348 (by decide +kernel) rfl, ⟨x_mem 13 (by decide +kernel) rfl, x_mem 1349 (by decide +kernel) rfl, by decide +kernel, by decide⟩, _, rfl, rfl⟩
def xS_off (Inv : xS → Prop) : Prop := ∀ (u : xS) (a1 : Int32) (a2 : Int32), Inv u → ∃ (r : Int32) (u1 u2 : xS), f_X11_off a1 a2 u = some (r, u1) ∧ f_X12_off a1 a2 u1 = some (r, u2) ∧ Inv u2
set_option maxRecDepth 100000 in
set_option maxHeartbeats 4000000 in
theorem law_c9 {Inv : xS → Prop} (hS : xS_off Inv) {u : xS} (hi : 8 * i + 8 ≤ sc.1) (hL : sc.1 ≤ 4096) (hcl : cl + 1 ≤ 601024) (hsl : sl + 6 ≤ 7293034) (hu : Inv u) (h : ∀ (u' : xS) (a' b' : Option Value), Inv u' → xG sc mL_law 1000 601024 7293034 lawQ (cl + 1) (sl + 6) 1896 (lawL i a' b') [] (xL0, u')) : xG sc mL_law 1000 601024 7293034 lawQ cl sl 727 (lawL i a b) [] (xL0, u) := by
  obtain ⟨r, u1, u2, h1, h2, h3⟩ := hS u (sc.2 (8 * i + 1)) (sc.2 (8 * i + 2)) hu
  refine g_aload_n (pc := 727) dL_law_727 rfl ?_
  refine g_argC (j := 1) (pc := 728) dL_law_728 dL_law_729 dL_law_731 dL_law_732 dL_law_733 (by decide) (by decide) hi hL ?_
  refine g_argC (j := 2) (pc := 734) dL_law_734 dL_law_735 dL_law_737 dL_law_738 dL_law_739 (by decide) (by decide) hi hL ?_
  refine g_cVl (pc := 740) (d' := 900) dL_law_740 cVL2_67 (M_X11_off (Nat.le_of_ble_eq_true rfl) h1) xc_0 (as := [.int (sc.2 (8 * i + 1)), .int (sc.2 (8 * i + 2))]) (st := []) rfl rfl (Nat.le_of_ble_eq_true rfl) (Nat.le_of_ble_eq_true rfl) rfl (by omega) (by omega) ?_
  refine g_aload_n (pc := 743) dL_law_743 rfl ?_
  refine g_argC (j := 1) (pc := 744) dL_law_744 dL_law_745 dL_law_747 dL_law_748 dL_law_749 (by decide) (by decide) hi hL ?_
  refine g_argC (j := 2) (pc := 750) dL_law_750 dL_law_751 dL_law_753 dL_law_754 dL_law_755 (by decide) (by decide) hi hL ?_
  refine g_cVl (pc := 756) (d' := 900) dL_law_756 cVL2_70 (M_X12_off (Nat.le_of_ble_eq_true rfl) h2) xc_135 (as := [.int (sc.2 (8 * i + 1)), .int (sc.2 (8 * i + 2))]) (st := [.int r]) rfl rfl (Nat.le_of_ble_eq_true rfl) (Nat.le_of_ble_eq_true rfl) rfl (by omega) (by omega) ?_
  refine g_icmp_eq (tgt := 1896) (pc := 759) dL_law_759 (by decide) (fun _ => ?_) (fun hne => absurd rfl hne)
  exact g_w (Nat.le_succ _) (Nat.le_add_right _ 6) (h _ _ _ h3)
theorem cVL2_71 : xcV RL 71 mX11_due 11 1 := ⟨x_mem 582 (by decide +kernel) rfl, x_mem 583 (by decide +kernel) rfl, x_mem 584 (by decide +kernel) rfl, ⟨x_mem 1 (by decide +kernel) rfl, x_mem 585 (by decide +kernel) rfl, by decide +kernel, by decide⟩, _, rfl, rfl⟩
theorem cVL2_74 : xcV RL 74 mX12_due 12 1 := ⟨x_mem 1466 (by decide +kernel) rfl, x_mem 1467 (by decide +kernel) rfl, x_mem 1468 (by decide +kernel) rfl, ⟨x_mem 13 (by decide +kernel) rfl, x_mem 1469 (by decide +kernel) rfl, by decide +kernel, by decide⟩, _, rfl, rfl⟩
def xS_due (Inv : xS → Prop) : Prop := ∀ (u : xS) (a1 : Int32), Inv u → ∃ (r : Int32) (u1 u2 : xS), f_X11_due a1 u = some (r, u1) ∧ f_X12_due a1 u1 = some (r, u2) ∧ Inv u2
set_option maxRecDepth 100000 in
set_option maxHeartbeats 4000000 in
theorem law_c10 {Inv : xS → Prop} (hS : xS_due Inv) {u : xS} (hi : 8 * i + 8 ≤ sc.1) (hL : sc.1 ≤ 4096) (hcl : cl + 1 ≤ 601024) (hsl : sl + 6 ≤ 7293034) (hu : Inv u) (h : ∀ (u' : xS) (a' b' : Option Value), Inv u' → xG sc mL_law 1000 601024 7293034 lawQ (cl + 1) (sl + 6) 1896 (lawL i a' b') [] (xL0, u')) : xG sc mL_law 1000 601024 7293034 lawQ cl sl 764 (lawL i a b) [] (xL0, u) := by
  obtain ⟨r, u1, u2, h1, h2, h3⟩ := hS u (sc.2 (8 * i + 1)) hu
  refine g_aload_n (pc := 764) dL_law_764 rfl ?_
  refine g_argC (j := 1) (pc := 765) dL_law_765 dL_law_766 dL_law_768 dL_law_769 dL_law_770 (by decide) (by decide) hi hL ?_
  refine g_cVl (pc := 771) (d' := 900) dL_law_771 cVL2_71 (M_X11_due (Nat.le_of_ble_eq_true rfl) h1) xc_0 (as := [.int (sc.2 (8 * i + 1))]) (st := []) rfl rfl (Nat.le_of_ble_eq_true rfl) (Nat.le_of_ble_eq_true rfl) rfl (by omega) (by omega) ?_
  refine g_aload_n (pc := 774) dL_law_774 rfl ?_
  refine g_argC (j := 1) (pc := 775) dL_law_775 dL_law_776 dL_law_778 dL_law_779 dL_law_780 (by decide) (by decide) hi hL ?_
  refine g_cVl (pc := 781) (d' := 900) dL_law_781 cVL2_74 (M_X12_due (Nat.le_of_ble_eq_true rfl) h2) xc_135 (as := [.int (sc.2 (8 * i + 1))]) (st := [.int r]) rfl rfl (Nat.le_of_ble_eq_true rfl) (Nat.le_of_ble_eq_true rfl) rfl (by omega) (by omega) ?_
  refine g_icmp_eq (tgt := 1896) (pc := 784) dL_law_784 (by decide) (fun _ => ?_) (fun hne => absurd rfl hne)
  exact g_w (Nat.le_succ _) (Nat.le_add_right _ 6) (h _ _ _ h3)
theorem cVL2_75 : xcV RL 75 mX11_sign 11 1 := ⟨x_mem 586 (by decide +kernel) rfl, x_mem 587 (by decide +kernel) rfl, x_mem 588 (by decide +kernel) rfl, ⟨x_mem 1 (by decide +kernel) rfl, x_mem 589 (by decide +kernel) rfl, by decide +kernel, by decide⟩, _, rfl, rfl⟩
theorem cVL2_78 : xcV RL 78 mX12_sign 12 1 := ⟨x_mem 1470 (by decide +kernel) rfl, x_mem 1471 (by decide +kernel) rfl, x_mem 1472 (by decide +kernel) rfl, ⟨x_mem 13 (by decide +kernel) rfl, x_mem 1473 (by decide +kernel) rfl, by decide +kernel, by decide⟩, _, rfl, rfl⟩
def xS_sign (Inv : xS → Prop) : Prop := ∀ (u : xS) (a1 : Int32), Inv u → ∃ (r : Int32) (u1 u2 : xS), f_X11_sign a1 u = some (r, u1) ∧ f_X12_sign a1 u1 = some (r, u2) ∧ Inv u2
set_option maxRecDepth 100000 in
set_option maxHeartbeats 4000000 in
theorem law_c11 {Inv : xS → Prop} (hS : xS_sign Inv) {u : xS} (hi : 8 * i + 8 ≤ sc.1) (hL : sc.1 ≤ 4096) (hcl : cl + 1 ≤ 601024) (hsl : sl + 6 ≤ 7293034) (hu : Inv u) (h : ∀ (u' : xS) (a' b' : Option Value), Inv u' → xG sc mL_law 1000 601024 7293034 lawQ (cl + 1) (sl + 6) 1896 (lawL i a' b') [] (xL0, u')) : xG sc mL_law 1000 601024 7293034 lawQ cl sl 789 (lawL i a b) [] (xL0, u) := by
  obtain ⟨r, u1, u2, h1, h2, h3⟩ := hS u (sc.2 (8 * i + 1)) hu
  refine g_aload_n (pc := 789) dL_law_789 rfl ?_
  refine g_argC (j := 1) (pc := 790) dL_law_790 dL_law_791 dL_law_793 dL_law_794 dL_law_795 (by decide) (by decide) hi hL ?_
  refine g_cVl (pc := 796) (d' := 900) dL_law_796 cVL2_75 (M_X11_sign (Nat.le_of_ble_eq_true rfl) h1) xc_0 (as := [.int (sc.2 (8 * i + 1))]) (st := []) rfl rfl (Nat.le_of_ble_eq_true rfl) (Nat.le_of_ble_eq_true rfl) rfl (by omega) (by omega) ?_
  refine g_aload_n (pc := 799) dL_law_799 rfl ?_
  refine g_argC (j := 1) (pc := 800) dL_law_800 dL_law_801 dL_law_803 dL_law_804 dL_law_805 (by decide) (by decide) hi hL ?_
  refine g_cVl (pc := 806) (d' := 900) dL_law_806 cVL2_78 (M_X12_sign (Nat.le_of_ble_eq_true rfl) h2) xc_135 (as := [.int (sc.2 (8 * i + 1))]) (st := [.int r]) rfl rfl (Nat.le_of_ble_eq_true rfl) (Nat.le_of_ble_eq_true rfl) rfl (by omega) (by omega) ?_
  refine g_icmp_eq (tgt := 1896) (pc := 809) dL_law_809 (by decide) (fun _ => ?_) (fun hne => absurd rfl hne)
  exact g_w (Nat.le_succ _) (Nat.le_add_right _ 6) (h _ _ _ h3)
theorem cVL2_79 : xcV RL 79 mX11_end 11 1 := ⟨x_mem 594 (by decide +kernel) rfl, x_mem 595 (by decide +kernel) rfl, x_mem 596 (by decide +kernel) rfl, ⟨x_mem 1 (by decide +kernel) rfl, x_mem 597 (by decide +kernel) rfl, by decide +kernel, by decide⟩, _, rfl, rfl⟩
theorem cVL2_83 : xcV RL 83 mX12_end 12 1 := ⟨x_mem 1474 (by decide +kernel) rfl, x_mem 1475 (by decide +kernel) rfl, x_mem 1476 (by decide +kernel) rfl, ⟨x_mem 13 (by decide +kernel) rfl, x_mem 1477 (by decide +kernel) rfl, by decide +kernel, by decide⟩, _, rfl, rfl⟩
def xS_end (Inv : xS → Prop) : Prop := ∀ (u : xS) (a1 : Int32), Inv u → ∃ (r : Int32) (u1 u2 : xS), f_X11_end a1 u = some (r, u1) ∧ f_X12_end a1 u1 = some (r, u2) ∧ Inv u2
set_option maxRecDepth 100000 in
set_option maxHeartbeats 4000000 in
theorem law_c12 {Inv : xS → Prop} (hS : xS_end Inv) {u : xS} (hi : 8 * i + 8 ≤ sc.1) (hL : sc.1 ≤ 4096) (hcl : cl + 1 ≤ 601024) (hsl : sl + 6 ≤ 7293034) (hu : Inv u) (h : ∀ (u' : xS) (a' b' : Option Value), Inv u' → xG sc mL_law 1000 601024 7293034 lawQ (cl + 1) (sl + 6) 1896 (lawL i a' b') [] (xL0, u')) : xG sc mL_law 1000 601024 7293034 lawQ cl sl 814 (lawL i a b) [] (xL0, u) := by
  obtain ⟨r, u1, u2, h1, h2, h3⟩ := hS u (sc.2 (8 * i + 1)) hu
  refine g_aload_n (pc := 814) dL_law_814 rfl ?_
  refine g_argC (j := 1) (pc := 815) dL_law_815 dL_law_816 dL_law_818 dL_law_819 dL_law_820 (by decide) (by decide) hi hL ?_
  refine g_cVl (pc := 821) (d' := 900) dL_law_821 cVL2_79 (M_X11_end (Nat.le_of_ble_eq_true rfl) h1) xc_0 (as := [.int (sc.2 (8 * i + 1))]) (st := []) rfl rfl (Nat.le_of_ble_eq_true rfl) (Nat.le_of_ble_eq_true rfl) rfl (by omega) (by omega) ?_
  refine g_aload_n (pc := 824) dL_law_824 rfl ?_
  refine g_argC (j := 1) (pc := 825) dL_law_825 dL_law_826 dL_law_828 dL_law_829 dL_law_830 (by decide) (by decide) hi hL ?_
  refine g_cVl (pc := 831) (d' := 900) dL_law_831 cVL2_83 (M_X12_end (Nat.le_of_ble_eq_true rfl) h2) xc_135 (as := [.int (sc.2 (8 * i + 1))]) (st := [.int r]) rfl rfl (Nat.le_of_ble_eq_true rfl) (Nat.le_of_ble_eq_true rfl) rfl (by omega) (by omega) ?_
  refine g_icmp_eq (tgt := 1896) (pc := 834) dL_law_834 (by decide) (fun _ => ?_) (fun hne => absurd rfl hne)
  exact g_w (Nat.le_succ _) (Nat.le_add_right _ 6) (h _ _ _ h3)
theorem cVL2_84 : xcV RL 84 mX11_text 11 2 := ⟨x_mem 598 (by decide +kernel) rfl, x_mem 599 (by decide +kernel) rfl, x_mem 600 (by decide +kernel) rfl, ⟨x_mem 1 (by decide +kernel) rfl, x_mem 601 (by decide +kernel) rfl, by decide +kernel, by decide⟩, _, rfl, rfl⟩
theorem cVL2_87 : xcV RL 87 mX12_text 12 2 := ⟨x_mem 1478 (by decide +kernel) rfl, x_mem 1479 (by decide +kernel) rfl, x_mem 1480 (by decide +kernel) rfl, ⟨x_mem 13 (by decide +kernel) rfl, x_mem 1481 (by decide +kernel) rfl, by decide +kernel, by decide⟩, _, rfl, rfl⟩
def xS_text (Inv : xS → Prop) : Prop := ∀ (u : xS) (a1 : Int32) (a2 : Int32), Inv u → ∃ (r : Int32) (u1 u2 : xS), f_X11_text a1 a2 u = some (r, u1) ∧ f_X12_text a1 a2 u1 = some (r, u2) ∧ Inv u2
set_option maxRecDepth 100000 in
set_option maxHeartbeats 4000000 in
theorem law_c13 {Inv : xS → Prop} (hS : xS_text Inv) {u : xS} (hi : 8 * i + 8 ≤ sc.1) (hL : sc.1 ≤ 4096) (hcl : cl + 1 ≤ 601024) (hsl : sl + 6 ≤ 7293034) (hu : Inv u) (h : ∀ (u' : xS) (a' b' : Option Value), Inv u' → xG sc mL_law 1000 601024 7293034 lawQ (cl + 1) (sl + 6) 1896 (lawL i a' b') [] (xL0, u')) : xG sc mL_law 1000 601024 7293034 lawQ cl sl 839 (lawL i a b) [] (xL0, u) := by
  obtain ⟨r, u1, u2, h1, h2, h3⟩ := hS u (sc.2 (8 * i + 1)) (sc.2 (8 * i + 2)) hu
  refine g_aload_n (pc := 839) dL_law_839 rfl ?_
  refine g_argC (j := 1) (pc := 840) dL_law_840 dL_law_841 dL_law_843 dL_law_844 dL_law_845 (by decide) (by decide) hi hL ?_
  refine g_argC (j := 2) (pc := 846) dL_law_846 dL_law_847 dL_law_849 dL_law_850 dL_law_851 (by decide) (by decide) hi hL ?_
  refine g_cVl (pc := 852) (d' := 900) dL_law_852 cVL2_84 (M_X11_text (Nat.le_of_ble_eq_true rfl) h1) xc_0 (as := [.int (sc.2 (8 * i + 1)), .int (sc.2 (8 * i + 2))]) (st := []) rfl rfl (Nat.le_of_ble_eq_true rfl) (Nat.le_of_ble_eq_true rfl) rfl (by omega) (by omega) ?_
  refine g_aload_n (pc := 855) dL_law_855 rfl ?_
  refine g_argC (j := 1) (pc := 856) dL_law_856 dL_law_857 dL_law_859 dL_law_860 dL_law_861 (by decide) (by decide) hi hL ?_
  refine g_argC (j := 2) (pc := 862) dL_law_862 dL_law_863 dL_law_865 dL_law_866 dL_law_867 (by decide) (by decide) hi hL ?_
  refine g_cVl (pc := 868) (d' := 900) dL_law_868 cVL2_87 (M_X12_text (Nat.le_of_ble_eq_true rfl) h2) xc_135 (as := [.int (sc.2 (8 * i + 1)), .int (sc.2 (8 * i + 2))]) (st := [.int r]) rfl rfl (Nat.le_of_ble_eq_true rfl) (Nat.le_of_ble_eq_true rfl) rfl (by omega) (by omega) ?_
  refine g_icmp_eq (tgt := 1896) (pc := 871) dL_law_871 (by decide) (fun _ => ?_) (fun hne => absurd rfl hne)
  exact g_w (Nat.le_succ _) (Nat.le_add_right _ 6) (h _ _ _ h3)
theorem cVL2_88 : xcV RL 88 mX11_pay 11 1 := ⟨x_mem 672 (by decide +kernel) rfl, x_mem 673 (by decide +kernel) rfl, x_mem 674 (by decide +kernel) rfl, ⟨x_mem 1 (by decide +kernel) rfl, x_mem 675 (by decide +kernel) rfl, by decide +kernel, by decide⟩, _, rfl, rfl⟩
theorem cVL2_91 : xcV RL 91 mX12_pay 12 1 := ⟨x_mem 1532 (by decide +kernel) rfl, x_mem 1533 (by decide +kernel) rfl, x_mem 1534 (by decide +kernel) rfl, ⟨x_mem 13 (by decide +kernel) rfl, x_mem 1535 (by decide +kernel) rfl, by decide +kernel, by decide⟩, _, rfl, rfl⟩
def xS_pay (Inv : xS → Prop) : Prop := ∀ (u : xS) (a1 : Int32), Inv u → ∃ (r : Int32) (u1 u2 : xS), f_X11_pay a1 u = some (r, u1) ∧ f_X12_pay a1 u1 = some (r, u2) ∧ Inv u2
set_option maxRecDepth 100000 in
set_option maxHeartbeats 4000000 in
theorem law_c14 {Inv : xS → Prop} (hS : xS_pay Inv) {u : xS} (hi : 8 * i + 8 ≤ sc.1) (hL : sc.1 ≤ 4096) (hcl : cl + 1 ≤ 601024) (hsl : sl + 6 ≤ 7293034) (hu : Inv u) (h : ∀ (u' : xS) (a' b' : Option Value), Inv u' → xG sc mL_law 1000 601024 7293034 lawQ (cl + 1) (sl + 6) 1896 (lawL i a' b') [] (xL0, u')) : xG sc mL_law 1000 601024 7293034 lawQ cl sl 876 (lawL i a b) [] (xL0, u) := by
  obtain ⟨r, u1, u2, h1, h2, h3⟩ := hS u (sc.2 (8 * i + 1)) hu
  refine g_aload_n (pc := 876) dL_law_876 rfl ?_
  refine g_argC (j := 1) (pc := 877) dL_law_877 dL_law_878 dL_law_880 dL_law_881 dL_law_882 (by decide) (by decide) hi hL ?_
  refine g_cVl (pc := 883) (d' := 900) dL_law_883 cVL2_88 (M_X11_pay (Nat.le_of_ble_eq_true rfl) h1) xc_0 (as := [.int (sc.2 (8 * i + 1))]) (st := []) rfl rfl (Nat.le_of_ble_eq_true rfl) (Nat.le_of_ble_eq_true rfl) rfl (by omega) (by omega) ?_
  refine g_aload_n (pc := 886) dL_law_886 rfl ?_
  refine g_argC (j := 1) (pc := 887) dL_law_887 dL_law_888 dL_law_890 dL_law_891 dL_law_892 (by decide) (by decide) hi hL ?_
  refine g_cVl (pc := 893) (d' := 900) dL_law_893 cVL2_91 (M_X12_pay (Nat.le_of_ble_eq_true rfl) h2) xc_135 (as := [.int (sc.2 (8 * i + 1))]) (st := [.int r]) rfl rfl (Nat.le_of_ble_eq_true rfl) (Nat.le_of_ble_eq_true rfl) rfl (by omega) (by omega) ?_
  refine g_icmp_eq (tgt := 1896) (pc := 896) dL_law_896 (by decide) (fun _ => ?_) (fun hne => absurd rfl hne)
  exact g_w (Nat.le_succ _) (Nat.le_add_right _ 6) (h _ _ _ h3)
theorem cVL2_92 : xcV RL 92 mX11_store 11 2 := ⟨x_mem 685 (by decide +kernel) rfl, x_mem 686 (by decide +kernel) rfl, x_mem 687 (by decide +kernel) rfl, ⟨x_mem 1 (by decide +kernel) rfl, x_mem 688 (by decide +kernel) rfl, by decide +kernel, by decide⟩, _, rfl, rfl⟩
theorem cVL2_95 : xcV RL 95 mX12_store 12 2 := ⟨x_mem 1544 (by decide +kernel) rfl, x_mem 1545 (by decide +kernel) rfl, x_mem 1546 (by decide +kernel) rfl, ⟨x_mem 13 (by decide +kernel) rfl, x_mem 1547 (by decide +kernel) rfl, by decide +kernel, by decide⟩, _, rfl, rfl⟩
def xS_store (Inv : xS → Prop) : Prop := ∀ (u : xS) (a1 : Int32) (a2 : Int32), Inv u → ∃ (r : Int32) (u2 : xS), f_X11_store u a1 a2 = some r ∧ f_X12_store a1 a2 u = some (r, u2) ∧ Inv u2
set_option maxRecDepth 100000 in
set_option maxHeartbeats 4000000 in
theorem law_c15 {Inv : xS → Prop} (hS : xS_store Inv) {u : xS} (hi : 8 * i + 8 ≤ sc.1) (hL : sc.1 ≤ 4096) (hcl : cl + 1 ≤ 601024) (hsl : sl + 6 ≤ 7293034) (hu : Inv u) (h : ∀ (u' : xS) (a' b' : Option Value), Inv u' → xG sc mL_law 1000 601024 7293034 lawQ (cl + 1) (sl + 6) 1896 (lawL i a' b') [] (xL0, u')) : xG sc mL_law 1000 601024 7293034 lawQ cl sl 901 (lawL i a b) [] (xL0, u) := by
  obtain ⟨r, u2, h1, h2, h3⟩ := hS u (sc.2 (8 * i + 1)) (sc.2 (8 * i + 2)) hu
  refine g_aload_n (pc := 901) dL_law_901 rfl ?_
  refine g_argC (j := 1) (pc := 902) dL_law_902 dL_law_903 dL_law_905 dL_law_906 dL_law_907 (by decide) (by decide) hi hL ?_
  refine g_argC (j := 2) (pc := 908) dL_law_908 dL_law_909 dL_law_911 dL_law_912 dL_law_913 (by decide) (by decide) hi hL ?_
  refine g_cVl (pc := 914) (d' := 900) dL_law_914 cVL2_92 (M_X11_store (Nat.le_of_ble_eq_true rfl) h1) xc_0 (as := [.int (sc.2 (8 * i + 1)), .int (sc.2 (8 * i + 2))]) (st := []) rfl rfl (Nat.le_of_ble_eq_true rfl) (Nat.le_of_ble_eq_true rfl) rfl (by omega) (by omega) ?_
  refine g_aload_n (pc := 917) dL_law_917 rfl ?_
  refine g_argC (j := 1) (pc := 918) dL_law_918 dL_law_919 dL_law_921 dL_law_922 dL_law_923 (by decide) (by decide) hi hL ?_
  refine g_argC (j := 2) (pc := 924) dL_law_924 dL_law_925 dL_law_927 dL_law_928 dL_law_929 (by decide) (by decide) hi hL ?_
  refine g_cVl (pc := 930) (d' := 900) dL_law_930 cVL2_95 (M_X12_store (Nat.le_of_ble_eq_true rfl) h2) xc_135 (as := [.int (sc.2 (8 * i + 1)), .int (sc.2 (8 * i + 2))]) (st := [.int r]) rfl rfl (Nat.le_of_ble_eq_true rfl) (Nat.le_of_ble_eq_true rfl) rfl (by omega) (by omega) ?_
  refine g_icmp_eq (tgt := 1896) (pc := 933) dL_law_933 (by decide) (fun _ => ?_) (fun hne => absurd rfl hne)
  exact g_w (Nat.le_succ _) (Nat.le_add_right _ 6) (h _ _ _ h3)
theorem cVL2_96 : xcV RL 96 mX11_fire 11 1 := ⟨x_mem 693 (by decide +kernel) rfl, x_mem 694 (by decide +kernel) rfl, x_mem 695 (by decide +kernel) rfl, ⟨x_mem 1 (by decide +kernel) rfl, x_mem 696 (by decide +kernel) rfl, by decide +kernel, by decide⟩, _, rfl, rfl⟩
theorem cVL2_99 : xcV RL 99 mX12_fire 12 1 := ⟨x_mem 1552 (by decide +kernel) rfl, x_mem 1553 (by decide +kernel) rfl, x_mem 1554 (by decide +kernel) rfl, ⟨x_mem 13 (by decide +kernel) rfl, x_mem 1555 (by decide +kernel) rfl, by decide +kernel, by decide⟩, _, rfl, rfl⟩
def xS_fire (Inv : xS → Prop) : Prop := ∀ (u : xS) (a1 : Int32), Inv u → ∃ (r : Int32) (u1 u2 : xS), f_X11_fire a1 u = some (r, u1) ∧ f_X12_fire a1 u1 = some (r, u2) ∧ Inv u2
set_option maxRecDepth 100000 in
set_option maxHeartbeats 4000000 in
theorem law_c16 {Inv : xS → Prop} (hS : xS_fire Inv) {u : xS} (hi : 8 * i + 8 ≤ sc.1) (hL : sc.1 ≤ 4096) (hcl : cl + 1 ≤ 601024) (hsl : sl + 6 ≤ 7293034) (hu : Inv u) (h : ∀ (u' : xS) (a' b' : Option Value), Inv u' → xG sc mL_law 1000 601024 7293034 lawQ (cl + 1) (sl + 6) 1896 (lawL i a' b') [] (xL0, u')) : xG sc mL_law 1000 601024 7293034 lawQ cl sl 938 (lawL i a b) [] (xL0, u) := by
  obtain ⟨r, u1, u2, h1, h2, h3⟩ := hS u (sc.2 (8 * i + 1)) hu
  refine g_aload_n (pc := 938) dL_law_938 rfl ?_
  refine g_argC (j := 1) (pc := 939) dL_law_939 dL_law_940 dL_law_942 dL_law_943 dL_law_944 (by decide) (by decide) hi hL ?_
  refine g_cVl (pc := 945) (d' := 900) dL_law_945 cVL2_96 (M_X11_fire (Nat.le_of_ble_eq_true rfl) h1) xc_0 (as := [.int (sc.2 (8 * i + 1))]) (st := []) rfl rfl (Nat.le_of_ble_eq_true rfl) (Nat.le_of_ble_eq_true rfl) rfl (by omega) (by omega) ?_
  refine g_aload_n (pc := 948) dL_law_948 rfl ?_
  refine g_argC (j := 1) (pc := 949) dL_law_949 dL_law_950 dL_law_952 dL_law_953 dL_law_954 (by decide) (by decide) hi hL ?_
  refine g_cVl (pc := 955) (d' := 900) dL_law_955 cVL2_99 (M_X12_fire (Nat.le_of_ble_eq_true rfl) h2) xc_135 (as := [.int (sc.2 (8 * i + 1))]) (st := [.int r]) rfl rfl (Nat.le_of_ble_eq_true rfl) (Nat.le_of_ble_eq_true rfl) rfl (by omega) (by omega) ?_
  refine g_icmp_eq (tgt := 1896) (pc := 958) dL_law_958 (by decide) (fun _ => ?_) (fun hne => absurd rfl hne)
  exact g_w (Nat.le_succ _) (Nat.le_add_right _ 6) (h _ _ _ h3)
theorem cVL2_100 : xcV RL 100 mX11_moth 11 1 := ⟨x_mem 705 (by decide +kernel) rfl, x_mem 706 (by decide +kernel) rfl, x_mem 707 (by decide +kernel) rfl, ⟨x_mem 1 (by decide +kernel) rfl, x_mem 708 (by decide +kernel) rfl, by decide +kernel, by decide⟩, _, rfl, rfl⟩
theorem cVL2_103 : xcV RL 103 mX12_moth 12 1 := ⟨x_mem 1556 (by decide +kernel) rfl, x_mem 1557 (by decide +kernel) rfl, x_mem 1558 (by decide +kernel) rfl, ⟨x_mem 13 (by decide +kernel) rfl, x_mem 1559 (by decide +kernel) rfl, by decide +kernel, by decide⟩, _, rfl, rfl⟩
def xS_moth (Inv : xS → Prop) : Prop := ∀ (u : xS) (a1 : Int32), Inv u → ∃ (r : Int32) (u1 u2 : xS), f_X11_moth a1 u = some (r, u1) ∧ f_X12_moth a1 u1 = some (r, u2) ∧ Inv u2
set_option maxRecDepth 100000 in
set_option maxHeartbeats 4000000 in
theorem law_c17 {Inv : xS → Prop} (hS : xS_moth Inv) {u : xS} (hi : 8 * i + 8 ≤ sc.1) (hL : sc.1 ≤ 4096) (hcl : cl + 1 ≤ 601024) (hsl : sl + 6 ≤ 7293034) (hu : Inv u) (h : ∀ (u' : xS) (a' b' : Option Value), Inv u' → xG sc mL_law 1000 601024 7293034 lawQ (cl + 1) (sl + 6) 1896 (lawL i a' b') [] (xL0, u')) : xG sc mL_law 1000 601024 7293034 lawQ cl sl 963 (lawL i a b) [] (xL0, u) := by
  obtain ⟨r, u1, u2, h1, h2, h3⟩ := hS u (sc.2 (8 * i + 1)) hu
  refine g_aload_n (pc := 963) dL_law_963 rfl ?_
  refine g_argC (j := 1) (pc := 964) dL_law_964 dL_law_965 dL_law_967 dL_law_968 dL_law_969 (by decide) (by decide) hi hL ?_
  refine g_cVl (pc := 970) (d' := 900) dL_law_970 cVL2_100 (M_X11_moth (Nat.le_of_ble_eq_true rfl) h1) xc_0 (as := [.int (sc.2 (8 * i + 1))]) (st := []) rfl rfl (Nat.le_of_ble_eq_true rfl) (Nat.le_of_ble_eq_true rfl) rfl (by omega) (by omega) ?_
  refine g_aload_n (pc := 973) dL_law_973 rfl ?_
  refine g_argC (j := 1) (pc := 974) dL_law_974 dL_law_975 dL_law_977 dL_law_978 dL_law_979 (by decide) (by decide) hi hL ?_
  refine g_cVl (pc := 980) (d' := 900) dL_law_980 cVL2_103 (M_X12_moth (Nat.le_of_ble_eq_true rfl) h2) xc_135 (as := [.int (sc.2 (8 * i + 1))]) (st := [.int r]) rfl rfl (Nat.le_of_ble_eq_true rfl) (Nat.le_of_ble_eq_true rfl) rfl (by omega) (by omega) ?_
  refine g_icmp_eq (tgt := 1896) (pc := 983) dL_law_983 (by decide) (fun _ => ?_) (fun hne => absurd rfl hne)
  exact g_w (Nat.le_succ _) (Nat.le_add_right _ 6) (h _ _ _ h3)
theorem cVL2_104 : xcV RL 104 mX11_wipe 11 3 := ⟨x_mem 713 (by decide +kernel) rfl, x_mem 714 (by decide +kernel) rfl, x_mem 715 (by decide +kernel) rfl, ⟨x_mem 1 (by decide +kernel) rfl, x_mem 716 (by decide +kernel) rfl, by decide +kernel, by decide⟩, _, rfl, rfl⟩
theorem cVL2_107 : xcV RL 107 mX12_wipe 12 3 := ⟨x_mem 1560 (by decide +kernel) rfl, x_mem 1561 (by decide +kernel) rfl, x_mem 1562 (by decide +kernel) rfl, ⟨x_mem 13 (by decide +kernel) rfl, x_mem 1563 (by decide +kernel) rfl, by decide +kernel, by decide⟩, _, rfl, rfl⟩
def xS_wipe (Inv : xS → Prop) : Prop := ∀ (u : xS) (a1 : Int32) (a2 : Int32) (a3 : Int32), Inv u → ∃ (r : Int32) (u1 u2 : xS), f_X11_wipe a1 a2 a3 u = some (r, u1) ∧ f_X12_wipe a1 a2 a3 u1 = some (r, u2) ∧ Inv u2
set_option maxRecDepth 100000 in
set_option maxHeartbeats 4000000 in
theorem law_c18 {Inv : xS → Prop} (hS : xS_wipe Inv) {u : xS} (hi : 8 * i + 8 ≤ sc.1) (hL : sc.1 ≤ 4096) (hcl : cl + 1 ≤ 601024) (hsl : sl + 6 ≤ 7293034) (hu : Inv u) (h : ∀ (u' : xS) (a' b' : Option Value), Inv u' → xG sc mL_law 1000 601024 7293034 lawQ (cl + 1) (sl + 6) 1896 (lawL i a' b') [] (xL0, u')) : xG sc mL_law 1000 601024 7293034 lawQ cl sl 988 (lawL i a b) [] (xL0, u) := by
  obtain ⟨r, u1, u2, h1, h2, h3⟩ := hS u (sc.2 (8 * i + 1)) (sc.2 (8 * i + 2)) (sc.2 (8 * i + 3)) hu
  refine g_aload_n (pc := 988) dL_law_988 rfl ?_
  refine g_argC (j := 1) (pc := 989) dL_law_989 dL_law_990 dL_law_992 dL_law_993 dL_law_994 (by decide) (by decide) hi hL ?_
  refine g_argC (j := 2) (pc := 995) dL_law_995 dL_law_996 dL_law_998 dL_law_999 dL_law_1000 (by decide) (by decide) hi hL ?_
  refine g_argC (j := 3) (pc := 1001) dL_law_1001 dL_law_1002 dL_law_1004 dL_law_1005 dL_law_1006 (by decide) (by decide) hi hL ?_
  refine g_cVl (pc := 1007) (d' := 900) dL_law_1007 cVL2_104 (M_X11_wipe (Nat.le_of_ble_eq_true rfl) h1) xc_0 (as := [.int (sc.2 (8 * i + 1)), .int (sc.2 (8 * i + 2)), .int (sc.2 (8 * i + 3))]) (st := []) rfl rfl (Nat.le_of_ble_eq_true rfl) (Nat.le_of_ble_eq_true rfl) rfl (by omega) (by omega) ?_
  refine g_aload_n (pc := 1010) dL_law_1010 rfl ?_
  refine g_argC (j := 1) (pc := 1011) dL_law_1011 dL_law_1012 dL_law_1014 dL_law_1015 dL_law_1016 (by decide) (by decide) hi hL ?_
  refine g_argC (j := 2) (pc := 1017) dL_law_1017 dL_law_1018 dL_law_1020 dL_law_1021 dL_law_1022 (by decide) (by decide) hi hL ?_
  refine g_argC (j := 3) (pc := 1023) dL_law_1023 dL_law_1024 dL_law_1026 dL_law_1027 dL_law_1028 (by decide) (by decide) hi hL ?_
  refine g_cVl (pc := 1029) (d' := 900) dL_law_1029 cVL2_107 (M_X12_wipe (Nat.le_of_ble_eq_true rfl) h2) xc_135 (as := [.int (sc.2 (8 * i + 1)), .int (sc.2 (8 * i + 2)), .int (sc.2 (8 * i + 3))]) (st := [.int r]) rfl rfl (Nat.le_of_ble_eq_true rfl) (Nat.le_of_ble_eq_true rfl) rfl (by omega) (by omega) ?_
  refine g_icmp_eq (tgt := 1896) (pc := 1032) dL_law_1032 (by decide) (fun _ => ?_) (fun hne => absurd rfl hne)
  exact g_w (Nat.le_succ _) (Nat.le_add_right _ 6) (h _ _ _ h3)
theorem cVL2_113 : xcV RL 113 mX12_split 12 2 := ⟨x_mem 1568 (by decide +kernel) rfl, x_mem 1569 (by decide +kernel) rfl, x_mem 1570 (by decide +kernel) rfl, ⟨x_mem 13 (by decide +kernel) rfl, x_mem 1571 (by decide +kernel) rfl, by decide +kernel, by decide⟩, _, rfl, rfl⟩
theorem cVL2_114 : xcV RL 114 mX12_thrown 12 0 := ⟨x_mem 1252 (by decide +kernel) rfl, x_mem 1253 (by decide +kernel) rfl, x_mem 1254 (by decide +kernel) rfl, ⟨x_mem 13 (by decide +kernel) rfl, x_mem 1255 (by decide +kernel) rfl, by decide +kernel, by decide⟩, _, rfl, rfl⟩
def xS_split (Inv : xS → Prop) : Prop := ∀ (u : xS) (a1 : Int32) (a2 : Int32), Inv u → ∃ (o : Option Int32) (r : Int32) (u1 u2 : xS), f_X11_split a1 a2 u = some (o, u1) ∧ f_X12_split a1 a2 (hU o u1) = some (r, u2) ∧ f_X12_thrown u2 = hR o ∧ (∀ v, o = some v → rl u2 181 0 = r.toInt64) ∧ Inv u2
set_option maxRecDepth 100000 in
set_option maxHeartbeats 4000000 in
theorem law_c19 {Inv : xS → Prop} (hS : xS_split Inv) {u : xS} (hi : 8 * i + 8 ≤ sc.1) (hL : sc.1 ≤ 4096) (hcl : cl + 1 ≤ 601024) (hsl : sl + 6 ≤ 7293034) (hu : Inv u) (h : ∀ (u' : xS) (a' b' : Option Value), Inv u' → xG sc mL_law 1000 601024 7293034 lawQ (cl + 1) (sl + 6) 1896 (lawL i a' b') [] (xL0, u')) : xG sc mL_law 1000 601024 7293034 lawQ cl sl 1037 (lawL i a b) [] (xL0, u) := by
  obtain ⟨o, r, u1, u2, h1, h2, h3, h4, h5⟩ := hS u (sc.2 (8 * i + 1)) (sc.2 (8 * i + 2)) hu
  refine g_aload_n (pc := 1037) dL_law_1037 rfl ?_
  refine g_argC (j := 1) (pc := 1038) dL_law_1038 dL_law_1039 dL_law_1041 dL_law_1042 dL_law_1043 (by decide) (by decide) hi hL ?_
  refine g_argC (j := 2) (pc := 1044) dL_law_1044 dL_law_1045 dL_law_1047 dL_law_1048 dL_law_1049 (by decide) (by decide) hi hL ?_
  refine g_aload_n (pc := 1050) dL_law_1050 rfl ?_
  refine g_cW (pc := 1051) (d' := 900) dL_law_1051 cW_split (H_split (Nat.le_of_ble_eq_true rfl) h1) (as := [.ref 0, .int (sc.2 (8 * i + 1)), .int (sc.2 (8 * i + 2)), .ref 181]) (st := []) rfl rfl (Nat.le_of_ble_eq_true rfl) (Nat.le_of_ble_eq_true rfl) rfl hcl hsl ?_
  refine g_istore (pc := 1054) dL_law_1054 (by decide) (L' := lawL i (some (.int (hR o))) b) rfl ?_
  refine g_aload_n (pc := 1056) dL_law_1056 rfl ?_
  refine g_argC (j := 1) (pc := 1057) dL_law_1057 dL_law_1058 dL_law_1060 dL_law_1061 dL_law_1062 (by decide) (by decide) hi hL ?_
  refine g_argC (j := 2) (pc := 1063) dL_law_1063 dL_law_1064 dL_law_1066 dL_law_1067 dL_law_1068 (by decide) (by decide) hi hL ?_
  refine g_cVl (pc := 1069) (d' := 900) dL_law_1069 cVL2_113 (M_X12_split (Nat.le_of_ble_eq_true rfl) h2) xc_135 (as := [.int (sc.2 (8 * i + 1)), .int (sc.2 (8 * i + 2))]) (st := []) rfl rfl (Nat.le_of_ble_eq_true rfl) (Nat.le_of_ble_eq_true rfl) rfl (by omega) (by omega) ?_
  refine g_istore (pc := 1072) dL_law_1072 (by decide) (L' := lawL i (some (.int (hR o))) (some (.int r))) rfl ?_
  refine g_aload_n (pc := 1074) dL_law_1074 rfl ?_
  refine g_cVl (pc := 1075) (d' := 900) dL_law_1075 cVL2_114 (M_X12_thrown (Nat.le_of_ble_eq_true rfl) h3) xc_135 (as := []) (st := []) rfl rfl (Nat.le_of_ble_eq_true rfl) (Nat.le_of_ble_eq_true rfl) rfl (by omega) (by omega) ?_
  refine g_iload (pc := 1078) dL_law_1078 rfl ?_
  refine g_icmp_eq (tgt := 1085) (pc := 1080) dL_law_1080 (by decide) (fun _ => ?_) (fun hne => absurd rfl hne)
  refine g_iload (pc := 1085) dL_law_1085 rfl ?_
  have hend : xG sc mL_law 1000 601024 7293034 lawQ (cl + 1) (sl + 6) 1102 (lawL i (some (.int (hR o))) (some (.int r))) [] (xL0, u2) := g_goto (tgt := 1896) (pc := 1102) dL_law_1102 (by decide) (h _ _ _ h5)
  refine g_if_ne (tgt := 1102) (pc := 1087) dL_law_1087 (by decide) (fun _ => hend) (fun hz => ?_)
  have h4' : rl u2 181 0 = r.toInt64 := by
    cases ho : o with
    | none => rw [ho] at hz; exact absurd hz (by decide)
    | some v => exact h4 v ho
  refine g_aload_n (pc := 1090) dL_law_1090 rfl ?_
  refine g_iconst (pc := 1091) dL_law_1091 ic_0 ?_
  refine g_laload (pc := 1092) (v := r.toInt64) dL_law_1092 xc_181 (by unfold vp_in; decide) h4' ?_
  refine g_iload (pc := 1093) dL_law_1093 rfl ?_
  refine g_i2l (pc := 1095) dL_law_1095 rfl ?_
  refine g_lcmp (pc := 1096) dL_law_1096 (lg_self _) ?_
  exact g_if_eq (tgt := 1102) (pc := 1097) dL_law_1097 (by decide) (fun _ => hend) (fun hne => absurd rfl hne)
theorem cVL2_118 : xcV RL 118 mX11_part 11 2 := ⟨x_mem 722 (by decide +kernel) rfl, x_mem 723 (by decide +kernel) rfl, x_mem 724 (by decide +kernel) rfl, ⟨x_mem 1 (by decide +kernel) rfl, x_mem 725 (by decide +kernel) rfl, by decide +kernel, by decide⟩, _, rfl, rfl⟩
theorem cVL2_121 : xcV RL 121 mX12_part 12 2 := ⟨x_mem 1580 (by decide +kernel) rfl, x_mem 1581 (by decide +kernel) rfl, x_mem 1582 (by decide +kernel) rfl, ⟨x_mem 13 (by decide +kernel) rfl, x_mem 1583 (by decide +kernel) rfl, by decide +kernel, by decide⟩, _, rfl, rfl⟩
def xS_part (Inv : xS → Prop) : Prop := ∀ (u : xS) (a1 : Int32) (a2 : Int32), Inv u → ∃ (r : Int32) (u1 u2 : xS), f_X11_part a1 a2 u = some (r, u1) ∧ f_X12_part a1 a2 u1 = some (r, u2) ∧ Inv u2
set_option maxRecDepth 100000 in
set_option maxHeartbeats 4000000 in
theorem law_c20 {Inv : xS → Prop} (hS : xS_part Inv) {u : xS} (hi : 8 * i + 8 ≤ sc.1) (hL : sc.1 ≤ 4096) (hcl : cl + 1 ≤ 601024) (hsl : sl + 6 ≤ 7293034) (hu : Inv u) (h : ∀ (u' : xS) (a' b' : Option Value), Inv u' → xG sc mL_law 1000 601024 7293034 lawQ (cl + 1) (sl + 6) 1896 (lawL i a' b') [] (xL0, u')) : xG sc mL_law 1000 601024 7293034 lawQ cl sl 1105 (lawL i a b) [] (xL0, u) := by
  obtain ⟨r, u1, u2, h1, h2, h3⟩ := hS u (sc.2 (8 * i + 1)) (sc.2 (8 * i + 2)) hu
  refine g_aload_n (pc := 1105) dL_law_1105 rfl ?_
  refine g_argC (j := 1) (pc := 1106) dL_law_1106 dL_law_1107 dL_law_1109 dL_law_1110 dL_law_1111 (by decide) (by decide) hi hL ?_
  refine g_argC (j := 2) (pc := 1112) dL_law_1112 dL_law_1113 dL_law_1115 dL_law_1116 dL_law_1117 (by decide) (by decide) hi hL ?_
  refine g_cVl (pc := 1118) (d' := 900) dL_law_1118 cVL2_118 (M_X11_part (Nat.le_of_ble_eq_true rfl) h1) xc_0 (as := [.int (sc.2 (8 * i + 1)), .int (sc.2 (8 * i + 2))]) (st := []) rfl rfl (Nat.le_of_ble_eq_true rfl) (Nat.le_of_ble_eq_true rfl) rfl (by omega) (by omega) ?_
  refine g_aload_n (pc := 1121) dL_law_1121 rfl ?_
  refine g_argC (j := 1) (pc := 1122) dL_law_1122 dL_law_1123 dL_law_1125 dL_law_1126 dL_law_1127 (by decide) (by decide) hi hL ?_
  refine g_argC (j := 2) (pc := 1128) dL_law_1128 dL_law_1129 dL_law_1131 dL_law_1132 dL_law_1133 (by decide) (by decide) hi hL ?_
  refine g_cVl (pc := 1134) (d' := 900) dL_law_1134 cVL2_121 (M_X12_part (Nat.le_of_ble_eq_true rfl) h2) xc_135 (as := [.int (sc.2 (8 * i + 1)), .int (sc.2 (8 * i + 2))]) (st := [.int r]) rfl rfl (Nat.le_of_ble_eq_true rfl) (Nat.le_of_ble_eq_true rfl) rfl (by omega) (by omega) ?_
  refine g_icmp_eq (tgt := 1896) (pc := 1137) dL_law_1137 (by decide) (fun _ => ?_) (fun hne => absurd rfl hne)
  exact g_w (Nat.le_succ _) (Nat.le_add_right _ 6) (h _ _ _ h3)
theorem cVL2_122 : xcV RL 122 mX11_judge 11 1 := ⟨x_mem 730 (by decide +kernel) rfl, x_mem 731 (by decide +kernel) rfl, x_mem 732 (by decide +kernel) rfl, ⟨x_mem 1 (by decide +kernel) rfl, x_mem 733 (by decide +kernel) rfl, by decide +kernel, by decide⟩, _, rfl, rfl⟩
theorem cVL2_125 : xcV RL 125 mX12_judge 12 1 := ⟨x_mem 1589 (by decide +kernel) rfl, x_mem 1590 (by decide +kernel) rfl, x_mem 1591 (by decide +kernel) rfl, ⟨x_mem 13 (by decide +kernel) rfl, x_mem 1592 (by decide +kernel) rfl, by decide +kernel, by decide⟩, _, rfl, rfl⟩
def xS_judge (Inv : xS → Prop) : Prop := ∀ (u : xS) (a1 : Int32), Inv u → ∃ (r : Int32) (u1 u2 : xS), f_X11_judge a1 u = some (r, u1) ∧ f_X12_judge a1 u1 = some (r, u2) ∧ Inv u2
set_option maxRecDepth 100000 in
set_option maxHeartbeats 4000000 in
theorem law_c21 {Inv : xS → Prop} (hS : xS_judge Inv) {u : xS} (hi : 8 * i + 8 ≤ sc.1) (hL : sc.1 ≤ 4096) (hcl : cl + 1 ≤ 601024) (hsl : sl + 6 ≤ 7293034) (hu : Inv u) (h : ∀ (u' : xS) (a' b' : Option Value), Inv u' → xG sc mL_law 1000 601024 7293034 lawQ (cl + 1) (sl + 6) 1896 (lawL i a' b') [] (xL0, u')) : xG sc mL_law 1000 601024 7293034 lawQ cl sl 1142 (lawL i a b) [] (xL0, u) := by
  obtain ⟨r, u1, u2, h1, h2, h3⟩ := hS u (sc.2 (8 * i + 1)) hu
  refine g_aload_n (pc := 1142) dL_law_1142 rfl ?_
  refine g_argC (j := 1) (pc := 1143) dL_law_1143 dL_law_1144 dL_law_1146 dL_law_1147 dL_law_1148 (by decide) (by decide) hi hL ?_
  refine g_cVl (pc := 1149) (d' := 900) dL_law_1149 cVL2_122 (M_X11_judge (Nat.le_of_ble_eq_true rfl) h1) xc_0 (as := [.int (sc.2 (8 * i + 1))]) (st := []) rfl rfl (Nat.le_of_ble_eq_true rfl) (Nat.le_of_ble_eq_true rfl) rfl (by omega) (by omega) ?_
  refine g_aload_n (pc := 1152) dL_law_1152 rfl ?_
  refine g_argC (j := 1) (pc := 1153) dL_law_1153 dL_law_1154 dL_law_1156 dL_law_1157 dL_law_1158 (by decide) (by decide) hi hL ?_
  refine g_cVl (pc := 1159) (d' := 900) dL_law_1159 cVL2_125 (M_X12_judge (Nat.le_of_ble_eq_true rfl) h2) xc_135 (as := [.int (sc.2 (8 * i + 1))]) (st := [.int r]) rfl rfl (Nat.le_of_ble_eq_true rfl) (Nat.le_of_ble_eq_true rfl) rfl (by omega) (by omega) ?_
  refine g_icmp_eq (tgt := 1896) (pc := 1162) dL_law_1162 (by decide) (fun _ => ?_) (fun hne => absurd rfl hne)
  exact g_w (Nat.le_succ _) (Nat.le_add_right _ 6) (h _ _ _ h3)
theorem cVL2_126 : xcV RL 126 mX11_cost 11 1 := ⟨x_mem 752 (by decide +kernel) rfl, x_mem 753 (by decide +kernel) rfl, x_mem 754 (by decide +kernel) rfl, ⟨x_mem 1 (by decide +kernel) rfl, x_mem 755 (by decide +kernel) rfl, by decide +kernel, by decide⟩, _, rfl, rfl⟩
theorem cVL2_129 : xcV RL 129 mX12_cost 12 1 := ⟨x_mem 1605 (by decide +kernel) rfl, x_mem 1606 (by decide +kernel) rfl, x_mem 1607 (by decide +kernel) rfl, ⟨x_mem 13 (by decide +kernel) rfl, x_mem 1608 (by decide +kernel) rfl, by decide +kernel, by decide⟩, _, rfl, rfl⟩
def xS_cost (Inv : xS → Prop) : Prop := ∀ (u : xS) (a1 : Int32), Inv u → ∃ (r : Int32) (u2 : xS), f_X11_cost u a1 = some r ∧ f_X12_cost a1 u = some (r, u2) ∧ Inv u2
set_option maxRecDepth 100000 in
set_option maxHeartbeats 4000000 in
theorem law_c22 {Inv : xS → Prop} (hS : xS_cost Inv) {u : xS} (hi : 8 * i + 8 ≤ sc.1) (hL : sc.1 ≤ 4096) (hcl : cl + 1 ≤ 601024) (hsl : sl + 6 ≤ 7293034) (hu : Inv u) (h : ∀ (u' : xS) (a' b' : Option Value), Inv u' → xG sc mL_law 1000 601024 7293034 lawQ (cl + 1) (sl + 6) 1896 (lawL i a' b') [] (xL0, u')) : xG sc mL_law 1000 601024 7293034 lawQ cl sl 1167 (lawL i a b) [] (xL0, u) := by
  obtain ⟨r, u2, h1, h2, h3⟩ := hS u (sc.2 (8 * i + 1)) hu
  refine g_aload_n (pc := 1167) dL_law_1167 rfl ?_
  refine g_argC (j := 1) (pc := 1168) dL_law_1168 dL_law_1169 dL_law_1171 dL_law_1172 dL_law_1173 (by decide) (by decide) hi hL ?_
  refine g_cVl (pc := 1174) (d' := 900) dL_law_1174 cVL2_126 (M_X11_cost (Nat.le_of_ble_eq_true rfl) h1) xc_0 (as := [.int (sc.2 (8 * i + 1))]) (st := []) rfl rfl (Nat.le_of_ble_eq_true rfl) (Nat.le_of_ble_eq_true rfl) rfl (by omega) (by omega) ?_
  refine g_aload_n (pc := 1177) dL_law_1177 rfl ?_
  refine g_argC (j := 1) (pc := 1178) dL_law_1178 dL_law_1179 dL_law_1181 dL_law_1182 dL_law_1183 (by decide) (by decide) hi hL ?_
  refine g_cVl (pc := 1184) (d' := 900) dL_law_1184 cVL2_129 (M_X12_cost (Nat.le_of_ble_eq_true rfl) h2) xc_135 (as := [.int (sc.2 (8 * i + 1))]) (st := [.int r]) rfl rfl (Nat.le_of_ble_eq_true rfl) (Nat.le_of_ble_eq_true rfl) rfl (by omega) (by omega) ?_
  refine g_icmp_eq (tgt := 1896) (pc := 1187) dL_law_1187 (by decide) (fun _ => ?_) (fun hne => absurd rfl hne)
  exact g_w (Nat.le_succ _) (Nat.le_add_right _ 6) (h _ _ _ h3)
theorem cVL2_130 : xcV RL 130 mX11_mix 11 4 := ⟨x_mem 756 (by decide +kernel) rfl, x_mem 757 (by decide +kernel) rfl, x_mem 758 (by decide +kernel) rfl, ⟨x_mem 1 (by decide +kernel) rfl, x_mem 759 (by decide +kernel) rfl, by decide +kernel, by decide⟩, _, rfl, rfl⟩
theorem cVL2_133 : xcV RL 133 mX12_mix 12 4 := ⟨x_mem 1613 (by decide +kernel) rfl, x_mem 1614 (by decide +kernel) rfl, x_mem 1615 (by decide +kernel) rfl, ⟨x_mem 13 (by decide +kernel) rfl, x_mem 1616 (by decide +kernel) rfl, by decide +kernel, by decide⟩, _, rfl, rfl⟩
def xS_mix (Inv : xS → Prop) : Prop := ∀ (u : xS) (a1 : Int32) (a2 : Int32) (a3 : Int32) (a4 : Int32), Inv u → ∃ (r : Int32) (u1 u2 : xS), f_X11_mix a1 a2 a3 a4 u = some (r, u1) ∧ f_X12_mix a1 a2 a3 a4 u1 = some (r, u2) ∧ Inv u2
set_option maxRecDepth 100000 in
set_option maxHeartbeats 4000000 in
theorem law_c23 {Inv : xS → Prop} (hS : xS_mix Inv) {u : xS} (hi : 8 * i + 8 ≤ sc.1) (hL : sc.1 ≤ 4096) (hcl : cl + 1 ≤ 601024) (hsl : sl + 6 ≤ 7293034) (hu : Inv u) (h : ∀ (u' : xS) (a' b' : Option Value), Inv u' → xG sc mL_law 1000 601024 7293034 lawQ (cl + 1) (sl + 6) 1896 (lawL i a' b') [] (xL0, u')) : xG sc mL_law 1000 601024 7293034 lawQ cl sl 1192 (lawL i a b) [] (xL0, u) := by
  obtain ⟨r, u1, u2, h1, h2, h3⟩ := hS u (sc.2 (8 * i + 1)) (sc.2 (8 * i + 2)) (sc.2 (8 * i + 3)) (sc.2 (8 * i + 4)) hu
  refine g_aload_n (pc := 1192) dL_law_1192 rfl ?_
  refine g_argC (j := 1) (pc := 1193) dL_law_1193 dL_law_1194 dL_law_1196 dL_law_1197 dL_law_1198 (by decide) (by decide) hi hL ?_
  refine g_argC (j := 2) (pc := 1199) dL_law_1199 dL_law_1200 dL_law_1202 dL_law_1203 dL_law_1204 (by decide) (by decide) hi hL ?_
  refine g_argC (j := 3) (pc := 1205) dL_law_1205 dL_law_1206 dL_law_1208 dL_law_1209 dL_law_1210 (by decide) (by decide) hi hL ?_
  refine g_argC (j := 4) (pc := 1211) dL_law_1211 dL_law_1212 dL_law_1214 dL_law_1215 dL_law_1216 (by decide) (by decide) hi hL ?_
  refine g_cVl (pc := 1217) (d' := 900) dL_law_1217 cVL2_130 (M_X11_mix (Nat.le_of_ble_eq_true rfl) h1) xc_0 (as := [.int (sc.2 (8 * i + 1)), .int (sc.2 (8 * i + 2)), .int (sc.2 (8 * i + 3)), .int (sc.2 (8 * i + 4))]) (st := []) rfl rfl (Nat.le_of_ble_eq_true rfl) (Nat.le_of_ble_eq_true rfl) rfl (by omega) (by omega) ?_
  refine g_aload_n (pc := 1220) dL_law_1220 rfl ?_
  refine g_argC (j := 1) (pc := 1221) dL_law_1221 dL_law_1222 dL_law_1224 dL_law_1225 dL_law_1226 (by decide) (by decide) hi hL ?_
  refine g_argC (j := 2) (pc := 1227) dL_law_1227 dL_law_1228 dL_law_1230 dL_law_1231 dL_law_1232 (by decide) (by decide) hi hL ?_
  refine g_argC (j := 3) (pc := 1233) dL_law_1233 dL_law_1234 dL_law_1236 dL_law_1237 dL_law_1238 (by decide) (by decide) hi hL ?_
  refine g_argC (j := 4) (pc := 1239) dL_law_1239 dL_law_1240 dL_law_1242 dL_law_1243 dL_law_1244 (by decide) (by decide) hi hL ?_
  refine g_cVl (pc := 1245) (d' := 900) dL_law_1245 cVL2_133 (M_X12_mix (Nat.le_of_ble_eq_true rfl) h2) xc_135 (as := [.int (sc.2 (8 * i + 1)), .int (sc.2 (8 * i + 2)), .int (sc.2 (8 * i + 3)), .int (sc.2 (8 * i + 4))]) (st := [.int r]) rfl rfl (Nat.le_of_ble_eq_true rfl) (Nat.le_of_ble_eq_true rfl) rfl (by omega) (by omega) ?_
  refine g_icmp_eq (tgt := 1896) (pc := 1248) dL_law_1248 (by decide) (fun _ => ?_) (fun hne => absurd rfl hne)
  exact g_w (Nat.le_succ _) (Nat.le_add_right _ 6) (h _ _ _ h3)
theorem cVL2_134 : xcV RL 134 mX11_make 11 1 := ⟨x_mem 800 (by decide +kernel) rfl, x_mem 801 (by decide +kernel) rfl, x_mem 802 (by decide +kernel) rfl, ⟨x_mem 1 (by decide +kernel) rfl, x_mem 803 (by decide +kernel) rfl, by decide +kernel, by decide⟩, _, rfl, rfl⟩
theorem cVL2_137 : xcV RL 137 mX12_make 12 1 := ⟨x_mem 1627 (by decide +kernel) rfl, x_mem 1628 (by decide +kernel) rfl, x_mem 1629 (by decide +kernel) rfl, ⟨x_mem 13 (by decide +kernel) rfl, x_mem 1630 (by decide +kernel) rfl, by decide +kernel, by decide⟩, _, rfl, rfl⟩
def xS_make (Inv : xS → Prop) : Prop := ∀ (u : xS) (a1 : Int32), Inv u → ∃ (r : Int32) (u1 u2 : xS), f_X11_make a1 u = some (r, u1) ∧ f_X12_make a1 u1 = some (r, u2) ∧ Inv u2
set_option maxRecDepth 100000 in
set_option maxHeartbeats 4000000 in
theorem law_c24 {Inv : xS → Prop} (hS : xS_make Inv) {u : xS} (hi : 8 * i + 8 ≤ sc.1) (hL : sc.1 ≤ 4096) (hcl : cl + 1 ≤ 601024) (hsl : sl + 6 ≤ 7293034) (hu : Inv u) (h : ∀ (u' : xS) (a' b' : Option Value), Inv u' → xG sc mL_law 1000 601024 7293034 lawQ (cl + 1) (sl + 6) 1896 (lawL i a' b') [] (xL0, u')) : xG sc mL_law 1000 601024 7293034 lawQ cl sl 1253 (lawL i a b) [] (xL0, u) := by
  obtain ⟨r, u1, u2, h1, h2, h3⟩ := hS u (sc.2 (8 * i + 1)) hu
  refine g_aload_n (pc := 1253) dL_law_1253 rfl ?_
  refine g_argC (j := 1) (pc := 1254) dL_law_1254 dL_law_1255 dL_law_1257 dL_law_1258 dL_law_1259 (by decide) (by decide) hi hL ?_
  refine g_cVl (pc := 1260) (d' := 900) dL_law_1260 cVL2_134 (M_X11_make (Nat.le_of_ble_eq_true rfl) h1) xc_0 (as := [.int (sc.2 (8 * i + 1))]) (st := []) rfl rfl (Nat.le_of_ble_eq_true rfl) (Nat.le_of_ble_eq_true rfl) rfl (by omega) (by omega) ?_
  refine g_aload_n (pc := 1263) dL_law_1263 rfl ?_
  refine g_argC (j := 1) (pc := 1264) dL_law_1264 dL_law_1265 dL_law_1267 dL_law_1268 dL_law_1269 (by decide) (by decide) hi hL ?_
  refine g_cVl (pc := 1270) (d' := 900) dL_law_1270 cVL2_137 (M_X12_make (Nat.le_of_ble_eq_true rfl) h2) xc_135 (as := [.int (sc.2 (8 * i + 1))]) (st := [.int r]) rfl rfl (Nat.le_of_ble_eq_true rfl) (Nat.le_of_ble_eq_true rfl) rfl (by omega) (by omega) ?_
  refine g_icmp_eq (tgt := 1896) (pc := 1273) dL_law_1273 (by decide) (fun _ => ?_) (fun hne => absurd rfl hne)
  exact g_w (Nat.le_succ _) (Nat.le_add_right _ 6) (h _ _ _ h3)
theorem cVL2_138 : xcV RL 138 mX11_led 11 1 := ⟨x_mem 812 (by decide +kernel) rfl, x_mem 813 (by decide +kernel) rfl, x_mem 814 (by decide +kernel) rfl, ⟨x_mem 1 (by decide +kernel) rfl, x_mem 815 (by decide +kernel) rfl, by decide +kernel, by decide⟩, _, rfl, rfl⟩
theorem cVL2_141 : xcV RL 141 mX12_led 12 1 := ⟨x_mem 1631 (by decide +kernel) rfl, x_mem 1632 (by decide +kernel) rfl, x_mem 1633 (by decide +kernel) rfl, ⟨x_mem 13 (by decide +kernel) rfl, x_mem 1634 (by decide +kernel) rfl, by decide +kernel, by decide⟩, _, rfl, rfl⟩
def xS_led (Inv : xS → Prop) : Prop := ∀ (u : xS) (a1 : Int32), Inv u → ∃ (r : Int32) (u1 u2 : xS), f_X11_led a1 u = some (r, u1) ∧ f_X12_led a1 u1 = some (r, u2) ∧ Inv u2
set_option maxRecDepth 100000 in
set_option maxHeartbeats 4000000 in
theorem law_c25 {Inv : xS → Prop} (hS : xS_led Inv) {u : xS} (hi : 8 * i + 8 ≤ sc.1) (hL : sc.1 ≤ 4096) (hcl : cl + 1 ≤ 601024) (hsl : sl + 6 ≤ 7293034) (hu : Inv u) (h : ∀ (u' : xS) (a' b' : Option Value), Inv u' → xG sc mL_law 1000 601024 7293034 lawQ (cl + 1) (sl + 6) 1896 (lawL i a' b') [] (xL0, u')) : xG sc mL_law 1000 601024 7293034 lawQ cl sl 1278 (lawL i a b) [] (xL0, u) := by
  obtain ⟨r, u1, u2, h1, h2, h3⟩ := hS u (sc.2 (8 * i + 1)) hu
  refine g_aload_n (pc := 1278) dL_law_1278 rfl ?_
  refine g_argC (j := 1) (pc := 1279) dL_law_1279 dL_law_1280 dL_law_1282 dL_law_1283 dL_law_1284 (by decide) (by decide) hi hL ?_
  refine g_cVl (pc := 1285) (d' := 900) dL_law_1285 cVL2_138 (M_X11_led (Nat.le_of_ble_eq_true rfl) h1) xc_0 (as := [.int (sc.2 (8 * i + 1))]) (st := []) rfl rfl (Nat.le_of_ble_eq_true rfl) (Nat.le_of_ble_eq_true rfl) rfl (by omega) (by omega) ?_
  refine g_aload_n (pc := 1288) dL_law_1288 rfl ?_
  refine g_argC (j := 1) (pc := 1289) dL_law_1289 dL_law_1290 dL_law_1292 dL_law_1293 dL_law_1294 (by decide) (by decide) hi hL ?_
  refine g_cVl (pc := 1295) (d' := 900) dL_law_1295 cVL2_141 (M_X12_led (Nat.le_of_ble_eq_true rfl) h2) xc_135 (as := [.int (sc.2 (8 * i + 1))]) (st := [.int r]) rfl rfl (Nat.le_of_ble_eq_true rfl) (Nat.le_of_ble_eq_true rfl) rfl (by omega) (by omega) ?_
  refine g_icmp_eq (tgt := 1896) (pc := 1298) dL_law_1298 (by decide) (fun _ => ?_) (fun hne => absurd rfl hne)
  exact g_w (Nat.le_succ _) (Nat.le_add_right _ 6) (h _ _ _ h3)
theorem cVL2_142 : xcV RL 142 mX11_fault 11 2 := ⟨x_mem 824 (by decide +kernel) rfl, x_mem 825 (by decide +kernel) rfl, x_mem 826 (by decide +kernel) rfl, ⟨x_mem 1 (by decide +kernel) rfl, x_mem 827 (by decide +kernel) rfl, by decide +kernel, by decide⟩, _, rfl, rfl⟩
theorem cVL2_145 : xcV RL 145 mX12_fault 12 2 := ⟨x_mem 1643 (by decide +kernel) rfl, x_mem 1644 (by decide +kernel) rfl, x_mem 1645 (by decide +kernel) rfl, ⟨x_mem 13 (by decide +kernel) rfl, x_mem 1646 (by decide +kernel) rfl, by decide +kernel, by decide⟩, _, rfl, rfl⟩
def xS_fault (Inv : xS → Prop) : Prop := ∀ (u : xS) (a1 : Int32) (a2 : Int32), Inv u → ∃ (r : Int32) (u1 u2 : xS), f_X11_fault a1 a2 u = some (r, u1) ∧ f_X12_fault a1 a2 u1 = some (r, u2) ∧ Inv u2
set_option maxRecDepth 100000 in
set_option maxHeartbeats 4000000 in
theorem law_c26 {Inv : xS → Prop} (hS : xS_fault Inv) {u : xS} (hi : 8 * i + 8 ≤ sc.1) (hL : sc.1 ≤ 4096) (hcl : cl + 1 ≤ 601024) (hsl : sl + 6 ≤ 7293034) (hu : Inv u) (h : ∀ (u' : xS) (a' b' : Option Value), Inv u' → xG sc mL_law 1000 601024 7293034 lawQ (cl + 1) (sl + 6) 1896 (lawL i a' b') [] (xL0, u')) : xG sc mL_law 1000 601024 7293034 lawQ cl sl 1303 (lawL i a b) [] (xL0, u) := by
  obtain ⟨r, u1, u2, h1, h2, h3⟩ := hS u (sc.2 (8 * i + 1)) (sc.2 (8 * i + 2)) hu
  refine g_aload_n (pc := 1303) dL_law_1303 rfl ?_
  refine g_argC (j := 1) (pc := 1304) dL_law_1304 dL_law_1305 dL_law_1307 dL_law_1308 dL_law_1309 (by decide) (by decide) hi hL ?_
  refine g_argC (j := 2) (pc := 1310) dL_law_1310 dL_law_1311 dL_law_1313 dL_law_1314 dL_law_1315 (by decide) (by decide) hi hL ?_
  refine g_cVl (pc := 1316) (d' := 900) dL_law_1316 cVL2_142 (M_X11_fault (Nat.le_of_ble_eq_true rfl) h1) xc_0 (as := [.int (sc.2 (8 * i + 1)), .int (sc.2 (8 * i + 2))]) (st := []) rfl rfl (Nat.le_of_ble_eq_true rfl) (Nat.le_of_ble_eq_true rfl) rfl (by omega) (by omega) ?_
  refine g_aload_n (pc := 1319) dL_law_1319 rfl ?_
  refine g_argC (j := 1) (pc := 1320) dL_law_1320 dL_law_1321 dL_law_1323 dL_law_1324 dL_law_1325 (by decide) (by decide) hi hL ?_
  refine g_argC (j := 2) (pc := 1326) dL_law_1326 dL_law_1327 dL_law_1329 dL_law_1330 dL_law_1331 (by decide) (by decide) hi hL ?_
  refine g_cVl (pc := 1332) (d' := 900) dL_law_1332 cVL2_145 (M_X12_fault (Nat.le_of_ble_eq_true rfl) h2) xc_135 (as := [.int (sc.2 (8 * i + 1)), .int (sc.2 (8 * i + 2))]) (st := [.int r]) rfl rfl (Nat.le_of_ble_eq_true rfl) (Nat.le_of_ble_eq_true rfl) rfl (by omega) (by omega) ?_
  refine g_icmp_eq (tgt := 1896) (pc := 1335) dL_law_1335 (by decide) (fun _ => ?_) (fun hne => absurd rfl hne)
  exact g_w (Nat.le_succ _) (Nat.le_add_right _ 6) (h _ _ _ h3)
theorem cVL2_146 : xcV RL 146 mX11_suspects 11 0 := ⟨x_mem 828 (by decide +kernel) rfl, x_mem 829 (by decide +kernel) rfl, x_mem 830 (by decide +kernel) rfl, ⟨x_mem 1 (by decide +kernel) rfl, x_mem 831 (by decide +kernel) rfl, by decide +kernel, by decide⟩, _, rfl, rfl⟩
theorem cVL2_149 : xcV RL 149 mX12_suspects 12 0 := ⟨x_mem 1647 (by decide +kernel) rfl, x_mem 1648 (by decide +kernel) rfl, x_mem 1649 (by decide +kernel) rfl, ⟨x_mem 13 (by decide +kernel) rfl, x_mem 1650 (by decide +kernel) rfl, by decide +kernel, by decide⟩, _, rfl, rfl⟩
def xS_suspects (Inv : xS → Prop) : Prop := ∀ (u : xS), Inv u → ∃ (r : Int32) (u1 u2 : xS), f_X11_suspects u = some (r, u1) ∧ f_X12_suspects u1 = some (r, u2) ∧ Inv u2
set_option maxRecDepth 100000 in
set_option maxHeartbeats 4000000 in
theorem law_c27 {Inv : xS → Prop} (hS : xS_suspects Inv) {u : xS} (hi : 8 * i + 8 ≤ sc.1) (hL : sc.1 ≤ 4096) (hcl : cl + 1 ≤ 601024) (hsl : sl + 6 ≤ 7293034) (hu : Inv u) (h : ∀ (u' : xS) (a' b' : Option Value), Inv u' → xG sc mL_law 1000 601024 7293034 lawQ (cl + 1) (sl + 6) 1896 (lawL i a' b') [] (xL0, u')) : xG sc mL_law 1000 601024 7293034 lawQ cl sl 1340 (lawL i a b) [] (xL0, u) := by
  obtain ⟨r, u1, u2, h1, h2, h3⟩ := hS u  hu
  refine g_aload_n (pc := 1340) dL_law_1340 rfl ?_
  refine g_cVl (pc := 1341) (d' := 900) dL_law_1341 cVL2_146 (M_X11_suspects (Nat.le_of_ble_eq_true rfl) h1) xc_0 (as := []) (st := []) rfl rfl (Nat.le_of_ble_eq_true rfl) (Nat.le_of_ble_eq_true rfl) rfl (by omega) (by omega) ?_
  refine g_aload_n (pc := 1344) dL_law_1344 rfl ?_
  refine g_cVl (pc := 1345) (d' := 900) dL_law_1345 cVL2_149 (M_X12_suspects (Nat.le_of_ble_eq_true rfl) h2) xc_135 (as := []) (st := [.int r]) rfl rfl (Nat.le_of_ble_eq_true rfl) (Nat.le_of_ble_eq_true rfl) rfl (by omega) (by omega) ?_
  refine g_icmp_eq (tgt := 1896) (pc := 1348) dL_law_1348 (by decide) (fun _ => ?_) (fun hne => absurd rfl hne)
  exact g_w (Nat.le_succ _) (Nat.le_add_right _ 6) (h _ _ _ h3)
theorem cVL2_150 : xcV RL 150 mX11_foretell 11 3 := ⟨x_mem 857 (by decide +kernel) rfl, x_mem 858 (by decide +kernel) rfl, x_mem 859 (by decide +kernel) rfl, ⟨x_mem 1 (by decide +kernel) rfl, x_mem 860 (by decide +kernel) rfl, by decide +kernel, by decide⟩, _, rfl, rfl⟩
theorem cVL2_153 : xcV RL 153 mX12_foretell 12 3 := ⟨x_mem 1663 (by decide +kernel) rfl, x_mem 1664 (by decide +kernel) rfl, x_mem 1665 (by decide +kernel) rfl, ⟨x_mem 13 (by decide +kernel) rfl, x_mem 1666 (by decide +kernel) rfl, by decide +kernel, by decide⟩, _, rfl, rfl⟩
def xS_foretell (Inv : xS → Prop) : Prop := ∀ (u : xS) (a1 : Int32) (a2 : Int32) (a3 : Int32), Inv u → ∃ (r : Int32) (u1 u2 : xS), f_X11_foretell a1 a2 a3 u = some (r, u1) ∧ f_X12_foretell a1 a2 a3 u1 = some (r, u2) ∧ Inv u2
set_option maxRecDepth 100000 in
set_option maxHeartbeats 4000000 in
theorem law_c28 {Inv : xS → Prop} (hS : xS_foretell Inv) {u : xS} (hi : 8 * i + 8 ≤ sc.1) (hL : sc.1 ≤ 4096) (hcl : cl + 1 ≤ 601024) (hsl : sl + 6 ≤ 7293034) (hu : Inv u) (h : ∀ (u' : xS) (a' b' : Option Value), Inv u' → xG sc mL_law 1000 601024 7293034 lawQ (cl + 1) (sl + 6) 1896 (lawL i a' b') [] (xL0, u')) : xG sc mL_law 1000 601024 7293034 lawQ cl sl 1353 (lawL i a b) [] (xL0, u) := by
  obtain ⟨r, u1, u2, h1, h2, h3⟩ := hS u (sc.2 (8 * i + 1)) (sc.2 (8 * i + 2)) (sc.2 (8 * i + 3)) hu
  refine g_aload_n (pc := 1353) dL_law_1353 rfl ?_
  refine g_argC (j := 1) (pc := 1354) dL_law_1354 dL_law_1355 dL_law_1357 dL_law_1358 dL_law_1359 (by decide) (by decide) hi hL ?_
  refine g_argC (j := 2) (pc := 1360) dL_law_1360 dL_law_1361 dL_law_1363 dL_law_1364 dL_law_1365 (by decide) (by decide) hi hL ?_
  refine g_argC (j := 3) (pc := 1366) dL_law_1366 dL_law_1367 dL_law_1369 dL_law_1370 dL_law_1371 (by decide) (by decide) hi hL ?_
  refine g_cVl (pc := 1372) (d' := 900) dL_law_1372 cVL2_150 (M_X11_foretell (Nat.le_of_ble_eq_true rfl) h1) xc_0 (as := [.int (sc.2 (8 * i + 1)), .int (sc.2 (8 * i + 2)), .int (sc.2 (8 * i + 3))]) (st := []) rfl rfl (Nat.le_of_ble_eq_true rfl) (Nat.le_of_ble_eq_true rfl) rfl (by omega) (by omega) ?_
  refine g_aload_n (pc := 1375) dL_law_1375 rfl ?_
  refine g_argC (j := 1) (pc := 1376) dL_law_1376 dL_law_1377 dL_law_1379 dL_law_1380 dL_law_1381 (by decide) (by decide) hi hL ?_
  refine g_argC (j := 2) (pc := 1382) dL_law_1382 dL_law_1383 dL_law_1385 dL_law_1386 dL_law_1387 (by decide) (by decide) hi hL ?_
  refine g_argC (j := 3) (pc := 1388) dL_law_1388 dL_law_1389 dL_law_1391 dL_law_1392 dL_law_1393 (by decide) (by decide) hi hL ?_
  refine g_cVl (pc := 1394) (d' := 900) dL_law_1394 cVL2_153 (M_X12_foretell (Nat.le_of_ble_eq_true rfl) h2) xc_135 (as := [.int (sc.2 (8 * i + 1)), .int (sc.2 (8 * i + 2)), .int (sc.2 (8 * i + 3))]) (st := [.int r]) rfl rfl (Nat.le_of_ble_eq_true rfl) (Nat.le_of_ble_eq_true rfl) rfl (by omega) (by omega) ?_
  refine g_icmp_eq (tgt := 1896) (pc := 1397) dL_law_1397 (by decide) (fun _ => ?_) (fun hne => absurd rfl hne)
  exact g_w (Nat.le_succ _) (Nat.le_add_right _ 6) (h _ _ _ h3)
theorem cVL2_154 : xcV RL 154 mX11_twice 11 4 := ⟨x_mem 865 (by decide +kernel) rfl, x_mem 866 (by decide +kernel) rfl, x_mem 867 (by decide +kernel) rfl, ⟨x_mem 1 (by decide +kernel) rfl, x_mem 868 (by decide +kernel) rfl, by decide +kernel, by decide⟩, _, rfl, rfl⟩
theorem cVL2_157 : xcV RL 157 mX12_twice 12 4 := ⟨x_mem 1668 (by decide +kernel) rfl, x_mem 1669 (by decide +kernel) rfl, x_mem 1670 (by decide +kernel) rfl, ⟨x_mem 13 (by decide +kernel) rfl, x_mem 1671 (by decide +kernel) rfl, by decide +kernel, by decide⟩, _, rfl, rfl⟩
def xS_twice (Inv : xS → Prop) : Prop := ∀ (u : xS) (a1 : Int32) (a2 : Int32) (a3 : Int32) (a4 : Int32), Inv u → ∃ (r : Int32) (u1 u2 : xS), f_X11_twice a1 a2 a3 a4 u = some (r, u1) ∧ f_X12_twice a1 a2 a3 a4 u1 = some (r, u2) ∧ Inv u2
set_option maxRecDepth 100000 in
set_option maxHeartbeats 4000000 in
theorem law_c29 {Inv : xS → Prop} (hS : xS_twice Inv) {u : xS} (hi : 8 * i + 8 ≤ sc.1) (hL : sc.1 ≤ 4096) (hcl : cl + 1 ≤ 601024) (hsl : sl + 6 ≤ 7293034) (hu : Inv u) (h : ∀ (u' : xS) (a' b' : Option Value), Inv u' → xG sc mL_law 1000 601024 7293034 lawQ (cl + 1) (sl + 6) 1896 (lawL i a' b') [] (xL0, u')) : xG sc mL_law 1000 601024 7293034 lawQ cl sl 1402 (lawL i a b) [] (xL0, u) := by
  obtain ⟨r, u1, u2, h1, h2, h3⟩ := hS u (sc.2 (8 * i + 1)) (sc.2 (8 * i + 2)) (sc.2 (8 * i + 3)) (sc.2 (8 * i + 4)) hu
  refine g_aload_n (pc := 1402) dL_law_1402 rfl ?_
  refine g_argC (j := 1) (pc := 1403) dL_law_1403 dL_law_1404 dL_law_1406 dL_law_1407 dL_law_1408 (by decide) (by decide) hi hL ?_
  refine g_argC (j := 2) (pc := 1409) dL_law_1409 dL_law_1410 dL_law_1412 dL_law_1413 dL_law_1414 (by decide) (by decide) hi hL ?_
  refine g_argC (j := 3) (pc := 1415) dL_law_1415 dL_law_1416 dL_law_1418 dL_law_1419 dL_law_1420 (by decide) (by decide) hi hL ?_
  refine g_argC (j := 4) (pc := 1421) dL_law_1421 dL_law_1422 dL_law_1424 dL_law_1425 dL_law_1426 (by decide) (by decide) hi hL ?_
  refine g_cVl (pc := 1427) (d' := 900) dL_law_1427 cVL2_154 (M_X11_twice (Nat.le_of_ble_eq_true rfl) h1) xc_0 (as := [.int (sc.2 (8 * i + 1)), .int (sc.2 (8 * i + 2)), .int (sc.2 (8 * i + 3)), .int (sc.2 (8 * i + 4))]) (st := []) rfl rfl (Nat.le_of_ble_eq_true rfl) (Nat.le_of_ble_eq_true rfl) rfl (by omega) (by omega) ?_
  refine g_aload_n (pc := 1430) dL_law_1430 rfl ?_
  refine g_argC (j := 1) (pc := 1431) dL_law_1431 dL_law_1432 dL_law_1434 dL_law_1435 dL_law_1436 (by decide) (by decide) hi hL ?_
  refine g_argC (j := 2) (pc := 1437) dL_law_1437 dL_law_1438 dL_law_1440 dL_law_1441 dL_law_1442 (by decide) (by decide) hi hL ?_
  refine g_argC (j := 3) (pc := 1443) dL_law_1443 dL_law_1444 dL_law_1446 dL_law_1447 dL_law_1448 (by decide) (by decide) hi hL ?_
  refine g_argC (j := 4) (pc := 1449) dL_law_1449 dL_law_1450 dL_law_1452 dL_law_1453 dL_law_1454 (by decide) (by decide) hi hL ?_
  refine g_cVl (pc := 1455) (d' := 900) dL_law_1455 cVL2_157 (M_X12_twice (Nat.le_of_ble_eq_true rfl) h2) xc_135 (as := [.int (sc.2 (8 * i + 1)), .int (sc.2 (8 * i + 2)), .int (sc.2 (8 * i + 3)), .int (sc.2 (8 * i + 4))]) (st := [.int r]) rfl rfl (Nat.le_of_ble_eq_true rfl) (Nat.le_of_ble_eq_true rfl) rfl (by omega) (by omega) ?_
  refine g_icmp_eq (tgt := 1896) (pc := 1458) dL_law_1458 (by decide) (fun _ => ?_) (fun hne => absurd rfl hne)
  exact g_w (Nat.le_succ _) (Nat.le_add_right _ 6) (h _ _ _ h3)
theorem cVL2_158 : xcV RL 158 mX11_eye 11 1 := ⟨x_mem 873 (by decide +kernel) rfl, x_mem 874 (by decide +kernel) rfl, x_mem 875 (by decide +kernel) rfl, ⟨x_mem 1 (by decide +kernel) rfl, x_mem 876 (by decide +kernel) rfl, by decide +kernel, by decide⟩, _, rfl, rfl⟩
theorem cVL2_161 : xcV RL 161 mX12_eye 12 1 := ⟨x_mem 1672 (by decide +kernel) rfl, x_mem 1673 (by decide +kernel) rfl, x_mem 1674 (by decide +kernel) rfl, ⟨x_mem 13 (by decide +kernel) rfl, x_mem 1675 (by decide +kernel) rfl, by decide +kernel, by decide⟩, _, rfl, rfl⟩
def xS_eye (Inv : xS → Prop) : Prop := ∀ (u : xS) (a1 : Int32), Inv u → ∃ (r : Int32) (u2 : xS), f_X11_eye u a1 = some r ∧ f_X12_eye a1 u = some (r, u2) ∧ Inv u2
set_option maxRecDepth 100000 in
set_option maxHeartbeats 4000000 in
theorem law_c30 {Inv : xS → Prop} (hS : xS_eye Inv) {u : xS} (hi : 8 * i + 8 ≤ sc.1) (hL : sc.1 ≤ 4096) (hcl : cl + 1 ≤ 601024) (hsl : sl + 6 ≤ 7293034) (hu : Inv u) (h : ∀ (u' : xS) (a' b' : Option Value), Inv u' → xG sc mL_law 1000 601024 7293034 lawQ (cl + 1) (sl + 6) 1896 (lawL i a' b') [] (xL0, u')) : xG sc mL_law 1000 601024 7293034 lawQ cl sl 1463 (lawL i a b) [] (xL0, u) := by
  obtain ⟨r, u2, h1, h2, h3⟩ := hS u (sc.2 (8 * i + 1)) hu
  refine g_aload_n (pc := 1463) dL_law_1463 rfl ?_
  refine g_argC (j := 1) (pc := 1464) dL_law_1464 dL_law_1465 dL_law_1467 dL_law_1468 dL_law_1469 (by decide) (by decide) hi hL ?_
  refine g_cVl (pc := 1470) (d' := 900) dL_law_1470 cVL2_158 (M_X11_eye (Nat.le_of_ble_eq_true rfl) h1) xc_0 (as := [.int (sc.2 (8 * i + 1))]) (st := []) rfl rfl (Nat.le_of_ble_eq_true rfl) (Nat.le_of_ble_eq_true rfl) rfl (by omega) (by omega) ?_
  refine g_aload_n (pc := 1473) dL_law_1473 rfl ?_
  refine g_argC (j := 1) (pc := 1474) dL_law_1474 dL_law_1475 dL_law_1477 dL_law_1478 dL_law_1479 (by decide) (by decide) hi hL ?_
  refine g_cVl (pc := 1480) (d' := 900) dL_law_1480 cVL2_161 (M_X12_eye (Nat.le_of_ble_eq_true rfl) h2) xc_135 (as := [.int (sc.2 (8 * i + 1))]) (st := [.int r]) rfl rfl (Nat.le_of_ble_eq_true rfl) (Nat.le_of_ble_eq_true rfl) rfl (by omega) (by omega) ?_
  refine g_icmp_eq (tgt := 1896) (pc := 1483) dL_law_1483 (by decide) (fun _ => ?_) (fun hne => absurd rfl hne)
  exact g_w (Nat.le_succ _) (Nat.le_add_right _ 6) (h _ _ _ h3)
theorem cVL2_162 : xcV RL 162 mX11_met 11 2 := ⟨x_mem 877 (by decide +kernel) rfl, x_mem 878 (by decide +kernel) rfl, x_mem 879 (by decide +kernel) rfl, ⟨x_mem 1 (by decide +kernel) rfl, x_mem 880 (by decide +kernel) rfl, by decide +kernel, by decide⟩, _, rfl, rfl⟩
theorem cVL2_165 : xcV RL 165 mX12_met 12 2 := ⟨x_mem 1676 (by decide +kernel) rfl, x_mem 1677 (by decide +kernel) rfl, x_mem 1678 (by decide +kernel) rfl, ⟨x_mem 13 (by decide +kernel) rfl, x_mem 1679 (by decide +kernel) rfl, by decide +kernel, by decide⟩, _, rfl, rfl⟩
def xS_met (Inv : xS → Prop) : Prop := ∀ (u : xS) (a1 : Int32) (a2 : Int32), Inv u → ∃ (r : Int32) (u2 : xS), f_X11_met u a1 a2 = some r ∧ f_X12_met a1 a2 u = some (r, u2) ∧ Inv u2
set_option maxRecDepth 100000 in
set_option maxHeartbeats 4000000 in
theorem law_c31 {Inv : xS → Prop} (hS : xS_met Inv) {u : xS} (hi : 8 * i + 8 ≤ sc.1) (hL : sc.1 ≤ 4096) (hcl : cl + 1 ≤ 601024) (hsl : sl + 6 ≤ 7293034) (hu : Inv u) (h : ∀ (u' : xS) (a' b' : Option Value), Inv u' → xG sc mL_law 1000 601024 7293034 lawQ (cl + 1) (sl + 6) 1896 (lawL i a' b') [] (xL0, u')) : xG sc mL_law 1000 601024 7293034 lawQ cl sl 1488 (lawL i a b) [] (xL0, u) := by
  obtain ⟨r, u2, h1, h2, h3⟩ := hS u (sc.2 (8 * i + 1)) (sc.2 (8 * i + 2)) hu
  refine g_aload_n (pc := 1488) dL_law_1488 rfl ?_
  refine g_argC (j := 1) (pc := 1489) dL_law_1489 dL_law_1490 dL_law_1492 dL_law_1493 dL_law_1494 (by decide) (by decide) hi hL ?_
  refine g_argC (j := 2) (pc := 1495) dL_law_1495 dL_law_1496 dL_law_1498 dL_law_1499 dL_law_1500 (by decide) (by decide) hi hL ?_
  refine g_cVl (pc := 1501) (d' := 900) dL_law_1501 cVL2_162 (M_X11_met (Nat.le_of_ble_eq_true rfl) h1) xc_0 (as := [.int (sc.2 (8 * i + 1)), .int (sc.2 (8 * i + 2))]) (st := []) rfl rfl (Nat.le_of_ble_eq_true rfl) (Nat.le_of_ble_eq_true rfl) rfl (by omega) (by omega) ?_
  refine g_aload_n (pc := 1504) dL_law_1504 rfl ?_
  refine g_argC (j := 1) (pc := 1505) dL_law_1505 dL_law_1506 dL_law_1508 dL_law_1509 dL_law_1510 (by decide) (by decide) hi hL ?_
  refine g_argC (j := 2) (pc := 1511) dL_law_1511 dL_law_1512 dL_law_1514 dL_law_1515 dL_law_1516 (by decide) (by decide) hi hL ?_
  refine g_cVl (pc := 1517) (d' := 900) dL_law_1517 cVL2_165 (M_X12_met (Nat.le_of_ble_eq_true rfl) h2) xc_135 (as := [.int (sc.2 (8 * i + 1)), .int (sc.2 (8 * i + 2))]) (st := [.int r]) rfl rfl (Nat.le_of_ble_eq_true rfl) (Nat.le_of_ble_eq_true rfl) rfl (by omega) (by omega) ?_
  refine g_icmp_eq (tgt := 1896) (pc := 1520) dL_law_1520 (by decide) (fun _ => ?_) (fun hne => absurd rfl hne)
  exact g_w (Nat.le_succ _) (Nat.le_add_right _ 6) (h _ _ _ h3)
theorem cVL2_166 : xcV RL 166 mX11_called 11 2 := ⟨x_mem 881 (by decide +kernel) rfl, x_mem 882 (by decide +kernel) rfl, x_mem 883 (by decide +kernel) rfl, ⟨x_mem 1 (by decide +kernel) rfl, x_mem 884 (by decide +kernel) rfl, by decide +kernel, by decide⟩, _, rfl, rfl⟩
theorem cVL2_169 : xcV RL 169 mX12_called 12 2 := ⟨x_mem 1680 (by decide +kernel) rfl, x_mem 1681 (by decide +kernel) rfl, x_mem 1682 (by decide +kernel) rfl, ⟨x_mem 13 (by decide +kernel) rfl, x_mem 1683 (by decide +kernel) rfl, by decide +kernel, by decide⟩, _, rfl, rfl⟩
def xS_called (Inv : xS → Prop) : Prop := ∀ (u : xS) (a1 : Int32) (a2 : Int32), Inv u → ∃ (r : Int32) (u1 u2 : xS), f_X11_called a1 a2 u = some (r, u1) ∧ f_X12_called a1 a2 u1 = some (r, u2) ∧ Inv u2
set_option maxRecDepth 100000 in
set_option maxHeartbeats 4000000 in
theorem law_c32 {Inv : xS → Prop} (hS : xS_called Inv) {u : xS} (hi : 8 * i + 8 ≤ sc.1) (hL : sc.1 ≤ 4096) (hcl : cl + 1 ≤ 601024) (hsl : sl + 6 ≤ 7293034) (hu : Inv u) (h : ∀ (u' : xS) (a' b' : Option Value), Inv u' → xG sc mL_law 1000 601024 7293034 lawQ (cl + 1) (sl + 6) 1896 (lawL i a' b') [] (xL0, u')) : xG sc mL_law 1000 601024 7293034 lawQ cl sl 1525 (lawL i a b) [] (xL0, u) := by
  obtain ⟨r, u1, u2, h1, h2, h3⟩ := hS u (sc.2 (8 * i + 1)) (sc.2 (8 * i + 2)) hu
  refine g_aload_n (pc := 1525) dL_law_1525 rfl ?_
  refine g_argC (j := 1) (pc := 1526) dL_law_1526 dL_law_1527 dL_law_1529 dL_law_1530 dL_law_1531 (by decide) (by decide) hi hL ?_
  refine g_argC (j := 2) (pc := 1532) dL_law_1532 dL_law_1533 dL_law_1535 dL_law_1536 dL_law_1537 (by decide) (by decide) hi hL ?_
  refine g_cVl (pc := 1538) (d' := 900) dL_law_1538 cVL2_166 (M_X11_called (Nat.le_of_ble_eq_true rfl) h1) xc_0 (as := [.int (sc.2 (8 * i + 1)), .int (sc.2 (8 * i + 2))]) (st := []) rfl rfl (Nat.le_of_ble_eq_true rfl) (Nat.le_of_ble_eq_true rfl) rfl (by omega) (by omega) ?_
  refine g_aload_n (pc := 1541) dL_law_1541 rfl ?_
  refine g_argC (j := 1) (pc := 1542) dL_law_1542 dL_law_1543 dL_law_1545 dL_law_1546 dL_law_1547 (by decide) (by decide) hi hL ?_
  refine g_argC (j := 2) (pc := 1548) dL_law_1548 dL_law_1549 dL_law_1551 dL_law_1552 dL_law_1553 (by decide) (by decide) hi hL ?_
  refine g_cVl (pc := 1554) (d' := 900) dL_law_1554 cVL2_169 (M_X12_called (Nat.le_of_ble_eq_true rfl) h2) xc_135 (as := [.int (sc.2 (8 * i + 1)), .int (sc.2 (8 * i + 2))]) (st := [.int r]) rfl rfl (Nat.le_of_ble_eq_true rfl) (Nat.le_of_ble_eq_true rfl) rfl (by omega) (by omega) ?_
  refine g_icmp_eq (tgt := 1896) (pc := 1557) dL_law_1557 (by decide) (fun _ => ?_) (fun hne => absurd rfl hne)
  exact g_w (Nat.le_succ _) (Nat.le_add_right _ 6) (h _ _ _ h3)
theorem cVL2_170 : xcV RL 170 mX11_ring 11 1 := ⟨x_mem 890 (by decide +kernel) rfl, x_mem 891 (by decide +kernel) rfl, x_mem 892 (by decide +kernel) rfl, ⟨x_mem 1 (by decide +kernel) rfl, x_mem 893 (by decide +kernel) rfl, by decide +kernel, by decide⟩, _, rfl, rfl⟩
theorem cVL2_173 : xcV RL 173 mX12_ring 12 1 := ⟨x_mem 1684 (by decide +kernel) rfl, x_mem 1685 (by decide +kernel) rfl, x_mem 1686 (by decide +kernel) rfl, ⟨x_mem 13 (by decide +kernel) rfl, x_mem 1687 (by decide +kernel) rfl, by decide +kernel, by decide⟩, _, rfl, rfl⟩
def xS_ring (Inv : xS → Prop) : Prop := ∀ (u : xS) (a1 : Int32), Inv u → ∃ (r : Int32) (u1 u2 : xS), f_X11_ring a1 u = some (r, u1) ∧ f_X12_ring a1 u1 = some (r, u2) ∧ Inv u2
set_option maxRecDepth 100000 in
set_option maxHeartbeats 4000000 in
theorem law_c33 {Inv : xS → Prop} (hS : xS_ring Inv) {u : xS} (hi : 8 * i + 8 ≤ sc.1) (hL : sc.1 ≤ 4096) (hcl : cl + 1 ≤ 601024) (hsl : sl + 6 ≤ 7293034) (hu : Inv u) (h : ∀ (u' : xS) (a' b' : Option Value), Inv u' → xG sc mL_law 1000 601024 7293034 lawQ (cl + 1) (sl + 6) 1896 (lawL i a' b') [] (xL0, u')) : xG sc mL_law 1000 601024 7293034 lawQ cl sl 1562 (lawL i a b) [] (xL0, u) := by
  obtain ⟨r, u1, u2, h1, h2, h3⟩ := hS u (sc.2 (8 * i + 1)) hu
  refine g_aload_n (pc := 1562) dL_law_1562 rfl ?_
  refine g_argC (j := 1) (pc := 1563) dL_law_1563 dL_law_1564 dL_law_1566 dL_law_1567 dL_law_1568 (by decide) (by decide) hi hL ?_
  refine g_cVl (pc := 1569) (d' := 900) dL_law_1569 cVL2_170 (M_X11_ring (Nat.le_of_ble_eq_true rfl) h1) xc_0 (as := [.int (sc.2 (8 * i + 1))]) (st := []) rfl rfl (Nat.le_of_ble_eq_true rfl) (Nat.le_of_ble_eq_true rfl) rfl (by omega) (by omega) ?_
  refine g_aload_n (pc := 1572) dL_law_1572 rfl ?_
  refine g_argC (j := 1) (pc := 1573) dL_law_1573 dL_law_1574 dL_law_1576 dL_law_1577 dL_law_1578 (by decide) (by decide) hi hL ?_
  refine g_cVl (pc := 1579) (d' := 900) dL_law_1579 cVL2_173 (M_X12_ring (Nat.le_of_ble_eq_true rfl) h2) xc_135 (as := [.int (sc.2 (8 * i + 1))]) (st := [.int r]) rfl rfl (Nat.le_of_ble_eq_true rfl) (Nat.le_of_ble_eq_true rfl) rfl (by omega) (by omega) ?_
  refine g_icmp_eq (tgt := 1896) (pc := 1582) dL_law_1582 (by decide) (fun _ => ?_) (fun hne => absurd rfl hne)
  exact g_w (Nat.le_succ _) (Nat.le_add_right _ 6) (h _ _ _ h3)
theorem cVL2_177 : xcV RL 177 mX12_wish 12 3 := ⟨x_mem 1688 (by decide +kernel) rfl, x_mem 1689 (by decide +kernel) rfl, x_mem 1690 (by decide +kernel) rfl, ⟨x_mem 13 (by decide +kernel) rfl, x_mem 1691 (by decide +kernel) rfl, by decide +kernel, by decide⟩, _, rfl, rfl⟩
def xS_wish (Inv : xS → Prop) : Prop := ∀ (u : xS) (a1 : Int32) (a2 : Int32) (a3 : Int32), Inv u → ∃ (o : Option Int32) (r : Int32) (u1 u2 : xS), f_X11_wish a1 a2 a3 u = some (o, u1) ∧ f_X12_wish a1 a2 a3 (hU o u1) = some (r, u2) ∧ f_X12_thrown u2 = hR o ∧ (∀ v, o = some v → rl u2 181 0 = r.toInt64) ∧ Inv u2
set_option maxRecDepth 100000 in
set_option maxHeartbeats 4000000 in
theorem law_c34 {Inv : xS → Prop} (hS : xS_wish Inv) {u : xS} (hi : 8 * i + 8 ≤ sc.1) (hL : sc.1 ≤ 4096) (hcl : cl + 1 ≤ 601024) (hsl : sl + 6 ≤ 7293034) (hu : Inv u) (h : ∀ (u' : xS) (a' b' : Option Value), Inv u' → xG sc mL_law 1000 601024 7293034 lawQ (cl + 1) (sl + 6) 1896 (lawL i a' b') [] (xL0, u')) : xG sc mL_law 1000 601024 7293034 lawQ cl sl 1587 (lawL i a b) [] (xL0, u) := by
  obtain ⟨o, r, u1, u2, h1, h2, h3, h4, h5⟩ := hS u (sc.2 (8 * i + 1)) (sc.2 (8 * i + 2)) (sc.2 (8 * i + 3)) hu
  refine g_aload_n (pc := 1587) dL_law_1587 rfl ?_
  refine g_argC (j := 1) (pc := 1588) dL_law_1588 dL_law_1589 dL_law_1591 dL_law_1592 dL_law_1593 (by decide) (by decide) hi hL ?_
  refine g_argC (j := 2) (pc := 1594) dL_law_1594 dL_law_1595 dL_law_1597 dL_law_1598 dL_law_1599 (by decide) (by decide) hi hL ?_
  refine g_argC (j := 3) (pc := 1600) dL_law_1600 dL_law_1601 dL_law_1603 dL_law_1604 dL_law_1605 (by decide) (by decide) hi hL ?_
  refine g_aload_n (pc := 1606) dL_law_1606 rfl ?_
  refine g_cW (pc := 1607) (d' := 900) dL_law_1607 cW_wish (H_wish (Nat.le_of_ble_eq_true rfl) h1) (as := [.ref 0, .int (sc.2 (8 * i + 1)), .int (sc.2 (8 * i + 2)), .int (sc.2 (8 * i + 3)), .ref 181]) (st := []) rfl rfl (Nat.le_of_ble_eq_true rfl) (Nat.le_of_ble_eq_true rfl) rfl hcl hsl ?_
  refine g_istore (pc := 1610) dL_law_1610 (by decide) (L' := lawL i (some (.int (hR o))) b) rfl ?_
  refine g_aload_n (pc := 1612) dL_law_1612 rfl ?_
  refine g_argC (j := 1) (pc := 1613) dL_law_1613 dL_law_1614 dL_law_1616 dL_law_1617 dL_law_1618 (by decide) (by decide) hi hL ?_
  refine g_argC (j := 2) (pc := 1619) dL_law_1619 dL_law_1620 dL_law_1622 dL_law_1623 dL_law_1624 (by decide) (by decide) hi hL ?_
  refine g_argC (j := 3) (pc := 1625) dL_law_1625 dL_law_1626 dL_law_1628 dL_law_1629 dL_law_1630 (by decide) (by decide) hi hL ?_
  refine g_cVl (pc := 1631) (d' := 900) dL_law_1631 cVL2_177 (M_X12_wish (Nat.le_of_ble_eq_true rfl) h2) xc_135 (as := [.int (sc.2 (8 * i + 1)), .int (sc.2 (8 * i + 2)), .int (sc.2 (8 * i + 3))]) (st := []) rfl rfl (Nat.le_of_ble_eq_true rfl) (Nat.le_of_ble_eq_true rfl) rfl (by omega) (by omega) ?_
  refine g_istore (pc := 1634) dL_law_1634 (by decide) (L' := lawL i (some (.int (hR o))) (some (.int r))) rfl ?_
  refine g_aload_n (pc := 1636) dL_law_1636 rfl ?_
  refine g_cVl (pc := 1637) (d' := 900) dL_law_1637 cVL2_114 (M_X12_thrown (Nat.le_of_ble_eq_true rfl) h3) xc_135 (as := []) (st := []) rfl rfl (Nat.le_of_ble_eq_true rfl) (Nat.le_of_ble_eq_true rfl) rfl (by omega) (by omega) ?_
  refine g_iload (pc := 1640) dL_law_1640 rfl ?_
  refine g_icmp_eq (tgt := 1647) (pc := 1642) dL_law_1642 (by decide) (fun _ => ?_) (fun hne => absurd rfl hne)
  refine g_iload (pc := 1647) dL_law_1647 rfl ?_
  have hend : xG sc mL_law 1000 601024 7293034 lawQ (cl + 1) (sl + 6) 1664 (lawL i (some (.int (hR o))) (some (.int r))) [] (xL0, u2) := g_goto (tgt := 1896) (pc := 1664) dL_law_1664 (by decide) (h _ _ _ h5)
  refine g_if_ne (tgt := 1664) (pc := 1649) dL_law_1649 (by decide) (fun _ => hend) (fun hz => ?_)
  have h4' : rl u2 181 0 = r.toInt64 := by
    cases ho : o with
    | none => rw [ho] at hz; exact absurd hz (by decide)
    | some v => exact h4 v ho
  refine g_aload_n (pc := 1652) dL_law_1652 rfl ?_
  refine g_iconst (pc := 1653) dL_law_1653 ic_0 ?_
  refine g_laload (pc := 1654) (v := r.toInt64) dL_law_1654 xc_181 (by unfold vp_in; decide) h4' ?_
  refine g_iload (pc := 1655) dL_law_1655 rfl ?_
  refine g_i2l (pc := 1657) dL_law_1657 rfl ?_
  refine g_lcmp (pc := 1658) dL_law_1658 (lg_self _) ?_
  exact g_if_eq (tgt := 1664) (pc := 1659) dL_law_1659 (by decide) (fun _ => hend) (fun hne => absurd rfl hne)
theorem cVL2_178 : xcV RL 178 mX11_takes 11 2 := ⟨x_mem 898 (by decide +kernel) rfl, x_mem 899 (by decide +kernel) rfl, x_mem 900 (by decide +kernel) rfl, ⟨x_mem 1 (by decide +kernel) rfl, x_mem 901 (by decide +kernel) rfl, by decide +kernel, by decide⟩, _, rfl, rfl⟩
theorem cVL2_181 : xcV RL 181 mX12_takes 12 2 := ⟨x_mem 1695 (by decide +kernel) rfl, x_mem 1696 (by decide +kernel) rfl, x_mem 1697 (by decide +kernel) rfl, ⟨x_mem 13 (by decide +kernel) rfl, x_mem 1698 (by decide +kernel) rfl, by decide +kernel, by decide⟩, _, rfl, rfl⟩
def xS_takes (Inv : xS → Prop) : Prop := ∀ (u : xS) (a1 : Int32) (a2 : Int32), Inv u → ∃ (r : Int32) (u1 u2 : xS), f_X11_takes a1 a2 u = some (r, u1) ∧ f_X12_takes a1 a2 u1 = some (r, u2) ∧ Inv u2
set_option maxRecDepth 100000 in
set_option maxHeartbeats 4000000 in
theorem law_c35 {Inv : xS → Prop} (hS : xS_takes Inv) {u : xS} (hi : 8 * i + 8 ≤ sc.1) (hL : sc.1 ≤ 4096) (hcl : cl + 1 ≤ 601024) (hsl : sl + 6 ≤ 7293034) (hu : Inv u) (h : ∀ (u' : xS) (a' b' : Option Value), Inv u' → xG sc mL_law 1000 601024 7293034 lawQ (cl + 1) (sl + 6) 1896 (lawL i a' b') [] (xL0, u')) : xG sc mL_law 1000 601024 7293034 lawQ cl sl 1667 (lawL i a b) [] (xL0, u) := by
  obtain ⟨r, u1, u2, h1, h2, h3⟩ := hS u (sc.2 (8 * i + 1)) (sc.2 (8 * i + 2)) hu
  refine g_aload_n (pc := 1667) dL_law_1667 rfl ?_
  refine g_argC (j := 1) (pc := 1668) dL_law_1668 dL_law_1669 dL_law_1671 dL_law_1672 dL_law_1673 (by decide) (by decide) hi hL ?_
  refine g_argC (j := 2) (pc := 1674) dL_law_1674 dL_law_1675 dL_law_1677 dL_law_1678 dL_law_1679 (by decide) (by decide) hi hL ?_
  refine g_cVl (pc := 1680) (d' := 900) dL_law_1680 cVL2_178 (M_X11_takes (Nat.le_of_ble_eq_true rfl) h1) xc_0 (as := [.int (sc.2 (8 * i + 1)), .int (sc.2 (8 * i + 2))]) (st := []) rfl rfl (Nat.le_of_ble_eq_true rfl) (Nat.le_of_ble_eq_true rfl) rfl (by omega) (by omega) ?_
  refine g_aload_n (pc := 1683) dL_law_1683 rfl ?_
  refine g_argC (j := 1) (pc := 1684) dL_law_1684 dL_law_1685 dL_law_1687 dL_law_1688 dL_law_1689 (by decide) (by decide) hi hL ?_
  refine g_argC (j := 2) (pc := 1690) dL_law_1690 dL_law_1691 dL_law_1693 dL_law_1694 dL_law_1695 (by decide) (by decide) hi hL ?_
  refine g_cVl (pc := 1696) (d' := 900) dL_law_1696 cVL2_181 (M_X12_takes (Nat.le_of_ble_eq_true rfl) h2) xc_135 (as := [.int (sc.2 (8 * i + 1)), .int (sc.2 (8 * i + 2))]) (st := [.int r]) rfl rfl (Nat.le_of_ble_eq_true rfl) (Nat.le_of_ble_eq_true rfl) rfl (by omega) (by omega) ?_
  refine g_icmp_eq (tgt := 1896) (pc := 1699) dL_law_1699 (by decide) (fun _ => ?_) (fun hne => absurd rfl hne)
  exact g_w (Nat.le_succ _) (Nat.le_add_right _ 6) (h _ _ _ h3)
theorem cVL2_182 : xcV RL 182 mX11_pack 11 4 := ⟨x_mem 905 (by decide +kernel) rfl, x_mem 906 (by decide +kernel) rfl, x_mem 907 (by decide +kernel) rfl, ⟨x_mem 1 (by decide +kernel) rfl, x_mem 908 (by decide +kernel) rfl, by decide +kernel, by decide⟩, _, rfl, rfl⟩
theorem cVL2_185 : xcV RL 185 mX12_pack 12 4 := ⟨x_mem 1700 (by decide +kernel) rfl, x_mem 1701 (by decide +kernel) rfl, x_mem 1702 (by decide +kernel) rfl, ⟨x_mem 13 (by decide +kernel) rfl, x_mem 1703 (by decide +kernel) rfl, by decide +kernel, by decide⟩, _, rfl, rfl⟩
def xS_pack (Inv : xS → Prop) : Prop := ∀ (u : xS) (a1 : Int32) (a2 : Int32) (a3 : Int32) (a4 : Int32), Inv u → ∃ (r : Int32) (u1 u2 : xS), f_X11_pack a1 a2 a3 a4 u = some (r, u1) ∧ f_X12_pack a1 a2 a3 a4 u1 = some (r, u2) ∧ Inv u2
set_option maxRecDepth 100000 in
set_option maxHeartbeats 4000000 in
theorem law_c36 {Inv : xS → Prop} (hS : xS_pack Inv) {u : xS} (hi : 8 * i + 8 ≤ sc.1) (hL : sc.1 ≤ 4096) (hcl : cl + 1 ≤ 601024) (hsl : sl + 6 ≤ 7293034) (hu : Inv u) (h : ∀ (u' : xS) (a' b' : Option Value), Inv u' → xG sc mL_law 1000 601024 7293034 lawQ (cl + 1) (sl + 6) 1896 (lawL i a' b') [] (xL0, u')) : xG sc mL_law 1000 601024 7293034 lawQ cl sl 1704 (lawL i a b) [] (xL0, u) := by
  obtain ⟨r, u1, u2, h1, h2, h3⟩ := hS u (sc.2 (8 * i + 1)) (sc.2 (8 * i + 2)) (sc.2 (8 * i + 3)) (sc.2 (8 * i + 4)) hu
  refine g_aload_n (pc := 1704) dL_law_1704 rfl ?_
  refine g_argC (j := 1) (pc := 1705) dL_law_1705 dL_law_1706 dL_law_1708 dL_law_1709 dL_law_1710 (by decide) (by decide) hi hL ?_
  refine g_argC (j := 2) (pc := 1711) dL_law_1711 dL_law_1712 dL_law_1714 dL_law_1715 dL_law_1716 (by decide) (by decide) hi hL ?_
  refine g_argC (j := 3) (pc := 1717) dL_law_1717 dL_law_1718 dL_law_1720 dL_law_1721 dL_law_1722 (by decide) (by decide) hi hL ?_
  refine g_argC (j := 4) (pc := 1723) dL_law_1723 dL_law_1724 dL_law_1726 dL_law_1727 dL_law_1728 (by decide) (by decide) hi hL ?_
  refine g_cVl (pc := 1729) (d' := 900) dL_law_1729 cVL2_182 (M_X11_pack (Nat.le_of_ble_eq_true rfl) h1) xc_0 (as := [.int (sc.2 (8 * i + 1)), .int (sc.2 (8 * i + 2)), .int (sc.2 (8 * i + 3)), .int (sc.2 (8 * i + 4))]) (st := []) rfl rfl (Nat.le_of_ble_eq_true rfl) (Nat.le_of_ble_eq_true rfl) rfl (by omega) (by omega) ?_
  refine g_aload_n (pc := 1732) dL_law_1732 rfl ?_
  refine g_argC (j := 1) (pc := 1733) dL_law_1733 dL_law_1734 dL_law_1736 dL_law_1737 dL_law_1738 (by decide) (by decide) hi hL ?_
  refine g_argC (j := 2) (pc := 1739) dL_law_1739 dL_law_1740 dL_law_1742 dL_law_1743 dL_law_1744 (by decide) (by decide) hi hL ?_
  refine g_argC (j := 3) (pc := 1745) dL_law_1745 dL_law_1746 dL_law_1748 dL_law_1749 dL_law_1750 (by decide) (by decide) hi hL ?_
  refine g_argC (j := 4) (pc := 1751) dL_law_1751 dL_law_1752 dL_law_1754 dL_law_1755 dL_law_1756 (by decide) (by decide) hi hL ?_
  refine g_cVl (pc := 1757) (d' := 900) dL_law_1757 cVL2_185 (M_X12_pack (Nat.le_of_ble_eq_true rfl) h2) xc_135 (as := [.int (sc.2 (8 * i + 1)), .int (sc.2 (8 * i + 2)), .int (sc.2 (8 * i + 3)), .int (sc.2 (8 * i + 4))]) (st := [.int r]) rfl rfl (Nat.le_of_ble_eq_true rfl) (Nat.le_of_ble_eq_true rfl) rfl (by omega) (by omega) ?_
  refine g_icmp_eq (tgt := 1896) (pc := 1760) dL_law_1760 (by decide) (fun _ => ?_) (fun hne => absurd rfl hne)
  exact g_w (Nat.le_succ _) (Nat.le_add_right _ 6) (h _ _ _ h3)
theorem cVL2_186 : xcV RL 186 mX11_gives 11 2 := ⟨x_mem 913 (by decide +kernel) rfl, x_mem 914 (by decide +kernel) rfl, x_mem 915 (by decide +kernel) rfl, ⟨x_mem 1 (by decide +kernel) rfl, x_mem 916 (by decide +kernel) rfl, by decide +kernel, by decide⟩, _, rfl, rfl⟩
theorem cVL2_189 : xcV RL 189 mX12_gives 12 2 := ⟨x_mem 1704 (by decide +kernel) rfl, x_mem 1705 (by decide +kernel) rfl, x_mem 1706 (by decide +kernel) rfl, ⟨x_mem 13 (by decide +kernel) rfl, x_mem 1707 (by decide +kernel) rfl, by decide +kernel, by decide⟩, _, rfl, rfl⟩
def xS_gives (Inv : xS → Prop) : Prop := ∀ (u : xS) (a1 : Int32) (a2 : Int32), Inv u → ∃ (r : Int32) (u2 : xS), f_X11_gives u a1 a2 = some r ∧ f_X12_gives a1 a2 u = some (r, u2) ∧ Inv u2
set_option maxRecDepth 100000 in
set_option maxHeartbeats 4000000 in
theorem law_c37 {Inv : xS → Prop} (hS : xS_gives Inv) {u : xS} (hi : 8 * i + 8 ≤ sc.1) (hL : sc.1 ≤ 4096) (hcl : cl + 1 ≤ 601024) (hsl : sl + 6 ≤ 7293034) (hu : Inv u) (h : ∀ (u' : xS) (a' b' : Option Value), Inv u' → xG sc mL_law 1000 601024 7293034 lawQ (cl + 1) (sl + 6) 1896 (lawL i a' b') [] (xL0, u')) : xG sc mL_law 1000 601024 7293034 lawQ cl sl 1765 (lawL i a b) [] (xL0, u) := by
  obtain ⟨r, u2, h1, h2, h3⟩ := hS u (sc.2 (8 * i + 1)) (sc.2 (8 * i + 2)) hu
  refine g_aload_n (pc := 1765) dL_law_1765 rfl ?_
  refine g_argC (j := 1) (pc := 1766) dL_law_1766 dL_law_1767 dL_law_1769 dL_law_1770 dL_law_1771 (by decide) (by decide) hi hL ?_
  refine g_argC (j := 2) (pc := 1772) dL_law_1772 dL_law_1773 dL_law_1775 dL_law_1776 dL_law_1777 (by decide) (by decide) hi hL ?_
  refine g_cVl (pc := 1778) (d' := 900) dL_law_1778 cVL2_186 (M_X11_gives (Nat.le_of_ble_eq_true rfl) h1) xc_0 (as := [.int (sc.2 (8 * i + 1)), .int (sc.2 (8 * i + 2))]) (st := []) rfl rfl (Nat.le_of_ble_eq_true rfl) (Nat.le_of_ble_eq_true rfl) rfl (by omega) (by omega) ?_
  refine g_aload_n (pc := 1781) dL_law_1781 rfl ?_
  refine g_argC (j := 1) (pc := 1782) dL_law_1782 dL_law_1783 dL_law_1785 dL_law_1786 dL_law_1787 (by decide) (by decide) hi hL ?_
  refine g_argC (j := 2) (pc := 1788) dL_law_1788 dL_law_1789 dL_law_1791 dL_law_1792 dL_law_1793 (by decide) (by decide) hi hL ?_
  refine g_cVl (pc := 1794) (d' := 900) dL_law_1794 cVL2_189 (M_X12_gives (Nat.le_of_ble_eq_true rfl) h2) xc_135 (as := [.int (sc.2 (8 * i + 1)), .int (sc.2 (8 * i + 2))]) (st := [.int r]) rfl rfl (Nat.le_of_ble_eq_true rfl) (Nat.le_of_ble_eq_true rfl) rfl (by omega) (by omega) ?_
  refine g_icmp_eq (tgt := 1896) (pc := 1797) dL_law_1797 (by decide) (fun _ => ?_) (fun hne => absurd rfl hne)
  exact g_w (Nat.le_succ _) (Nat.le_add_right _ 6) (h _ _ _ h3)
theorem cVL2_190 : xcV RL 190 mX11_share 11 0 := ⟨x_mem 925 (by decide +kernel) rfl, x_mem 926 (by decide +kernel) rfl, x_mem 927 (by decide +kernel) rfl, ⟨x_mem 1 (by decide +kernel) rfl, x_mem 928 (by decide +kernel) rfl, by decide +kernel, by decide⟩, _, rfl, rfl⟩
theorem cVL2_193 : xcV RL 193 mX12_share 12 0 := ⟨x_mem 1712 (by decide +kernel) rfl, x_mem 1713 (by decide +kernel) rfl, x_mem 1714 (by decide +kernel) rfl, ⟨x_mem 13 (by decide +kernel) rfl, x_mem 1715 (by decide +kernel) rfl, by decide +kernel, by decide⟩, _, rfl, rfl⟩
def xS_share (Inv : xS → Prop) : Prop := ∀ (u : xS), Inv u → ∃ (r : Int32) (u1 u2 : xS), f_X11_share u = some (r, u1) ∧ f_X12_share u1 = some (r, u2) ∧ Inv u2
set_option maxRecDepth 100000 in
set_option maxHeartbeats 4000000 in
theorem law_c38 {Inv : xS → Prop} (hS : xS_share Inv) {u : xS} (hi : 8 * i + 8 ≤ sc.1) (hL : sc.1 ≤ 4096) (hcl : cl + 1 ≤ 601024) (hsl : sl + 6 ≤ 7293034) (hu : Inv u) (h : ∀ (u' : xS) (a' b' : Option Value), Inv u' → xG sc mL_law 1000 601024 7293034 lawQ (cl + 1) (sl + 6) 1896 (lawL i a' b') [] (xL0, u')) : xG sc mL_law 1000 601024 7293034 lawQ cl sl 1802 (lawL i a b) [] (xL0, u) := by
  obtain ⟨r, u1, u2, h1, h2, h3⟩ := hS u  hu
  refine g_aload_n (pc := 1802) dL_law_1802 rfl ?_
  refine g_cVl (pc := 1803) (d' := 900) dL_law_1803 cVL2_190 (M_X11_share (Nat.le_of_ble_eq_true rfl) h1) xc_0 (as := []) (st := []) rfl rfl (Nat.le_of_ble_eq_true rfl) (Nat.le_of_ble_eq_true rfl) rfl (by omega) (by omega) ?_
  refine g_aload_n (pc := 1806) dL_law_1806 rfl ?_
  refine g_cVl (pc := 1807) (d' := 900) dL_law_1807 cVL2_193 (M_X12_share (Nat.le_of_ble_eq_true rfl) h2) xc_135 (as := []) (st := [.int r]) rfl rfl (Nat.le_of_ble_eq_true rfl) (Nat.le_of_ble_eq_true rfl) rfl (by omega) (by omega) ?_
  refine g_icmp_eq (tgt := 1896) (pc := 1810) dL_law_1810 (by decide) (fun _ => ?_) (fun hne => absurd rfl hne)
  exact g_w (Nat.le_succ _) (Nat.le_add_right _ 6) (h _ _ _ h3)
theorem cVL2_194 : xcV RL 194 mX11_count 11 1 := ⟨x_mem 961 (by decide +kernel) rfl, x_mem 962 (by decide +kernel) rfl, x_mem 963 (by decide +kernel) rfl, ⟨x_mem 1 (by decide +kernel) rfl, x_mem 964 (by decide +kernel) rfl, by decide +kernel, by decide⟩, _, rfl, rfl⟩
theorem cVL2_197 : xcV RL 197 mX12_count 12 1 := ⟨x_mem 1720 (by decide +kernel) rfl, x_mem 1721 (by decide +kernel) rfl, x_mem 1722 (by decide +kernel) rfl, ⟨x_mem 13 (by decide +kernel) rfl, x_mem 1723 (by decide +kernel) rfl, by decide +kernel, by decide⟩, _, rfl, rfl⟩
def xS_count (Inv : xS → Prop) : Prop := ∀ (u : xS) (a1 : Int32), Inv u → ∃ (r : Int32) (u2 : xS), f_X11_count u a1 = some r ∧ f_X12_count a1 u = some (r, u2) ∧ Inv u2
set_option maxRecDepth 100000 in
set_option maxHeartbeats 4000000 in
theorem law_c39 {Inv : xS → Prop} (hS : xS_count Inv) {u : xS} (hi : 8 * i + 8 ≤ sc.1) (hL : sc.1 ≤ 4096) (hcl : cl + 1 ≤ 601024) (hsl : sl + 6 ≤ 7293034) (hu : Inv u) (h : ∀ (u' : xS) (a' b' : Option Value), Inv u' → xG sc mL_law 1000 601024 7293034 lawQ (cl + 1) (sl + 6) 1896 (lawL i a' b') [] (xL0, u')) : xG sc mL_law 1000 601024 7293034 lawQ cl sl 1815 (lawL i a b) [] (xL0, u) := by
  obtain ⟨r, u2, h1, h2, h3⟩ := hS u (sc.2 (8 * i + 1)) hu
  refine g_aload_n (pc := 1815) dL_law_1815 rfl ?_
  refine g_argC (j := 1) (pc := 1816) dL_law_1816 dL_law_1817 dL_law_1819 dL_law_1820 dL_law_1821 (by decide) (by decide) hi hL ?_
  refine g_cVl (pc := 1822) (d' := 900) dL_law_1822 cVL2_194 (M_X11_count (Nat.le_of_ble_eq_true rfl) h1) xc_0 (as := [.int (sc.2 (8 * i + 1))]) (st := []) rfl rfl (Nat.le_of_ble_eq_true rfl) (Nat.le_of_ble_eq_true rfl) rfl (by omega) (by omega) ?_
  refine g_aload_n (pc := 1825) dL_law_1825 rfl ?_
  refine g_argC (j := 1) (pc := 1826) dL_law_1826 dL_law_1827 dL_law_1829 dL_law_1830 dL_law_1831 (by decide) (by decide) hi hL ?_
  refine g_cVl (pc := 1832) (d' := 900) dL_law_1832 cVL2_197 (M_X12_count (Nat.le_of_ble_eq_true rfl) h2) xc_135 (as := [.int (sc.2 (8 * i + 1))]) (st := [.int r]) rfl rfl (Nat.le_of_ble_eq_true rfl) (Nat.le_of_ble_eq_true rfl) rfl (by omega) (by omega) ?_
  refine g_icmp_eq (tgt := 1896) (pc := 1835) dL_law_1835 (by decide) (fun _ => ?_) (fun hne => absurd rfl hne)
  exact g_w (Nat.le_succ _) (Nat.le_add_right _ 6) (h _ _ _ h3)
theorem cVL2_201 : xcV RL 201 mX12_row 12 1 := ⟨x_mem 1728 (by decide +kernel) rfl, x_mem 1729 (by decide +kernel) rfl, x_mem 1730 (by decide +kernel) rfl, ⟨x_mem 13 (by decide +kernel) rfl, x_mem 1731 (by decide +kernel) rfl, by decide +kernel, by decide⟩, _, rfl, rfl⟩
def xS_row (Inv : xS → Prop) : Prop := ∀ (u : xS) (a1 : Int32), Inv u → ∃ (o : Option Int32) (r : Int32) (u1 u2 : xS), f_X11_row a1 u = some (o, u1) ∧ f_X12_row a1 (hU o u1) = some (r, u2) ∧ f_X12_thrown u2 = hR o ∧ (∀ v, o = some v → rl u2 181 0 = r.toInt64) ∧ Inv u2
set_option maxRecDepth 100000 in
set_option maxHeartbeats 4000000 in
theorem law_c40 {Inv : xS → Prop} (hS : xS_row Inv) {u : xS} (hi : 8 * i + 8 ≤ sc.1) (hL : sc.1 ≤ 4096) (hcl : cl + 1 ≤ 601024) (hsl : sl + 6 ≤ 7293034) (hu : Inv u) (h : ∀ (u' : xS) (a' b' : Option Value), Inv u' → xG sc mL_law 1000 601024 7293034 lawQ (cl + 1) (sl + 6) 1896 (lawL i a' b') [] (xL0, u')) : xG sc mL_law 1000 601024 7293034 lawQ cl sl 1840 (lawL i a b) [] (xL0, u) := by
  obtain ⟨o, r, u1, u2, h1, h2, h3, h4, h5⟩ := hS u (sc.2 (8 * i + 1)) hu
  refine g_aload_n (pc := 1840) dL_law_1840 rfl ?_
  refine g_argC (j := 1) (pc := 1841) dL_law_1841 dL_law_1842 dL_law_1844 dL_law_1845 dL_law_1846 (by decide) (by decide) hi hL ?_
  refine g_aload_n (pc := 1847) dL_law_1847 rfl ?_
  refine g_cW (pc := 1848) (d' := 900) dL_law_1848 cW_row (H_row (Nat.le_of_ble_eq_true rfl) h1) (as := [.ref 0, .int (sc.2 (8 * i + 1)), .ref 181]) (st := []) rfl rfl (Nat.le_of_ble_eq_true rfl) (Nat.le_of_ble_eq_true rfl) rfl hcl hsl ?_
  refine g_istore (pc := 1851) dL_law_1851 (by decide) (L' := lawL i (some (.int (hR o))) b) rfl ?_
  refine g_aload_n (pc := 1853) dL_law_1853 rfl ?_
  refine g_argC (j := 1) (pc := 1854) dL_law_1854 dL_law_1855 dL_law_1857 dL_law_1858 dL_law_1859 (by decide) (by decide) hi hL ?_
  refine g_cVl (pc := 1860) (d' := 900) dL_law_1860 cVL2_201 (M_X12_row (Nat.le_of_ble_eq_true rfl) h2) xc_135 (as := [.int (sc.2 (8 * i + 1))]) (st := []) rfl rfl (Nat.le_of_ble_eq_true rfl) (Nat.le_of_ble_eq_true rfl) rfl (by omega) (by omega) ?_
  refine g_istore (pc := 1863) dL_law_1863 (by decide) (L' := lawL i (some (.int (hR o))) (some (.int r))) rfl ?_
  refine g_aload_n (pc := 1865) dL_law_1865 rfl ?_
  refine g_cVl (pc := 1866) (d' := 900) dL_law_1866 cVL2_114 (M_X12_thrown (Nat.le_of_ble_eq_true rfl) h3) xc_135 (as := []) (st := []) rfl rfl (Nat.le_of_ble_eq_true rfl) (Nat.le_of_ble_eq_true rfl) rfl (by omega) (by omega) ?_
  refine g_iload (pc := 1869) dL_law_1869 rfl ?_
  refine g_icmp_eq (tgt := 1876) (pc := 1871) dL_law_1871 (by decide) (fun _ => ?_) (fun hne => absurd rfl hne)
  refine g_iload (pc := 1876) dL_law_1876 rfl ?_
  have hend : xG sc mL_law 1000 601024 7293034 lawQ (cl + 1) (sl + 6) 1893 (lawL i (some (.int (hR o))) (some (.int r))) [] (xL0, u2) := g_goto (tgt := 1896) (pc := 1893) dL_law_1893 (by decide) (h _ _ _ h5)
  refine g_if_ne (tgt := 1893) (pc := 1878) dL_law_1878 (by decide) (fun _ => hend) (fun hz => ?_)
  have h4' : rl u2 181 0 = r.toInt64 := by
    cases ho : o with
    | none => rw [ho] at hz; exact absurd hz (by decide)
    | some v => exact h4 v ho
  refine g_aload_n (pc := 1881) dL_law_1881 rfl ?_
  refine g_iconst (pc := 1882) dL_law_1882 ic_0 ?_
  refine g_laload (pc := 1883) (v := r.toInt64) dL_law_1883 xc_181 (by unfold vp_in; decide) h4' ?_
  refine g_iload (pc := 1884) dL_law_1884 rfl ?_
  refine g_i2l (pc := 1886) dL_law_1886 rfl ?_
  refine g_lcmp (pc := 1887) dL_law_1887 (lg_self _) ?_
  exact g_if_eq (tgt := 1893) (pc := 1888) dL_law_1888 (by decide) (fun _ => hend) (fun hne => absurd rfl hne)
def xSteps (Inv : xS → Prop) : Prop := xS_sort Inv ∧ xS_price Inv ∧ xS_at Inv ∧ xS_within Inv ∧ xS_bale Inv ∧ xS_open Inv ∧ xS_of Inv ∧ xS_look Inv ∧ xS_as Inv ∧ xS_off Inv ∧ xS_due Inv ∧ xS_sign Inv ∧ xS_end Inv ∧ xS_text Inv ∧ xS_pay Inv ∧ xS_store Inv ∧ xS_fire Inv ∧ xS_moth Inv ∧ xS_wipe Inv ∧ xS_split Inv ∧ xS_part Inv ∧ xS_judge Inv ∧ xS_cost Inv ∧ xS_mix Inv ∧ xS_make Inv ∧ xS_led Inv ∧ xS_fault Inv ∧ xS_suspects Inv ∧ xS_foretell Inv ∧ xS_twice Inv ∧ xS_eye Inv ∧ xS_met Inv ∧ xS_called Inv ∧ xS_ring Inv ∧ xS_wish Inv ∧ xS_takes Inv ∧ xS_pack Inv ∧ xS_gives Inv ∧ xS_share Inv ∧ xS_count Inv ∧ xS_row Inv
set_option maxRecDepth 100000 in
set_option maxHeartbeats 4000000 in
theorem law_turn {Inv : xS → Prop} (hS : xSteps Inv) {u : xS} (hi : 8 * i + 8 ≤ sc.1) (hL : sc.1 ≤ 4096) (hcl : cl + 1 ≤ 601024) (hsl : sl + 6 ≤ 7293034) (hu : Inv u) (h : ∀ (u' : xS) (a' b' : Option Value), Inv u' → xG sc mL_law 1000 601024 7293034 lawQ (cl + 1) (sl + 6) 1896 (lawL i a' b') [] (xL0, u')) : xG sc mL_law 1000 601024 7293034 lawQ cl sl 33 (lawL i a b) [] (xL0, u) := by
  obtain ⟨s0, s1, s2, s3, s4, s5, s6, s7, s8, s9, s10, s11, s12, s13, s14, s15, s16, s17, s18, s19, s20, s21, s22, s23, s24, s25, s26, s27, s28, s29, s30, s31, s32, s33, s34, s35, s36, s37, s38, s39, s40⟩ := hS
  refine g_aload_n (pc := 33) dL_law_33 rfl ?_
  refine g_iload (pc := 34) dL_law_34 rfl ?_
  refine g_sload (pc := 36) dL_law_36 (vp_in_nI (by omega) (by omega)) rfl ?_
  refine g_bipush (pc := 37) dL_law_37 rfl ?_
  refine g_iand (pc := 39) dL_law_39 rfl ?_
  generalize hx : (_ &&& _ : Int32) = x
  by_cases h0 : x.toInt < 0 ∨ 40 < x.toInt
  · exact g_tableOut (tgt := 1896) (pc := 40) dL_law_40 h0 (by decide) (g_w (Nat.le_succ _) (Nat.le_add_right _ 6) (h _ _ _ hu))
  have hc : x.toInt = 0 ∨ x.toInt = 1 ∨ x.toInt = 2 ∨ x.toInt = 3 ∨ x.toInt = 4 ∨ x.toInt = 5 ∨ x.toInt = 6 ∨ x.toInt = 7 ∨ x.toInt = 8 ∨ x.toInt = 9 ∨ x.toInt = 10 ∨ x.toInt = 11 ∨ x.toInt = 12 ∨ x.toInt = 13 ∨ x.toInt = 14 ∨ x.toInt = 15 ∨ x.toInt = 16 ∨ x.toInt = 17 ∨ x.toInt = 18 ∨ x.toInt = 19 ∨ x.toInt = 20 ∨ x.toInt = 21 ∨ x.toInt = 22 ∨ x.toInt = 23 ∨ x.toInt = 24 ∨ x.toInt = 25 ∨ x.toInt = 26 ∨ x.toInt = 27 ∨ x.toInt = 28 ∨ x.toInt = 29 ∨ x.toInt = 30 ∨ x.toInt = 31 ∨ x.toInt = 32 ∨ x.toInt = 33 ∨ x.toInt = 34 ∨ x.toInt = 35 ∨ x.toInt = 36 ∨ x.toInt = 37 ∨ x.toInt = 38 ∨ x.toInt = 39 ∨ x.toInt = 40 := by omega
  rcases hc with q | q | q | q | q | q | q | q | q | q | q | q | q | q | q | q | q | q | q | q | q | q | q | q | q | q | q | q | q | q | q | q | q | q | q | q | q | q | q | q | q
  · exact g_tableIn (off := 180) (tgt := 220) (pc := 40) dL_law_40 (by rw [q]; decide) (by rw [q]; decide) (by rw [q]; rfl) (by decide) (law_c0 s0 hi hL hcl hsl hu h)
  · exact g_tableIn (off := 281) (tgt := 321) (pc := 40) dL_law_40 (by rw [q]; decide) (by rw [q]; decide) (by rw [q]; rfl) (by decide) (law_c1 s1 hi hL hcl hsl hu h)
  · exact g_tableIn (off := 330) (tgt := 370) (pc := 40) dL_law_40 (by rw [q]; decide) (by rw [q]; decide) (by rw [q]; rfl) (by decide) (law_c2 s2 hi hL hcl hsl hu h)
  · exact g_tableIn (off := 367) (tgt := 407) (pc := 40) dL_law_40 (by rw [q]; decide) (by rw [q]; decide) (by rw [q]; rfl) (by decide) (law_c3 s3 hi hL hcl hsl hu h)
  · exact g_tableIn (off := 404) (tgt := 444) (pc := 40) dL_law_40 (by rw [q]; decide) (by rw [q]; decide) (by rw [q]; rfl) (by decide) (law_c4 s4 hi hL hcl hsl hu h)
  · exact g_tableIn (off := 465) (tgt := 505) (pc := 40) dL_law_40 (by rw [q]; decide) (by rw [q]; decide) (by rw [q]; rfl) (by decide) (law_c5 s5 hi hL hcl hsl hu h)
  · exact g_tableIn (off := 552) (tgt := 592) (pc := 40) dL_law_40 (by rw [q]; decide) (by rw [q]; decide) (by rw [q]; rfl) (by decide) (law_c6 s6 hi hL hcl hsl hu h)
  · exact g_tableIn (off := 589) (tgt := 629) (pc := 40) dL_law_40 (by rw [q]; decide) (by rw [q]; decide) (by rw [q]; rfl) (by decide) (law_c7 s7 hi hL hcl hsl hu h)
  · exact g_tableIn (off := 662) (tgt := 702) (pc := 40) dL_law_40 (by rw [q]; decide) (by rw [q]; decide) (by rw [q]; rfl) (by decide) (law_c8 s8 hi hL hcl hsl hu h)
  · exact g_tableIn (off := 687) (tgt := 727) (pc := 40) dL_law_40 (by rw [q]; decide) (by rw [q]; decide) (by rw [q]; rfl) (by decide) (law_c9 s9 hi hL hcl hsl hu h)
  · exact g_tableIn (off := 724) (tgt := 764) (pc := 40) dL_law_40 (by rw [q]; decide) (by rw [q]; decide) (by rw [q]; rfl) (by decide) (law_c10 s10 hi hL hcl hsl hu h)
  · exact g_tableIn (off := 749) (tgt := 789) (pc := 40) dL_law_40 (by rw [q]; decide) (by rw [q]; decide) (by rw [q]; rfl) (by decide) (law_c11 s11 hi hL hcl hsl hu h)
  · exact g_tableIn (off := 774) (tgt := 814) (pc := 40) dL_law_40 (by rw [q]; decide) (by rw [q]; decide) (by rw [q]; rfl) (by decide) (law_c12 s12 hi hL hcl hsl hu h)
  · exact g_tableIn (off := 799) (tgt := 839) (pc := 40) dL_law_40 (by rw [q]; decide) (by rw [q]; decide) (by rw [q]; rfl) (by decide) (law_c13 s13 hi hL hcl hsl hu h)
  · exact g_tableIn (off := 836) (tgt := 876) (pc := 40) dL_law_40 (by rw [q]; decide) (by rw [q]; decide) (by rw [q]; rfl) (by decide) (law_c14 s14 hi hL hcl hsl hu h)
  · exact g_tableIn (off := 861) (tgt := 901) (pc := 40) dL_law_40 (by rw [q]; decide) (by rw [q]; decide) (by rw [q]; rfl) (by decide) (law_c15 s15 hi hL hcl hsl hu h)
  · exact g_tableIn (off := 898) (tgt := 938) (pc := 40) dL_law_40 (by rw [q]; decide) (by rw [q]; decide) (by rw [q]; rfl) (by decide) (law_c16 s16 hi hL hcl hsl hu h)
  · exact g_tableIn (off := 923) (tgt := 963) (pc := 40) dL_law_40 (by rw [q]; decide) (by rw [q]; decide) (by rw [q]; rfl) (by decide) (law_c17 s17 hi hL hcl hsl hu h)
  · exact g_tableIn (off := 948) (tgt := 988) (pc := 40) dL_law_40 (by rw [q]; decide) (by rw [q]; decide) (by rw [q]; rfl) (by decide) (law_c18 s18 hi hL hcl hsl hu h)
  · exact g_tableIn (off := 997) (tgt := 1037) (pc := 40) dL_law_40 (by rw [q]; decide) (by rw [q]; decide) (by rw [q]; rfl) (by decide) (law_c19 s19 hi hL hcl hsl hu h)
  · exact g_tableIn (off := 1065) (tgt := 1105) (pc := 40) dL_law_40 (by rw [q]; decide) (by rw [q]; decide) (by rw [q]; rfl) (by decide) (law_c20 s20 hi hL hcl hsl hu h)
  · exact g_tableIn (off := 1102) (tgt := 1142) (pc := 40) dL_law_40 (by rw [q]; decide) (by rw [q]; decide) (by rw [q]; rfl) (by decide) (law_c21 s21 hi hL hcl hsl hu h)
  · exact g_tableIn (off := 1127) (tgt := 1167) (pc := 40) dL_law_40 (by rw [q]; decide) (by rw [q]; decide) (by rw [q]; rfl) (by decide) (law_c22 s22 hi hL hcl hsl hu h)
  · exact g_tableIn (off := 1152) (tgt := 1192) (pc := 40) dL_law_40 (by rw [q]; decide) (by rw [q]; decide) (by rw [q]; rfl) (by decide) (law_c23 s23 hi hL hcl hsl hu h)
  · exact g_tableIn (off := 1213) (tgt := 1253) (pc := 40) dL_law_40 (by rw [q]; decide) (by rw [q]; decide) (by rw [q]; rfl) (by decide) (law_c24 s24 hi hL hcl hsl hu h)
  · exact g_tableIn (off := 1238) (tgt := 1278) (pc := 40) dL_law_40 (by rw [q]; decide) (by rw [q]; decide) (by rw [q]; rfl) (by decide) (law_c25 s25 hi hL hcl hsl hu h)
  · exact g_tableIn (off := 1263) (tgt := 1303) (pc := 40) dL_law_40 (by rw [q]; decide) (by rw [q]; decide) (by rw [q]; rfl) (by decide) (law_c26 s26 hi hL hcl hsl hu h)
  · exact g_tableIn (off := 1300) (tgt := 1340) (pc := 40) dL_law_40 (by rw [q]; decide) (by rw [q]; decide) (by rw [q]; rfl) (by decide) (law_c27 s27 hi hL hcl hsl hu h)
  · exact g_tableIn (off := 1313) (tgt := 1353) (pc := 40) dL_law_40 (by rw [q]; decide) (by rw [q]; decide) (by rw [q]; rfl) (by decide) (law_c28 s28 hi hL hcl hsl hu h)
  · exact g_tableIn (off := 1362) (tgt := 1402) (pc := 40) dL_law_40 (by rw [q]; decide) (by rw [q]; decide) (by rw [q]; rfl) (by decide) (law_c29 s29 hi hL hcl hsl hu h)
  · exact g_tableIn (off := 1423) (tgt := 1463) (pc := 40) dL_law_40 (by rw [q]; decide) (by rw [q]; decide) (by rw [q]; rfl) (by decide) (law_c30 s30 hi hL hcl hsl hu h)
  · exact g_tableIn (off := 1448) (tgt := 1488) (pc := 40) dL_law_40 (by rw [q]; decide) (by rw [q]; decide) (by rw [q]; rfl) (by decide) (law_c31 s31 hi hL hcl hsl hu h)
  · exact g_tableIn (off := 1485) (tgt := 1525) (pc := 40) dL_law_40 (by rw [q]; decide) (by rw [q]; decide) (by rw [q]; rfl) (by decide) (law_c32 s32 hi hL hcl hsl hu h)
  · exact g_tableIn (off := 1522) (tgt := 1562) (pc := 40) dL_law_40 (by rw [q]; decide) (by rw [q]; decide) (by rw [q]; rfl) (by decide) (law_c33 s33 hi hL hcl hsl hu h)
  · exact g_tableIn (off := 1547) (tgt := 1587) (pc := 40) dL_law_40 (by rw [q]; decide) (by rw [q]; decide) (by rw [q]; rfl) (by decide) (law_c34 s34 hi hL hcl hsl hu h)
  · exact g_tableIn (off := 1627) (tgt := 1667) (pc := 40) dL_law_40 (by rw [q]; decide) (by rw [q]; decide) (by rw [q]; rfl) (by decide) (law_c35 s35 hi hL hcl hsl hu h)
  · exact g_tableIn (off := 1664) (tgt := 1704) (pc := 40) dL_law_40 (by rw [q]; decide) (by rw [q]; decide) (by rw [q]; rfl) (by decide) (law_c36 s36 hi hL hcl hsl hu h)
  · exact g_tableIn (off := 1725) (tgt := 1765) (pc := 40) dL_law_40 (by rw [q]; decide) (by rw [q]; decide) (by rw [q]; rfl) (by decide) (law_c37 s37 hi hL hcl hsl hu h)
  · exact g_tableIn (off := 1762) (tgt := 1802) (pc := 40) dL_law_40 (by rw [q]; decide) (by rw [q]; decide) (by rw [q]; rfl) (by decide) (law_c38 s38 hi hL hcl hsl hu h)
  · exact g_tableIn (off := 1775) (tgt := 1815) (pc := 40) dL_law_40 (by rw [q]; decide) (by rw [q]; decide) (by rw [q]; rfl) (by decide) (law_c39 s39 hi hL hcl hsl hu h)
  · exact g_tableIn (off := 1800) (tgt := 1840) (pc := 40) dL_law_40 (by rw [q]; decide) (by rw [q]; decide) (by rw [q]; rfl) (by decide) (law_c40 s40 hi hL hcl hsl hu h)
theorem law_le {L i : Nat} (hL : L ≤ 4096) (hi : i ≤ 512) (h : ¬ Int32.ofNat L - 8 < nI (8 * i)) : 8 * i + 8 ≤ L := by
  rw [Int32.lt_iff_toInt_lt, Int32.toInt_sub, nI_toInt (by omega), show (Int32.ofNat L).toInt = (L : Int) from nI_toInt (by omega), show (8 : Int32).toInt = 8 from rfl, Int.bmod_eq_of_le (by omega) (by omega)] at h
  omega
set_option maxRecDepth 100000 in
set_option maxHeartbeats 4000000 in
theorem law_loop {Inv : xS → Prop} (hS : xSteps Inv) (hL : sc.1 ≤ 4096) : ∀ (n i : Nat), i + n = 512 → ∀ (u : xS) (a b : Option Value), Inv u → xG sc mL_law 1000 601024 7293034 lawQ (182 + i) (8946 + 6 * i) 23 (lawL i a b) [] (xL0, u) := by
  intro n
  induction n with
  | zero =>
    intro i hin u a b hu
    refine g_iload (pc := 23) dL_law_23 rfl ?_
    refine g_aload_n (pc := 25) dL_law_25 rfl ?_
    refine g_slen (pc := 26) dL_law_26 rfl ?_
    refine g_bipush (pc := 27) dL_law_27 rfl ?_
    refine g_isub (pc := 29) dL_law_29 rfl ?_
    refine g_icmp_gt (tgt := 1902) (pc := 30) dL_law_30 (by decide) (fun _ => ?_) (fun h => ?_)
    · refine g_iconst (pc := 1902) dL_law_1902 ic_1 ?_
      exact g_lawend dL_law_1903 (by omega) (by omega)
    · have := law_le hL (by omega) h
      omega
  | succ n ih =>
    intro i hin u a b hu
    refine g_iload (pc := 23) dL_law_23 rfl ?_
    refine g_aload_n (pc := 25) dL_law_25 rfl ?_
    refine g_slen (pc := 26) dL_law_26 rfl ?_
    refine g_bipush (pc := 27) dL_law_27 rfl ?_
    refine g_isub (pc := 29) dL_law_29 rfl ?_
    refine g_icmp_gt (tgt := 1902) (pc := 30) dL_law_30 (by decide) (fun _ => ?_) (fun h => ?_)
    · refine g_iconst (pc := 1902) dL_law_1902 ic_1 ?_
      exact g_lawend dL_law_1903 (by omega) (by omega)
    · have hi := law_le hL (by omega) h
      refine law_turn hS hi hL (by omega) (by omega) hu (fun u' a' b' hu' => ?_)
      refine g_iinc (pc := 1896) (v := nI (8 * (i + 1))) (L' := lawL (i + 1) a' b') dL_law_1896 (by decide) rfl (nI_add (8 * i) 8) rfl ?_
      refine g_goto (tgt := 23) (pc := 1899) dL_law_1899 (by decide) ?_
      exact ih (i + 1) (by omega) u' a' b' hu'

/-- the memory that the constructors leave -/
def uI : xS := (wr (wr (wr (wr (wr (wr (wr (wr (wr (wr (wr (wr (wr (wr (wr (wr xu0 1 2 (0 : Int32)) 1 6 (0 : Int32)) 13 8 (0 : Int32)) 46 5 (0 : Int32)) 46 6 (99 : Int32)) 52 1 (0 : Int32)) 58 4 (0 : Int32)) 58 5 (0 : Int32)) 74 4 (0 : Int32)) 79 5 (0 : Int32)) 87 2 (0 : Int32)) 87 5 (0 : Int32)) 113 3 (0 : Int32)) 121 6 (0 : Int32)) 0 12 (0 : Int32)) 135 24 (99 : Int32))
set_option maxRecDepth 100000 in
set_option maxHeartbeats 8000000 in
theorem law_all {Inv : xS → Prop} (hS : xSteps Inv) (hI : Inv uI) (hL : sc.1 ≤ 4096) : xG sc mL_law 1000 601024 7293034 lawQ 0 0 0 [some (.ref 1000), none, none, none, none, none, none] [] ([], xu0) := by
  refine g_nw 11 0 (N := 13) (G' := xg_1) (pc := 0) dL_law_0 (x_mem 27 (by decide +kernel) rfl) (x_mem 28 (by decide +kernel) rfl) (x_mem 1 (by decide +kernel) rfl) rfl (by decide +kernel) (fun _ => rfl) rfl rfl (by decide) rfl rfl (by decide) (by decide) rfl ?_
  refine g_dup (pc := 3) dL_law_3 rfl ?_
  refine g_callI mX11_init (d' := 900) (pc := 4) dL_law_4 (C_X11_init (Nat.le_of_ble_eq_true rfl)) (x_mem 29 (by decide +kernel) rfl) (x_mem 30 (by decide +kernel) rfl) (x_mem 1 (by decide +kernel) rfl) (x_mem 31 (by decide +kernel) rfl) rfl rfl (by decide +kernel) (as := []) (st := [.ref 0]) rfl (Nat.le_of_ble_eq_true rfl) (Nat.le_of_ble_eq_true rfl) (Nat.le_of_ble_eq_true rfl) (Nat.le_of_ble_eq_true rfl) rfl rfl (by decide) (by decide) ?_
  refine g_astore_n (pc := 7) dL_law_7 (by decide) rfl ?_
  refine g_nw 12 135 (N := 63) (G' := xg_132) (pc := 8) dL_law_8 (x_mem 1056 (by decide +kernel) rfl) (x_mem 1057 (by decide +kernel) rfl) (x_mem 13 (by decide +kernel) rfl) rfl (by decide +kernel) (fun _ => rfl) (by decide +kernel) rfl (by decide) rfl rfl (by decide) (by decide) rfl ?_
  refine g_dup (pc := 11) dL_law_11 rfl ?_
  refine g_callI mX12_init (d' := 900) (pc := 12) dL_law_12 (C_X12_init (Nat.le_of_ble_eq_true rfl)) (x_mem 1058 (by decide +kernel) rfl) (x_mem 1059 (by decide +kernel) rfl) (x_mem 13 (by decide +kernel) rfl) (x_mem 1060 (by decide +kernel) rfl) rfl rfl (by decide +kernel) (as := []) (st := [.ref 135]) rfl (Nat.le_of_ble_eq_true rfl) (Nat.le_of_ble_eq_true rfl) (Nat.le_of_ble_eq_true rfl) (Nat.le_of_ble_eq_true rfl) rfl rfl (by decide) (by decide) ?_
  refine g_astore_n (pc := 15) dL_law_15 (by decide) rfl ?_
  refine g_iconst (pc := 16) dL_law_16 ic_1 ?_
  refine g_na 2 181 (N := 1) (G' := xL0) (pc := 17) dL_law_17 (x_mem 373 (by decide +kernel) rfl) (by decide) rfl (fun _ => rfl) (fun _ => rfl) (by decide) rfl (Nat.le_of_ble_eq_true rfl) (by decide +kernel) rfl (by decide) rfl rfl (by decide) (by decide) rfl ?_
  refine g_astore_n (pc := 19) dL_law_19 (by decide) rfl ?_
  refine g_iconst (pc := 20) dL_law_20 ic_0 ?_
  refine g_istore (pc := 21) dL_law_21 (by decide) (L' := lawL 0 none none) rfl ?_
  exact law_loop hS hL 512 0 rfl uI none none hI
end XLAW
