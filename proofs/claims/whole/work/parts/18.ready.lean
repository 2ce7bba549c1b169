/-! WHAT THE START GIVES -/
theorem st_flags {l : Launch} (h : l.flags = flags0) : l.stackTraces = false := by
  unfold Launch.stackTraces
  rw [h]
  decide +kernel
theorem st_known {s : State} {args : Array Value} (hts : ∀ w ∈ xW, w.before args s = true) : ∃ (dC : Nat → ClassId) (dI : Nat → Nat → Nat), ∀ (k : Nat) (q : vw_C), vwCl[k]? = some q → u_Kn s q.1 q.2.1 q.2.2 (dC k) (dI k) := by
  obtain ⟨c0, i0, h0⟩ := u_known (C := RX0) (T := TX0) (N := 9) (n := 9) hts x_lay0 (hts _ (x_mem 71 (by decide +kernel) rfl))
  obtain ⟨c1, i1, h1⟩ := u_known (C := RX1) (T := TX1) (N := 8) (n := 8) hts x_lay1 (hts _ (x_mem 248 (by decide +kernel) rfl))
  obtain ⟨c2, i2, h2⟩ := u_known (C := RX2) (T := TX2) (N := 7) (n := 7) hts x_lay2 (hts _ (x_mem 283 (by decide +kernel) rfl))
  obtain ⟨c3, i3, h3⟩ := u_known (C := RX3) (T := TX3) (N := 4) (n := 4) hts x_lay3 (hts _ (x_mem 315 (by decide +kernel) rfl))
  obtain ⟨c4, i4, h4⟩ := u_known (C := RX4) (T := TX4) (N := 9) (n := 9) hts x_lay4 (hts _ (x_mem 336 (by decide +kernel) rfl))
  obtain ⟨c5, i5, h5⟩ := u_known (C := RX5) (T := TX5) (N := 7) (n := 7) hts x_lay5 (hts _ (x_mem 115 (by decide +kernel) rfl))
  obtain ⟨c6, i6, h6⟩ := u_known (C := RX6) (T := TX6) (N := 5) (n := 5) hts x_lay6 (hts _ (x_mem 226 (by decide +kernel) rfl))
  obtain ⟨c7, i7, h7⟩ := u_known (C := RX7) (T := TX7) (N := 9) (n := 9) hts x_lay7 (hts _ (x_mem 162 (by decide +kernel) rfl))
  obtain ⟨c8, i8, h8⟩ := u_known (C := RX8) (T := TX8) (N := 7) (n := 7) hts x_lay8 (hts _ (x_mem 36 (by decide +kernel) rfl))
  obtain ⟨c9, i9, h9⟩ := u_known (C := RX9) (T := TX9) (N := 2) (n := 2) hts x_lay9 (hts _ (x_mem 147 (by decide +kernel) rfl))
  obtain ⟨c10, i10, h10⟩ := u_known (C := RX10) (T := TX10) (N := 6) (n := 6) hts x_lay10 (hts _ (x_mem 199 (by decide +kernel) rfl))
  obtain ⟨c11, i11, h11⟩ := u_known (C := RX11) (T := TX11) (N := 13) (n := 13) hts x_lay11 (hts _ (x_mem 28 (by decide +kernel) rfl))
  obtain ⟨c12, i12, h12⟩ := u_known (C := RX12) (T := TX12) (N := 63) (n := 63) hts x_lay12 (hts _ (x_mem 1057 (by decide +kernel) rfl))
  refine ⟨fun k => ([c0, c1, c2, c3, c4, c5, c6, c7, c8, c9, c10, c11, c12] : List ClassId).getD k c0, fun k => ([i0, i1, i2, i3, i4, i5, i6, i7, i8, i9, i10, i11, i12] : List (Nat → Nat)).getD k i0, ?_⟩
  intro k q hq
  match k, hq with
  | 0, hq => cases hq; exact h0
  | 1, hq => cases hq; exact h1
  | 2, hq => cases hq; exact h2
  | 3, hq => cases hq; exact h3
  | 4, hq => cases hq; exact h4
  | 5, hq => cases hq; exact h5
  | 6, hq => cases hq; exact h6
  | 7, hq => cases hq; exact h7
  | 8, hq => cases hq; exact h8
  | 9, hq => cases hq; exact h9
  | 10, hq => cases hq; exact h10
  | 11, hq => cases hq; exact h11
  | 12, hq => cases hq; exact h12
  | k + 13, hq => simp [vwCl] at hq
theorem st_arr1 {s : State} {args : Array Value} {t : FieldType} (hn : ∀ C, t ≠ .object C) (h : (Cond.arrayClass t).before args s = true) : ∃ c, ArrOfT s c t ∧ va_RA s c t := by
  obtain ⟨c, k, comp, h1, h2, h3⟩ := Cond.arrayClass_spec h
  refine ⟨c, fun n z => ⟨fun q hq => (by cases hq), k, h2, comp, h3⟩, ?_⟩
  cases t <;> first | exact h1 | exact absurd rfl (hn _)
theorem st_arr {s : State} {args : Array Value} (hts : ∀ w ∈ xW, w.before args s = true) (ho : (Cond.arrayOver (.array .int)).before args s = true) : ∃ cA : Nat → ClassId, ∀ (k : Nat) (q : ClassId × FieldType), (x_tys cA)[k]? = some q → ArrOfT s q.1 q.2 ∧ va_RA s q.1 q.2 := by
  obtain ⟨c0, h0⟩ := st_arr1 (t := .int) (by intro C; simp) (hts _ (x_mem 69 (by decide +kernel) rfl))
  obtain ⟨c1, h1⟩ := st_arr1 (t := .boolean) (by intro C; simp) (hts _ (x_mem 197 (by decide +kernel) rfl))
  obtain ⟨c2, h2⟩ := st_arr1 (t := .long) (by intro C; simp) (hts _ (x_mem 373 (by decide +kernel) rfl))
  obtain ⟨comp, c3, k3, e1, e2, e3, e4, e5⟩ := x_aoa_spec (t := .int) ho
  refine ⟨fun k => ([c0, c1, c2, c3] : List ClassId).getD k c0, fun k q hq => ?_⟩
  match k, hq with
  | 0, hq => cases hq; exact h0
  | 1, hq => cases hq; exact h1
  | 2, hq => cases hq; exact h2
  | 3, hq => cases hq; exact ⟨fun n z => ⟨fun q hq => (by cases hq), k3, e3, comp, e4⟩, e5⟩
  | k + 4, hq => simp [x_tys] at hq
abbrev stT (i : Nat) : Term := .string "RagTownModel" ((xSt.getD i (0, "")).1)
abbrev stV (i : Nat) : Term := .field (stT i) "java/lang/String" "value" "[B"
abbrev stG : List Cond := flatC (Jvm.Cond.and given_1 narrow_1)
theorem st_m1 : ∀ i, i < 6 → Cond.exactly (stT i) "java/lang/String" ∈ stG ∧ Cond.eq (.field (stT i) "java/lang/String" "coder" "B") (.int 0) ∈ stG ∧ Cond.arrayOf (stV i) .byte ∈ stG ∧ Cond.eq (.length (stV i)) (.int (Int32.ofNat (xLen.getD i 0))) ∈ stG := by decide +kernel
theorem st_m2 : ∀ i, i < 6 → ∀ j, j < xLen.getD i 0 → Cond.eq (.elem (stV i) (.int (Int32.ofNat j))) (.int ((xByt.getD i []).getD j 0)) ∈ stG := by decide +kernel
theorem st_m3 : ∀ i, i < 6 → ∀ j, j < 6 → i ≠ j → Cond.not (Cond.eq (stT i) (stT j)) ∈ stG ∨ Cond.not (Cond.eq (stT j) (stT i)) ∈ stG := by decide +kernel
theorem st_m4 : ∀ j, j < 8 → Cond.eq (.elem (.static "RagTown$LandBook" "WEIGHT" "[I") (.int (Int32.ofNat j))) (.int (xWt j)) ∈ stG := by decide +kernel
theorem st_len : ∀ i, i < 6 → xLen.getD i 0 < 2 ^ 31 := by decide +kernel
theorem st_for {s : State} {args : Array Value} {b L : Nat} {xs : Nat → Int32} (ht0 : ∀ w ∈ lw_tbl, w.before args s = true) (hts : ∀ w ∈ xW, w.before args s = true) (hgv : (Jvm.Cond.and given_1 narrow_1).before args s = true) (hX : va_X b L xs s s.heap) (hbl : b < s.heap.size) : ∃ ad : Nat → Nat, ad 1000 = b ∧ xFor (L, xs) s (fun q => s.heap.size ≤ q) ad := by
  have hs : ∀ c ∈ stG, c.before args s = true := flat_of_before _ hgv
  have hA : ∀ a : Nat, a < s.heap.size → ¬ (fun q : Nat => s.heap.size ≤ q) a := fun a h => Nat.not_le.mpr h
  obtain ⟨w, hw1, hw2⟩ := va_Tof (args := args) (s := s) (tm := .static "RagTown$LandBook" "WEIGHT" "[I") (ty := .int) (N := 8) (f := fun j => .int (xWt j)) (by decide) (hs _ (by decide +kernel)) (Cond.eq_int (hs (Cond.eq (.length (.static "RagTown$LandBook" "WEIGHT" "[I")) (.int 8)) (by decide +kernel)) rfl) (fun j hj => Cond.eq_int (hs _ (st_m4 j hj)) rfl) hA
  obtain ⟨adK, adV, hK, hKv⟩ := vk_Sof (args := args) (s := s) (N := 6) (tm := stT) (len := xLen) (byt := xByt) st_len (fun i hi => hs _ (st_m1 i hi).1) (fun i hi => hs _ (st_m1 i hi).2.1) (fun i hi => hs _ (st_m1 i hi).2.2.1) (fun i hi => hs _ (st_m1 i hi).2.2.2) (fun i hi j hj => hs _ (st_m2 i hi j hj)) (fun i j hi hj hne => (st_m3 i hi j hj hne).imp (fun h => hs _ h) (fun h => hs _ h)) hA
  let ad : Nat → Nat := fun j => if j = 1000 then b else if j = 1001 then w else if j < 1020 then adK (j - 1010) else adV (j - 1020)
  have e0 : ad 1000 = b := if_pos rfl
  have e1 : ad 1001 = w := by simp [ad]
  have eK : ∀ i, i < 6 → ad (1010 + i) = adK i := fun i hi => by
    show (if 1010 + i = 1000 then b else if 1010 + i = 1001 then w else if 1010 + i < 1020 then adK (1010 + i - 1010) else adV (1010 + i - 1020)) = adK i
    rw [if_neg (by omega), if_neg (by omega), if_pos (by omega), show 1010 + i - 1010 = i by omega]
  have eV : ∀ i, i < 6 → ad (1020 + i) = adV i := fun i hi => by
    show (if 1020 + i = 1000 then b else if 1020 + i = 1001 then w else if 1020 + i < 1020 then adK (1020 + i - 1010) else adV (1020 + i - 1020)) = adV i
    rw [if_neg (by omega), if_neg (by omega), if_neg (by omega), show 1020 + i - 1020 = i by omega]
  refine ⟨ad, e0, ?_, ?_, ?_, ?_, ?_, ?_, ?_, ?_, ?_, ?_⟩
  · obtain ⟨scr, k1, k2, k3, k4, k5⟩ := hX
    rw [e0]
    exact ⟨scr, k1, k2, k3, k4, k5, hA _ hbl⟩
  · rw [e1]
    exact va_Zof (ht0 _ (List.mem_append_right _ (List.mem_of_getElem? (i := 942) (by decide +kernel)))) (ht0 _ (List.mem_append_right _ (List.mem_of_getElem? (i := 12) (by decide +kernel)))) hw1 hA
  · rw [e1]
    exact hw2
  · exact va_Zof (ht0 _ (List.mem_append_right _ (List.mem_of_getElem? (i := 1381) (by decide +kernel)))) (ht0 _ (List.mem_append_right _ (List.mem_of_getElem? (i := 16) (by decide +kernel)))) (Cond.eq_int (hs (Cond.eq (.static "java/lang/String" "COMPACT_STRINGS" "Z") (.int 1)) (by decide +kernel)) rfl) hA
  · refine ⟨fun i hi => ?_, fun i j hi hj h => ?_⟩
    · dsimp only
      rw [eK i hi, eV i hi]
      exact hK.1 i hi
    · dsimp only at h
      rw [eK i hi, eK j hj] at h
      exact hK.2 i j hi hj h
  · intro i q hq
    match i, hq with
    | 0, hq => cases hq; exact vk_R.of (ht0 _ (List.mem_append_right _ (List.mem_of_getElem? (i := 1367) (by decide +kernel)))) (by show _ = some (Value.ref (ad (1010 + 0))); rw [eK 0 (by decide)]; exact hKv 0 (by decide))
    | 1, hq => cases hq; exact vk_R.of (ht0 _ (List.mem_append_right _ (List.mem_of_getElem? (i := 1524) (by decide +kernel)))) (by show _ = some (Value.ref (ad (1010 + 1))); rw [eK 1 (by decide)]; exact hKv 1 (by decide))
    | 2, hq => cases hq; exact vk_R.of (ht0 _ (List.mem_append_right _ (List.mem_of_getElem? (i := 1511) (by decide +kernel)))) (by show _ = some (Value.ref (ad (1010 + 2))); rw [eK 2 (by decide)]; exact hKv 2 (by decide))
    | 3, hq => cases hq; exact vk_R.of (ht0 _ (List.mem_append_right _ (List.mem_of_getElem? (i := 1529) (by decide +kernel)))) (by show _ = some (Value.ref (ad (1010 + 3))); rw [eK 3 (by decide)]; exact hKv 3 (by decide))
    | 4, hq => cases hq; exact vk_R.of (ht0 _ (List.mem_append_right _ (List.mem_of_getElem? (i := 1530) (by decide +kernel)))) (by show _ = some (Value.ref (ad (1010 + 4))); rw [eK 4 (by decide)]; exact hKv 4 (by decide))
    | 5, hq => cases hq; exact vk_R.of (ht0 _ (List.mem_append_right _ (List.mem_of_getElem? (i := 1531) (by decide +kernel)))) (by show _ = some (Value.ref (ad (1010 + 5))); rw [eK 5 (by decide)]; exact hKv 5 (by decide))
    | k + 6, hq => simp [xSt] at hq
  · intro w hw
    have h1 : w ∈ tables_1 := (List.mem_filter.mp hw).1
    have h2 := (List.mem_filter.mp hw).2
    have h3 : w.onTables = true := by
      cases w <;> first | rfl | (exact absurd h2 (by simp))
    exact va_Nw.of h3 (ht0 w (List.mem_append_right _ h1))
  · exact va_AOA.of (ht0 _ (List.mem_append_right _ (List.mem_of_getElem? (i := 42) (by decide +kernel))))
  · exact vx_Zqof (ht0 _ (List.mem_append_right _ (List.mem_of_getElem? (i := 1004) (by decide +kernel)))) (ht0 _ (List.mem_append_right _ (List.mem_of_getElem? (i := 22) (by decide +kernel)))) (hs _ (by decide +kernel)) hA
  · exact vx_Zqof (ht0 _ (List.mem_append_right _ (List.mem_of_getElem? (i := 1006) (by decide +kernel)))) (ht0 _ (List.mem_append_right _ (List.mem_of_getElem? (i := 22) (by decide +kernel)))) (hs _ (by decide +kernel)) hA
