set_option maxRecDepth 100000 in
set_option maxHeartbeats 4000000 in
theorem G_X12_some_6 {sc : Nat × (Nat → Int32)} {d : Nat} (hd : 1 ≤ d) {r : Int32} {u' : xS} {dk : Nat} (hkd : dk + 1 ≤ d) {k_X12_every : Int32 → xS → Option (Int32 × xS)} (hk_X12_every : ∀ (a1 : Int32) (u u' : xS) (r : Int32), k_X12_every a1 u = some (r, u') → xMt sc mX12_every dk 0 0 [.ref 135, .int a1] (xL0, u) (some (.int r)) (xL0, u')) : ∀ (n : Nat) (v1 : Int32) (v2 : Int32) (u : xS), f_X12_some_6 k_X12_every n v1 v2 u = some (r, u') → xG sc mX12_some d 0 0 (xR (some (.int r)) (xL0, u') 0 0) 0 0 6 [some (.ref 135), some (.int v1), some (.int v2)] [] (xL0, u) := by
  intro n
  induction n with
  | zero =>
    intro v1 v2 u h
    rw [f_X12_some_6] at h
    cases h
  | succ n ih =>
    intro v1 v2 u h
    rw [f_X12_some_6] at h
    refine g_iload_n (pc := 6) dX12_some_6 rfl ?_
    refine g_if_eq (tgt := 52) (pc := 7) dX12_some_7 (by decide) (fun c1 => ?_) (fun c1 => ?_)
    · replace h := (if_pos c1).symm.trans h
      refine g_iload_n (pc := 52) dX12_some_52 rfl ?_
      obtain ⟨g2, h⟩ := x_gd h
      obtain ⟨h1, h2⟩ := x_inj2 h
      subst h1
      subst h2
      exact g_zret (pc := 53) dX12_some_53 rfl (xb_of g2) rfl rfl (Nat.le_refl _) (Nat.le_refl _)
    · replace h := (if_neg c1).symm.trans h
      refine g_aload_n (pc := 10) dX12_some_10 rfl ?_
      refine g_iload_n (pc := 11) dX12_some_11 rfl ?_
      refine g_bipush (pc := 12) dX12_some_12 bp_124 ?_
      obtain ⟨x4, e3, h⟩ := x_bind h
      refine g_cV (pc := 14) dX12_some_14 cV_RX12_282 (M_X12_isSign (Nat.le_refl _) e3) xc_135 (as := [.int v1, .int (124 : Int32)]) (st := []) rfl rfl (Nat.le_of_ble_eq_true rfl) (Nat.le_trans (Nat.le_of_ble_eq_true rfl) hd) rfl ?_
      refine g_if_eq (tgt := 52) (pc := 17) dX12_some_17 (by decide) (fun c5 => ?_) (fun c5 => ?_)
      · replace h := (if_pos c5).symm.trans h
        refine g_iload_n (pc := 52) dX12_some_52 rfl ?_
        obtain ⟨g6, h⟩ := x_gd h
        obtain ⟨h1, h2⟩ := x_inj2 h
        subst h1
        subst h2
        exact g_zret (pc := 53) dX12_some_53 rfl (xb_of g6) rfl rfl (Nat.le_refl _) (Nat.le_refl _)
      · replace h := (if_neg c5).symm.trans h
        refine g_aload_n (pc := 20) dX12_some_20 rfl ?_
        refine g_dup (pc := 21) dX12_some_21 rfl ?_
        refine g_gI (pc := 22) dX12_some_22 fI_RX12_259 xc_135 (v := (rd u 135 33)) rfl ?_
        refine g_iconst (pc := 25) dX12_some_25 ic_1 ?_
        refine g_iadd (pc := 26) dX12_some_26 rfl ?_
        refine g_pI (pc := 27) dX12_some_27 pI_RX12_259 xc_135 (u' := (wr u 135 33 ((rd u 135 33) + (1 : Int32)))) rfl ?_
        refine g_aload_n (pc := 30) dX12_some_30 rfl ?_
        refine g_iload_n (pc := 31) dX12_some_31 rfl ?_
        obtain ⟨⟨x8, u9⟩, e7, h⟩ := x_bind h
        dsimp only at h
        refine g_cV (pc := 32) dX12_some_32 cV_RX12_315 (hk_X12_every _ _ _ _ e7) xc_135 (as := [.int v1]) (st := []) rfl rfl (Nat.le_of_ble_eq_true rfl) hkd rfl ?_
        refine g_istore_n (pc := 35) dX12_some_35 (Nat.le_of_ble_eq_true rfl) (L' := [some (.ref 135), some (.int v1), some (.int x8)]) rfl ?_
        refine g_iload_n (pc := 36) dX12_some_36 rfl ?_
        refine g_if_eq (tgt := 6) (pc := 37) dX12_some_37 (by decide) (fun c10 => ?_) (fun c10 => ?_)
        · replace h := (if_pos c10).symm.trans h
          exact ih v1 x8 u9 h
        · replace h := (if_neg c10).symm.trans h
          refine g_aload_n (pc := 40) dX12_some_40 rfl ?_
          refine g_bipush (pc := 41) dX12_some_41 bp_124 ?_
          refine g_cS (pc := 43) dX12_some_43 cS_RX12_297 (M_X12_act (Nat.le_refl _) rfl) (as := [.int (124 : Int32)]) (st := [.ref 135]) rfl rfl (Nat.le_of_ble_eq_true rfl) (Nat.le_trans (Nat.le_of_ble_eq_true rfl) hd) rfl ?_
          obtain ⟨u12, e11, h⟩ := x_bind h
          refine g_cV (pc := 46) dX12_some_46 cV_RX12_276 (M_X12_marks (Nat.le_refl _) e11) xc_135 (as := [.int (f_X12_act (124 : Int32))]) (st := []) rfl rfl (Nat.le_of_ble_eq_true rfl) (Nat.le_trans (Nat.le_of_ble_eq_true rfl) hd) rfl ?_
          refine g_goto (tgt := 6) (pc := 49) dX12_some_49 (by decide) ?_
          exact ih v1 x8 u12 h
set_option maxRecDepth 100000 in
set_option maxHeartbeats 4000000 in
theorem G_X12_some_0 {sc : Nat × (Nat → Int32)} {d : Nat} (hd : 1 ≤ d) {r : Int32} {u' : xS} {dk : Nat} (hkd : dk + 1 ≤ d) {k_X12_every : Int32 → xS → Option (Int32 × xS)} (hk_X12_every : ∀ (a1 : Int32) (u u' : xS) (r : Int32), k_X12_every a1 u = some (r, u') → xMt sc mX12_every dk 0 0 [.ref 135, .int a1] (xL0, u) (some (.int r)) (xL0, u')) (v1 : Int32) (u : xS) (h : f_X12_some k_X12_every v1 u = some (r, u')) : xG sc mX12_some d 0 0 (xR (some (.int r)) (xL0, u') 0 0) 0 0 0 [some (.ref 135), some (.int v1), none] [] (xL0, u) := by
  rw [f_X12_some] at h
  refine g_aload_n (pc := 0) dX12_some_0 rfl ?_
  refine g_iload_n (pc := 1) dX12_some_1 rfl ?_
  obtain ⟨⟨x2, u3⟩, e1, h⟩ := x_bind h
  dsimp only at h
  refine g_cV (pc := 2) dX12_some_2 cV_RX12_315 (hk_X12_every _ _ _ _ e1) xc_135 (as := [.int v1]) (st := []) rfl rfl (Nat.le_of_ble_eq_true rfl) hkd rfl ?_
  refine g_istore_n (pc := 5) dX12_some_5 (Nat.le_of_ble_eq_true rfl) (L' := [some (.ref 135), some (.int v1), some (.int x2)]) rfl ?_
  exact G_X12_some_6 hd hkd hk_X12_every xN v1 x2 u3 h
set_option maxRecDepth 100000 in
set_option maxHeartbeats 4000000 in
theorem M_X12_some {sc : Nat × (Nat → Int32)} {d : Nat} (hd : 1 ≤ d) {r : Int32} {u u' : xS} {dk : Nat} (hkd : dk + 1 ≤ d) {k_X12_every : Int32 → xS → Option (Int32 × xS)} (hk_X12_every : ∀ (a1 : Int32) (u u' : xS) (r : Int32), k_X12_every a1 u = some (r, u') → xMt sc mX12_every dk 0 0 [.ref 135, .int a1] (xL0, u) (some (.int r)) (xL0, u')) {a1 : Int32} (h : f_X12_some k_X12_every a1 u = some (r, u')) : xMt sc mX12_some d 0 0 [.ref 135, .int a1] (xL0, u) (some (.int r)) (xL0, u') :=
  xMt.of (by decide +kernel) (by decide +kernel) (Nat.le_of_ble_eq_true rfl) (L := [some (.ref 135), some (.int a1), none]) rfl ((G_X12_some_0 hd hkd hk_X12_every a1 u h))
theorem Mr_parse {sc : Nat × (Nat → Int32)} : ∀ n : Nat, (∀ (a1 : Int32) (u u' : xS) (r : Int32), fr_parse n 0 a1 u = some (r, u') → xMt sc mX12_thing (n + 5) 0 0 [.ref 135, .int a1] (xL0, u) (some (.int r)) (xL0, u')) ∧ (∀ (a1 : Int32) (u u' : xS) (r : Int32), fr_parse n 1 a1 u = some (r, u') → xMt sc mX12_unary (n + 5) 0 0 [.ref 135, .int a1] (xL0, u) (some (.int r)) (xL0, u')) ∧ (∀ (a1 : Int32) (u u' : xS) (r : Int32), fr_parse n 2 a1 u = some (r, u') → xMt sc mX12_product (n + 5) 0 0 [.ref 135, .int a1] (xL0, u) (some (.int r)) (xL0, u')) ∧ (∀ (a1 : Int32) (u u' : xS) (r : Int32), fr_parse n 3 a1 u = some (r, u') → xMt sc mX12_total (n + 5) 0 0 [.ref 135, .int a1] (xL0, u) (some (.int r)) (xL0, u')) ∧ (∀ (a1 : Int32) (u u' : xS) (r : Int32), fr_parse n 4 a1 u = some (r, u') → xMt sc mX12_compared (n + 5) 0 0 [.ref 135, .int a1] (xL0, u) (some (.int r)) (xL0, u')) ∧ (∀ (a1 : Int32) (u u' : xS) (r : Int32), fr_parse n 5 a1 u = some (r, u') → xMt sc mX12_every (n + 5) 0 0 [.ref 135, .int a1] (xL0, u) (some (.int r)) (xL0, u')) ∧ (∀ (a1 : Int32) (u u' : xS) (r : Int32), fr_parse n 6 a1 u = some (r, u') → xMt sc mX12_some (n + 5) 0 0 [.ref 135, .int a1] (xL0, u) (some (.int r)) (xL0, u')) := by
  intro n
  induction n with
  | zero => exact ⟨(fun _ _ _ _ h => by cases h), (fun _ _ _ _ h => by cases h), (fun _ _ _ _ h => by cases h), (fun _ _ _ _ h => by cases h), (fun _ _ _ _ h => by cases h), (fun _ _ _ _ h => by cases h), (fun _ _ _ _ h => by cases h)⟩
  | succ n ih =>
    obtain ⟨i0, i1, i2, i3, i4, i5, i6⟩ := ih
    exact ⟨(fun _ _ _ _ h => M_X12_thing (dk := n + 5) (by omega) (by omega) i6 h), (fun _ _ _ _ h => M_X12_unary (dk := n + 5) (by omega) (by omega) i1 i0 h), (fun _ _ _ _ h => M_X12_product (dk := n + 5) (by omega) (by omega) i1 h), (fun _ _ _ _ h => M_X12_total (dk := n + 5) (by omega) (by omega) i2 h), (fun _ _ _ _ h => M_X12_compared (dk := n + 5) (by omega) (by omega) i3 h), (fun _ _ _ _ h => M_X12_every (dk := n + 5) (by omega) (by omega) i4 h), (fun _ _ _ _ h => M_X12_some (dk := n + 5) (by omega) (by omega) i5 h)⟩
set_option maxRecDepth 100000 in
set_option maxHeartbeats 4000000 in
theorem M_r_X12_thing {sc : Nat × (Nat → Int32)} {d : Nat} (hd : 605 ≤ d) {u u' : xS} {r : Int32} {a1 : Int32} (h : f_r_X12_thing a1 u = some (r, u')) : xMt sc mX12_thing 605 0 0 [.ref 135, .int a1] (xL0, u) (some (.int r)) (xL0, u') := (Mr_parse 600).1 _ _ _ _ h
set_option maxRecDepth 100000 in
set_option maxHeartbeats 4000000 in
theorem M_r_X12_unary {sc : Nat × (Nat → Int32)} {d : Nat} (hd : 605 ≤ d) {u u' : xS} {r : Int32} {a1 : Int32} (h : f_r_X12_unary a1 u = some (r, u')) : xMt sc mX12_unary 605 0 0 [.ref 135, .int a1] (xL0, u) (some (.int r)) (xL0, u') := (Mr_parse 600).2.1 _ _ _ _ h
set_option maxRecDepth 100000 in
set_option maxHeartbeats 4000000 in
theorem M_r_X12_product {sc : Nat × (Nat → Int32)} {d : Nat} (hd : 605 ≤ d) {u u' : xS} {r : Int32} {a1 : Int32} (h : f_r_X12_product a1 u = some (r, u')) : xMt sc mX12_product 605 0 0 [.ref 135, .int a1] (xL0, u) (some (.int r)) (xL0, u') := (Mr_parse 600).2.2.1 _ _ _ _ h
set_option maxRecDepth 100000 in
set_option maxHeartbeats 4000000 in
theorem M_r_X12_total {sc : Nat × (Nat → Int32)} {d : Nat} (hd : 605 ≤ d) {u u' : xS} {r : Int32} {a1 : Int32} (h : f_r_X12_total a1 u = some (r, u')) : xMt sc mX12_total 605 0 0 [.ref 135, .int a1] (xL0, u) (some (.int r)) (xL0, u') := (Mr_parse 600).2.2.2.1 _ _ _ _ h
set_option maxRecDepth 100000 in
set_option maxHeartbeats 4000000 in
theorem M_r_X12_compared {sc : Nat × (Nat → Int32)} {d : Nat} (hd : 605 ≤ d) {u u' : xS} {r : Int32} {a1 : Int32} (h : f_r_X12_compared a1 u = some (r, u')) : xMt sc mX12_compared 605 0 0 [.ref 135, .int a1] (xL0, u) (some (.int r)) (xL0, u') := (Mr_parse 600).2.2.2.2.1 _ _ _ _ h
set_option maxRecDepth 100000 in
set_option maxHeartbeats 4000000 in
theorem M_r_X12_every {sc : Nat × (Nat → Int32)} {d : Nat} (hd : 605 ≤ d) {u u' : xS} {r : Int32} {a1 : Int32} (h : f_r_X12_every a1 u = some (r, u')) : xMt sc mX12_every 605 0 0 [.ref 135, .int a1] (xL0, u) (some (.int r)) (xL0, u') := (Mr_parse 600).2.2.2.2.2.1 _ _ _ _ h
set_option maxRecDepth 100000 in
set_option maxHeartbeats 4000000 in
theorem M_r_X12_some {sc : Nat × (Nat → Int32)} {d : Nat} (hd : 605 ≤ d) {u u' : xS} {r : Int32} {a1 : Int32} (h : f_r_X12_some a1 u = some (r, u')) : xMt sc mX12_some 605 0 0 [.ref 135, .int a1] (xL0, u) (some (.int r)) (xL0, u') := (Mr_parse 600).2.2.2.2.2.2 _ _ _ _ h
set_option maxRecDepth 100000 in
set_option maxHeartbeats 4000000 in
theorem G_X12_all_50 {sc : Nat × (Nat → Int32)} {d : Nat} (hd : 606 ≤ d) {r : Int32} {u' : xS} (v1 : Int32) (v3 : Int32) (u : xS) (h : f_X12_all_50 v1 v3 u = some (r, u')) : xG sc mX12_all d 0 0 (xR (some (.int r)) (xL0, u') 0 0) 0 0 50 [some (.ref 135), some (.int v1), none, some (.int v3)] [] (xL0, u) := by
  rw [f_X12_all_50] at h
  refine g_iload_n (pc := 50) dX12_all_50 rfl ?_
  refine g_if_eq (tgt := 66) (pc := 51) dX12_all_51 (by decide) (fun c1 => ?_) (fun c1 => ?_)
  · replace h := (if_pos c1).symm.trans h
    refine g_iconst (pc := 66) dX12_all_66 ic_0 ?_
    obtain ⟨h1, h2⟩ := x_inj2 h
    subst h1
    subst h2
    exact g_zret (pc := 67) dX12_all_67 rfl (Or.inl rfl) rfl rfl (Nat.le_refl _) (Nat.le_refl _)
  · replace h := (if_neg c1).symm.trans h
    refine g_aload_n (pc := 54) dX12_all_54 rfl ?_
    refine g_gI (pc := 55) dX12_all_55 fI_RX12_259 xc_135 (v := (rd u 135 33)) rfl ?_
    refine g_iload_n (pc := 58) dX12_all_58 rfl ?_
    refine g_icmp_ne (tgt := 66) (pc := 59) dX12_all_59 (by decide) (fun c2 => ?_) (fun c2 => ?_)
    · replace h := (if_neg c2).symm.trans h
      refine g_iconst (pc := 66) dX12_all_66 ic_0 ?_
      obtain ⟨h1, h2⟩ := x_inj2 h
      subst h1
      subst h2
      exact g_zret (pc := 67) dX12_all_67 rfl (Or.inl rfl) rfl rfl (Nat.le_refl _) (Nat.le_refl _)
    · replace h := (if_pos c2).symm.trans h
      refine g_iconst (pc := 62) dX12_all_62 ic_1 ?_
      refine g_goto (tgt := 67) (pc := 63) dX12_all_63 (by decide) ?_
      obtain ⟨h1, h2⟩ := x_inj2 h
      subst h1
      subst h2
      exact g_zret (pc := 67) dX12_all_67 rfl (Or.inr rfl) rfl rfl (Nat.le_refl _) (Nat.le_refl _)
set_option maxRecDepth 100000 in
set_option maxHeartbeats 4000000 in
theorem G_X12_all_6 {sc : Nat × (Nat → Int32)} {d : Nat} (hd : 606 ≤ d) {r : Int32} {u' : xS} : ∀ (n : Nat) (v1 : Int32) (v2 : Int32) (v3 : Int32) (u : xS), f_X12_all_6 n v1 v2 v3 u = some (r, u') → xG sc mX12_all d 0 0 (xR (some (.int r)) (xL0, u') 0 0) 0 0 6 [some (.ref 135), some (.int v1), some (.int v2), some (.int v3)] [] (xL0, u) := by
  intro n
  induction n with
  | zero =>
    intro v1 v2 v3 u h
    rw [f_X12_all_6] at h
    cases h
  | succ n ih =>
    intro v1 v2 v3 u h
    rw [f_X12_all_6] at h
    refine g_iload_n (pc := 6) dX12_all_6 rfl ?_
    refine g_if_eq (tgt := 50) (pc := 7) dX12_all_7 (by decide) (fun c1 => ?_) (fun c1 => ?_)
    · replace h := (if_pos c1).symm.trans h
      refine g_L (L' := [some (.ref 135), some (.int v1), none, some (.int v3)]) ⟨rfl, ⟨rfl, ⟨rfl, trivial⟩⟩⟩ ?_
      exact G_X12_all_50 hd v1 v3 u h
    · replace h := (if_neg c1).symm.trans h
      refine g_iload_n (pc := 10) dX12_all_10 rfl ?_
      refine g_if_eq (tgt := 50) (pc := 11) dX12_all_11 (by decide) (fun c2 => ?_) (fun c2 => ?_)
      · replace h := (if_pos c2).symm.trans h
        refine g_L (L' := [some (.ref 135), some (.int v1), none, some (.int v3)]) ⟨rfl, ⟨rfl, ⟨rfl, trivial⟩⟩⟩ ?_
        exact G_X12_all_50 hd v1 v3 u h
      · replace h := (if_neg c2).symm.trans h
        refine g_aload_n (pc := 14) dX12_all_14 rfl ?_
        refine g_iload_n (pc := 15) dX12_all_15 rfl ?_
        refine g_bipush (pc := 16) dX12_all_16 bp_59 ?_
        obtain ⟨x4, e3, h⟩ := x_bind h
        refine g_cV (pc := 18) dX12_all_18 cV_RX12_282 (M_X12_isSign (Nat.le_refl _) e3) xc_135 (as := [.int v1, .int (59 : Int32)]) (st := []) rfl rfl (Nat.le_of_ble_eq_true rfl) (Nat.le_trans (Nat.le_of_ble_eq_true rfl) hd) rfl ?_
        refine g_if_eq (tgt := 50) (pc := 21) dX12_all_21 (by decide) (fun c5 => ?_) (fun c5 => ?_)
        · replace h := (if_pos c5).symm.trans h
          refine g_L (L' := [some (.ref 135), some (.int v1), none, some (.int v3)]) ⟨rfl, ⟨rfl, ⟨rfl, trivial⟩⟩⟩ ?_
          exact G_X12_all_50 hd v1 v3 u h
        · replace h := (if_neg c5).symm.trans h
          refine g_aload_n (pc := 24) dX12_all_24 rfl ?_
          refine g_dup (pc := 25) dX12_all_25 rfl ?_
          refine g_gI (pc := 26) dX12_all_26 fI_RX12_259 xc_135 (v := (rd u 135 33)) rfl ?_
          refine g_iconst (pc := 29) dX12_all_29 ic_1 ?_
          refine g_iadd (pc := 30) dX12_all_30 rfl ?_
          refine g_pI (pc := 31) dX12_all_31 pI_RX12_259 xc_135 (u' := (wr u 135 33 ((rd u 135 33) + (1 : Int32)))) rfl ?_
          refine g_aload_n (pc := 34) dX12_all_34 rfl ?_
          refine g_sipush (pc := 35) dX12_all_35 sp_m300 ?_
          obtain ⟨u7, e6, h⟩ := x_bind h
          refine g_cV (pc := 38) dX12_all_38 cV_RX12_276 (M_X12_marks (Nat.le_refl _) e6) xc_135 (as := [.int (-300 : Int32)]) (st := []) rfl rfl (Nat.le_of_ble_eq_true rfl) (Nat.le_trans (Nat.le_of_ble_eq_true rfl) hd) rfl ?_
          refine g_aload_n (pc := 41) dX12_all_41 rfl ?_
          refine g_iload_n (pc := 42) dX12_all_42 rfl ?_
          obtain ⟨⟨x9, u10⟩, e8, h⟩ := x_bind h
          dsimp only at h
          refine g_cV (pc := 43) dX12_all_43 cV_RX12_286 (M_r_X12_some (Nat.le_refl _) e8) xc_135 (as := [.int v1]) (st := []) rfl rfl (Nat.le_of_ble_eq_true rfl) (Nat.le_trans (Nat.le_of_ble_eq_true rfl) hd) rfl ?_
          refine g_istore_n (pc := 46) dX12_all_46 (Nat.le_of_ble_eq_true rfl) (L' := [some (.ref 135), some (.int v1), some (.int v2), some (.int x9)]) rfl ?_
          refine g_goto (tgt := 6) (pc := 47) dX12_all_47 (by decide) ?_
          exact ih v1 v2 x9 u10 h
set_option maxRecDepth 100000 in
set_option maxHeartbeats 4000000 in
theorem G_X12_all_0 {sc : Nat × (Nat → Int32)} {d : Nat} (hd : 606 ≤ d) {r : Int32} {u' : xS} (v1 : Int32) (v2 : Int32) (u : xS) (h : f_X12_all v1 v2 u = some (r, u')) : xG sc mX12_all d 0 0 (xR (some (.int r)) (xL0, u') 0 0) 0 0 0 [some (.ref 135), some (.int v1), some (.int v2), none] [] (xL0, u) := by
  rw [f_X12_all] at h
  refine g_aload_n (pc := 0) dX12_all_0 rfl ?_
  refine g_iload_n (pc := 1) dX12_all_1 rfl ?_
  obtain ⟨⟨x2, u3⟩, e1, h⟩ := x_bind h
  dsimp only at h
  refine g_cV (pc := 2) dX12_all_2 cV_RX12_286 (M_r_X12_some (Nat.le_refl _) e1) xc_135 (as := [.int v1]) (st := []) rfl rfl (Nat.le_of_ble_eq_true rfl) (Nat.le_trans (Nat.le_of_ble_eq_true rfl) hd) rfl ?_
  refine g_istore_n (pc := 5) dX12_all_5 (Nat.le_of_ble_eq_true rfl) (L' := [some (.ref 135), some (.int v1), some (.int v2), some (.int x2)]) rfl ?_
  exact G_X12_all_6 hd xN v1 v2 x2 u3 h
set_option maxRecDepth 100000 in
set_option maxHeartbeats 4000000 in
theorem M_X12_all {sc : Nat × (Nat → Int32)} {d : Nat} (hd : 606 ≤ d) {r : Int32} {u u' : xS} {a1 : Int32} {a2 : Int32} (h : f_X12_all a1 a2 u = some (r, u')) : xMt sc mX12_all d 0 0 [.ref 135, .int a1, .int a2] (xL0, u) (some (.int r)) (xL0, u') :=
  xMt.of (by decide +kernel) (by decide +kernel) (Nat.le_of_ble_eq_true rfl) (L := [some (.ref 135), some (.int a1), some (.int a2), none]) rfl ((G_X12_all_0 hd a1 a2 u h))
set_option maxRecDepth 100000 in
set_option maxHeartbeats 4000000 in
theorem G_X12_areAll_90 {sc : Nat × (Nat → Int32)} {d : Nat} (hd : 0 ≤ d) {r : Int32} {u : xS} {k4 : Int32 → Int32 → Int32 → Option Int32} (hk4 : ∀ (v1 : Int32) (v2 : Int32) (v3 : Int32), k4 v1 v2 v3 = some r → xG sc mX12_areAll d 0 0 (xR (some (.int r)) (xL0, u) 0 0) 0 0 4 [some (.ref 135), some (.int v1), some (.int v2), some (.int v3), none, none] [] (xL0, u)) (v1 : Int32) (v3 : Int32) (s0 : Int32) (h : f_X12_areAll_90 k4 u v1 v3 s0 = some r) : xG sc mX12_areAll d 0 0 (xR (some (.int r)) (xL0, u) 0 0) 0 0 90 [some (.ref 135), some (.int v1), none, some (.int v3), none, none] [.int s0] (xL0, u) := by
  rw [f_X12_areAll_90] at h
  refine g_istore_n (pc := 90) dX12_areAll_90 (Nat.le_of_ble_eq_true rfl) (L' := [some (.ref 135), some (.int v1), some (.int s0), some (.int v3), none, none]) rfl ?_
  refine g_inc (pc := 91) dX12_areAll_91 (Nat.le_of_ble_eq_true rfl) rfl ic_1 (L' := [some (.ref 135), some (.int v1), some (.int s0), some (.int (v3 + (1 : Int32))), none, none]) rfl ?_
  refine g_goto (tgt := 4) (pc := 94) dX12_areAll_94 (by decide) ?_
  exact hk4 v1 s0 (v3 + (1 : Int32)) h
set_option maxRecDepth 100000 in
set_option maxHeartbeats 4000000 in
theorem G_X12_areAll_89 {sc : Nat × (Nat → Int32)} {d : Nat} (hd : 0 ≤ d) {r : Int32} {u : xS} {k4 : Int32 → Int32 → Int32 → Option Int32} (hk4 : ∀ (v1 : Int32) (v2 : Int32) (v3 : Int32), k4 v1 v2 v3 = some r → xG sc mX12_areAll d 0 0 (xR (some (.int r)) (xL0, u) 0 0) 0 0 4 [some (.ref 135), some (.int v1), some (.int v2), some (.int v3), none, none] [] (xL0, u)) (v1 : Int32) (v3 : Int32) (h : f_X12_areAll_89 k4 u v1 v3 = some r) : xG sc mX12_areAll d 0 0 (xR (some (.int r)) (xL0, u) 0 0) 0 0 89 [some (.ref 135), some (.int v1), none, some (.int v3), none, none] [] (xL0, u) := by
  rw [f_X12_areAll_89] at h
  refine g_iconst (pc := 89) dX12_areAll_89 ic_0 ?_
  exact G_X12_areAll_90 hd hk4 v1 v3 (0 : Int32) h
set_option maxRecDepth 100000 in
set_option maxHeartbeats 4000000 in
theorem G_X12_areAll_68 {sc : Nat × (Nat → Int32)} {d : Nat} (hd : 0 ≤ d) {r : Int32} {u : xS} {k32 : Int32 → Int32 → Int32 → Int32 → Int32 → Option Int32} (hk32 : ∀ (v1 : Int32) (v2 : Int32) (v3 : Int32) (v4 : Int32) (v5 : Int32), k32 v1 v2 v3 v4 v5 = some r → xG sc mX12_areAll d 0 0 (xR (some (.int r)) (xL0, u) 0 0) 0 0 32 [some (.ref 135), some (.int v1), some (.int v2), some (.int v3), some (.int v4), some (.int v5)] [] (xL0, u)) {k4 : Int32 → Int32 → Int32 → Option Int32} (hk4 : ∀ (v1 : Int32) (v2 : Int32) (v3 : Int32), k4 v1 v2 v3 = some r → xG sc mX12_areAll d 0 0 (xR (some (.int r)) (xL0, u) 0 0) 0 0 4 [some (.ref 135), some (.int v1), some (.int v2), some (.int v3), none, none] [] (xL0, u)) (v1 : Int32) (v2 : Int32) (v3 : Int32) (v5 : Int32) (s0 : Int32) (h : f_X12_areAll_68 k32 k4 u v1 v2 v3 v5 s0 = some r) : xG sc mX12_areAll d 0 0 (xR (some (.int r)) (xL0, u) 0 0) 0 0 68 [some (.ref 135), some (.int v1), some (.int v2), some (.int v3), none, some (.int v5)] [.int s0] (xL0, u) := by
  rw [f_X12_areAll_68] at h
  refine g_istore (pc := 68) dX12_areAll_68 (Nat.le_of_ble_eq_true rfl) (L' := [some (.ref 135), some (.int v1), some (.int v2), some (.int v3), some (.int s0), some (.int v5)]) rfl ?_
  refine g_inc (pc := 70) dX12_areAll_70 (Nat.le_of_ble_eq_true rfl) rfl ic_1 (L' := [some (.ref 135), some (.int v1), some (.int v2), some (.int v3), some (.int s0), some (.int (v5 + (1 : Int32)))]) rfl ?_
  refine g_goto (tgt := 32) (pc := 73) dX12_areAll_73 (by decide) ?_
  exact hk32 v1 v2 v3 s0 (v5 + (1 : Int32)) h
set_option maxRecDepth 100000 in
set_option maxHeartbeats 4000000 in
theorem G_X12_areAll_63 {sc : Nat × (Nat → Int32)} {d : Nat} (hd : 0 ≤ d) {r : Int32} {u : xS} {k32 : Int32 → Int32 → Int32 → Int32 → Int32 → Option Int32} (hk32 : ∀ (v1 : Int32) (v2 : Int32) (v3 : Int32) (v4 : Int32) (v5 : Int32), k32 v1 v2 v3 v4 v5 = some r → xG sc mX12_areAll d 0 0 (xR (some (.int r)) (xL0, u) 0 0) 0 0 32 [some (.ref 135), some (.int v1), some (.int v2), some (.int v3), some (.int v4), some (.int v5)] [] (xL0, u)) {k4 : Int32 → Int32 → Int32 → Option Int32} (hk4 : ∀ (v1 : Int32) (v2 : Int32) (v3 : Int32), k4 v1 v2 v3 = some r → xG sc mX12_areAll d 0 0 (xR (some (.int r)) (xL0, u) 0 0) 0 0 4 [some (.ref 135), some (.int v1), some (.int v2), some (.int v3), none, none] [] (xL0, u)) (v1 : Int32) (v2 : Int32) (v3 : Int32) (v5 : Int32) (h : f_X12_areAll_63 k32 k4 u v1 v2 v3 v5 = some r) : xG sc mX12_areAll d 0 0 (xR (some (.int r)) (xL0, u) 0 0) 0 0 63 [some (.ref 135), some (.int v1), some (.int v2), some (.int v3), none, some (.int v5)] [] (xL0, u) := by
  rw [f_X12_areAll_63] at h
  refine g_iconst (pc := 63) dX12_areAll_63 ic_1 ?_
  refine g_goto (tgt := 68) (pc := 64) dX12_areAll_64 (by decide) ?_
  exact G_X12_areAll_68 hd hk32 hk4 v1 v2 v3 v5 (1 : Int32) h
set_option maxRecDepth 100000 in
set_option maxHeartbeats 4000000 in
theorem G_X12_areAll_32 {sc : Nat × (Nat → Int32)} {d : Nat} (hd : 0 ≤ d) {r : Int32} {u : xS} {k4 : Int32 → Int32 → Int32 → Option Int32} (hk4 : ∀ (v1 : Int32) (v2 : Int32) (v3 : Int32), k4 v1 v2 v3 = some r → xG sc mX12_areAll d 0 0 (xR (some (.int r)) (xL0, u) 0 0) 0 0 4 [some (.ref 135), some (.int v1), some (.int v2), some (.int v3), none, none] [] (xL0, u)) : ∀ (n : Nat) (v1 : Int32) (v2 : Int32) (v3 : Int32) (v4 : Int32) (v5 : Int32), f_X12_areAll_32 k4 u n v1 v2 v3 v4 v5 = some r → xG sc mX12_areAll d 0 0 (xR (some (.int r)) (xL0, u) 0 0) 0 0 32 [some (.ref 135), some (.int v1), some (.int v2), some (.int v3), some (.int v4), some (.int v5)] [] (xL0, u) := by
  intro n
  induction n with
  | zero =>
    intro v1 v2 v3 v4 v5 h
    rw [f_X12_areAll_32] at h
    cases h
  | succ n ih =>
    intro v1 v2 v3 v4 v5 h
    rw [f_X12_areAll_32] at h
    refine g_iload (pc := 32) dX12_areAll_32 rfl ?_
    refine g_iload_n (pc := 34) dX12_areAll_34 rfl ?_
    refine g_icmp_ge (tgt := 76) (pc := 35) dX12_areAll_35 (by decide) (fun c1 => ?_) (fun c1 => ?_)
    · replace h := (if_pos c1).symm.trans h
      refine g_iload_n (pc := 76) dX12_areAll_76 rfl ?_
      refine g_if_eq (tgt := 89) (pc := 77) dX12_areAll_77 (by decide) (fun c2 => ?_) (fun c2 => ?_)
      · replace h := (if_pos c2).symm.trans h
        refine g_L (L' := [some (.ref 135), some (.int v1), none, some (.int v3), none, none]) ⟨rfl, ⟨rfl, ⟨rfl, trivial⟩⟩⟩ ?_
        exact G_X12_areAll_89 hd hk4 v1 v3 h
      · replace h := (if_neg c2).symm.trans h
        refine g_iload (pc := 80) dX12_areAll_80 rfl ?_
        refine g_if_eq (tgt := 89) (pc := 82) dX12_areAll_82 (by decide) (fun c3 => ?_) (fun c3 => ?_)
        · replace h := (if_pos c3).symm.trans h
          refine g_L (L' := [some (.ref 135), some (.int v1), none, some (.int v3), none, none]) ⟨rfl, ⟨rfl, ⟨rfl, trivial⟩⟩⟩ ?_
          exact G_X12_areAll_89 hd hk4 v1 v3 h
        · replace h := (if_neg c3).symm.trans h
          refine g_iconst (pc := 85) dX12_areAll_85 ic_1 ?_
          refine g_goto (tgt := 90) (pc := 86) dX12_areAll_86 (by decide) ?_
          refine g_L (L' := [some (.ref 135), some (.int v1), none, some (.int v3), none, none]) ⟨rfl, ⟨rfl, ⟨rfl, trivial⟩⟩⟩ ?_
          exact G_X12_areAll_90 hd hk4 v1 v3 (1 : Int32) h
    · replace h := (if_neg c1).symm.trans h
      refine g_iload (pc := 38) dX12_areAll_38 rfl ?_
      refine g_if_ne (tgt := 63) (pc := 40) dX12_areAll_40 (by decide) (fun c4 => ?_) (fun c4 => ?_)
      · replace h := (if_neg c4).symm.trans h
        refine g_L (L' := [some (.ref 135), some (.int v1), some (.int v2), some (.int v3), none, some (.int v5)]) ⟨rfl, ⟨rfl, ⟨rfl, ⟨rfl, ⟨rfl, trivial⟩⟩⟩⟩⟩ ?_
        exact G_X12_areAll_63 hd ih hk4 v1 v2 v3 v5 h
      · replace h := (if_pos c4).symm.trans h
        refine g_aload_n (pc := 43) dX12_areAll_43 rfl ?_
        refine g_gR (pc := 44) dX12_areAll_44 fR_RX12_90 xc_135 (v := 161) rfl ?_
        refine g_bipush (pc := 47) dX12_areAll_47 bp_24 ?_
        refine g_iload_n (pc := 49) dX12_areAll_49 rfl ?_
        refine g_imul (pc := 50) dX12_areAll_50 rfl ?_
        refine g_aload_n (pc := 51) dX12_areAll_51 rfl ?_
        refine g_gR (pc := 52) dX12_areAll_52 fR_RX12_105 xc_135 (v := 166) rfl ?_
        refine g_iload (pc := 55) dX12_areAll_55 rfl ?_
        obtain ⟨g5, h⟩ := x_gd h
        refine g_iaload (pc := 57) dX12_areAll_57 xc_166 (xin_of g5) (v := (rd u 166 v5.toNatClampNeg)) rfl ?_
        refine g_iadd (pc := 58) dX12_areAll_58 rfl ?_
        obtain ⟨g6, h⟩ := x_gd h
        refine g_iaload (pc := 59) dX12_areAll_59 xc_161 (xin_of g6) (v := (rd u 161 (((24 : Int32) * v3) + (rd u 166 v5.toNatClampNeg)).toNatClampNeg)) rfl ?_
        refine g_if_le (tgt := 67) (pc := 60) dX12_areAll_60 (by decide) (fun c7 => ?_) (fun c7 => ?_)
        · replace h := (if_pos c7).symm.trans h
          refine g_iconst (pc := 67) dX12_areAll_67 ic_0 ?_
          refine g_L (L' := [some (.ref 135), some (.int v1), some (.int v2), some (.int v3), none, some (.int v5)]) ⟨rfl, ⟨rfl, ⟨rfl, ⟨rfl, ⟨rfl, trivial⟩⟩⟩⟩⟩ ?_
          exact G_X12_areAll_68 hd ih hk4 v1 v2 v3 v5 (0 : Int32) h
        · replace h := (if_neg c7).symm.trans h
          refine g_L (L' := [some (.ref 135), some (.int v1), some (.int v2), some (.int v3), none, some (.int v5)]) ⟨rfl, ⟨rfl, ⟨rfl, ⟨rfl, ⟨rfl, trivial⟩⟩⟩⟩⟩ ?_
          exact G_X12_areAll_63 hd ih hk4 v1 v2 v3 v5 h
set_option maxRecDepth 100000 in
set_option maxHeartbeats 4000000 in
theorem G_X12_areAll_27 {sc : Nat × (Nat → Int32)} {d : Nat} (hd : 0 ≤ d) {r : Int32} {u : xS} {k4 : Int32 → Int32 → Int32 → Option Int32} (hk4 : ∀ (v1 : Int32) (v2 : Int32) (v3 : Int32), k4 v1 v2 v3 = some r → xG sc mX12_areAll d 0 0 (xR (some (.int r)) (xL0, u) 0 0) 0 0 4 [some (.ref 135), some (.int v1), some (.int v2), some (.int v3), none, none] [] (xL0, u)) (v1 : Int32) (v2 : Int32) (v3 : Int32) (s0 : Int32) (h : f_X12_areAll_27 k4 u v1 v2 v3 s0 = some r) : xG sc mX12_areAll d 0 0 (xR (some (.int r)) (xL0, u) 0 0) 0 0 27 [some (.ref 135), some (.int v1), some (.int v2), some (.int v3), none, none] [.int s0] (xL0, u) := by
  rw [f_X12_areAll_27] at h
  refine g_istore (pc := 27) dX12_areAll_27 (Nat.le_of_ble_eq_true rfl) (L' := [some (.ref 135), some (.int v1), some (.int v2), some (.int v3), some (.int s0), none]) rfl ?_
  refine g_iconst (pc := 29) dX12_areAll_29 ic_0 ?_
  refine g_istore (pc := 30) dX12_areAll_30 (Nat.le_of_ble_eq_true rfl) (L' := [some (.ref 135), some (.int v1), some (.int v2), some (.int v3), some (.int s0), some (.int (0 : Int32))]) rfl ?_
  exact G_X12_areAll_32 hd hk4 xN v1 v2 v3 s0 (0 : Int32) h
set_option maxRecDepth 100000 in
set_option maxHeartbeats 4000000 in
theorem G_X12_areAll_4 {sc : Nat × (Nat → Int32)} {d : Nat} (hd : 0 ≤ d) {r : Int32} {u : xS} : ∀ (n : Nat) (v1 : Int32) (v2 : Int32) (v3 : Int32), f_X12_areAll_4 u n v1 v2 v3 = some r → xG sc mX12_areAll d 0 0 (xR (some (.int r)) (xL0, u) 0 0) 0 0 4 [some (.ref 135), some (.int v1), some (.int v2), some (.int v3), none, none] [] (xL0, u) := by
  intro n
  induction n with
  | zero =>
    intro v1 v2 v3 h
    rw [f_X12_areAll_4] at h
    cases h
  | succ n ih =>
    intro v1 v2 v3 h
    rw [f_X12_areAll_4] at h
    refine g_iload_n (pc := 4) dX12_areAll_4 rfl ?_
    refine g_aload_n (pc := 5) dX12_areAll_5 rfl ?_
    refine g_gI (pc := 6) dX12_areAll_6 fI_RX12_223 xc_135 (v := (rd u 135 37)) rfl ?_
    refine g_icmp_ge (tgt := 97) (pc := 9) dX12_areAll_9 (by decide) (fun c1 => ?_) (fun c1 => ?_)
    · replace h := (if_pos c1).symm.trans h
      refine g_iload_n (pc := 97) dX12_areAll_97 rfl ?_
      obtain ⟨g2, h⟩ := x_gd h
      replace h := Option.some.inj h
      subst h
      exact g_zret (pc := 98) dX12_areAll_98 rfl (xb_of g2) rfl rfl (Nat.le_refl _) (Nat.le_refl _)
    · replace h := (if_neg c1).symm.trans h
      refine g_aload_n (pc := 12) dX12_areAll_12 rfl ?_
      refine g_gR (pc := 13) dX12_areAll_13 fR_RX12_93 xc_135 (v := 162) rfl ?_
      refine g_iload_n (pc := 16) dX12_areAll_16 rfl ?_
      obtain ⟨g3, h⟩ := x_gd h
      refine g_iaload (pc := 17) dX12_areAll_17 xc_162 (xin_of g3) (v := (rd u 162 v3.toNatClampNeg)) rfl ?_
      refine g_iconst (pc := 18) dX12_areAll_18 ic_1 ?_
      refine g_icmp_eq (tgt := 26) (pc := 19) dX12_areAll_19 (by decide) (fun c4 => ?_) (fun c4 => ?_)
      · replace h := (if_pos c4).symm.trans h
        refine g_iconst (pc := 26) dX12_areAll_26 ic_0 ?_
        exact G_X12_areAll_27 hd ih v1 v2 v3 (0 : Int32) h
      · replace h := (if_neg c4).symm.trans h
        refine g_iconst (pc := 22) dX12_areAll_22 ic_1 ?_
        refine g_goto (tgt := 27) (pc := 23) dX12_areAll_23 (by decide) ?_
        exact G_X12_areAll_27 hd ih v1 v2 v3 (1 : Int32) h
set_option maxRecDepth 100000 in
set_option maxHeartbeats 4000000 in
theorem G_X12_areAll_0 {sc : Nat × (Nat → Int32)} {d : Nat} (hd : 0 ≤ d) {r : Int32} {u : xS} (v1 : Int32) (h : f_X12_areAll u v1 = some r) : xG sc mX12_areAll d 0 0 (xR (some (.int r)) (xL0, u) 0 0) 0 0 0 [some (.ref 135), some (.int v1), none, none, none, none] [] (xL0, u) := by
  rw [f_X12_areAll] at h
  refine g_iconst (pc := 0) dX12_areAll_0 ic_1 ?_
  refine g_istore_n (pc := 1) dX12_areAll_1 (Nat.le_of_ble_eq_true rfl) (L' := [some (.ref 135), some (.int v1), some (.int (1 : Int32)), none, none, none]) rfl ?_
  refine g_iconst (pc := 2) dX12_areAll_2 ic_0 ?_
  refine g_istore_n (pc := 3) dX12_areAll_3 (Nat.le_of_ble_eq_true rfl) (L' := [some (.ref 135), some (.int v1), some (.int (1 : Int32)), some (.int (0 : Int32)), none, none]) rfl ?_
  exact G_X12_areAll_4 hd xN v1 (1 : Int32) (0 : Int32) h
set_option maxRecDepth 100000 in
set_option maxHeartbeats 4000000 in
theorem M_X12_areAll {sc : Nat × (Nat → Int32)} {d : Nat} (hd : 0 ≤ d) {r : Int32} {u : xS} {a1 : Int32} (h : f_X12_areAll u a1 = some r) : xMt sc mX12_areAll d 0 0 [.ref 135, .int a1] (xL0, u) (some (.int r)) (xL0, u) :=
  xMt.of (by decide +kernel) (by decide +kernel) (Nat.le_of_ble_eq_true rfl) (L := [some (.ref 135), some (.int a1), none, none, none, none]) rfl ((G_X12_areAll_0 hd a1 h))
theorem zb_X12_in (v0 : Int64) (v2 : Int64) (v4 : Int64) : f_X12_in v0 v2 v4 = 0 ∨ f_X12_in v0 v2 v4 = 1 := by
  unfold f_X12_in
  repeat' first | exact Or.inl rfl | exact Or.inr rfl | apply x_ite
set_option maxRecDepth 100000 in
set_option maxHeartbeats 4000000 in
theorem G_X12_in_0 {sc : Nat × (Nat → Int32)} {d : Nat} (hd : 0 ≤ d) {r : Int32} {u : xS} (v0 : Int64) (v2 : Int64) (v4 : Int64) (h : f_X12_in v0 v2 v4 = r) : xG sc mX12_in d 0 0 (xR (some (.int r)) (xL0, u) 0 0) 0 0 0 [some (.long v0), none, some (.long v2), none, some (.long v4), none] [] (xL0, u) := by
  rw [f_X12_in] at h
  refine g_lload_n (pc := 0) dX12_in_0 rfl ?_
  refine g_lload_n (pc := 1) dX12_in_1 rfl ?_
  refine g_lcmp (pc := 2) dX12_in_2 rfl ?_
  refine g_if_lt (tgt := 17) (pc := 3) dX12_in_3 (by decide) (fun c1 => ?_) (fun c1 => ?_)
  · replace h := (if_pos c1).symm.trans h
    refine g_iconst (pc := 17) dX12_in_17 ic_0 ?_
    subst h
    exact g_zret (pc := 18) dX12_in_18 rfl (Or.inl rfl) rfl rfl (Nat.le_refl _) (Nat.le_refl _)
  · replace h := (if_neg c1).symm.trans h
    refine g_lload_n (pc := 6) dX12_in_6 rfl ?_
    refine g_lload (pc := 7) dX12_in_7 rfl ?_
    refine g_lcmp (pc := 9) dX12_in_9 rfl ?_
    refine g_if_gt (tgt := 17) (pc := 10) dX12_in_10 (by decide) (fun c2 => ?_) (fun c2 => ?_)
    · replace h := (if_pos c2).symm.trans h
      refine g_iconst (pc := 17) dX12_in_17 ic_0 ?_
      subst h
      exact g_zret (pc := 18) dX12_in_18 rfl (Or.inl rfl) rfl rfl (Nat.le_refl _) (Nat.le_refl _)
    · replace h := (if_neg c2).symm.trans h
      refine g_iconst (pc := 13) dX12_in_13 ic_1 ?_
      refine g_goto (tgt := 18) (pc := 14) dX12_in_14 (by decide) ?_
      subst h
      exact g_zret (pc := 18) dX12_in_18 rfl (Or.inr rfl) rfl rfl (Nat.le_refl _) (Nat.le_refl _)
set_option maxRecDepth 100000 in
set_option maxHeartbeats 4000000 in
theorem M_X12_in {sc : Nat × (Nat → Int32)} {d : Nat} (hd : 0 ≤ d) {r : Int32} {u : xS} {a0 : Int64} {a2 : Int64} {a4 : Int64} (h : f_X12_in a0 a2 a4 = r) : xMt sc mX12_in d 0 0 [.long a0, .long a2, .long a4] (xL0, u) (some (.int r)) (xL0, u) :=
  xMt.of (by decide +kernel) (by decide +kernel) (Nat.le_of_ble_eq_true rfl) (L := [some (.long a0), none, some (.long a2), none, some (.long a4), none]) rfl ((G_X12_in_0 hd a0 a2 a4 h))
theorem zb_X12_isDay (v0 : Int32) : f_X12_isDay v0 = 0 ∨ f_X12_isDay v0 = 1 := by
  unfold f_X12_isDay
  repeat' first | exact Or.inl rfl | exact Or.inr rfl | exact zb_X12_in _ _ _ | apply x_ite
set_option maxRecDepth 100000 in
set_option maxHeartbeats 4000000 in
theorem G_X12_isDay_0 {sc : Nat × (Nat → Int32)} {d : Nat} (hd : 1 ≤ d) {r : Int32} {u : xS} (v0 : Int32) (h : f_X12_isDay v0 = r) : xG sc mX12_isDay d 0 0 (xR (some (.int r)) (xL0, u) 0 0) 0 0 0 [some (.int v0)] [] (xL0, u) := by
  rw [f_X12_isDay] at h
  refine g_iload_n (pc := 0) dX12_isDay_0 rfl ?_
  refine g_i2l (pc := 1) dX12_isDay_1 rfl ?_
  refine g_lconst (v := (0 : Int64)) (pc := 2) dX12_isDay_2 rfl ?_
  refine g_ldc2 (pc := 3) dX12_isDay_3 kl_RX12_160 ?_
  refine g_cS (pc := 6) dX12_isDay_6 cS_RX12_156 (M_X12_in (Nat.le_refl _) rfl) (as := [.long ((v0).toInt64), .long (0 : Int64), .long (99 : Int64)]) (st := []) rfl rfl (Nat.le_of_ble_eq_true rfl) (Nat.le_trans (Nat.le_of_ble_eq_true rfl) hd) rfl ?_
  subst h
  exact g_zret (pc := 9) dX12_isDay_9 rfl (zb_X12_in _ _ _) rfl rfl (Nat.le_refl _) (Nat.le_refl _)
set_option maxRecDepth 100000 in
set_option maxHeartbeats 4000000 in
theorem M_X12_isDay {sc : Nat × (Nat → Int32)} {d : Nat} (hd : 1 ≤ d) {r : Int32} {u : xS} {a0 : Int32} (h : f_X12_isDay a0 = r) : xMt sc mX12_isDay d 0 0 [.int a0] (xL0, u) (some (.int r)) (xL0, u) :=
  xMt.of (by decide +kernel) (by decide +kernel) (Nat.le_of_ble_eq_true rfl) (L := [some (.int a0)]) rfl ((G_X12_isDay_0 hd a0 h))
set_option maxRecDepth 100000 in
set_option maxHeartbeats 4000000 in
theorem G_X12_as_0 {sc : Nat × (Nat → Int32)} {d : Nat} (hd : 2 ≤ d) {r : Int32} {u' : xS} (v1 : Int32) (u : xS) (h : f_X12_as v1 u = some (r, u')) : xG sc mX12_as d 0 0 (xR (some (.int r)) (xL0, u') 0 0) 0 0 0 [some (.ref 135), some (.int v1), none] [] (xL0, u) := by
  rw [f_X12_as] at h
  refine g_aload_n (pc := 0) dX12_as_0 rfl ?_
  refine g_iconst (pc := 1) dX12_as_1 ic_0 ?_
  refine g_pI (pc := 2) dX12_as_2 pI_RX12_150 xc_135 (u' := (wr u 135 0 (0 : Int32))) rfl ?_
  refine g_iload_n (pc := 5) dX12_as_5 rfl ?_
  refine g_cS (pc := 6) dX12_as_6 cS_RX12_226 (M_X12_isDay (Nat.le_refl _) rfl) (as := [.int v1]) (st := []) rfl rfl (Nat.le_of_ble_eq_true rfl) (Nat.le_trans (Nat.le_of_ble_eq_true rfl) hd) rfl ?_
  refine g_if_ne (tgt := 14) (pc := 9) dX12_as_9 (by decide) (fun c1 => ?_) (fun c1 => ?_)
  · replace h := (if_neg c1).symm.trans h
    refine g_aload_n (pc := 14) dX12_as_14 rfl ?_
    refine g_gI (pc := 15) dX12_as_15 fI_RX12_64 xc_135 (v := (rd u 135 24)) rfl ?_
    refine g_istore_n (pc := 18) dX12_as_18 (Nat.le_of_ble_eq_true rfl) (L' := [some (.ref 135), some (.int v1), some (.int (rd u 135 24))]) rfl ?_
    refine g_aload_n (pc := 19) dX12_as_19 rfl ?_
    refine g_iload_n (pc := 20) dX12_as_20 rfl ?_
    refine g_pI (pc := 21) dX12_as_21 pI_RX12_64 xc_135 (u' := (wr (wr u 135 0 (0 : Int32)) 135 24 v1)) rfl ?_
    refine g_iload_n (pc := 24) dX12_as_24 rfl ?_
    obtain ⟨h1, h2⟩ := x_inj2 h
    subst h1
    subst h2
    exact g_iret (pc := 25) dX12_as_25 rfl rfl rfl (Nat.le_refl _) (Nat.le_refl _)
  · replace h := (if_pos c1).symm.trans h
    refine g_iconst (pc := 12) dX12_as_12 ic_m1 ?_
    obtain ⟨h1, h2⟩ := x_inj2 h
    subst h1
    subst h2
    exact g_iret (pc := 13) dX12_as_13 rfl rfl rfl (Nat.le_refl _) (Nat.le_refl _)
set_option maxRecDepth 100000 in
set_option maxHeartbeats 4000000 in
theorem M_X12_as {sc : Nat × (Nat → Int32)} {d : Nat} (hd : 2 ≤ d) {r : Int32} {u u' : xS} {a1 : Int32} (h : f_X12_as a1 u = some (r, u')) : xMt sc mX12_as d 0 0 [.ref 135, .int a1] (xL0, u) (some (.int r)) (xL0, u') :=
  xMt.of (by decide +kernel) (by decide +kernel) (Nat.le_of_ble_eq_true rfl) (L := [some (.ref 135), some (.int a1), none]) rfl ((G_X12_as_0 hd a1 u h))
theorem zb_X12_isSort (u : xS) (v1 : Int32) : f_X12_isSort u v1 = 0 ∨ f_X12_isSort u v1 = 1 := by
  unfold f_X12_isSort
  repeat' first | exact Or.inl rfl | exact Or.inr rfl | exact zb_X12_in _ _ _ | apply x_ite
set_option maxRecDepth 100000 in
set_option maxHeartbeats 4000000 in
theorem G_X12_isSort_0 {sc : Nat × (Nat → Int32)} {d : Nat} (hd : 1 ≤ d) {r : Int32} {u : xS} (v1 : Int32) (h : f_X12_isSort u v1 = r) : xG sc mX12_isSort d 0 0 (xR (some (.int r)) (xL0, u) 0 0) 0 0 0 [some (.ref 135), some (.int v1)] [] (xL0, u) := by
  rw [f_X12_isSort] at h
  refine g_iload_n (pc := 0) dX12_isSort_0 rfl ?_
  refine g_i2l (pc := 1) dX12_isSort_1 rfl ?_
  refine g_lconst (v := (0 : Int64)) (pc := 2) dX12_isSort_2 rfl ?_
  refine g_aload_n (pc := 3) dX12_isSort_3 rfl ?_
  refine g_gI (pc := 4) dX12_isSort_4 fI_RX12_153 xc_135 (v := (rd u 135 1)) rfl ?_
  refine g_iconst (pc := 7) dX12_isSort_7 ic_1 ?_
  refine g_isub (pc := 8) dX12_isSort_8 rfl ?_
  refine g_i2l (pc := 9) dX12_isSort_9 rfl ?_
  refine g_cS (pc := 10) dX12_isSort_10 cS_RX12_156 (M_X12_in (Nat.le_refl _) rfl) (as := [.long ((v1).toInt64), .long (0 : Int64), .long (((rd u 135 1) - (1 : Int32)).toInt64)]) (st := []) rfl rfl (Nat.le_of_ble_eq_true rfl) (Nat.le_trans (Nat.le_of_ble_eq_true rfl) hd) rfl ?_
  subst h
  exact g_zret (pc := 13) dX12_isSort_13 rfl (zb_X12_in _ _ _) rfl rfl (Nat.le_refl _) (Nat.le_refl _)
set_option maxRecDepth 100000 in
set_option maxHeartbeats 4000000 in
theorem M_X12_isSort {sc : Nat × (Nat → Int32)} {d : Nat} (hd : 1 ≤ d) {r : Int32} {u : xS} {a1 : Int32} (h : f_X12_isSort u a1 = r) : xMt sc mX12_isSort d 0 0 [.ref 135, .int a1] (xL0, u) (some (.int r)) (xL0, u) :=
  xMt.of (by decide +kernel) (by decide +kernel) (Nat.le_of_ble_eq_true rfl) (L := [some (.ref 135), some (.int a1)]) rfl ((G_X12_isSort_0 hd a1 h))
theorem zb_X12_isWeek (v0 : Int32) : f_X12_isWeek v0 = 0 ∨ f_X12_isWeek v0 = 1 := by
  unfold f_X12_isWeek
  repeat' first | exact Or.inl rfl | exact Or.inr rfl | exact zb_X12_in _ _ _ | apply x_ite
set_option maxRecDepth 100000 in
set_option maxHeartbeats 4000000 in
theorem G_X12_isWeek_0 {sc : Nat × (Nat → Int32)} {d : Nat} (hd : 1 ≤ d) {r : Int32} {u : xS} (v0 : Int32) (h : f_X12_isWeek v0 = r) : xG sc mX12_isWeek d 0 0 (xR (some (.int r)) (xL0, u) 0 0) 0 0 0 [some (.int v0)] [] (xL0, u) := by
  rw [f_X12_isWeek] at h
  refine g_iload_n (pc := 0) dX12_isWeek_0 rfl ?_
  refine g_i2l (pc := 1) dX12_isWeek_1 rfl ?_
  refine g_lconst (v := (0 : Int64)) (pc := 2) dX12_isWeek_2 rfl ?_
  refine g_ldc2 (pc := 3) dX12_isWeek_3 kl_RX12_160 ?_
  refine g_cS (pc := 6) dX12_isWeek_6 cS_RX12_156 (M_X12_in (Nat.le_refl _) rfl) (as := [.long ((v0).toInt64), .long (0 : Int64), .long (99 : Int64)]) (st := []) rfl rfl (Nat.le_of_ble_eq_true rfl) (Nat.le_trans (Nat.le_of_ble_eq_true rfl) hd) rfl ?_
  subst h
  exact g_zret (pc := 9) dX12_isWeek_9 rfl (zb_X12_in _ _ _) rfl rfl (Nat.le_refl _) (Nat.le_refl _)
set_option maxRecDepth 100000 in
set_option maxHeartbeats 4000000 in
theorem M_X12_isWeek {sc : Nat × (Nat → Int32)} {d : Nat} (hd : 1 ≤ d) {r : Int32} {u : xS} {a0 : Int32} (h : f_X12_isWeek a0 = r) : xMt sc mX12_isWeek d 0 0 [.int a0] (xL0, u) (some (.int r)) (xL0, u) :=
  xMt.of (by decide +kernel) (by decide +kernel) (Nat.le_of_ble_eq_true rfl) (L := [some (.int a0)]) rfl ((G_X12_isWeek_0 hd a0 h))
set_option maxRecDepth 100000 in
set_option maxHeartbeats 4000000 in
theorem G_X12_priceOf_59 {sc : Nat × (Nat → Int32)} {d : Nat} (hd : 0 ≤ d) {r : Int32} {u : xS} {k5 : Int32 → Int32 → Int32 → Int32 → Option Int32} (hk5 : ∀ (v1 : Int32) (v2 : Int32) (v3 : Int32) (v4 : Int32), k5 v1 v2 v3 v4 = some r → xG sc mX12_priceOf d 0 0 (xR (some (.int r)) (xL0, u) 0 0) 0 0 5 [some (.ref 135), some (.int v1), some (.int v2), some (.int v3), some (.int v4)] [] (xL0, u)) (v1 : Int32) (v2 : Int32) (v3 : Int32) (v4 : Int32) (h : f_X12_priceOf_59 k5 u v1 v2 v3 v4 = some r) : xG sc mX12_priceOf d 0 0 (xR (some (.int r)) (xL0, u) 0 0) 0 0 59 [some (.ref 135), some (.int v1), some (.int v2), some (.int v3), some (.int v4)] [] (xL0, u) := by
  rw [f_X12_priceOf_59] at h
  refine g_inc (pc := 59) dX12_priceOf_59 (Nat.le_of_ble_eq_true rfl) rfl ic_1 (L' := [some (.ref 135), some (.int v1), some (.int v2), some (.int v3), some (.int (v4 + (1 : Int32)))]) rfl ?_
  refine g_goto (tgt := 5) (pc := 62) dX12_priceOf_62 (by decide) ?_
  exact hk5 v1 v2 v3 (v4 + (1 : Int32)) h
set_option maxRecDepth 100000 in
set_option maxHeartbeats 4000000 in
theorem G_X12_priceOf_56 {sc : Nat × (Nat → Int32)} {d : Nat} (hd : 0 ≤ d) {r : Int32} {u : xS} {k5 : Int32 → Int32 → Int32 → Int32 → Option Int32} (hk5 : ∀ (v1 : Int32) (v2 : Int32) (v3 : Int32) (v4 : Int32), k5 v1 v2 v3 v4 = some r → xG sc mX12_priceOf d 0 0 (xR (some (.int r)) (xL0, u) 0 0) 0 0 5 [some (.ref 135), some (.int v1), some (.int v2), some (.int v3), some (.int v4)] [] (xL0, u)) (v1 : Int32) (v2 : Int32) (v4 : Int32) (h : f_X12_priceOf_56 k5 u v1 v2 v4 = some r) : xG sc mX12_priceOf d 0 0 (xR (some (.int r)) (xL0, u) 0 0) 0 0 56 [some (.ref 135), some (.int v1), some (.int v2), none, some (.int v4)] [] (xL0, u) := by
  rw [f_X12_priceOf_56] at h
  refine g_iload (pc := 56) dX12_priceOf_56 rfl ?_
  refine g_istore_n (pc := 58) dX12_priceOf_58 (Nat.le_of_ble_eq_true rfl) (L' := [some (.ref 135), some (.int v1), some (.int v2), some (.int v4), some (.int v4)]) rfl ?_
  exact G_X12_priceOf_59 hd hk5 v1 v2 v4 v4 h
set_option maxRecDepth 100000 in
set_option maxHeartbeats 4000000 in
theorem G_X12_priceOf_5 {sc : Nat × (Nat → Int32)} {d : Nat} (hd : 0 ≤ d) {r : Int32} {u : xS} : ∀ (n : Nat) (v1 : Int32) (v2 : Int32) (v3 : Int32) (v4 : Int32), f_X12_priceOf_5 u n v1 v2 v3 v4 = some r → xG sc mX12_priceOf d 0 0 (xR (some (.int r)) (xL0, u) 0 0) 0 0 5 [some (.ref 135), some (.int v1), some (.int v2), some (.int v3), some (.int v4)] [] (xL0, u) := by
  intro n
  induction n with
  | zero =>
    intro v1 v2 v3 v4 h
    rw [f_X12_priceOf_5] at h
    cases h
  | succ n ih =>
    intro v1 v2 v3 v4 h
    rw [f_X12_priceOf_5] at h
    refine g_iload (pc := 5) dX12_priceOf_5 rfl ?_
    refine g_aload_n (pc := 7) dX12_priceOf_7 rfl ?_
    refine g_gI (pc := 8) dX12_priceOf_8 fI_RX12_175 xc_135 (v := (rd u 135 3)) rfl ?_
    refine g_icmp_ge (tgt := 65) (pc := 11) dX12_priceOf_11 (by decide) (fun c1 => ?_) (fun c1 => ?_)
    · replace h := (if_pos c1).symm.trans h
      refine g_iload_n (pc := 65) dX12_priceOf_65 rfl ?_
      refine g_if_ge (tgt := 73) (pc := 66) dX12_priceOf_66 (by decide) (fun c2 => ?_) (fun c2 => ?_)
      · replace h := (if_pos c2).symm.trans h
        refine g_aload_n (pc := 73) dX12_priceOf_73 rfl ?_
        refine g_gR (pc := 74) dX12_priceOf_74 fR_RX12_19 xc_135 (v := 139) rfl ?_
        refine g_iload_n (pc := 77) dX12_priceOf_77 rfl ?_
        obtain ⟨g3, h⟩ := x_gd h
        refine g_iaload (pc := 78) dX12_priceOf_78 xc_139 (xin_of g3) (v := (rd u 139 v3.toNatClampNeg)) rfl ?_
        replace h := Option.some.inj h
        subst h
        exact g_iret (pc := 79) dX12_priceOf_79 rfl rfl rfl (Nat.le_refl _) (Nat.le_refl _)
      · replace h := (if_neg c2).symm.trans h
        refine g_iconst (pc := 69) dX12_priceOf_69 ic_0 ?_
        refine g_goto (tgt := 79) (pc := 70) dX12_priceOf_70 (by decide) ?_
        replace h := Option.some.inj h
        subst h
        exact g_iret (pc := 79) dX12_priceOf_79 rfl rfl rfl (Nat.le_refl _) (Nat.le_refl _)
    · replace h := (if_neg c1).symm.trans h
      refine g_aload_n (pc := 14) dX12_priceOf_14 rfl ?_
      refine g_gR (pc := 15) dX12_priceOf_15 fR_RX12_13 xc_135 (v := 137) rfl ?_
      refine g_iload (pc := 18) dX12_priceOf_18 rfl ?_
      obtain ⟨g4, h⟩ := x_gd h
      refine g_iaload (pc := 20) dX12_priceOf_20 xc_137 (xin_of g4) (v := (rd u 137 v4.toNatClampNeg)) rfl ?_
      refine g_iload_n (pc := 21) dX12_priceOf_21 rfl ?_
      refine g_icmp_ne (tgt := 59) (pc := 22) dX12_priceOf_22 (by decide) (fun c5 => ?_) (fun c5 => ?_)
      · replace h := (if_neg c5).symm.trans h
        exact G_X12_priceOf_59 hd ih v1 v2 v3 v4 h
      · replace h := (if_pos c5).symm.trans h
        refine g_aload_n (pc := 25) dX12_priceOf_25 rfl ?_
        refine g_gR (pc := 26) dX12_priceOf_26 fR_RX12_16 xc_135 (v := 138) rfl ?_
        refine g_iload (pc := 29) dX12_priceOf_29 rfl ?_
        refine g_iaload (pc := 31) dX12_priceOf_31 xc_138 (xin_of g4) (v := (rd u 138 v4.toNatClampNeg)) rfl ?_
        refine g_iload_n (pc := 32) dX12_priceOf_32 rfl ?_
        refine g_icmp_gt (tgt := 59) (pc := 33) dX12_priceOf_33 (by decide) (fun c6 => ?_) (fun c6 => ?_)
        · replace h := (if_pos c6).symm.trans h
          exact G_X12_priceOf_59 hd ih v1 v2 v3 v4 h
        · replace h := (if_neg c6).symm.trans h
          refine g_iload_n (pc := 36) dX12_priceOf_36 rfl ?_
          refine g_if_lt (tgt := 56) (pc := 37) dX12_priceOf_37 (by decide) (fun c7 => ?_) (fun c7 => ?_)
          · replace h := (if_pos c7).symm.trans h
            refine g_L (L' := [some (.ref 135), some (.int v1), some (.int v2), none, some (.int v4)]) ⟨rfl, ⟨rfl, ⟨rfl, ⟨rfl, trivial⟩⟩⟩⟩ ?_
            exact G_X12_priceOf_56 hd ih v1 v2 v4 h
          · replace h := (if_neg c7).symm.trans h
            refine g_aload_n (pc := 40) dX12_priceOf_40 rfl ?_
            refine g_gR (pc := 41) dX12_priceOf_41 fR_RX12_16 xc_135 (v := 138) rfl ?_
            refine g_iload (pc := 44) dX12_priceOf_44 rfl ?_
            refine g_iaload (pc := 46) dX12_priceOf_46 xc_138 (xin_of g4) (v := (rd u 138 v4.toNatClampNeg)) rfl ?_
            refine g_aload_n (pc := 47) dX12_priceOf_47 rfl ?_
            refine g_gR (pc := 48) dX12_priceOf_48 fR_RX12_16 xc_135 (v := 138) rfl ?_
            refine g_iload_n (pc := 51) dX12_priceOf_51 rfl ?_
            obtain ⟨g8, h⟩ := x_gd h
            refine g_iaload (pc := 52) dX12_priceOf_52 xc_138 (xin_of g8) (v := (rd u 138 v3.toNatClampNeg)) rfl ?_
            refine g_icmp_lt (tgt := 59) (pc := 53) dX12_priceOf_53 (by decide) (fun c9 => ?_) (fun c9 => ?_)
            · replace h := (if_pos c9).symm.trans h
              exact G_X12_priceOf_59 hd ih v1 v2 v3 v4 h
            · replace h := (if_neg c9).symm.trans h
              refine g_L (L' := [some (.ref 135), some (.int v1), some (.int v2), none, some (.int v4)]) ⟨rfl, ⟨rfl, ⟨rfl, ⟨rfl, trivial⟩⟩⟩⟩ ?_
              exact G_X12_priceOf_56 hd ih v1 v2 v4 h
set_option maxRecDepth 100000 in
set_option maxHeartbeats 4000000 in
theorem G_X12_priceOf_0 {sc : Nat × (Nat → Int32)} {d : Nat} (hd : 0 ≤ d) {r : Int32} {u : xS} (v1 : Int32) (v2 : Int32) (h : f_X12_priceOf u v1 v2 = some r) : xG sc mX12_priceOf d 0 0 (xR (some (.int r)) (xL0, u) 0 0) 0 0 0 [some (.ref 135), some (.int v1), some (.int v2), none, none] [] (xL0, u) := by
  rw [f_X12_priceOf] at h
  refine g_iconst (pc := 0) dX12_priceOf_0 ic_m1 ?_
  refine g_istore_n (pc := 1) dX12_priceOf_1 (Nat.le_of_ble_eq_true rfl) (L' := [some (.ref 135), some (.int v1), some (.int v2), some (.int (-1 : Int32)), none]) rfl ?_
  refine g_iconst (pc := 2) dX12_priceOf_2 ic_0 ?_
  refine g_istore (pc := 3) dX12_priceOf_3 (Nat.le_of_ble_eq_true rfl) (L' := [some (.ref 135), some (.int v1), some (.int v2), some (.int (-1 : Int32)), some (.int (0 : Int32))]) rfl ?_
  exact G_X12_priceOf_5 hd xN v1 v2 (-1 : Int32) (0 : Int32) h
set_option maxRecDepth 100000 in
set_option maxHeartbeats 4000000 in
theorem M_X12_priceOf {sc : Nat × (Nat → Int32)} {d : Nat} (hd : 0 ≤ d) {r : Int32} {u : xS} {a1 : Int32} {a2 : Int32} (h : f_X12_priceOf u a1 a2 = some r) : xMt sc mX12_priceOf d 0 0 [.ref 135, .int a1, .int a2] (xL0, u) (some (.int r)) (xL0, u) :=
  xMt.of (by decide +kernel) (by decide +kernel) (Nat.le_of_ble_eq_true rfl) (L := [some (.ref 135), some (.int a1), some (.int a2), none, none]) rfl ((G_X12_priceOf_0 hd a1 a2 h))
set_option maxRecDepth 100000 in
set_option maxHeartbeats 4000000 in
theorem G_X12_at_0 {sc : Nat × (Nat → Int32)} {d : Nat} (hd : 2 ≤ d) {r : Int32} {u' : xS} (v1 : Int32) (v2 : Int32) (u : xS) (h : f_X12_at v1 v2 u = some (r, u')) : xG sc mX12_at d 0 0 (xR (some (.int r)) (xL0, u') 0 0) 0 0 0 [some (.ref 135), some (.int v1), some (.int v2)] [] (xL0, u) := by
  rw [f_X12_at] at h
  refine g_aload_n (pc := 0) dX12_at_0 rfl ?_
  refine g_iconst (pc := 1) dX12_at_1 ic_0 ?_
  refine g_pI (pc := 2) dX12_at_2 pI_RX12_150 xc_135 (u' := (wr u 135 0 (0 : Int32))) rfl ?_
  refine g_aload_n (pc := 5) dX12_at_5 rfl ?_
  refine g_iload_n (pc := 6) dX12_at_6 rfl ?_
  refine g_cV (pc := 7) dX12_at_7 cV_RX12_166 (M_X12_isSort (Nat.le_refl _) rfl) xc_135 (as := [.int v1]) (st := []) rfl rfl (Nat.le_of_ble_eq_true rfl) (Nat.le_trans (Nat.le_of_ble_eq_true rfl) hd) rfl ?_
  refine g_if_eq (tgt := 29) (pc := 10) dX12_at_10 (by decide) (fun c1 => ?_) (fun c1 => ?_)
  · replace h := (if_pos c1).symm.trans h
    refine g_iconst (pc := 29) dX12_at_29 ic_m1 ?_
    obtain ⟨h1, h2⟩ := x_inj2 h
    subst h1
    subst h2
    exact g_iret (pc := 30) dX12_at_30 rfl rfl rfl (Nat.le_refl _) (Nat.le_refl _)
  · replace h := (if_neg c1).symm.trans h
    refine g_iload_n (pc := 13) dX12_at_13 rfl ?_
    refine g_cS (pc := 14) dX12_at_14 cS_RX12_170 (M_X12_isWeek (Nat.le_refl _) rfl) (as := [.int v2]) (st := []) rfl rfl (Nat.le_of_ble_eq_true rfl) (Nat.le_trans (Nat.le_of_ble_eq_true rfl) hd) rfl ?_
    refine g_if_eq (tgt := 29) (pc := 17) dX12_at_17 (by decide) (fun c2 => ?_) (fun c2 => ?_)
    · replace h := (if_pos c2).symm.trans h
      refine g_iconst (pc := 29) dX12_at_29 ic_m1 ?_
      obtain ⟨h1, h2⟩ := x_inj2 h
      subst h1
      subst h2
      exact g_iret (pc := 30) dX12_at_30 rfl rfl rfl (Nat.le_refl _) (Nat.le_refl _)
    · replace h := (if_neg c2).symm.trans h
      refine g_aload_n (pc := 20) dX12_at_20 rfl ?_
      refine g_iload_n (pc := 21) dX12_at_21 rfl ?_
      refine g_iload_n (pc := 22) dX12_at_22 rfl ?_
      obtain ⟨x4, e3, h⟩ := x_bind h
      refine g_cV (pc := 23) dX12_at_23 cV_RX12_178 (M_X12_priceOf (Nat.le_refl _) e3) xc_135 (as := [.int v1, .int v2]) (st := []) rfl rfl (Nat.le_of_ble_eq_true rfl) (Nat.le_trans (Nat.le_of_ble_eq_true rfl) hd) rfl ?_
      refine g_goto (tgt := 30) (pc := 26) dX12_at_26 (by decide) ?_
      obtain ⟨h1, h2⟩ := x_inj2 h
      subst h1
      subst h2
      exact g_iret (pc := 30) dX12_at_30 rfl rfl rfl (Nat.le_refl _) (Nat.le_refl _)
set_option maxRecDepth 100000 in
set_option maxHeartbeats 4000000 in
theorem M_X12_at {sc : Nat × (Nat → Int32)} {d : Nat} (hd : 2 ≤ d) {r : Int32} {u u' : xS} {a1 : Int32} {a2 : Int32} (h : f_X12_at a1 a2 u = some (r, u')) : xMt sc mX12_at d 0 0 [.ref 135, .int a1, .int a2] (xL0, u) (some (.int r)) (xL0, u') :=
  xMt.of (by decide +kernel) (by decide +kernel) (Nat.le_of_ble_eq_true rfl) (L := [some (.ref 135), some (.int a1), some (.int a2)]) rfl ((G_X12_at_0 hd a1 a2 u h))
