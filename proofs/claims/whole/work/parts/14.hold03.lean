set_option maxRecDepth 100000 in
set_option maxHeartbeats 4000000 in
theorem G_X12_isFound_58 {sc : Nat × (Nat → Int32)} {d : Nat} (hd : 1 ≤ d) {r : Int32} {u' : xS} {dk : Nat} (hkd : dk + 1 ≤ d) {k_X12_isFound : Int32 → Int32 → Int32 → xS → Option (Int32 × xS)} (hk_X12_isFound : ∀ (a1 a2 a3 : Int32) (u u' : xS) (r : Int32), k_X12_isFound a1 a2 a3 u = some (r, u') → xMt sc mX12_isFound dk 0 0 [.ref 135, .int a1, .int a2, .int a3] (xL0, u) (some (.int r)) (xL0, u')) {k13 : Int32 → Int32 → Int32 → xS → Option (Int32 × xS)} (hk13 : ∀ (v1 : Int32) (v2 : Int32) (v4 : Int32) (u : xS), k13 v1 v2 v4 u = some (r, u') → xG sc mX12_isFound d 0 0 (xR (some (.int r)) (xL0, u') 0 0) 0 0 13 [some (.ref 135), some (.int v1), some (.int v2), none, some (.int v4)] [] (xL0, u)) (v1 : Int32) (v2 : Int32) (v4 : Int32) (u : xS) (h : f_X12_isFound_58 k_X12_isFound k13 v1 v2 v4 u = some (r, u')) : xG sc mX12_isFound d 0 0 (xR (some (.int r)) (xL0, u') 0 0) 0 0 58 [some (.ref 135), some (.int v1), some (.int v2), none, some (.int v4)] [] (xL0, u) := by
  rw [f_X12_isFound_58] at h
  refine g_inc (pc := 58) dX12_isFound_58 (Nat.le_of_ble_eq_true rfl) rfl ic_1 (L' := [some (.ref 135), some (.int v1), some (.int v2), none, some (.int (v4 + (1 : Int32)))]) rfl ?_
  refine g_goto (tgt := 13) (pc := 61) dX12_isFound_61 (by decide) ?_
  exact hk13 v1 v2 (v4 + (1 : Int32)) u h
set_option maxRecDepth 100000 in
set_option maxHeartbeats 4000000 in
theorem G_X12_isFound_13 {sc : Nat × (Nat → Int32)} {d : Nat} (hd : 1 ≤ d) {r : Int32} {u' : xS} {dk : Nat} (hkd : dk + 1 ≤ d) {k_X12_isFound : Int32 → Int32 → Int32 → xS → Option (Int32 × xS)} (hk_X12_isFound : ∀ (a1 a2 a3 : Int32) (u u' : xS) (r : Int32), k_X12_isFound a1 a2 a3 u = some (r, u') → xMt sc mX12_isFound dk 0 0 [.ref 135, .int a1, .int a2, .int a3] (xL0, u) (some (.int r)) (xL0, u')) : ∀ (n : Nat) (v1 : Int32) (v2 : Int32) (v4 : Int32) (u : xS), f_X12_isFound_13 k_X12_isFound n v1 v2 v4 u = some (r, u') → xG sc mX12_isFound d 0 0 (xR (some (.int r)) (xL0, u') 0 0) 0 0 13 [some (.ref 135), some (.int v1), some (.int v2), none, some (.int v4)] [] (xL0, u) := by
  intro n
  induction n with
  | zero =>
    intro v1 v2 v4 u h
    rw [f_X12_isFound_13] at h
    cases h
  | succ n ih =>
    intro v1 v2 v4 u h
    rw [f_X12_isFound_13] at h
    refine g_iload (pc := 13) dX12_isFound_13 rfl ?_
    refine g_aload_n (pc := 15) dX12_isFound_15 rfl ?_
    refine g_gI (pc := 16) dX12_isFound_16 fI_RX12_194 xc_135 (v := (rd u 135 7)) rfl ?_
    refine g_icmp_ge (tgt := 64) (pc := 19) dX12_isFound_19 (by decide) (fun c1 => ?_) (fun c1 => ?_)
    · replace h := (if_pos c1).symm.trans h
      refine g_iconst (pc := 64) dX12_isFound_64 ic_0 ?_
      cases h
      exact g_zret (pc := 65) dX12_isFound_65 rfl (Or.inl rfl) rfl rfl (Nat.le_refl _) (Nat.le_refl _)
    · replace h := (if_neg c1).symm.trans h
      refine g_aload_n (pc := 22) dX12_isFound_22 rfl ?_
      refine g_gR (pc := 23) dX12_isFound_23 fR_RX12_105 xc_135 (v := 166) rfl ?_
      refine g_iload_n (pc := 26) dX12_isFound_26 rfl ?_
      refine g_iload (pc := 27) dX12_isFound_27 rfl ?_
      obtain ⟨g2, h⟩ := x_gd h
      refine g_iastore (pc := 29) dX12_isFound_29 xc_166 (xin_of g2) (u' := (wr u 166 v1.toNatClampNeg v4)) rfl ?_
      refine g_aload_n (pc := 30) dX12_isFound_30 rfl ?_
      refine g_iload (pc := 31) dX12_isFound_31 rfl ?_
      obtain ⟨x4, e3, h⟩ := x_bind h
      refine g_cV (pc := 33) dX12_isFound_33 cV_RX12_400 (M_X12_isClean (Nat.le_refl _) e3) xc_135 (as := [.int v4]) (st := []) rfl rfl (Nat.le_of_ble_eq_true rfl) (Nat.le_trans (Nat.le_of_ble_eq_true rfl) hd) rfl ?_
      refine g_if_eq (tgt := 58) (pc := 36) dX12_isFound_36 (by decide) (fun c5 => ?_) (fun c5 => ?_)
      · replace h := (if_pos c5).symm.trans h
        exact G_X12_isFound_58 hd ih v1 v2 v4 (wr u 166 v1.toNatClampNeg v4) h
      · replace h := (if_neg c5).symm.trans h
        refine g_aload_n (pc := 39) dX12_isFound_39 rfl ?_
        refine g_iload_n (pc := 40) dX12_isFound_40 rfl ?_
        refine g_iconst (pc := 41) dX12_isFound_41 ic_1 ?_
        refine g_iadd (pc := 42) dX12_isFound_42 rfl ?_
        refine g_iload_n (pc := 43) dX12_isFound_43 rfl ?_
        refine g_iconst (pc := 44) dX12_isFound_44 ic_1 ?_
        refine g_isub (pc := 45) dX12_isFound_45 rfl ?_
        refine g_iload (pc := 46) dX12_isFound_46 rfl ?_
        refine g_iconst (pc := 48) dX12_isFound_48 ic_1 ?_
        refine g_iadd (pc := 49) dX12_isFound_49 rfl ?_
        obtain ⟨⟨x7, u8⟩, e6, h⟩ := x_bind h
        dsimp only at h
        refine g_cV (pc := 50) dX12_isFound_50 cV_RX12_403 (hk_X12_isFound _ _ _ _ _ _ e6) xc_135 (as := [.int (v1 + (1 : Int32)), .int (v2 - (1 : Int32)), .int (v4 + (1 : Int32))]) (st := []) rfl rfl (Nat.le_of_ble_eq_true rfl) hkd rfl ?_
        refine g_if_eq (tgt := 58) (pc := 53) dX12_isFound_53 (by decide) (fun c9 => ?_) (fun c9 => ?_)
        · replace h := (if_pos c9).symm.trans h
          exact G_X12_isFound_58 hd hkd hk_X12_isFound ih v1 v2 v4 u8 h
        · replace h := (if_neg c9).symm.trans h
          refine g_iconst (pc := 56) dX12_isFound_56 ic_1 ?_
          cases h
          exact g_zret (pc := 57) dX12_isFound_57 rfl (Or.inr rfl) rfl rfl (Nat.le_refl _) (Nat.le_refl _)
set_option maxRecDepth 100000 in
set_option maxHeartbeats 4000000 in
theorem G_X12_isFound_0 {sc : Nat × (Nat → Int32)} {d : Nat} (hd : 1 ≤ d) {r : Int32} {u' : xS} {dk : Nat} (hkd : dk + 1 ≤ d) {k_X12_isFound : Int32 → Int32 → Int32 → xS → Option (Int32 × xS)} (hk_X12_isFound : ∀ (a1 a2 a3 : Int32) (u u' : xS) (r : Int32), k_X12_isFound a1 a2 a3 u = some (r, u') → xMt sc mX12_isFound dk 0 0 [.ref 135, .int a1, .int a2, .int a3] (xL0, u) (some (.int r)) (xL0, u')) (v1 : Int32) (v2 : Int32) (v3 : Int32) (u : xS) (h : f_X12_isFound k_X12_isFound v1 v2 v3 u = some (r, u')) : xG sc mX12_isFound d 0 0 (xR (some (.int r)) (xL0, u') 0 0) 0 0 0 [some (.ref 135), some (.int v1), some (.int v2), some (.int v3), none] [] (xL0, u) := by
  rw [f_X12_isFound] at h
  refine g_iload_n (pc := 0) dX12_isFound_0 rfl ?_
  refine g_if_ne (tgt := 10) (pc := 1) dX12_isFound_1 (by decide) (fun c1 => ?_) (fun c1 => ?_)
  · replace h := (if_neg c1).symm.trans h
    refine g_iload_n (pc := 10) dX12_isFound_10 rfl ?_
    refine g_istore (pc := 11) dX12_isFound_11 (Nat.le_of_ble_eq_true rfl) (L' := [some (.ref 135), some (.int v1), some (.int v2), some (.int v3), some (.int v3)]) rfl ?_
    refine g_L (L' := [some (.ref 135), some (.int v1), some (.int v2), none, some (.int v3)]) ⟨rfl, ⟨rfl, ⟨rfl, ⟨rfl, trivial⟩⟩⟩⟩ ?_
    exact G_X12_isFound_13 hd hkd hk_X12_isFound xN v1 v2 v3 u h
  · replace h := (if_pos c1).symm.trans h
    refine g_aload_n (pc := 4) dX12_isFound_4 rfl ?_
    refine g_iload_n (pc := 5) dX12_isFound_5 rfl ?_
    obtain ⟨x3, e2, h⟩ := x_bind h
    refine g_cV (pc := 6) dX12_isFound_6 cV_RX12_397 (M_X12_areAll (Nat.le_refl _) e2) xc_135 (as := [.int v1]) (st := []) rfl rfl (Nat.le_of_ble_eq_true rfl) (Nat.le_trans (Nat.le_of_ble_eq_true rfl) hd) rfl ?_
    obtain ⟨g4, h⟩ := x_gd h
    cases h
    exact g_zret (pc := 9) dX12_isFound_9 rfl (xb_of g4) rfl rfl (Nat.le_refl _) (Nat.le_refl _)
set_option maxRecDepth 100000 in
set_option maxHeartbeats 4000000 in
theorem M_X12_isFound {sc : Nat × (Nat → Int32)} {d : Nat} (hd : 1 ≤ d) {r : Int32} {u u' : xS} {dk : Nat} (hkd : dk + 1 ≤ d) {k_X12_isFound : Int32 → Int32 → Int32 → xS → Option (Int32 × xS)} (hk_X12_isFound : ∀ (a1 a2 a3 : Int32) (u u' : xS) (r : Int32), k_X12_isFound a1 a2 a3 u = some (r, u') → xMt sc mX12_isFound dk 0 0 [.ref 135, .int a1, .int a2, .int a3] (xL0, u) (some (.int r)) (xL0, u')) {a1 : Int32} {a2 : Int32} {a3 : Int32} (h : f_X12_isFound k_X12_isFound a1 a2 a3 u = some (r, u')) : xMt sc mX12_isFound d 0 0 [.ref 135, .int a1, .int a2, .int a3] (xL0, u) (some (.int r)) (xL0, u') :=
  xMt.of (by decide +kernel) (Nat.le_of_ble_eq_true rfl) (L := [some (.ref 135), some (.int a1), some (.int a2), some (.int a3), none]) rfl ((G_X12_isFound_0 hd hkd hk_X12_isFound a1 a2 a3 u h))
theorem Mr_isFound {sc : Nat × (Nat → Int32)} : ∀ n : Nat, ∀ (a1 a2 a3 : Int32) (u u' : xS) (r : Int32), (fr_isFound n) a1 a2 a3 u = some (r, u') → xMt sc mX12_isFound (n + 1) 0 0 [.ref 135, .int a1, .int a2, .int a3] (xL0, u) (some (.int r)) (xL0, u') := by
  intro n
  induction n with
  | zero =>
    intro a1 a2 a3 u u' r h
    cases h
  | succ n ih =>
    intro a1 a2 a3 u u' r h
    exact M_X12_isFound (dk := n + 1) (by omega) (by omega) ih h
set_option maxRecDepth 100000 in
set_option maxHeartbeats 4000000 in
theorem M_r_X12_isFound {sc : Nat × (Nat → Int32)} {d : Nat} (hd : 9 ≤ d) {u u' : xS} {r : Int32} {a1 a2 a3 : Int32} (h : f_r_X12_isFound a1 a2 a3 u = some (r, u')) : xMt sc mX12_isFound 9 0 0 [.ref 135, .int a1, .int a2, .int a3] (xL0, u) (some (.int r)) (xL0, u') := Mr_isFound 8 _ _ _ _ _ _ h
set_option maxRecDepth 100000 in
set_option maxHeartbeats 4000000 in
theorem G_X12_suspects_29 {sc : Nat × (Nat → Int32)} {d : Nat} (hd : 10 ≤ d) {r : Int32} {u' : xS} : ∀ (n : Nat) (v1 : Int32) (v2 : Int32) (u : xS), f_X12_suspects_29 n v1 v2 u = some (r, u') → xG sc mX12_suspects d 0 0 (xR (some (.int r)) (xL0, u') 0 0) 0 0 29 [some (.ref 135), some (.int v1), some (.int v2)] [] (xL0, u) := by
  intro n
  induction n with
  | zero =>
    intro v1 v2 u h
    rw [f_X12_suspects_29] at h
    cases h
  | succ n ih =>
    intro v1 v2 u h
    rw [f_X12_suspects_29] at h
    refine g_iload_n (pc := 29) dX12_suspects_29 rfl ?_
    refine g_iload_n (pc := 30) dX12_suspects_30 rfl ?_
    refine g_icmp_ge (tgt := 50) (pc := 31) dX12_suspects_31 (by decide) (fun c1 => ?_) (fun c1 => ?_)
    · replace h := (if_pos c1).symm.trans h
      refine g_iload_n (pc := 50) dX12_suspects_50 rfl ?_
      cases h
      exact g_iret (pc := 51) dX12_suspects_51 rfl rfl rfl (Nat.le_refl _) (Nat.le_refl _)
    · replace h := (if_neg c1).symm.trans h
      refine g_aload_n (pc := 34) dX12_suspects_34 rfl ?_
      refine g_aload_n (pc := 35) dX12_suspects_35 rfl ?_
      refine g_gR (pc := 36) dX12_suspects_36 fR_RX12_105 xc_135 (v := 166) rfl ?_
      refine g_iload_n (pc := 39) dX12_suspects_39 rfl ?_
      obtain ⟨g2, h⟩ := x_gd h
      refine g_iaload (pc := 40) dX12_suspects_40 xc_166 (xin_of g2) (v := (rd u 166 v2.toNatClampNeg)) rfl ?_
      obtain ⟨u4, e3, h⟩ := x_bind h
      refine g_cV (pc := 41) dX12_suspects_41 cV_RX12_394 (M_X12_enters (Nat.le_refl _) e3) xc_135 (as := [.int (rd u 166 v2.toNatClampNeg)]) (st := []) rfl rfl (Nat.le_of_ble_eq_true rfl) (Nat.le_trans (Nat.le_of_ble_eq_true rfl) hd) rfl ?_
      refine g_inc (pc := 44) dX12_suspects_44 (Nat.le_of_ble_eq_true rfl) rfl ic_1 (L' := [some (.ref 135), some (.int v1), some (.int (v2 + (1 : Int32)))]) rfl ?_
      refine g_goto (tgt := 29) (pc := 47) dX12_suspects_47 (by decide) ?_
      exact ih v1 (v2 + (1 : Int32)) u4 h
set_option maxRecDepth 100000 in
set_option maxHeartbeats 4000000 in
theorem G_X12_suspects_7 {sc : Nat × (Nat → Int32)} {d : Nat} (hd : 10 ≤ d) {r : Int32} {u' : xS} : ∀ (n : Nat) (v1 : Int32) (u : xS), f_X12_suspects_7 n v1 u = some (r, u') → xG sc mX12_suspects d 0 0 (xR (some (.int r)) (xL0, u') 0 0) 0 0 7 [some (.ref 135), some (.int v1), none] [] (xL0, u) := by
  intro n
  induction n with
  | zero =>
    intro v1 u h
    rw [f_X12_suspects_7] at h
    cases h
  | succ n ih =>
    intro v1 u h
    rw [f_X12_suspects_7] at h
    refine g_iload_n (pc := 7) dX12_suspects_7 rfl ?_
    refine g_iconst (pc := 8) dX12_suspects_8 ic_4 ?_
    refine g_icmp_gt (tgt := 58) (pc := 9) dX12_suspects_9 (by decide) (fun c1 => ?_) (fun c1 => ?_)
    · replace h := (if_pos c1).symm.trans h
      refine g_bipush (pc := 58) dX12_suspects_58 bp_m2 ?_
      cases h
      exact g_iret (pc := 60) dX12_suspects_60 rfl rfl rfl (Nat.le_refl _) (Nat.le_refl _)
    · replace h := (if_neg c1).symm.trans h
      refine g_aload_n (pc := 12) dX12_suspects_12 rfl ?_
      refine g_iconst (pc := 13) dX12_suspects_13 ic_0 ?_
      refine g_iload_n (pc := 14) dX12_suspects_14 rfl ?_
      refine g_iconst (pc := 15) dX12_suspects_15 ic_0 ?_
      obtain ⟨⟨x3, u4⟩, e2, h⟩ := x_bind h
      dsimp only at h
      refine g_cV (pc := 16) dX12_suspects_16 cV_RX12_403 (M_r_X12_isFound (Nat.le_refl _) e2) xc_135 (as := [.int (0 : Int32), .int v1, .int (0 : Int32)]) (st := []) rfl rfl (Nat.le_of_ble_eq_true rfl) (Nat.le_trans (Nat.le_of_ble_eq_true rfl) hd) rfl ?_
      refine g_if_eq (tgt := 52) (pc := 19) dX12_suspects_19 (by decide) (fun c5 => ?_) (fun c5 => ?_)
      · replace h := (if_pos c5).symm.trans h
        refine g_inc (pc := 52) dX12_suspects_52 (Nat.le_of_ble_eq_true rfl) rfl ic_1 (L' := [some (.ref 135), some (.int (v1 + (1 : Int32))), none]) rfl ?_
        refine g_goto (tgt := 7) (pc := 55) dX12_suspects_55 (by decide) ?_
        exact ih (v1 + (1 : Int32)) u4 h
      · replace h := (if_neg c5).symm.trans h
        refine g_aload_n (pc := 22) dX12_suspects_22 rfl ?_
        refine g_iconst (pc := 23) dX12_suspects_23 ic_0 ?_
        refine g_pI (pc := 24) dX12_suspects_24 pI_RX12_388 xc_135 (u' := (wr u4 135 43 (0 : Int32))) rfl ?_
        refine g_iconst (pc := 27) dX12_suspects_27 ic_0 ?_
        refine g_istore_n (pc := 28) dX12_suspects_28 (Nat.le_of_ble_eq_true rfl) (L' := [some (.ref 135), some (.int v1), some (.int (0 : Int32))]) rfl ?_
        exact G_X12_suspects_29 hd xN v1 (0 : Int32) (wr u4 135 43 (0 : Int32)) h
set_option maxRecDepth 100000 in
set_option maxHeartbeats 4000000 in
theorem G_X12_suspects_0 {sc : Nat × (Nat → Int32)} {d : Nat} (hd : 10 ≤ d) {r : Int32} {u' : xS} (u : xS) (h : f_X12_suspects u = some (r, u')) : xG sc mX12_suspects d 0 0 (xR (some (.int r)) (xL0, u') 0 0) 0 0 0 [some (.ref 135), none, none] [] (xL0, u) := by
  rw [f_X12_suspects] at h
  refine g_aload_n (pc := 0) dX12_suspects_0 rfl ?_
  refine g_iconst (pc := 1) dX12_suspects_1 ic_0 ?_
  refine g_pI (pc := 2) dX12_suspects_2 pI_RX12_150 xc_135 (u' := (wr u 135 0 (0 : Int32))) rfl ?_
  refine g_iconst (pc := 5) dX12_suspects_5 ic_0 ?_
  refine g_istore_n (pc := 6) dX12_suspects_6 (Nat.le_of_ble_eq_true rfl) (L' := [some (.ref 135), some (.int (0 : Int32)), none]) rfl ?_
  exact G_X12_suspects_7 hd xN (0 : Int32) (wr u 135 0 (0 : Int32)) h
set_option maxRecDepth 100000 in
set_option maxHeartbeats 4000000 in
theorem M_X12_suspects {sc : Nat × (Nat → Int32)} {d : Nat} (hd : 10 ≤ d) {r : Int32} {u u' : xS} (h : f_X12_suspects u = some (r, u')) : xMt sc mX12_suspects d 0 0 [.ref 135] (xL0, u) (some (.int r)) (xL0, u') :=
  xMt.of (by decide +kernel) (Nat.le_of_ble_eq_true rfl) (L := [some (.ref 135), none, none]) rfl ((G_X12_suspects_0 hd u h))
set_option maxRecDepth 100000 in
set_option maxHeartbeats 4000000 in
theorem G_X12_takes_0 {sc : Nat × (Nat → Int32)} {d : Nat} (hd : 2 ≤ d) {r : Int32} {u' : xS} (v1 : Int32) (v2 : Int32) (u : xS) (h : f_X12_takes v1 v2 u = some (r, u')) : xG sc mX12_takes d 0 0 (xR (some (.int r)) (xL0, u') 0 0) 0 0 0 [some (.ref 135), some (.int v1), some (.int v2), none] [] (xL0, u) := by
  rw [f_X12_takes] at h
  refine g_aload_n (pc := 0) dX12_takes_0 rfl ?_
  refine g_iconst (pc := 1) dX12_takes_1 ic_0 ?_
  refine g_pI (pc := 2) dX12_takes_2 pI_RX12_150 xc_135 (u' := (wr u 135 0 (0 : Int32))) rfl ?_
  refine g_iload_n (pc := 5) dX12_takes_5 rfl ?_
  refine g_cS (pc := 6) dX12_takes_6 cS_RX12_415 (M_X12_isLand (Nat.le_refl _) rfl) (as := [.int v1]) (st := []) rfl rfl (Nat.le_of_ble_eq_true rfl) (Nat.le_trans (Nat.le_of_ble_eq_true rfl) hd) rfl ?_
  refine g_if_eq (tgt := 24) (pc := 9) dX12_takes_9 (by decide) (fun c1 => ?_) (fun c1 => ?_)
  · replace h := (if_pos c1).symm.trans h
    refine g_iconst (pc := 24) dX12_takes_24 ic_m1 ?_
    cases h
    exact g_iret (pc := 25) dX12_takes_25 rfl rfl rfl (Nat.le_refl _) (Nat.le_refl _)
  · replace h := (if_neg c1).symm.trans h
    refine g_iload_n (pc := 12) dX12_takes_12 rfl ?_
    refine g_i2l (pc := 13) dX12_takes_13 rfl ?_
    refine g_lconst (v := (0 : Int64)) (pc := 14) dX12_takes_14 rfl ?_
    refine g_ldc2 (pc := 15) dX12_takes_15 kl_RX12_418 ?_
    refine g_cS (pc := 18) dX12_takes_18 cS_RX12_156 (M_X12_in (Nat.le_refl _) rfl) (as := [.long ((v2).toInt64), .long (0 : Int64), .long (8 : Int64)]) (st := []) rfl rfl (Nat.le_of_ble_eq_true rfl) (Nat.le_trans (Nat.le_of_ble_eq_true rfl) hd) rfl ?_
    refine g_if_ne (tgt := 26) (pc := 21) dX12_takes_21 (by decide) (fun c2 => ?_) (fun c2 => ?_)
    · replace h := (if_neg c2).symm.trans h
      refine g_aload_n (pc := 26) dX12_takes_26 rfl ?_
      refine g_gR (pc := 27) dX12_takes_27 fR_RX12_126 xc_135 (v := 173) rfl ?_
      refine g_iload_n (pc := 30) dX12_takes_30 rfl ?_
      obtain ⟨g3, h⟩ := x_gd h
      refine g_iaload (pc := 31) dX12_takes_31 xc_173 (xin_of g3) (v := (rd u 173 v1.toNatClampNeg)) rfl ?_
      refine g_istore_n (pc := 32) dX12_takes_32 (Nat.le_of_ble_eq_true rfl) (L' := [some (.ref 135), some (.int v1), some (.int v2), some (.int (rd u 173 v1.toNatClampNeg))]) rfl ?_
      refine g_aload_n (pc := 33) dX12_takes_33 rfl ?_
      refine g_gR (pc := 34) dX12_takes_34 fR_RX12_126 xc_135 (v := 173) rfl ?_
      refine g_iload_n (pc := 37) dX12_takes_37 rfl ?_
      refine g_iload_n (pc := 38) dX12_takes_38 rfl ?_
      refine g_iastore (pc := 39) dX12_takes_39 xc_173 (xin_of g3) (u' := (wr (wr u 135 0 (0 : Int32)) 173 v1.toNatClampNeg v2)) rfl ?_
      refine g_iload_n (pc := 40) dX12_takes_40 rfl ?_
      cases h
      exact g_iret (pc := 41) dX12_takes_41 rfl rfl rfl (Nat.le_refl _) (Nat.le_refl _)
    · replace h := (if_pos c2).symm.trans h
      refine g_iconst (pc := 24) dX12_takes_24 ic_m1 ?_
      cases h
      exact g_iret (pc := 25) dX12_takes_25 rfl rfl rfl (Nat.le_refl _) (Nat.le_refl _)
set_option maxRecDepth 100000 in
set_option maxHeartbeats 4000000 in
theorem M_X12_takes {sc : Nat × (Nat → Int32)} {d : Nat} (hd : 2 ≤ d) {r : Int32} {u u' : xS} {a1 : Int32} {a2 : Int32} (h : f_X12_takes a1 a2 u = some (r, u')) : xMt sc mX12_takes d 0 0 [.ref 135, .int a1, .int a2] (xL0, u) (some (.int r)) (xL0, u') :=
  xMt.of (by decide +kernel) (Nat.le_of_ble_eq_true rfl) (L := [some (.ref 135), some (.int a1), some (.int a2), none]) rfl ((G_X12_takes_0 hd a1 a2 u h))
set_option maxRecDepth 100000 in
set_option maxHeartbeats 4000000 in
theorem G_X12_text_254 {sc : Nat × (Nat → Int32)} {d : Nat} (hd : 607 ≤ d) {r : Int32} {u' : xS} (v1 : Int32) (s1 : Int32) (s2 : Int32) (u : xS) (h : f_X12_text_254 v1 s1 s2 u = some (r, u')) : xG sc mX12_text d 0 0 (xR (some (.int r)) (xL0, u') 0 0) 0 0 254 [some (.ref 135), some (.int v1), none, none, none, none, none] [.int s2, .int s1, .ref 135] (xL0, u) := by
  rw [f_X12_text_254] at h
  refine g_cS (pc := 254) dX12_text_254 cS_RX12_190 (M_X12_truth (Nat.le_refl _) rfl) (as := [.int s2]) (st := [.int s1, .ref 135]) rfl rfl (Nat.le_of_ble_eq_true rfl) (Nat.le_trans (Nat.le_of_ble_eq_true rfl) hd) rfl ?_
  refine g_iadd (pc := 257) dX12_text_257 rfl ?_
  refine g_pI (pc := 258) dX12_text_258 pI_RX12_320 xc_135 (u' := (wr u 135 28 (s1 + (f_X12_truth s2)))) rfl ?_
  refine g_iload_n (pc := 261) dX12_text_261 rfl ?_
  refine g_iconst (pc := 262) dX12_text_262 ic_1 ?_
  refine g_icmp_ne (tgt := 275) (pc := 263) dX12_text_263 (by decide) (fun c1 => ?_) (fun c1 => ?_)
  · replace h := (if_neg c1).symm.trans h
    refine g_iconst (pc := 275) dX12_text_275 ic_0 ?_
    cases h
    exact g_iret (pc := 276) dX12_text_276 rfl rfl rfl (Nat.le_refl _) (Nat.le_refl _)
  · replace h := (if_pos c1).symm.trans h
    refine g_aload_n (pc := 266) dX12_text_266 rfl ?_
    refine g_gI (pc := 267) dX12_text_267 fI_RX12_320 xc_135 (v := (s1 + (f_X12_truth s2))) rfl ?_
    refine g_iconst (pc := 270) dX12_text_270 ic_1 ?_
    refine g_isub (pc := 271) dX12_text_271 rfl ?_
    refine g_goto (tgt := 276) (pc := 272) dX12_text_272 (by decide) ?_
    cases h
    exact g_iret (pc := 276) dX12_text_276 rfl rfl rfl (Nat.le_refl _) (Nat.le_refl _)
set_option maxRecDepth 100000 in
set_option maxHeartbeats 4000000 in
theorem G_X12_text_167 {sc : Nat × (Nat → Int32)} {d : Nat} (hd : 607 ≤ d) {r : Int32} {u' : xS} : ∀ (n : Nat) (v1 : Int32) (v5 : Int32) (v6 : Int32) (u : xS), f_X12_text_167 n v1 v5 v6 u = some (r, u') → xG sc mX12_text d 0 0 (xR (some (.int r)) (xL0, u') 0 0) 0 0 167 [some (.ref 135), some (.int v1), none, none, none, some (.int v5), some (.int v6)] [] (xL0, u) := by
  intro n
  induction n with
  | zero =>
    intro v1 v5 v6 u h
    rw [f_X12_text_167] at h
    cases h
  | succ n ih =>
    intro v1 v5 v6 u h
    rw [f_X12_text_167] at h
    refine g_iload (pc := 167) dX12_text_167 rfl ?_
    refine g_aload_n (pc := 169) dX12_text_169 rfl ?_
    refine g_gR (pc := 170) dX12_text_170 fR_RX12_75 xc_135 (v := 156) rfl ?_
    refine g_aload_n (pc := 173) dX12_text_173 rfl ?_
    refine g_gI (pc := 174) dX12_text_174 fI_RX12_267 xc_135 (v := (rd u 135 34)) rfl ?_
    obtain ⟨g1, h⟩ := x_gd h
    refine g_iaload (pc := 177) dX12_text_177 xc_156 (xin_of g1) (v := (rd u 156 (rd u 135 34).toNatClampNeg)) rfl ?_
    refine g_icmp_ge (tgt := 215) (pc := 178) dX12_text_178 (by decide) (fun c2 => ?_) (fun c2 => ?_)
    · replace h := (if_pos c2).symm.trans h
      refine g_aload_n (pc := 215) dX12_text_215 rfl ?_
      refine g_gR (pc := 216) dX12_text_216 fR_RX12_75 xc_135 (v := 156) rfl ?_
      refine g_iload (pc := 219) dX12_text_219 rfl ?_
      refine g_aload_n (pc := 221) dX12_text_221 rfl ?_
      refine g_gR (pc := 222) dX12_text_222 fR_RX12_75 xc_135 (v := 156) rfl ?_
      refine g_aload_n (pc := 225) dX12_text_225 rfl ?_
      refine g_gI (pc := 226) dX12_text_226 fI_RX12_267 xc_135 (v := (rd u 135 34)) rfl ?_
      refine g_iaload (pc := 229) dX12_text_229 xc_156 (xin_of g1) (v := (rd u 156 (rd u 135 34).toNatClampNeg)) rfl ?_
      obtain ⟨g3, h⟩ := x_gd h
      refine g_iastore (pc := 230) dX12_text_230 xc_156 (xin_of g3) (u' := (wr u 156 v5.toNatClampNeg (rd u 156 (rd u 135 34).toNatClampNeg))) rfl ?_
      refine g_aload_n (pc := 231) dX12_text_231 rfl ?_
      refine g_gR (pc := 232) dX12_text_232 fR_RX12_68 xc_135 (v := 154) rfl ?_
      refine g_iload (pc := 235) dX12_text_235 rfl ?_
      refine g_iconst (pc := 237) dX12_text_237 ic_1 ?_
      refine g_bastoreB (pc := 238) dX12_text_238 xc_154 (xin_of g3) (Or.inr rfl) (u' := (wr (wr u 156 v5.toNatClampNeg (rd u 156 (rd u 135 34).toNatClampNeg)) 154 v5.toNatClampNeg (1 : Int32))) rfl ?_
      refine g_aload_n (pc := 239) dX12_text_239 rfl ?_
      refine g_dup (pc := 240) dX12_text_240 rfl ?_
      refine g_gI (pc := 241) dX12_text_241 fI_RX12_320 xc_135 (v := (rd u 135 28)) rfl ?_
      refine g_iload_n (pc := 244) dX12_text_244 rfl ?_
      refine g_iconst (pc := 245) dX12_text_245 ic_1 ?_
      refine g_icmp_ne (tgt := 253) (pc := 246) dX12_text_246 (by decide) (fun c4 => ?_) (fun c4 => ?_)
      · replace h := (if_neg c4).symm.trans h
        refine g_iconst (pc := 253) dX12_text_253 ic_0 ?_
        refine g_L (L' := [some (.ref 135), some (.int v1), none, none, none, none, none]) ⟨rfl, ⟨rfl, trivial⟩⟩ ?_
        exact G_X12_text_254 hd v1 (rd u 135 28) (0 : Int32) (wr (wr u 156 v5.toNatClampNeg (rd u 156 (rd u 135 34).toNatClampNeg)) 154 v5.toNatClampNeg (1 : Int32)) h
      · replace h := (if_pos c4).symm.trans h
        refine g_iconst (pc := 249) dX12_text_249 ic_1 ?_
        refine g_goto (tgt := 254) (pc := 250) dX12_text_250 (by decide) ?_
        refine g_L (L' := [some (.ref 135), some (.int v1), none, none, none, none, none]) ⟨rfl, ⟨rfl, trivial⟩⟩ ?_
        exact G_X12_text_254 hd v1 (rd u 135 28) (1 : Int32) (wr (wr u 156 v5.toNatClampNeg (rd u 156 (rd u 135 34).toNatClampNeg)) 154 v5.toNatClampNeg (1 : Int32)) h
    · replace h := (if_neg c2).symm.trans h
      refine g_aload_n (pc := 181) dX12_text_181 rfl ?_
      refine g_gR (pc := 182) dX12_text_182 fR_RX12_72 xc_135 (v := 155) rfl ?_
      refine g_bipush (pc := 185) dX12_text_185 bp_64 ?_
      refine g_iload (pc := 187) dX12_text_187 rfl ?_
      refine g_imul (pc := 189) dX12_text_189 rfl ?_
      refine g_iload (pc := 190) dX12_text_190 rfl ?_
      refine g_iadd (pc := 192) dX12_text_192 rfl ?_
      refine g_aload_n (pc := 193) dX12_text_193 rfl ?_
      refine g_gR (pc := 194) dX12_text_194 fR_RX12_72 xc_135 (v := 155) rfl ?_
      refine g_bipush (pc := 197) dX12_text_197 bp_64 ?_
      refine g_aload_n (pc := 199) dX12_text_199 rfl ?_
      refine g_gI (pc := 200) dX12_text_200 fI_RX12_267 xc_135 (v := (rd u 135 34)) rfl ?_
      refine g_imul (pc := 203) dX12_text_203 rfl ?_
      refine g_iload (pc := 204) dX12_text_204 rfl ?_
      refine g_iadd (pc := 206) dX12_text_206 rfl ?_
      obtain ⟨g5, h⟩ := x_gd h
      refine g_iaload (pc := 207) dX12_text_207 xc_155 (xin_of g5) (v := (rd u 155 (((64 : Int32) * (rd u 135 34)) + v6).toNatClampNeg)) rfl ?_
      obtain ⟨g6, h⟩ := x_gd h
      refine g_iastore (pc := 208) dX12_text_208 xc_155 (xin_of g6) (u' := (wr u 155 (((64 : Int32) * v5) + v6).toNatClampNeg (rd u 155 (((64 : Int32) * (rd u 135 34)) + v6).toNatClampNeg))) rfl ?_
      refine g_inc (pc := 209) dX12_text_209 (Nat.le_of_ble_eq_true rfl) rfl ic_1 (L' := [some (.ref 135), some (.int v1), none, none, none, some (.int v5), some (.int (v6 + (1 : Int32)))]) rfl ?_
      refine g_goto (tgt := 167) (pc := 212) dX12_text_212 (by decide) ?_
      exact ih v1 v5 (v6 + (1 : Int32)) (wr u 155 (((64 : Int32) * v5) + v6).toNatClampNeg (rd u 155 (((64 : Int32) * (rd u 135 34)) + v6).toNatClampNeg)) h
set_option maxRecDepth 100000 in
set_option maxHeartbeats 4000000 in
theorem G_X12_text_162 {sc : Nat × (Nat → Int32)} {d : Nat} (hd : 607 ≤ d) {r : Int32} {u' : xS} (v1 : Int32) (s0 : Int32) (u : xS) (h : f_X12_text_162 v1 s0 u = some (r, u')) : xG sc mX12_text d 0 0 (xR (some (.int r)) (xL0, u') 0 0) 0 0 162 [some (.ref 135), some (.int v1), none, none, none, none, none] [.int s0] (xL0, u) := by
  rw [f_X12_text_162] at h
  refine g_istore (pc := 162) dX12_text_162 (Nat.le_of_ble_eq_true rfl) (L' := [some (.ref 135), some (.int v1), none, none, none, some (.int s0), none]) rfl ?_
  refine g_iconst (pc := 164) dX12_text_164 ic_0 ?_
  refine g_istore (pc := 165) dX12_text_165 (Nat.le_of_ble_eq_true rfl) (L' := [some (.ref 135), some (.int v1), none, none, none, some (.int s0), some (.int (0 : Int32))]) rfl ?_
  exact G_X12_text_167 hd xN v1 s0 (0 : Int32) u h
set_option maxRecDepth 100000 in
set_option maxHeartbeats 4000000 in
theorem G_X12_text_126 {sc : Nat × (Nat → Int32)} {d : Nat} (hd : 607 ≤ d) {r : Int32} {u' : xS} (v1 : Int32) (v2 : Int32) (v4 : Int32) (u : xS) (h : f_X12_text_126 v1 v2 v4 u = some (r, u')) : xG sc mX12_text d 0 0 (xR (some (.int r)) (xL0, u') 0 0) 0 0 126 [some (.ref 135), some (.int v1), some (.int v2), none, some (.int v4), none, none] [] (xL0, u) := by
  rw [f_X12_text_126] at h
  refine g_iload (pc := 126) dX12_text_126 rfl ?_
  refine g_if_ne (tgt := 138) (pc := 128) dX12_text_128 (by decide) (fun c1 => ?_) (fun c1 => ?_)
  · replace h := (if_neg c1).symm.trans h
    refine g_iload_n (pc := 138) dX12_text_138 rfl ?_
    refine g_if_ne (tgt := 146) (pc := 139) dX12_text_139 (by decide) (fun c2 => ?_) (fun c2 => ?_)
    · replace h := (if_neg c2).symm.trans h
      refine g_iload_n (pc := 146) dX12_text_146 rfl ?_
      refine g_iconst (pc := 147) dX12_text_147 ic_1 ?_
      refine g_icmp_ne (tgt := 160) (pc := 148) dX12_text_148 (by decide) (fun c3 => ?_) (fun c3 => ?_)
      · replace h := (if_neg c3).symm.trans h
        refine g_bipush (pc := 160) dX12_text_160 bp_10 ?_
        refine g_L (L' := [some (.ref 135), some (.int v1), none, none, none, none, none]) ⟨rfl, ⟨rfl, trivial⟩⟩ ?_
        exact G_X12_text_162 hd v1 (10 : Int32) u h
      · replace h := (if_pos c3).symm.trans h
        refine g_iconst (pc := 151) dX12_text_151 ic_4 ?_
        refine g_aload_n (pc := 152) dX12_text_152 rfl ?_
        refine g_gI (pc := 153) dX12_text_153 fI_RX12_320 xc_135 (v := (rd u 135 28)) rfl ?_
        refine g_iadd (pc := 156) dX12_text_156 rfl ?_
        refine g_goto (tgt := 162) (pc := 157) dX12_text_157 (by decide) ?_
        refine g_L (L' := [some (.ref 135), some (.int v1), none, none, none, none, none]) ⟨rfl, ⟨rfl, trivial⟩⟩ ?_
        exact G_X12_text_162 hd v1 ((4 : Int32) + (rd u 135 28)) u h
    · replace h := (if_pos c2).symm.trans h
      refine g_iload_n (pc := 142) dX12_text_142 rfl ?_
      refine g_goto (tgt := 162) (pc := 143) dX12_text_143 (by decide) ?_
      refine g_L (L' := [some (.ref 135), some (.int v1), none, none, none, none, none]) ⟨rfl, ⟨rfl, trivial⟩⟩ ?_
      exact G_X12_text_162 hd v1 v2 u h
  · replace h := (if_pos c1).symm.trans h
    refine g_iconst (pc := 131) dX12_text_131 ic_m1 ?_
    refine g_aload_n (pc := 132) dX12_text_132 rfl ?_
    refine g_gI (pc := 133) dX12_text_133 fI_RX12_259 xc_135 (v := (rd u 135 33)) rfl ?_
    refine g_isub (pc := 136) dX12_text_136 rfl ?_
    cases h
    exact g_iret (pc := 137) dX12_text_137 rfl rfl rfl (Nat.le_refl _) (Nat.le_refl _)
set_option maxRecDepth 100000 in
set_option maxHeartbeats 4000000 in
theorem G_X12_text_98 {sc : Nat × (Nat → Int32)} {d : Nat} (hd : 607 ≤ d) {r : Int32} {u' : xS} (v1 : Int32) (v2 : Int32) (v3 : Int32) (s1 : Int32) (s2 : Int32) (u : xS) (h : f_X12_text_98 v1 v2 v3 s1 s2 u = some (r, u')) : xG sc mX12_text d 0 0 (xR (some (.int r)) (xL0, u') 0 0) 0 0 98 [some (.ref 135), some (.int v1), some (.int v2), some (.int v3), none, none, none] [.int s2, .int s1, .ref 135] (xL0, u) := by
  rw [f_X12_text_98] at h
  obtain ⟨⟨x2, u3⟩, e1, h⟩ := x_bind h
  dsimp only at h
  refine g_cV (pc := 98) dX12_text_98 cV_RX12_323 (M_X12_all (Nat.le_refl _) e1) xc_135 (as := [.int s1, .int s2]) (st := []) rfl rfl (Nat.le_of_ble_eq_true rfl) (Nat.le_trans (Nat.le_of_ble_eq_true rfl) hd) rfl ?_
  refine g_istore (pc := 101) dX12_text_101 (Nat.le_of_ble_eq_true rfl) (L' := [some (.ref 135), some (.int v1), some (.int v2), some (.int v3), some (.int x2), none, none]) rfl ?_
  refine g_iload_n (pc := 103) dX12_text_103 rfl ?_
  refine g_bipush (pc := 104) dX12_text_104 bp_60 ?_
  refine g_icmp_le (tgt := 126) (pc := 106) dX12_text_106 (by decide) (fun c4 => ?_) (fun c4 => ?_)
  · replace h := (if_pos c4).symm.trans h
    refine g_L (L' := [some (.ref 135), some (.int v1), some (.int v2), none, some (.int x2), none, none]) ⟨rfl, ⟨rfl, ⟨rfl, ⟨rfl, trivial⟩⟩⟩⟩ ?_
    exact G_X12_text_126 hd v1 v2 x2 u3 h
  · replace h := (if_neg c4).symm.trans h
    refine g_iload (pc := 109) dX12_text_109 rfl ?_
    refine g_if_ne (tgt := 123) (pc := 111) dX12_text_111 (by decide) (fun c5 => ?_) (fun c5 => ?_)
    · replace h := (if_neg c5).symm.trans h
      refine g_bipush (pc := 123) dX12_text_123 bp_m61 ?_
      cases h
      exact g_iret (pc := 125) dX12_text_125 rfl rfl rfl (Nat.le_refl _) (Nat.le_refl _)
    · replace h := (if_pos c5).symm.trans h
      refine g_aload_n (pc := 114) dX12_text_114 rfl ?_
      refine g_gI (pc := 115) dX12_text_115 fI_RX12_259 xc_135 (v := (rd u3 135 33)) rfl ?_
      refine g_bipush (pc := 118) dX12_text_118 bp_60 ?_
      refine g_icmp_lt (tgt := 126) (pc := 120) dX12_text_120 (by decide) (fun c6 => ?_) (fun c6 => ?_)
      · replace h := (if_pos c6).symm.trans h
        refine g_L (L' := [some (.ref 135), some (.int v1), some (.int v2), none, some (.int x2), none, none]) ⟨rfl, ⟨rfl, ⟨rfl, ⟨rfl, trivial⟩⟩⟩⟩ ?_
        exact G_X12_text_126 hd v1 v2 x2 u3 h
      · replace h := (if_neg c6).symm.trans h
        refine g_bipush (pc := 123) dX12_text_123 bp_m61 ?_
        cases h
        exact g_iret (pc := 125) dX12_text_125 rfl rfl rfl (Nat.le_refl _) (Nat.le_refl _)
set_option maxRecDepth 100000 in
set_option maxHeartbeats 4000000 in
theorem G_X12_text_60 {sc : Nat × (Nat → Int32)} {d : Nat} (hd : 607 ≤ d) {r : Int32} {u' : xS} (v1 : Int32) (v2 : Int32) (v3 : Int32) (u : xS) (h : f_X12_text_60 v1 v2 v3 u = some (r, u')) : xG sc mX12_text d 0 0 (xR (some (.int r)) (xL0, u') 0 0) 0 0 60 [some (.ref 135), some (.int v1), some (.int v2), some (.int v3), none, none, none] [] (xL0, u) := by
  rw [f_X12_text_60] at h
  refine g_aload_n (pc := 60) dX12_text_60 rfl ?_
  refine g_bipush (pc := 61) dX12_text_61 bp_11 ?_
  refine g_pI (pc := 63) dX12_text_63 pI_RX12_267 xc_135 (u' := (wr u 135 34 (11 : Int32))) rfl ?_
  refine g_aload_n (pc := 66) dX12_text_66 rfl ?_
  refine g_gR (pc := 67) dX12_text_67 fR_RX12_75 xc_135 (v := 156) rfl ?_
  refine g_aload_n (pc := 70) dX12_text_70 rfl ?_
  refine g_gI (pc := 71) dX12_text_71 fI_RX12_267 xc_135 (v := (11 : Int32)) rfl ?_
  refine g_iconst (pc := 74) dX12_text_74 ic_0 ?_
  refine g_iastore (pc := 75) dX12_text_75 xc_156 vin_11_12 (u' := (wr (wr u 135 34 (11 : Int32)) 156 11 (0 : Int32))) rfl ?_
  refine g_aload_n (pc := 76) dX12_text_76 rfl ?_
  refine g_iconst (pc := 77) dX12_text_77 ic_0 ?_
  refine g_pI (pc := 78) dX12_text_78 pI_RX12_259 xc_135 (u' := (wr (wr (wr u 135 34 (11 : Int32)) 156 11 (0 : Int32)) 135 33 (0 : Int32))) rfl ?_
  refine g_aload_n (pc := 81) dX12_text_81 rfl ?_
  refine g_iload_n (pc := 82) dX12_text_82 rfl ?_
  refine g_bipush (pc := 83) dX12_text_83 bp_60 ?_
  refine g_min (pc := 85) dX12_text_85 mK_RX12_250 (Nat.le_of_ble_eq_true rfl) (Nat.le_trans (Nat.le_of_ble_eq_true rfl) hd) (Nat.le_refl _) (Nat.le_refl _) ?_
  refine g_iload_n (pc := 88) dX12_text_88 rfl ?_
  refine g_iconst (pc := 89) dX12_text_89 ic_1 ?_
  refine g_icmp_ne (tgt := 97) (pc := 90) dX12_text_90 (by decide) (fun c1 => ?_) (fun c1 => ?_)
  · replace h := (if_neg c1).symm.trans h
    refine g_iconst (pc := 97) dX12_text_97 ic_0 ?_
    exact G_X12_text_98 hd v1 v2 v3 (imin v3 (60 : Int32)) (0 : Int32) (wr (wr (wr u 135 34 (11 : Int32)) 156 11 (0 : Int32)) 135 33 (0 : Int32)) h
  · replace h := (if_pos c1).symm.trans h
    refine g_iconst (pc := 93) dX12_text_93 ic_1 ?_
    refine g_goto (tgt := 98) (pc := 94) dX12_text_94 (by decide) ?_
    exact G_X12_text_98 hd v1 v2 v3 (imin v3 (60 : Int32)) (1 : Int32) (wr (wr (wr u 135 34 (11 : Int32)) 156 11 (0 : Int32)) 135 33 (0 : Int32)) h
set_option maxRecDepth 100000 in
set_option maxHeartbeats 4000000 in
theorem G_X12_text_43 {sc : Nat × (Nat → Int32)} {d : Nat} (hd : 607 ≤ d) {r : Int32} {u' : xS} (v1 : Int32) (v2 : Int32) (v3 : Int32) (u : xS) (h : f_X12_text_43 v1 v2 v3 u = some (r, u')) : xG sc mX12_text d 0 0 (xR (some (.int r)) (xL0, u') 0 0) 0 0 43 [some (.ref 135), some (.int v1), some (.int v2), some (.int v3), none, none, none] [] (xL0, u) := by
  rw [f_X12_text_43] at h
  refine g_iload_n (pc := 43) dX12_text_43 rfl ?_
  refine g_iconst (pc := 44) dX12_text_44 ic_1 ?_
  refine g_icmp_ne (tgt := 60) (pc := 45) dX12_text_45 (by decide) (fun c1 => ?_) (fun c1 => ?_)
  · replace h := (if_neg c1).symm.trans h
    exact G_X12_text_60 hd v1 v2 v3 u h
  · replace h := (if_pos c1).symm.trans h
    refine g_aload_n (pc := 48) dX12_text_48 rfl ?_
    refine g_gI (pc := 49) dX12_text_49 fI_RX12_320 xc_135 (v := (rd u 135 28)) rfl ?_
    refine g_bipush (pc := 52) dX12_text_52 bp_6 ?_
    refine g_icmp_ne (tgt := 60) (pc := 54) dX12_text_54 (by decide) (fun c2 => ?_) (fun c2 => ?_)
    · replace h := (if_neg c2).symm.trans h
      exact G_X12_text_60 hd v1 v2 v3 u h
    · replace h := (if_pos c2).symm.trans h
      refine g_bipush (pc := 57) dX12_text_57 bp_m100 ?_
      cases h
      exact g_iret (pc := 59) dX12_text_59 rfl rfl rfl (Nat.le_refl _) (Nat.le_refl _)
set_option maxRecDepth 100000 in
set_option maxHeartbeats 4000000 in
theorem G_X12_text_0 {sc : Nat × (Nat → Int32)} {d : Nat} (hd : 607 ≤ d) {r : Int32} {u' : xS} (v1 : Int32) (v2 : Int32) (u : xS) (h : f_X12_text v1 v2 u = some (r, u')) : xG sc mX12_text d 0 0 (xR (some (.int r)) (xL0, u') 0 0) 0 0 0 [some (.ref 135), some (.int v1), some (.int v2), none, none, none, none] [] (xL0, u) := by
  rw [f_X12_text] at h
  refine g_aload_n (pc := 0) dX12_text_0 rfl ?_
  refine g_iconst (pc := 1) dX12_text_1 ic_0 ?_
  refine g_pI (pc := 2) dX12_text_2 pI_RX12_150 xc_135 (u' := (wr u 135 0 (0 : Int32))) rfl ?_
  refine g_aload_n (pc := 5) dX12_text_5 rfl ?_
  refine g_gI (pc := 6) dX12_text_6 fI_RX12_256 xc_135 (v := (rd u 135 32)) rfl ?_
  refine g_istore_n (pc := 9) dX12_text_9 (Nat.le_of_ble_eq_true rfl) (L' := [some (.ref 135), some (.int v1), some (.int v2), some (.int (rd u 135 32)), none, none, none]) rfl ?_
  refine g_aload_n (pc := 10) dX12_text_10 rfl ?_
  refine g_iconst (pc := 11) dX12_text_11 ic_0 ?_
  refine g_pI (pc := 12) dX12_text_12 pI_RX12_256 xc_135 (u' := (wr (wr u 135 0 (0 : Int32)) 135 32 (0 : Int32))) rfl ?_
  refine g_iload_n (pc := 15) dX12_text_15 rfl ?_
  refine g_i2l (pc := 16) dX12_text_16 rfl ?_
  refine g_lconst (v := (0 : Int64)) (pc := 17) dX12_text_17 rfl ?_
  refine g_ldc2 (pc := 18) dX12_text_18 kl_RX12_318 ?_
  refine g_cS (pc := 21) dX12_text_21 cS_RX12_156 (M_X12_in (Nat.le_refl _) rfl) (as := [.long ((v1).toInt64), .long (0 : Int64), .long (2 : Int64)]) (st := []) rfl rfl (Nat.le_of_ble_eq_true rfl) (Nat.le_trans (Nat.le_of_ble_eq_true rfl) hd) rfl ?_
  refine g_if_eq (tgt := 57) (pc := 24) dX12_text_24 (by decide) (fun c1 => ?_) (fun c1 => ?_)
  · replace h := (if_pos c1).symm.trans h
    refine g_bipush (pc := 57) dX12_text_57 bp_m100 ?_
    cases h
    exact g_iret (pc := 59) dX12_text_59 rfl rfl rfl (Nat.le_refl _) (Nat.le_refl _)
  · replace h := (if_neg c1).symm.trans h
    refine g_iload_n (pc := 27) dX12_text_27 rfl ?_
    refine g_if_ne (tgt := 43) (pc := 28) dX12_text_28 (by decide) (fun c2 => ?_) (fun c2 => ?_)
    · replace h := (if_neg c2).symm.trans h
      exact G_X12_text_43 hd v1 v2 (rd u 135 32) (wr (wr u 135 0 (0 : Int32)) 135 32 (0 : Int32)) h
    · replace h := (if_pos c2).symm.trans h
      refine g_iload_n (pc := 31) dX12_text_31 rfl ?_
      refine g_i2l (pc := 32) dX12_text_32 rfl ?_
      refine g_lconst (v := (0 : Int64)) (pc := 33) dX12_text_33 rfl ?_
      refine g_ldc2 (pc := 34) dX12_text_34 kl_RX12_197 ?_
      refine g_cS (pc := 37) dX12_text_37 cS_RX12_156 (M_X12_in (Nat.le_refl _) rfl) (as := [.long ((v2).toInt64), .long (0 : Int64), .long (3 : Int64)]) (st := []) rfl rfl (Nat.le_of_ble_eq_true rfl) (Nat.le_trans (Nat.le_of_ble_eq_true rfl) hd) rfl ?_
      refine g_if_eq (tgt := 57) (pc := 40) dX12_text_40 (by decide) (fun c3 => ?_) (fun c3 => ?_)
      · replace h := (if_pos c3).symm.trans h
        refine g_bipush (pc := 57) dX12_text_57 bp_m100 ?_
        cases h
        exact g_iret (pc := 59) dX12_text_59 rfl rfl rfl (Nat.le_refl _) (Nat.le_refl _)
      · replace h := (if_neg c3).symm.trans h
        exact G_X12_text_43 hd v1 v2 (rd u 135 32) (wr (wr u 135 0 (0 : Int32)) 135 32 (0 : Int32)) h
set_option maxRecDepth 100000 in
set_option maxHeartbeats 4000000 in
theorem M_X12_text {sc : Nat × (Nat → Int32)} {d : Nat} (hd : 607 ≤ d) {r : Int32} {u u' : xS} {a1 : Int32} {a2 : Int32} (h : f_X12_text a1 a2 u = some (r, u')) : xMt sc mX12_text d 0 0 [.ref 135, .int a1, .int a2] (xL0, u) (some (.int r)) (xL0, u') :=
  xMt.of (by decide +kernel) (Nat.le_of_ble_eq_true rfl) (L := [some (.ref 135), some (.int a1), some (.int a2), none, none, none, none]) rfl ((G_X12_text_0 hd a1 a2 u h))
set_option maxRecDepth 100000 in
set_option maxHeartbeats 4000000 in
theorem G_X12_thrown_0 {sc : Nat × (Nat → Int32)} {d : Nat} (hd : 0 ≤ d) {r : Int32} {u : xS} (h : f_X12_thrown u = r) : xG sc mX12_thrown d 0 0 (xR (some (.int r)) (xL0, u) 0 0) 0 0 0 [some (.ref 135)] [] (xL0, u) := by
  rw [f_X12_thrown] at h
  refine g_aload_n (pc := 0) dX12_thrown_0 rfl ?_
  refine g_gI (pc := 1) dX12_thrown_1 fI_RX12_150 xc_135 (v := (rd u 135 0)) rfl ?_
  subst h
  exact g_iret (pc := 4) dX12_thrown_4 rfl rfl rfl (Nat.le_refl _) (Nat.le_refl _)
set_option maxRecDepth 100000 in
set_option maxHeartbeats 4000000 in
theorem M_X12_thrown {sc : Nat × (Nat → Int32)} {d : Nat} (hd : 0 ≤ d) {r : Int32} {u : xS} (h : f_X12_thrown u = r) : xMt sc mX12_thrown d 0 0 [.ref 135] (xL0, u) (some (.int r)) (xL0, u) :=
  xMt.of (by decide +kernel) (Nat.le_of_ble_eq_true rfl) (L := [some (.ref 135)]) rfl ((G_X12_thrown_0 hd h))
set_option maxRecDepth 100000 in
set_option maxHeartbeats 4000000 in
theorem G_X12_twice_0 {sc : Nat × (Nat → Int32)} {d : Nat} (hd : 2 ≤ d) {r : Int32} {u' : xS} (v1 : Int32) (v2 : Int32) (v3 : Int32) (v4 : Int32) (u : xS) (h : f_X12_twice v1 v2 v3 v4 u = some (r, u')) : xG sc mX12_twice d 0 0 (xR (some (.int r)) (xL0, u') 0 0) 0 0 0 [some (.ref 135), some (.int v1), some (.int v2), some (.int v3), some (.int v4)] [] (xL0, u) := by
  rw [f_X12_twice] at h
  refine g_aload_n (pc := 0) dX12_twice_0 rfl ?_
  refine g_iconst (pc := 1) dX12_twice_1 ic_0 ?_
  refine g_pI (pc := 2) dX12_twice_2 pI_RX12_150 xc_135 (u' := (wr u 135 0 (0 : Int32))) rfl ?_
  refine g_iload_n (pc := 5) dX12_twice_5 rfl ?_
  refine g_cS (pc := 6) dX12_twice_6 cS_RX12_208 (M_X12_isSorter (Nat.le_refl _) rfl) (as := [.int v1]) (st := []) rfl rfl (Nat.le_of_ble_eq_true rfl) (Nat.le_trans (Nat.le_of_ble_eq_true rfl) hd) rfl ?_
  refine g_if_eq (tgt := 50) (pc := 9) dX12_twice_9 (by decide) (fun c1 => ?_) (fun c1 => ?_)
  · replace h := (if_pos c1).symm.trans h
    refine g_iconst (pc := 50) dX12_twice_50 ic_m1 ?_
    cases h
    exact g_iret (pc := 51) dX12_twice_51 rfl rfl rfl (Nat.le_refl _) (Nat.le_refl _)
  · replace h := (if_neg c1).symm.trans h
    refine g_iload_n (pc := 12) dX12_twice_12 rfl ?_
    refine g_cS (pc := 13) dX12_twice_13 cS_RX12_208 (M_X12_isSorter (Nat.le_refl _) rfl) (as := [.int v3]) (st := []) rfl rfl (Nat.le_of_ble_eq_true rfl) (Nat.le_trans (Nat.le_of_ble_eq_true rfl) hd) rfl ?_
    refine g_if_eq (tgt := 50) (pc := 16) dX12_twice_16 (by decide) (fun c2 => ?_) (fun c2 => ?_)
    · replace h := (if_pos c2).symm.trans h
      refine g_iconst (pc := 50) dX12_twice_50 ic_m1 ?_
      cases h
      exact g_iret (pc := 51) dX12_twice_51 rfl rfl rfl (Nat.le_refl _) (Nat.le_refl _)
    · replace h := (if_neg c2).symm.trans h
      refine g_iload_n (pc := 19) dX12_twice_19 rfl ?_
      refine g_iload_n (pc := 20) dX12_twice_20 rfl ?_
      refine g_icmp_eq (tgt := 50) (pc := 21) dX12_twice_21 (by decide) (fun c3 => ?_) (fun c3 => ?_)
      · replace h := (if_pos c3).symm.trans h
        refine g_iconst (pc := 50) dX12_twice_50 ic_m1 ?_
        cases h
        exact g_iret (pc := 51) dX12_twice_51 rfl rfl rfl (Nat.le_refl _) (Nat.le_refl _)
      · replace h := (if_neg c3).symm.trans h
        refine g_aload_n (pc := 24) dX12_twice_24 rfl ?_
        refine g_iload_n (pc := 25) dX12_twice_25 rfl ?_
        refine g_cV (pc := 26) dX12_twice_26 cV_RX12_166 (M_X12_isSort (Nat.le_refl _) rfl) xc_135 (as := [.int v2]) (st := []) rfl rfl (Nat.le_of_ble_eq_true rfl) (Nat.le_trans (Nat.le_of_ble_eq_true rfl) hd) rfl ?_
        refine g_if_eq (tgt := 50) (pc := 29) dX12_twice_29 (by decide) (fun c4 => ?_) (fun c4 => ?_)
        · replace h := (if_pos c4).symm.trans h
          refine g_iconst (pc := 50) dX12_twice_50 ic_m1 ?_
          cases h
          exact g_iret (pc := 51) dX12_twice_51 rfl rfl rfl (Nat.le_refl _) (Nat.le_refl _)
        · replace h := (if_neg c4).symm.trans h
          refine g_aload_n (pc := 32) dX12_twice_32 rfl ?_
          refine g_iload (pc := 33) dX12_twice_33 rfl ?_
          refine g_cV (pc := 35) dX12_twice_35 cV_RX12_166 (M_X12_isSort (Nat.le_refl _) rfl) xc_135 (as := [.int v4]) (st := []) rfl rfl (Nat.le_of_ble_eq_true rfl) (Nat.le_trans (Nat.le_of_ble_eq_true rfl) hd) rfl ?_
          refine g_if_eq (tgt := 50) (pc := 38) dX12_twice_38 (by decide) (fun c5 => ?_) (fun c5 => ?_)
          · replace h := (if_pos c5).symm.trans h
            refine g_iconst (pc := 50) dX12_twice_50 ic_m1 ?_
            cases h
            exact g_iret (pc := 51) dX12_twice_51 rfl rfl rfl (Nat.le_refl _) (Nat.le_refl _)
          · replace h := (if_neg c5).symm.trans h
            refine g_aload_n (pc := 41) dX12_twice_41 rfl ?_
            refine g_gI (pc := 42) dX12_twice_42 fI_RX12_409 xc_135 (v := (rd u 135 46)) rfl ?_
            refine g_bipush (pc := 45) dX12_twice_45 bp_99 ?_
            refine g_icmp_ne (tgt := 52) (pc := 47) dX12_twice_47 (by decide) (fun c6 => ?_) (fun c6 => ?_)
            · replace h := (if_neg c6).symm.trans h
              refine g_aload_n (pc := 52) dX12_twice_52 rfl ?_
              refine g_gR (pc := 53) dX12_twice_53 fR_RX12_108 xc_135 (v := 167) rfl ?_
              refine g_aload_n (pc := 56) dX12_twice_56 rfl ?_
              refine g_gI (pc := 57) dX12_twice_57 fI_RX12_409 xc_135 (v := (rd u 135 46)) rfl ?_
              refine g_iload_n (pc := 60) dX12_twice_60 rfl ?_
              obtain ⟨g7, h⟩ := x_gd h
              refine g_iastore (pc := 61) dX12_twice_61 xc_167 (xin_of g7) (u' := (wr (wr u 135 0 (0 : Int32)) 167 (rd u 135 46).toNatClampNeg v1)) rfl ?_
              refine g_aload_n (pc := 62) dX12_twice_62 rfl ?_
              refine g_gR (pc := 63) dX12_twice_63 fR_RX12_114 xc_135 (v := 169) rfl ?_
              refine g_aload_n (pc := 66) dX12_twice_66 rfl ?_
              refine g_gI (pc := 67) dX12_twice_67 fI_RX12_409 xc_135 (v := (rd u 135 46)) rfl ?_
              refine g_iload_n (pc := 70) dX12_twice_70 rfl ?_
              refine g_iastore (pc := 71) dX12_twice_71 xc_169 (xin_of g7) (u' := (wr (wr (wr u 135 0 (0 : Int32)) 167 (rd u 135 46).toNatClampNeg v1) 169 (rd u 135 46).toNatClampNeg v2)) rfl ?_
              refine g_aload_n (pc := 72) dX12_twice_72 rfl ?_
              refine g_gR (pc := 73) dX12_twice_73 fR_RX12_111 xc_135 (v := 168) rfl ?_
              refine g_aload_n (pc := 76) dX12_twice_76 rfl ?_
              refine g_gI (pc := 77) dX12_twice_77 fI_RX12_409 xc_135 (v := (rd u 135 46)) rfl ?_
              refine g_iload_n (pc := 80) dX12_twice_80 rfl ?_
              refine g_iastore (pc := 81) dX12_twice_81 xc_168 (xin_of g7) (u' := (wr (wr (wr (wr u 135 0 (0 : Int32)) 167 (rd u 135 46).toNatClampNeg v1) 169 (rd u 135 46).toNatClampNeg v2) 168 (rd u 135 46).toNatClampNeg v3)) rfl ?_
              refine g_aload_n (pc := 82) dX12_twice_82 rfl ?_
              refine g_gR (pc := 83) dX12_twice_83 fR_RX12_117 xc_135 (v := 170) rfl ?_
              refine g_aload_n (pc := 86) dX12_twice_86 rfl ?_
              refine g_gI (pc := 87) dX12_twice_87 fI_RX12_409 xc_135 (v := (rd u 135 46)) rfl ?_
              refine g_iload (pc := 90) dX12_twice_90 rfl ?_
              refine g_iastore (pc := 92) dX12_twice_92 xc_170 (xin_of g7) (u' := (wr (wr (wr (wr (wr u 135 0 (0 : Int32)) 167 (rd u 135 46).toNatClampNeg v1) 169 (rd u 135 46).toNatClampNeg v2) 168 (rd u 135 46).toNatClampNeg v3) 170 (rd u 135 46).toNatClampNeg v4)) rfl ?_
              refine g_aload_n (pc := 93) dX12_twice_93 rfl ?_
              refine g_dup (pc := 94) dX12_twice_94 rfl ?_
              refine g_gI (pc := 95) dX12_twice_95 fI_RX12_409 xc_135 (v := (rd u 135 46)) rfl ?_
              refine g_iconst (pc := 98) dX12_twice_98 ic_1 ?_
              refine g_iadd (pc := 99) dX12_twice_99 rfl ?_
              refine g_pI (pc := 100) dX12_twice_100 pI_RX12_409 xc_135 (u' := (wr (wr (wr (wr (wr (wr u 135 0 (0 : Int32)) 167 (rd u 135 46).toNatClampNeg v1) 169 (rd u 135 46).toNatClampNeg v2) 168 (rd u 135 46).toNatClampNeg v3) 170 (rd u 135 46).toNatClampNeg v4) 135 46 ((rd u 135 46) + (1 : Int32)))) rfl ?_
              refine g_aload_n (pc := 103) dX12_twice_103 rfl ?_
              refine g_gI (pc := 104) dX12_twice_104 fI_RX12_409 xc_135 (v := ((rd u 135 46) + (1 : Int32))) rfl ?_
              cases h
              exact g_iret (pc := 107) dX12_twice_107 rfl rfl rfl (Nat.le_refl _) (Nat.le_refl _)
            · replace h := (if_pos c6).symm.trans h
              refine g_iconst (pc := 50) dX12_twice_50 ic_m1 ?_
              cases h
              exact g_iret (pc := 51) dX12_twice_51 rfl rfl rfl (Nat.le_refl _) (Nat.le_refl _)
set_option maxRecDepth 100000 in
set_option maxHeartbeats 4000000 in
theorem M_X12_twice {sc : Nat × (Nat → Int32)} {d : Nat} (hd : 2 ≤ d) {r : Int32} {u u' : xS} {a1 : Int32} {a2 : Int32} {a3 : Int32} {a4 : Int32} (h : f_X12_twice a1 a2 a3 a4 u = some (r, u')) : xMt sc mX12_twice d 0 0 [.ref 135, .int a1, .int a2, .int a3, .int a4] (xL0, u) (some (.int r)) (xL0, u') :=
  xMt.of (by decide +kernel) (Nat.le_of_ble_eq_true rfl) (L := [some (.ref 135), some (.int a1), some (.int a2), some (.int a3), some (.int a4)]) rfl ((G_X12_twice_0 hd a1 a2 a3 a4 u h))
set_option maxRecDepth 100000 in
set_option maxHeartbeats 4000000 in
theorem G_X12_wipe_0 {sc : Nat × (Nat → Int32)} {d : Nat} (hd : 2 ≤ d) {r : Int32} {u' : xS} (v1 : Int32) (v2 : Int32) (v3 : Int32) (u : xS) (h : f_X12_wipe v1 v2 v3 u = some (r, u')) : xG sc mX12_wipe d 0 0 (xR (some (.int r)) (xL0, u') 0 0) 0 0 0 [some (.ref 135), some (.int v1), some (.int v2), some (.int v3)] [] (xL0, u) := by
  rw [f_X12_wipe] at h
  refine g_aload_n (pc := 0) dX12_wipe_0 rfl ?_
  refine g_iconst (pc := 1) dX12_wipe_1 ic_0 ?_
  refine g_pI (pc := 2) dX12_wipe_2 pI_RX12_150 xc_135 (u' := (wr u 135 0 (0 : Int32))) rfl ?_
  refine g_aload_n (pc := 5) dX12_wipe_5 rfl ?_
  refine g_iload_n (pc := 6) dX12_wipe_6 rfl ?_
  refine g_cV (pc := 7) dX12_wipe_7 cV_RX12_166 (M_X12_isSort (Nat.le_refl _) rfl) xc_135 (as := [.int v1]) (st := []) rfl rfl (Nat.le_of_ble_eq_true rfl) (Nat.le_trans (Nat.le_of_ble_eq_true rfl) hd) rfl ?_
  refine g_if_eq (tgt := 46) (pc := 10) dX12_wipe_10 (by decide) (fun c1 => ?_) (fun c1 => ?_)
  · replace h := (if_pos c1).symm.trans h
    refine g_iconst (pc := 46) dX12_wipe_46 ic_m1 ?_
    cases h
    exact g_iret (pc := 47) dX12_wipe_47 rfl rfl rfl (Nat.le_refl _) (Nat.le_refl _)
  · replace h := (if_neg c1).symm.trans h
    refine g_iload_n (pc := 13) dX12_wipe_13 rfl ?_
    refine g_i2l (pc := 14) dX12_wipe_14 rfl ?_
    refine g_lconst (v := (1 : Int64)) (pc := 15) dX12_wipe_15 rfl ?_
    refine g_ldc2 (pc := 16) dX12_wipe_16 kl_RX12_201 ?_
    refine g_cS (pc := 19) dX12_wipe_19 cS_RX12_156 (M_X12_in (Nat.le_refl _) rfl) (as := [.long ((v2).toInt64), .long (1 : Int64), .long (9999 : Int64)]) (st := []) rfl rfl (Nat.le_of_ble_eq_true rfl) (Nat.le_trans (Nat.le_of_ble_eq_true rfl) hd) rfl ?_
    refine g_if_eq (tgt := 46) (pc := 22) dX12_wipe_22 (by decide) (fun c2 => ?_) (fun c2 => ?_)
    · replace h := (if_pos c2).symm.trans h
      refine g_iconst (pc := 46) dX12_wipe_46 ic_m1 ?_
      cases h
      exact g_iret (pc := 47) dX12_wipe_47 rfl rfl rfl (Nat.le_refl _) (Nat.le_refl _)
    · replace h := (if_neg c2).symm.trans h
      refine g_iload_n (pc := 25) dX12_wipe_25 rfl ?_
      refine g_i2l (pc := 26) dX12_wipe_26 rfl ?_
      refine g_lconst (v := (0 : Int64)) (pc := 27) dX12_wipe_27 rfl ?_
      refine g_ldc2 (pc := 28) dX12_wipe_28 kl_RX12_164 ?_
      refine g_cS (pc := 31) dX12_wipe_31 cS_RX12_156 (M_X12_in (Nat.le_refl _) rfl) (as := [.long ((v3).toInt64), .long (0 : Int64), .long (1000 : Int64)]) (st := []) rfl rfl (Nat.le_of_ble_eq_true rfl) (Nat.le_trans (Nat.le_of_ble_eq_true rfl) hd) rfl ?_
      refine g_if_eq (tgt := 46) (pc := 34) dX12_wipe_34 (by decide) (fun c3 => ?_) (fun c3 => ?_)
      · replace h := (if_pos c3).symm.trans h
        refine g_iconst (pc := 46) dX12_wipe_46 ic_m1 ?_
        cases h
        exact g_iret (pc := 47) dX12_wipe_47 rfl rfl rfl (Nat.le_refl _) (Nat.le_refl _)
      · replace h := (if_neg c3).symm.trans h
        refine g_aload_n (pc := 37) dX12_wipe_37 rfl ?_
        refine g_iload_n (pc := 38) dX12_wipe_38 rfl ?_
        obtain ⟨x5, e4, h⟩ := x_bind h
        refine g_cV (pc := 39) dX12_wipe_39 cV_RX12_340 (M_X12_stored (Nat.le_refl _) e4) xc_135 (as := [.int v1]) (st := []) rfl rfl (Nat.le_of_ble_eq_true rfl) (Nat.le_trans (Nat.le_of_ble_eq_true rfl) hd) rfl ?_
        refine g_iload_n (pc := 42) dX12_wipe_42 rfl ?_
        refine g_icmp_ge (tgt := 48) (pc := 43) dX12_wipe_43 (by decide) (fun c6 => ?_) (fun c6 => ?_)
        · replace h := (if_pos c6).symm.trans h
          refine g_aload_n (pc := 48) dX12_wipe_48 rfl ?_
          refine g_iload_n (pc := 49) dX12_wipe_49 rfl ?_
          refine g_iload_n (pc := 50) dX12_wipe_50 rfl ?_
          refine g_iconst (pc := 51) dX12_wipe_51 ic_m1 ?_
          obtain ⟨u8, e7, h⟩ := x_bind h
          refine g_cV (pc := 52) dX12_wipe_52 cV_RX12_343 (M_X12_takesOf (Nat.le_refl _) e7) xc_135 (as := [.int v1, .int v2, .int (-1 : Int32)]) (st := []) rfl rfl (Nat.le_of_ble_eq_true rfl) (Nat.le_trans (Nat.le_of_ble_eq_true rfl) hd) rfl ?_
          refine g_iload_n (pc := 55) dX12_wipe_55 rfl ?_
          refine g_iload_n (pc := 56) dX12_wipe_56 rfl ?_
          refine g_imul (pc := 57) dX12_wipe_57 rfl ?_
          refine g_sipush (pc := 58) dX12_wipe_58 sp_1000 ?_
          refine g_idiv (pc := 61) dX12_wipe_61 (by decide) rfl ?_
          cases h
          exact g_iret (pc := 62) dX12_wipe_62 rfl rfl rfl (Nat.le_refl _) (Nat.le_refl _)
        · replace h := (if_neg c6).symm.trans h
          refine g_iconst (pc := 46) dX12_wipe_46 ic_m1 ?_
          cases h
          exact g_iret (pc := 47) dX12_wipe_47 rfl rfl rfl (Nat.le_refl _) (Nat.le_refl _)
set_option maxRecDepth 100000 in
set_option maxHeartbeats 4000000 in
theorem M_X12_wipe {sc : Nat × (Nat → Int32)} {d : Nat} (hd : 2 ≤ d) {r : Int32} {u u' : xS} {a1 : Int32} {a2 : Int32} {a3 : Int32} (h : f_X12_wipe a1 a2 a3 u = some (r, u')) : xMt sc mX12_wipe d 0 0 [.ref 135, .int a1, .int a2, .int a3] (xL0, u) (some (.int r)) (xL0, u') :=
  xMt.of (by decide +kernel) (Nat.le_of_ble_eq_true rfl) (L := [some (.ref 135), some (.int a1), some (.int a2), some (.int a3)]) rfl ((G_X12_wipe_0 hd a1 a2 a3 u h))
set_option maxRecDepth 100000 in
set_option maxHeartbeats 4000000 in
theorem G_X12_wish_34 {sc : Nat × (Nat → Int32)} {d : Nat} (hd : 2 ≤ d) {r : Int32} {u' : xS} (u : xS) (h : f_X12_wish_34 u = some (r, u')) : xG sc mX12_wish d 0 0 (xR (some (.int r)) (xL0, u') 0 0) 0 0 34 [some (.ref 135), none, none, none, none] [] (xL0, u) := by
  rw [f_X12_wish_34] at h
  refine g_aload_n (pc := 34) dX12_wish_34 rfl ?_
  obtain ⟨⟨x2, u3⟩, e1, h⟩ := x_bind h
  dsimp only at h
  refine g_cV (pc := 35) dX12_wish_35 cV_RX12_347 (M_X12_refuse (Nat.le_refl _) e1) xc_135 (as := []) (st := []) rfl rfl (Nat.le_of_ble_eq_true rfl) (Nat.le_trans (Nat.le_of_ble_eq_true rfl) hd) rfl ?_
  cases h
  exact g_iret (pc := 38) dX12_wish_38 rfl rfl rfl (Nat.le_refl _) (Nat.le_refl _)
set_option maxRecDepth 100000 in
set_option maxHeartbeats 4000000 in
theorem G_X12_wish_0 {sc : Nat × (Nat → Int32)} {d : Nat} (hd : 2 ≤ d) {r : Int32} {u' : xS} (v1 : Int32) (v2 : Int32) (v3 : Int32) (u : xS) (h : f_X12_wish v1 v2 v3 u = some (r, u')) : xG sc mX12_wish d 0 0 (xR (some (.int r)) (xL0, u') 0 0) 0 0 0 [some (.ref 135), some (.int v1), some (.int v2), some (.int v3), none] [] (xL0, u) := by
  rw [f_X12_wish] at h
  refine g_aload_n (pc := 0) dX12_wish_0 rfl ?_
  refine g_iconst (pc := 1) dX12_wish_1 ic_0 ?_
  refine g_pI (pc := 2) dX12_wish_2 pI_RX12_150 xc_135 (u' := (wr u 135 0 (0 : Int32))) rfl ?_
  refine g_iload_n (pc := 5) dX12_wish_5 rfl ?_
  refine g_cS (pc := 6) dX12_wish_6 cS_RX12_415 (M_X12_isLand (Nat.le_refl _) rfl) (as := [.int v1]) (st := []) rfl rfl (Nat.le_of_ble_eq_true rfl) (Nat.le_trans (Nat.le_of_ble_eq_true rfl) hd) rfl ?_
  refine g_if_eq (tgt := 34) (pc := 9) dX12_wish_9 (by decide) (fun c1 => ?_) (fun c1 => ?_)
  · replace h := (if_pos c1).symm.trans h
    refine g_L (L' := [some (.ref 135), none, none, none, none]) ⟨rfl, trivial⟩ ?_
    exact G_X12_wish_34 hd (wr u 135 0 (0 : Int32)) h
  · replace h := (if_neg c1).symm.trans h
    refine g_aload_n (pc := 12) dX12_wish_12 rfl ?_
    refine g_iload_n (pc := 13) dX12_wish_13 rfl ?_
    refine g_cV (pc := 14) dX12_wish_14 cV_RX12_166 (M_X12_isSort (Nat.le_refl _) rfl) xc_135 (as := [.int v2]) (st := []) rfl rfl (Nat.le_of_ble_eq_true rfl) (Nat.le_trans (Nat.le_of_ble_eq_true rfl) hd) rfl ?_
    refine g_if_eq (tgt := 34) (pc := 17) dX12_wish_17 (by decide) (fun c2 => ?_) (fun c2 => ?_)
    · replace h := (if_pos c2).symm.trans h
      refine g_L (L' := [some (.ref 135), none, none, none, none]) ⟨rfl, trivial⟩ ?_
      exact G_X12_wish_34 hd (wr u 135 0 (0 : Int32)) h
    · replace h := (if_neg c2).symm.trans h
      refine g_iload_n (pc := 20) dX12_wish_20 rfl ?_
      refine g_i2l (pc := 21) dX12_wish_21 rfl ?_
      refine g_ldc2 (pc := 22) dX12_wish_22 kl_RX12_407 ?_
      refine g_ldc2 (pc := 25) dX12_wish_25 kl_RX12_173 ?_
      refine g_cS (pc := 28) dX12_wish_28 cS_RX12_156 (M_X12_in (Nat.le_refl _) rfl) (as := [.long ((v3).toInt64), .long (-1 : Int64), .long (999 : Int64)]) (st := []) rfl rfl (Nat.le_of_ble_eq_true rfl) (Nat.le_trans (Nat.le_of_ble_eq_true rfl) hd) rfl ?_
      refine g_if_ne (tgt := 39) (pc := 31) dX12_wish_31 (by decide) (fun c3 => ?_) (fun c3 => ?_)
      · replace h := (if_neg c3).symm.trans h
        refine g_aload_n (pc := 39) dX12_wish_39 rfl ?_
        refine g_gR (pc := 40) dX12_wish_40 fR_RX12_123 xc_135 (v := 172) rfl ?_
        refine g_bipush (pc := 43) dX12_wish_43 bp_16 ?_
        refine g_iload_n (pc := 45) dX12_wish_45 rfl ?_
        refine g_imul (pc := 46) dX12_wish_46 rfl ?_
        refine g_iload_n (pc := 47) dX12_wish_47 rfl ?_
        refine g_iadd (pc := 48) dX12_wish_48 rfl ?_
        obtain ⟨g4, h⟩ := x_gd h
        refine g_iaload (pc := 49) dX12_wish_49 xc_172 (xin_of g4) (v := (rd u 172 (((16 : Int32) * v1) + v2).toNatClampNeg)) rfl ?_
        refine g_istore (pc := 50) dX12_wish_50 (Nat.le_of_ble_eq_true rfl) (L' := [some (.ref 135), some (.int v1), some (.int v2), some (.int v3), some (.int (rd u 172 (((16 : Int32) * v1) + v2).toNatClampNeg))]) rfl ?_
        refine g_aload_n (pc := 52) dX12_wish_52 rfl ?_
        refine g_gR (pc := 53) dX12_wish_53 fR_RX12_123 xc_135 (v := 172) rfl ?_
        refine g_bipush (pc := 56) dX12_wish_56 bp_16 ?_
        refine g_iload_n (pc := 58) dX12_wish_58 rfl ?_
        refine g_imul (pc := 59) dX12_wish_59 rfl ?_
        refine g_iload_n (pc := 60) dX12_wish_60 rfl ?_
        refine g_iadd (pc := 61) dX12_wish_61 rfl ?_
        refine g_iload_n (pc := 62) dX12_wish_62 rfl ?_
        refine g_iastore (pc := 63) dX12_wish_63 xc_172 (xin_of g4) (u' := (wr (wr u 135 0 (0 : Int32)) 172 (((16 : Int32) * v1) + v2).toNatClampNeg v3)) rfl ?_
        refine g_iload (pc := 64) dX12_wish_64 rfl ?_
        cases h
        exact g_iret (pc := 66) dX12_wish_66 rfl rfl rfl (Nat.le_refl _) (Nat.le_refl _)
      · replace h := (if_pos c3).symm.trans h
        refine g_L (L' := [some (.ref 135), none, none, none, none]) ⟨rfl, trivial⟩ ?_
        exact G_X12_wish_34 hd (wr u 135 0 (0 : Int32)) h
set_option maxRecDepth 100000 in
set_option maxHeartbeats 4000000 in
theorem M_X12_wish {sc : Nat × (Nat → Int32)} {d : Nat} (hd : 2 ≤ d) {r : Int32} {u u' : xS} {a1 : Int32} {a2 : Int32} {a3 : Int32} (h : f_X12_wish a1 a2 a3 u = some (r, u')) : xMt sc mX12_wish d 0 0 [.ref 135, .int a1, .int a2, .int a3] (xL0, u) (some (.int r)) (xL0, u') :=
  xMt.of (by decide +kernel) (Nat.le_of_ble_eq_true rfl) (L := [some (.ref 135), some (.int a1), some (.int a2), some (.int a3), none]) rfl ((G_X12_wish_0 hd a1 a2 a3 u h))
set_option maxRecDepth 100000 in
set_option maxHeartbeats 4000000 in
theorem G_X12_within_0 {sc : Nat × (Nat → Int32)} {d : Nat} (hd : 2 ≤ d) {r : Int32} {u' : xS} (v1 : Int32) (v2 : Int32) (u : xS) (h : f_X12_within v1 v2 u = some (r, u')) : xG sc mX12_within d 0 0 (xR (some (.int r)) (xL0, u') 0 0) 0 0 0 [some (.ref 135), some (.int v1), some (.int v2)] [] (xL0, u) := by
  rw [f_X12_within] at h
  refine g_aload_n (pc := 0) dX12_within_0 rfl ?_
  refine g_iconst (pc := 1) dX12_within_1 ic_0 ?_
  refine g_pI (pc := 2) dX12_within_2 pI_RX12_150 xc_135 (u' := (wr u 135 0 (0 : Int32))) rfl ?_
  refine g_aload_n (pc := 5) dX12_within_5 rfl ?_
  refine g_iload_n (pc := 6) dX12_within_6 rfl ?_
  refine g_cV (pc := 7) dX12_within_7 cV_RX12_166 (M_X12_isSort (Nat.le_refl _) rfl) xc_135 (as := [.int v1]) (st := []) rfl rfl (Nat.le_of_ble_eq_true rfl) (Nat.le_trans (Nat.le_of_ble_eq_true rfl) hd) rfl ?_
  refine g_if_eq (tgt := 33) (pc := 10) dX12_within_10 (by decide) (fun c1 => ?_) (fun c1 => ?_)
  · replace h := (if_pos c1).symm.trans h
    refine g_iconst (pc := 33) dX12_within_33 ic_m1 ?_
    cases h
    exact g_iret (pc := 34) dX12_within_34 rfl rfl rfl (Nat.le_refl _) (Nat.le_refl _)
  · replace h := (if_neg c1).symm.trans h
    refine g_aload_n (pc := 13) dX12_within_13 rfl ?_
    refine g_iload_n (pc := 14) dX12_within_14 rfl ?_
    refine g_cV (pc := 15) dX12_within_15 cV_RX12_166 (M_X12_isSort (Nat.le_refl _) rfl) xc_135 (as := [.int v2]) (st := []) rfl rfl (Nat.le_of_ble_eq_true rfl) (Nat.le_trans (Nat.le_of_ble_eq_true rfl) hd) rfl ?_
    refine g_if_eq (tgt := 33) (pc := 18) dX12_within_18 (by decide) (fun c2 => ?_) (fun c2 => ?_)
    · replace h := (if_pos c2).symm.trans h
      refine g_iconst (pc := 33) dX12_within_33 ic_m1 ?_
      cases h
      exact g_iret (pc := 34) dX12_within_34 rfl rfl rfl (Nat.le_refl _) (Nat.le_refl _)
    · replace h := (if_neg c2).symm.trans h
      refine g_aload_n (pc := 21) dX12_within_21 rfl ?_
      refine g_iload_n (pc := 22) dX12_within_22 rfl ?_
      refine g_iload_n (pc := 23) dX12_within_23 rfl ?_
      obtain ⟨x4, e3, h⟩ := x_bind h
      refine g_cV (pc := 24) dX12_within_24 cV_RX12_186 (M_X12_isWithin (Nat.le_refl _) e3) xc_135 (as := [.int v1, .int v2]) (st := []) rfl rfl (Nat.le_of_ble_eq_true rfl) (Nat.le_trans (Nat.le_of_ble_eq_true rfl) hd) rfl ?_
      refine g_cS (pc := 27) dX12_within_27 cS_RX12_190 (M_X12_truth (Nat.le_refl _) rfl) (as := [.int x4]) (st := []) rfl rfl (Nat.le_of_ble_eq_true rfl) (Nat.le_trans (Nat.le_of_ble_eq_true rfl) hd) rfl ?_
      refine g_goto (tgt := 34) (pc := 30) dX12_within_30 (by decide) ?_
      cases h
      exact g_iret (pc := 34) dX12_within_34 rfl rfl rfl (Nat.le_refl _) (Nat.le_refl _)
set_option maxRecDepth 100000 in
set_option maxHeartbeats 4000000 in
theorem M_X12_within {sc : Nat × (Nat → Int32)} {d : Nat} (hd : 2 ≤ d) {r : Int32} {u u' : xS} {a1 : Int32} {a2 : Int32} (h : f_X12_within a1 a2 u = some (r, u')) : xMt sc mX12_within d 0 0 [.ref 135, .int a1, .int a2] (xL0, u) (some (.int r)) (xL0, u') :=
  xMt.of (by decide +kernel) (Nat.le_of_ble_eq_true rfl) (L := [some (.ref 135), some (.int a1), some (.int a2)]) rfl ((G_X12_within_0 hd a1 a2 u h))
set_option maxRecDepth 100000 in
set_option maxHeartbeats 4000000 in
theorem G_X0_add_0 {sc : Nat × (Nat → Int32)} {d : Nat} (hd : 0 ≤ d) {r : Int32} {u' : xS} (v1 : Int32) (v2 : Int32) (v3 : Int32) (v4 : Int32) (u : xS) (h : f_X0_add v1 v2 v3 v4 u = some (r, u')) : xG sc mX0_add d 0 0 (xR (some (.int r)) (xL0, u') 0 0) 0 0 0 [some (.ref 13), some (.int v1), some (.int v2), some (.int v3), some (.int v4)] [] (xL0, u) := by
  rw [f_X0_add] at h
  refine g_aload_n (pc := 0) dX0_add_0 rfl ?_
  refine g_gI (pc := 1) dX0_add_1 fI_RX0_38 xc_13 (v := (rd u 13 8)) rfl ?_
  refine g_bipush (pc := 4) dX0_add_4 bp_24 ?_
  refine g_icmp_lt (tgt := 11) (pc := 6) dX0_add_6 (by decide) (fun c1 => ?_) (fun c1 => ?_)
  · replace h := (if_pos c1).symm.trans h
    refine g_aload_n (pc := 11) dX0_add_11 rfl ?_
    refine g_gR (pc := 12) dX0_add_12 fR_RX0_9 xc_13 (v := 14) rfl ?_
    refine g_aload_n (pc := 15) dX0_add_15 rfl ?_
    refine g_gI (pc := 16) dX0_add_16 fI_RX0_38 xc_13 (v := (rd u 13 8)) rfl ?_
    refine g_iload_n (pc := 19) dX0_add_19 rfl ?_
    obtain ⟨g2, h⟩ := x_gd h
    refine g_iastore (pc := 20) dX0_add_20 xc_14 (xin_of g2) (u' := (wr u 14 (rd u 13 8).toNatClampNeg v1)) rfl ?_
    refine g_aload_n (pc := 21) dX0_add_21 rfl ?_
    refine g_gR (pc := 22) dX0_add_22 fR_RX0_15 xc_13 (v := 15) rfl ?_
    refine g_aload_n (pc := 25) dX0_add_25 rfl ?_
    refine g_gI (pc := 26) dX0_add_26 fI_RX0_38 xc_13 (v := (rd u 13 8)) rfl ?_
    refine g_iload_n (pc := 29) dX0_add_29 rfl ?_
    refine g_iastore (pc := 30) dX0_add_30 xc_15 (xin_of g2) (u' := (wr (wr u 14 (rd u 13 8).toNatClampNeg v1) 15 (rd u 13 8).toNatClampNeg v2)) rfl ?_
    refine g_aload_n (pc := 31) dX0_add_31 rfl ?_
    refine g_gR (pc := 32) dX0_add_32 fR_RX0_18 xc_13 (v := 16) rfl ?_
    refine g_aload_n (pc := 35) dX0_add_35 rfl ?_
    refine g_gI (pc := 36) dX0_add_36 fI_RX0_38 xc_13 (v := (rd u 13 8)) rfl ?_
    refine g_iload_n (pc := 39) dX0_add_39 rfl ?_
    refine g_iastore (pc := 40) dX0_add_40 xc_16 (xin_of g2) (u' := (wr (wr (wr u 14 (rd u 13 8).toNatClampNeg v1) 15 (rd u 13 8).toNatClampNeg v2) 16 (rd u 13 8).toNatClampNeg v3)) rfl ?_
    refine g_aload_n (pc := 41) dX0_add_41 rfl ?_
    refine g_gR (pc := 42) dX0_add_42 fR_RX0_21 xc_13 (v := 17) rfl ?_
    refine g_aload_n (pc := 45) dX0_add_45 rfl ?_
    refine g_gI (pc := 46) dX0_add_46 fI_RX0_38 xc_13 (v := (rd u 13 8)) rfl ?_
    refine g_iload (pc := 49) dX0_add_49 rfl ?_
    refine g_iastore (pc := 51) dX0_add_51 xc_17 (xin_of g2) (u' := (wr (wr (wr (wr u 14 (rd u 13 8).toNatClampNeg v1) 15 (rd u 13 8).toNatClampNeg v2) 16 (rd u 13 8).toNatClampNeg v3) 17 (rd u 13 8).toNatClampNeg v4)) rfl ?_
    refine g_aload_n (pc := 52) dX0_add_52 rfl ?_
    refine g_gR (pc := 53) dX0_add_53 fR_RX0_24 xc_13 (v := 18) rfl ?_
    refine g_aload_n (pc := 56) dX0_add_56 rfl ?_
    refine g_gI (pc := 57) dX0_add_57 fI_RX0_38 xc_13 (v := (rd u 13 8)) rfl ?_
    refine g_iconst (pc := 60) dX0_add_60 ic_m1 ?_
    refine g_iastore (pc := 61) dX0_add_61 xc_18 (xin_of g2) (u' := (wr (wr (wr (wr (wr u 14 (rd u 13 8).toNatClampNeg v1) 15 (rd u 13 8).toNatClampNeg v2) 16 (rd u 13 8).toNatClampNeg v3) 17 (rd u 13 8).toNatClampNeg v4) 18 (rd u 13 8).toNatClampNeg (-1 : Int32))) rfl ?_
    refine g_aload_n (pc := 62) dX0_add_62 rfl ?_
    refine g_gR (pc := 63) dX0_add_63 fR_RX0_27 xc_13 (v := 19) rfl ?_
    refine g_aload_n (pc := 66) dX0_add_66 rfl ?_
    refine g_gI (pc := 67) dX0_add_67 fI_RX0_38 xc_13 (v := (rd u 13 8)) rfl ?_
    refine g_iconst (pc := 70) dX0_add_70 ic_m1 ?_
    refine g_iastore (pc := 71) dX0_add_71 xc_19 (xin_of g2) (u' := (wr (wr (wr (wr (wr (wr u 14 (rd u 13 8).toNatClampNeg v1) 15 (rd u 13 8).toNatClampNeg v2) 16 (rd u 13 8).toNatClampNeg v3) 17 (rd u 13 8).toNatClampNeg v4) 18 (rd u 13 8).toNatClampNeg (-1 : Int32)) 19 (rd u 13 8).toNatClampNeg (-1 : Int32))) rfl ?_
    refine g_aload_n (pc := 72) dX0_add_72 rfl ?_
    refine g_dup (pc := 73) dX0_add_73 rfl ?_
    refine g_gI (pc := 74) dX0_add_74 fI_RX0_38 xc_13 (v := (rd u 13 8)) rfl ?_
    refine g_dup_x1 (pc := 77) dX0_add_77 rfl rfl ?_
    refine g_iconst (pc := 78) dX0_add_78 ic_1 ?_
    refine g_iadd (pc := 79) dX0_add_79 rfl ?_
    refine g_pI (pc := 80) dX0_add_80 pI_RX0_38 xc_13 (u' := (wr (wr (wr (wr (wr (wr (wr u 14 (rd u 13 8).toNatClampNeg v1) 15 (rd u 13 8).toNatClampNeg v2) 16 (rd u 13 8).toNatClampNeg v3) 17 (rd u 13 8).toNatClampNeg v4) 18 (rd u 13 8).toNatClampNeg (-1 : Int32)) 19 (rd u 13 8).toNatClampNeg (-1 : Int32)) 13 8 ((rd u 13 8) + (1 : Int32)))) rfl ?_
    cases h
    exact g_iret (pc := 83) dX0_add_83 rfl rfl rfl (Nat.le_refl _) (Nat.le_refl _)
  · replace h := (if_neg c1).symm.trans h
    refine g_iconst (pc := 9) dX0_add_9 ic_m1 ?_
    cases h
    exact g_iret (pc := 10) dX0_add_10 rfl rfl rfl (Nat.le_refl _) (Nat.le_refl _)
set_option maxRecDepth 100000 in
set_option maxHeartbeats 4000000 in
theorem M_X0_add {sc : Nat × (Nat → Int32)} {d : Nat} (hd : 0 ≤ d) {r : Int32} {u u' : xS} {a1 : Int32} {a2 : Int32} {a3 : Int32} {a4 : Int32} (h : f_X0_add a1 a2 a3 a4 u = some (r, u')) : xMt sc mX0_add d 0 0 [.ref 13, .int a1, .int a2, .int a3, .int a4] (xL0, u) (some (.int r)) (xL0, u') :=
  xMt.of (by decide +kernel) (Nat.le_of_ble_eq_true rfl) (L := [some (.ref 13), some (.int a1), some (.int a2), some (.int a3), some (.int a4)]) rfl ((G_X0_add_0 hd a1 a2 a3 a4 u h))
set_option maxRecDepth 100000 in
set_option maxHeartbeats 4000000 in
theorem G_X0_everOf_4 {sc : Nat × (Nat → Int32)} {d : Nat} (hd : 0 ≤ d) {r : Int32} {u : xS} : ∀ (n : Nat) (v1 : Int32) (v2 : Int32) (v3 : Int32), f_X0_everOf_4 u n v1 v2 v3 = some r → xG sc mX0_everOf d 0 0 (xR (some (.int r)) (xL0, u) 0 0) 0 0 4 [some (.ref 13), some (.int v1), some (.int v2), some (.int v3)] [] (xL0, u) := by
  intro n
  induction n with
  | zero =>
    intro v1 v2 v3 h
    rw [f_X0_everOf_4] at h
    cases h
  | succ n ih =>
    intro v1 v2 v3 h
    rw [f_X0_everOf_4] at h
    refine g_iload_n (pc := 4) dX0_everOf_4 rfl ?_
    refine g_aload_n (pc := 5) dX0_everOf_5 rfl ?_
    refine g_gI (pc := 6) dX0_everOf_6 fI_RX0_38 xc_13 (v := (rd u 13 8)) rfl ?_
    refine g_icmp_ge (tgt := 29) (pc := 9) dX0_everOf_9 (by decide) (fun c1 => ?_) (fun c1 => ?_)
    · replace h := (if_pos c1).symm.trans h
      refine g_iload_n (pc := 29) dX0_everOf_29 rfl ?_
      cases h
      exact g_iret (pc := 30) dX0_everOf_30 rfl rfl rfl (Nat.le_refl _) (Nat.le_refl _)
    · replace h := (if_neg c1).symm.trans h
      refine g_iload_n (pc := 12) dX0_everOf_12 rfl ?_
      refine g_aload_n (pc := 13) dX0_everOf_13 rfl ?_
      refine g_gR (pc := 14) dX0_everOf_14 fR_RX0_35 xc_13 (v := 21) rfl ?_
      refine g_iload_n (pc := 17) dX0_everOf_17 rfl ?_
      obtain ⟨g2, h⟩ := x_gd h
      refine g_aaload (pc := 18) dX0_everOf_18 xc_21 (xin_of g2) (v := (22 + v3.toNatClampNeg)) (xrf_21 _ (xin_lt g2)) ?_
      refine g_iload_n (pc := 19) dX0_everOf_19 rfl ?_
      obtain ⟨g3, h⟩ := x_gd h
      refine g_iaload (pc := 20) dX0_everOf_20 (xrow_21 _ (xin_lt g2)) (xin_of g3) (v := (rd u (22 + v3.toNatClampNeg) v1.toNatClampNeg)) rfl ?_
      refine g_iadd (pc := 21) dX0_everOf_21 rfl ?_
      refine g_istore_n (pc := 22) dX0_everOf_22 (Nat.le_of_ble_eq_true rfl) (L' := [some (.ref 13), some (.int v1), some (.int (v2 + (rd u (22 + v3.toNatClampNeg) v1.toNatClampNeg))), some (.int v3)]) rfl ?_
      refine g_inc (pc := 23) dX0_everOf_23 (Nat.le_of_ble_eq_true rfl) rfl ic_1 (L' := [some (.ref 13), some (.int v1), some (.int (v2 + (rd u (22 + v3.toNatClampNeg) v1.toNatClampNeg))), some (.int (v3 + (1 : Int32)))]) rfl ?_
      refine g_goto (tgt := 4) (pc := 26) dX0_everOf_26 (by decide) ?_
      exact ih v1 (v2 + (rd u (22 + v3.toNatClampNeg) v1.toNatClampNeg)) (v3 + (1 : Int32)) h
set_option maxRecDepth 100000 in
set_option maxHeartbeats 4000000 in
theorem G_X0_everOf_0 {sc : Nat × (Nat → Int32)} {d : Nat} (hd : 0 ≤ d) {r : Int32} {u : xS} (v1 : Int32) (h : f_X0_everOf u v1 = some r) : xG sc mX0_everOf d 0 0 (xR (some (.int r)) (xL0, u) 0 0) 0 0 0 [some (.ref 13), some (.int v1), none, none] [] (xL0, u) := by
  rw [f_X0_everOf] at h
  refine g_iconst (pc := 0) dX0_everOf_0 ic_0 ?_
  refine g_istore_n (pc := 1) dX0_everOf_1 (Nat.le_of_ble_eq_true rfl) (L' := [some (.ref 13), some (.int v1), some (.int (0 : Int32)), none]) rfl ?_
  refine g_iconst (pc := 2) dX0_everOf_2 ic_0 ?_
  refine g_istore_n (pc := 3) dX0_everOf_3 (Nat.le_of_ble_eq_true rfl) (L' := [some (.ref 13), some (.int v1), some (.int (0 : Int32)), some (.int (0 : Int32))]) rfl ?_
  exact G_X0_everOf_4 hd xN v1 (0 : Int32) (0 : Int32) h
set_option maxRecDepth 100000 in
set_option maxHeartbeats 4000000 in
theorem M_X0_everOf {sc : Nat × (Nat → Int32)} {d : Nat} (hd : 0 ≤ d) {r : Int32} {u : xS} {a1 : Int32} (h : f_X0_everOf u a1 = some r) : xMt sc mX0_everOf d 0 0 [.ref 13, .int a1] (xL0, u) (some (.int r)) (xL0, u) :=
  xMt.of (by decide +kernel) (Nat.le_of_ble_eq_true rfl) (L := [some (.ref 13), some (.int a1), none, none]) rfl ((G_X0_everOf_0 hd a1 h))
theorem zb_X0_has (u : xS) (v1 : Int32) : f_X0_has u v1 = 0 ∨ f_X0_has u v1 = 1 := by
  unfold f_X0_has
  (repeat' split) <;> first | exact Or.inl rfl | exact Or.inr rfl
set_option maxRecDepth 100000 in
set_option maxHeartbeats 4000000 in
theorem G_X0_has_0 {sc : Nat × (Nat → Int32)} {d : Nat} (hd : 0 ≤ d) {r : Int32} {u : xS} (v1 : Int32) (h : f_X0_has u v1 = r) : xG sc mX0_has d 0 0 (xR (some (.int r)) (xL0, u) 0 0) 0 0 0 [some (.ref 13), some (.int v1)] [] (xL0, u) := by
  rw [f_X0_has] at h
  refine g_iload_n (pc := 0) dX0_has_0 rfl ?_
  refine g_if_lt (tgt := 16) (pc := 1) dX0_has_1 (by decide) (fun c1 => ?_) (fun c1 => ?_)
  · replace h := (if_pos c1).symm.trans h
    refine g_iconst (pc := 16) dX0_has_16 ic_0 ?_
    subst h
    exact g_zret (pc := 17) dX0_has_17 rfl (Or.inl rfl) rfl rfl (Nat.le_refl _) (Nat.le_refl _)
  · replace h := (if_neg c1).symm.trans h
    refine g_iload_n (pc := 4) dX0_has_4 rfl ?_
    refine g_aload_n (pc := 5) dX0_has_5 rfl ?_
    refine g_gI (pc := 6) dX0_has_6 fI_RX0_38 xc_13 (v := (rd u 13 8)) rfl ?_
    refine g_icmp_ge (tgt := 16) (pc := 9) dX0_has_9 (by decide) (fun c2 => ?_) (fun c2 => ?_)
    · replace h := (if_pos c2).symm.trans h
      refine g_iconst (pc := 16) dX0_has_16 ic_0 ?_
      subst h
      exact g_zret (pc := 17) dX0_has_17 rfl (Or.inl rfl) rfl rfl (Nat.le_refl _) (Nat.le_refl _)
    · replace h := (if_neg c2).symm.trans h
      refine g_iconst (pc := 12) dX0_has_12 ic_1 ?_
      refine g_goto (tgt := 17) (pc := 13) dX0_has_13 (by decide) ?_
      subst h
      exact g_zret (pc := 17) dX0_has_17 rfl (Or.inr rfl) rfl rfl (Nat.le_refl _) (Nat.le_refl _)
set_option maxRecDepth 100000 in
set_option maxHeartbeats 4000000 in
theorem M_X0_has {sc : Nat × (Nat → Int32)} {d : Nat} (hd : 0 ≤ d) {r : Int32} {u : xS} {a1 : Int32} (h : f_X0_has u a1 = r) : xMt sc mX0_has d 0 0 [.ref 13, .int a1] (xL0, u) (some (.int r)) (xL0, u) :=
  xMt.of (by decide +kernel) (Nat.le_of_ble_eq_true rfl) (L := [some (.ref 13), some (.int a1)]) rfl ((G_X0_has_0 hd a1 h))
set_option maxRecDepth 100000 in
set_option maxHeartbeats 4000000 in
theorem G_X0_isSorted_0 {sc : Nat × (Nat → Int32)} {d : Nat} (hd : 1 ≤ d) {r : Int32} {u : xS} (v1 : Int32) (h : f_X0_isSorted u v1 = some r) : xG sc mX0_isSorted d 0 0 (xR (some (.int r)) (xL0, u) 0 0) 0 0 0 [some (.ref 13), some (.int v1)] [] (xL0, u) := by
  rw [f_X0_isSorted] at h
  refine g_aload_n (pc := 0) dX0_isSorted_0 rfl ?_
  refine g_iload_n (pc := 1) dX0_isSorted_1 rfl ?_
  refine g_cV (pc := 2) dX0_isSorted_2 cV_RX0_42 (M_X0_has (Nat.le_refl _) rfl) xc_13 (as := [.int v1]) (st := []) rfl rfl (Nat.le_of_ble_eq_true rfl) (Nat.le_trans (Nat.le_of_ble_eq_true rfl) hd) rfl ?_
  refine g_if_eq (tgt := 22) (pc := 5) dX0_isSorted_5 (by decide) (fun c1 => ?_) (fun c1 => ?_)
  · replace h := (if_pos c1).symm.trans h
    refine g_iconst (pc := 22) dX0_isSorted_22 ic_0 ?_
    cases h
    exact g_zret (pc := 23) dX0_isSorted_23 rfl (Or.inl rfl) rfl rfl (Nat.le_refl _) (Nat.le_refl _)
  · replace h := (if_neg c1).symm.trans h
    refine g_aload_n (pc := 8) dX0_isSorted_8 rfl ?_
    refine g_gR (pc := 9) dX0_isSorted_9 fR_RX0_24 xc_13 (v := 18) rfl ?_
    refine g_iload_n (pc := 12) dX0_isSorted_12 rfl ?_
    obtain ⟨g2, h⟩ := x_gd h
    refine g_iaload (pc := 13) dX0_isSorted_13 xc_18 (xin_of g2) (v := (rd u 18 v1.toNatClampNeg)) rfl ?_
    refine g_iconst (pc := 14) dX0_isSorted_14 ic_m1 ?_
    refine g_icmp_eq (tgt := 22) (pc := 15) dX0_isSorted_15 (by decide) (fun c3 => ?_) (fun c3 => ?_)
    · replace h := (if_pos c3).symm.trans h
      refine g_iconst (pc := 22) dX0_isSorted_22 ic_0 ?_
      cases h
      exact g_zret (pc := 23) dX0_isSorted_23 rfl (Or.inl rfl) rfl rfl (Nat.le_refl _) (Nat.le_refl _)
    · replace h := (if_neg c3).symm.trans h
      refine g_iconst (pc := 18) dX0_isSorted_18 ic_1 ?_
      refine g_goto (tgt := 23) (pc := 19) dX0_isSorted_19 (by decide) ?_
      cases h
      exact g_zret (pc := 23) dX0_isSorted_23 rfl (Or.inr rfl) rfl rfl (Nat.le_refl _) (Nat.le_refl _)
set_option maxRecDepth 100000 in
set_option maxHeartbeats 4000000 in
theorem M_X0_isSorted {sc : Nat × (Nat → Int32)} {d : Nat} (hd : 1 ≤ d) {r : Int32} {u : xS} {a1 : Int32} (h : f_X0_isSorted u a1 = some r) : xMt sc mX0_isSorted d 0 0 [.ref 13, .int a1] (xL0, u) (some (.int r)) (xL0, u) :=
  xMt.of (by decide +kernel) (Nat.le_of_ble_eq_true rfl) (L := [some (.ref 13), some (.int a1)]) rfl ((G_X0_isSorted_0 hd a1 h))
theorem zb_X11_lies (v0 : Int32) (v1 : Int32) (v2 : Int32) : f_X11_lies v0 v1 v2 = 0 ∨ f_X11_lies v0 v1 v2 = 1 := by
  unfold f_X11_lies
  (repeat' split) <;> first | exact Or.inl rfl | exact Or.inr rfl
set_option maxRecDepth 100000 in
set_option maxHeartbeats 4000000 in
theorem G_X11_lies_0 {sc : Nat × (Nat → Int32)} {d : Nat} (hd : 0 ≤ d) {r : Int32} {u : xS} (v0 : Int32) (v1 : Int32) (v2 : Int32) (h : f_X11_lies v0 v1 v2 = r) : xG sc mX11_lies d 0 0 (xR (some (.int r)) (xL0, u) 0 0) 0 0 0 [some (.int v0), some (.int v1), some (.int v2)] [] (xL0, u) := by
  rw [f_X11_lies] at h
  refine g_iload_n (pc := 0) dX11_lies_0 rfl ?_
  refine g_iload_n (pc := 1) dX11_lies_1 rfl ?_
  refine g_icmp_lt (tgt := 14) (pc := 2) dX11_lies_2 (by decide) (fun c1 => ?_) (fun c1 => ?_)
  · replace h := (if_pos c1).symm.trans h
    refine g_iconst (pc := 14) dX11_lies_14 ic_0 ?_
    subst h
    exact g_zret (pc := 15) dX11_lies_15 rfl (Or.inl rfl) rfl rfl (Nat.le_refl _) (Nat.le_refl _)
  · replace h := (if_neg c1).symm.trans h
    refine g_iload_n (pc := 5) dX11_lies_5 rfl ?_
    refine g_iload_n (pc := 6) dX11_lies_6 rfl ?_
    refine g_icmp_gt (tgt := 14) (pc := 7) dX11_lies_7 (by decide) (fun c2 => ?_) (fun c2 => ?_)
    · replace h := (if_pos c2).symm.trans h
      refine g_iconst (pc := 14) dX11_lies_14 ic_0 ?_
      subst h
      exact g_zret (pc := 15) dX11_lies_15 rfl (Or.inl rfl) rfl rfl (Nat.le_refl _) (Nat.le_refl _)
    · replace h := (if_neg c2).symm.trans h
      refine g_iconst (pc := 10) dX11_lies_10 ic_1 ?_
      refine g_goto (tgt := 15) (pc := 11) dX11_lies_11 (by decide) ?_
      subst h
      exact g_zret (pc := 15) dX11_lies_15 rfl (Or.inr rfl) rfl rfl (Nat.le_refl _) (Nat.le_refl _)
set_option maxRecDepth 100000 in
set_option maxHeartbeats 4000000 in
theorem M_X11_lies {sc : Nat × (Nat → Int32)} {d : Nat} (hd : 0 ≤ d) {r : Int32} {u : xS} {a0 : Int32} {a1 : Int32} {a2 : Int32} (h : f_X11_lies a0 a1 a2 = r) : xMt sc mX11_lies d 0 0 [.int a0, .int a1, .int a2] (xL0, u) (some (.int r)) (xL0, u) :=
  xMt.of (by decide +kernel) (Nat.le_of_ble_eq_true rfl) (L := [some (.int a0), some (.int a1), some (.int a2)]) rfl ((G_X11_lies_0 hd a0 a1 a2 h))
set_option maxRecDepth 100000 in
set_option maxHeartbeats 4000000 in
theorem G_X10_keep_0 {sc : Nat × (Nat → Int32)} {d : Nat} (hd : 1 ≤ d) {u' : xS} (v1 : Int32) (v2 : Nat) (v3 : Int32) (u : xS) (h : f_X10_keep v1 v2 v3 u = some u') : xG sc mX10_keep d 0 0 (xR none (xL0, u') 0 0) 0 0 0 [some (.ref 58), some (.int v1), some (.ref v2), some (.int v3)] [] (xL0, u) := by
  rw [f_X10_keep] at h
  refine g_iload_n (pc := 0) dX10_keep_0 rfl ?_
  refine g_iconst (pc := 1) dX10_keep_1 ic_0 ?_
  refine g_bipush (pc := 2) dX10_keep_2 bp_10 ?_
  refine g_cN (pc := 4) dX10_keep_4 cN_RX10_35 (M_X11_lies (Nat.le_refl _) rfl) (as := [.int v1, .int (0 : Int32), .int (10 : Int32)]) (st := []) rfl rfl (Nat.le_of_ble_eq_true rfl) (Nat.le_trans (Nat.le_of_ble_eq_true rfl) hd) rfl ?_
  refine g_if_eq (tgt := 25) (pc := 7) dX10_keep_7 (by decide) (fun c1 => ?_) (fun c1 => ?_)
  · replace h := (if_pos c1).symm.trans h
    cases h
    exact g_ret (pc := 25) dX10_keep_25 rfl rfl rfl (Nat.le_refl _) (Nat.le_refl _)
  · replace h := (if_neg c1).symm.trans h
    refine g_iload_n (pc := 10) dX10_keep_10 rfl ?_
    refine g_iconst (pc := 11) dX10_keep_11 ic_0 ?_
    refine g_aload_n (pc := 12) dX10_keep_12 rfl ?_
    obtain ⟨g2, h⟩ := x_gd h
    obtain ⟨q3, hq4⟩ := xisI_of g2
    refine g_alen (pc := 13) dX10_keep_13 hq4 (by decide) (v := (Int32.ofNat (xlen v2))) rfl ?_
    refine g_bipush (pc := 14) dX10_keep_14 bp_64 ?_
    refine g_min (pc := 16) dX10_keep_16 mK_RX10_39 (Nat.le_of_ble_eq_true rfl) (Nat.le_trans (Nat.le_of_ble_eq_true rfl) hd) (Nat.le_refl _) (Nat.le_refl _) ?_
    refine g_cN (pc := 19) dX10_keep_19 cN_RX10_35 (M_X11_lies (Nat.le_refl _) rfl) (as := [.int v3, .int (0 : Int32), .int (imin (Int32.ofNat (xlen v2)) (64 : Int32))]) (st := []) rfl rfl (Nat.le_of_ble_eq_true rfl) (Nat.le_trans (Nat.le_of_ble_eq_true rfl) hd) rfl ?_
    refine g_if_ne (tgt := 26) (pc := 22) dX10_keep_22 (by decide) (fun c5 => ?_) (fun c5 => ?_)
    · replace h := (if_neg c5).symm.trans h
      refine g_aload_n (pc := 26) dX10_keep_26 rfl ?_
      refine g_iconst (pc := 27) dX10_keep_27 ic_0 ?_
      refine g_aload_n (pc := 28) dX10_keep_28 rfl ?_
      refine g_gR (pc := 29) dX10_keep_29 fR_RX10_15 xc_58 (v := 59) rfl ?_
      refine g_iload_n (pc := 32) dX10_keep_32 rfl ?_
      obtain ⟨g6, h⟩ := x_gd h
      refine g_aaload (pc := 33) dX10_keep_33 xc_59 (xin_of g6) (v := (60 + v1.toNatClampNeg)) (xrf_59 _ (xin_lt g6)) ?_
      refine g_iconst (pc := 34) dX10_keep_34 ic_0 ?_
      refine g_iload_n (pc := 35) dX10_keep_35 rfl ?_
      obtain ⟨g7, h⟩ := x_gd h
      obtain ⟨q8, hq9⟩ := xisI_of g7
      obtain ⟨g10, h⟩ := x_gd h
      refine g_cp (pc := 36) dX10_keep_36 kcp_RX10_45 hq9 (xrow_59 _ (xin_lt g6)) (xcok_of g10) (Nat.le_of_ble_eq_true rfl) (Nat.le_trans (Nat.le_of_ble_eq_true rfl) hd) (u' := (xcpy u v2 (0 : Int32).toNatClampNeg (60 + v1.toNatClampNeg) (0 : Int32).toNatClampNeg v3.toNatClampNeg)) rfl ?_
      refine g_aload_n (pc := 39) dX10_keep_39 rfl ?_
      refine g_gR (pc := 40) dX10_keep_40 fR_RX10_18 xc_58 (v := 71) rfl ?_
      refine g_iload_n (pc := 43) dX10_keep_43 rfl ?_
      refine g_iload_n (pc := 44) dX10_keep_44 rfl ?_
      refine g_iastore (pc := 45) dX10_keep_45 xc_71 (xin_of g6) (u' := (wr (xcpy u v2 (0 : Int32).toNatClampNeg (60 + v1.toNatClampNeg) (0 : Int32).toNatClampNeg v3.toNatClampNeg) 71 v1.toNatClampNeg v3)) rfl ?_
      cases h
      exact g_ret (pc := 46) dX10_keep_46 rfl rfl rfl (Nat.le_refl _) (Nat.le_refl _)
    · replace h := (if_pos c5).symm.trans h
      cases h
      exact g_ret (pc := 25) dX10_keep_25 rfl rfl rfl (Nat.le_refl _) (Nat.le_refl _)
set_option maxRecDepth 100000 in
set_option maxHeartbeats 4000000 in
theorem M_X10_keep {sc : Nat × (Nat → Int32)} {d : Nat} (hd : 1 ≤ d) {u u' : xS} {a1 : Int32} {a2 : Nat} {a3 : Int32} (h : f_X10_keep a1 a2 a3 u = some u') : xMt sc mX10_keep d 0 0 [.ref 58, .int a1, .ref a2, .int a3] (xL0, u) none (xL0, u') :=
  xMt.of (by decide +kernel) (Nat.le_of_ble_eq_true rfl) (L := [some (.ref 58), some (.int a1), some (.ref a2), some (.int a3)]) rfl ((G_X10_keep_0 hd a1 a2 a3 u h))
set_option maxRecDepth 100000 in
set_option maxHeartbeats 4000000 in
theorem G_X10_addRecipe_0 {sc : Nat × (Nat → Int32)} {d : Nat} (hd : 2 ≤ d) {r : Int32} {u' : xS} (v1 : Nat) (v2 : Int32) (u : xS) (h : f_X10_addRecipe v1 v2 u = some (r, u')) : xG sc mX10_addRecipe d 0 0 (xR (some (.int r)) (xL0, u') 0 0) 0 0 0 [some (.ref 58), some (.ref v1), some (.int v2)] [] (xL0, u) := by
  rw [f_X10_addRecipe] at h
  refine g_aload_n (pc := 0) dX10_addRecipe_0 rfl ?_
  refine g_gI (pc := 1) dX10_addRecipe_1 fI_RX10_32 xc_58 (v := (rd u 58 5)) rfl ?_
  refine g_bipush (pc := 4) dX10_addRecipe_4 bp_6 ?_
  refine g_icmp_lt (tgt := 11) (pc := 6) dX10_addRecipe_6 (by decide) (fun c1 => ?_) (fun c1 => ?_)
  · replace h := (if_pos c1).symm.trans h
    refine g_aload_n (pc := 11) dX10_addRecipe_11 rfl ?_
    refine g_iconst (pc := 12) dX10_addRecipe_12 ic_4 ?_
    refine g_aload_n (pc := 13) dX10_addRecipe_13 rfl ?_
    refine g_gI (pc := 14) dX10_addRecipe_14 fI_RX10_32 xc_58 (v := (rd u 58 5)) rfl ?_
    refine g_iadd (pc := 17) dX10_addRecipe_17 rfl ?_
    refine g_aload_n (pc := 18) dX10_addRecipe_18 rfl ?_
    refine g_iload_n (pc := 19) dX10_addRecipe_19 rfl ?_
    obtain ⟨u3, e2, h⟩ := x_bind h
    refine g_cV (pc := 20) dX10_addRecipe_20 cV_RX10_51 (M_X10_keep (Nat.le_refl _) e2) xc_58 (as := [.int ((4 : Int32) + (rd u 58 5)), .ref v1, .int v2]) (st := []) rfl rfl (Nat.le_of_ble_eq_true rfl) (Nat.le_trans (Nat.le_of_ble_eq_true rfl) hd) rfl ?_
    refine g_aload_n (pc := 23) dX10_addRecipe_23 rfl ?_
    refine g_dup (pc := 24) dX10_addRecipe_24 rfl ?_
    refine g_gI (pc := 25) dX10_addRecipe_25 fI_RX10_32 xc_58 (v := (rd u3 58 5)) rfl ?_
    refine g_dup_x1 (pc := 28) dX10_addRecipe_28 rfl rfl ?_
    refine g_iconst (pc := 29) dX10_addRecipe_29 ic_1 ?_
    refine g_iadd (pc := 30) dX10_addRecipe_30 rfl ?_
    refine g_pI (pc := 31) dX10_addRecipe_31 pI_RX10_32 xc_58 (u' := (wr u3 58 5 ((rd u3 58 5) + (1 : Int32)))) rfl ?_
    cases h
    exact g_iret (pc := 34) dX10_addRecipe_34 rfl rfl rfl (Nat.le_refl _) (Nat.le_refl _)
  · replace h := (if_neg c1).symm.trans h
    refine g_iconst (pc := 9) dX10_addRecipe_9 ic_m1 ?_
    cases h
    exact g_iret (pc := 10) dX10_addRecipe_10 rfl rfl rfl (Nat.le_refl _) (Nat.le_refl _)
set_option maxRecDepth 100000 in
set_option maxHeartbeats 4000000 in
theorem M_X10_addRecipe {sc : Nat × (Nat → Int32)} {d : Nat} (hd : 2 ≤ d) {r : Int32} {u u' : xS} {a1 : Nat} {a2 : Int32} (h : f_X10_addRecipe a1 a2 u = some (r, u')) : xMt sc mX10_addRecipe d 0 0 [.ref 58, .ref a1, .int a2] (xL0, u) (some (.int r)) (xL0, u') :=
  xMt.of (by decide +kernel) (Nat.le_of_ble_eq_true rfl) (L := [some (.ref 58), some (.ref a1), some (.int a2)]) rfl ((G_X10_addRecipe_0 hd a1 a2 u h))
set_option maxRecDepth 100000 in
set_option maxHeartbeats 4000000 in
theorem G_J7_fill_53178_5 {sc : Nat × (Nat → Int32)} {d : Nat} (hd : 0 ≤ d) {u' : xS} : ∀ (n : Nat) (v0 : Nat) (v1 : Int32) (v2 : Int32) (v3 : Int32) (u : xS), f_J7_fill_53178_5 n v0 v1 v2 v3 u = some u' → xG sc mJ7_fill_53178 d 0 0 (xR none (xL0, u') 0 0) 0 0 5 [some (.ref v0), some (.int v1), some (.int v2), some (.int v3)] [] (xL0, u) := by
  intro n
  induction n with
  | zero =>
    intro v0 v1 v2 v3 u h
    rw [f_J7_fill_53178_5] at h
    cases h
  | succ n ih =>
    intro v0 v1 v2 v3 u h
    rw [f_J7_fill_53178_5] at h
    refine g_iload_n (pc := 5) dJ7_fill_53178_5 rfl ?_
    refine g_iload_n (pc := 6) dJ7_fill_53178_6 rfl ?_
    refine g_icmp_ge (tgt := 20) (pc := 7) dJ7_fill_53178_7 (by decide) (fun c1 => ?_) (fun c1 => ?_)
    · replace h := (if_pos c1).symm.trans h
      cases h
      exact g_ret (pc := 20) dJ7_fill_53178_20 rfl rfl rfl (Nat.le_refl _) (Nat.le_refl _)
    · replace h := (if_neg c1).symm.trans h
      refine g_aload_n (pc := 10) dJ7_fill_53178_10 rfl ?_
      refine g_iload_n (pc := 11) dJ7_fill_53178_11 rfl ?_
      refine g_iload_n (pc := 12) dJ7_fill_53178_12 rfl ?_
      obtain ⟨g2, h⟩ := x_gd h
      obtain ⟨q3, hq4⟩ := xisI_of g2
      obtain ⟨g5, h⟩ := x_gd h
      refine g_iastore (pc := 13) dJ7_fill_53178_13 hq4 (xin_of g5) (u' := (wr u v0 v2.toNatClampNeg v1)) rfl ?_
      refine g_inc (pc := 14) dJ7_fill_53178_14 (Nat.le_of_ble_eq_true rfl) rfl ic_1 (L' := [some (.ref v0), some (.int v1), some (.int (v2 + (1 : Int32))), some (.int v3)]) rfl ?_
      refine g_goto (tgt := 5) (pc := 17) dJ7_fill_53178_17 (by decide) ?_
      exact ih v0 v1 (v2 + (1 : Int32)) v3 (wr u v0 v2.toNatClampNeg v1) h
set_option maxRecDepth 100000 in
set_option maxHeartbeats 4000000 in
theorem G_J7_fill_53178_0 {sc : Nat × (Nat → Int32)} {d : Nat} (hd : 0 ≤ d) {u' : xS} (v0 : Nat) (v1 : Int32) (u : xS) (h : f_J7_fill_53178 v0 v1 u = some u') : xG sc mJ7_fill_53178 d 0 0 (xR none (xL0, u') 0 0) 0 0 0 [some (.ref v0), some (.int v1), none, none] [] (xL0, u) := by
  rw [f_J7_fill_53178] at h
  refine g_iconst (pc := 0) dJ7_fill_53178_0 ic_0 ?_
  refine g_istore_n (pc := 1) dJ7_fill_53178_1 (Nat.le_of_ble_eq_true rfl) (L' := [some (.ref v0), some (.int v1), some (.int (0 : Int32)), none]) rfl ?_
  refine g_aload_n (pc := 2) dJ7_fill_53178_2 rfl ?_
  obtain ⟨g1, h⟩ := x_gd h
  obtain ⟨q2, hq3⟩ := xisI_of g1
  refine g_alen (pc := 3) dJ7_fill_53178_3 hq3 (by decide) (v := (Int32.ofNat (xlen v0))) rfl ?_
  refine g_istore_n (pc := 4) dJ7_fill_53178_4 (Nat.le_of_ble_eq_true rfl) (L' := [some (.ref v0), some (.int v1), some (.int (0 : Int32)), some (.int (Int32.ofNat (xlen v0)))]) rfl ?_
  exact G_J7_fill_53178_5 hd xN v0 v1 (0 : Int32) (Int32.ofNat (xlen v0)) u h
set_option maxRecDepth 100000 in
set_option maxHeartbeats 4000000 in
theorem M_J7_fill_53178 {sc : Nat × (Nat → Int32)} {d : Nat} (hd : 0 ≤ d) {u u' : xS} {a0 : Nat} {a1 : Int32} (h : f_J7_fill_53178 a0 a1 u = some u') : xMt sc mJ7_fill_53178 d 0 0 [.ref a0, .int a1] (xL0, u) none (xL0, u') :=
  xMt.of (by decide +kernel) (Nat.le_of_ble_eq_true rfl) (L := [some (.ref a0), some (.int a1), none, none]) rfl ((G_J7_fill_53178_0 hd a0 a1 u h))
set_option maxRecDepth 100000 in
set_option maxHeartbeats 4000000 in
theorem G_X10_clearLetters_0 {sc : Nat × (Nat → Int32)} {d : Nat} (hd : 1 ≤ d) {u' : xS} (u : xS) (h : f_X10_clearLetters u = some u') : xG sc mX10_clearLetters d 0 0 (xR none (xL0, u') 0 0) 0 0 0 [some (.ref 58)] [] (xL0, u) := by
  rw [f_X10_clearLetters] at h
  refine g_aload_n (pc := 0) dX10_clearLetters_0 rfl ?_
  refine g_gR (pc := 1) dX10_clearLetters_1 fR_RX10_22 xc_58 (v := 72) rfl ?_
  refine g_iconst (pc := 4) dX10_clearLetters_4 ic_0 ?_
  obtain ⟨u2, e1, h⟩ := x_bind h
  refine g_cS (pc := 5) dX10_clearLetters_5 cS_RX10_55 (M_J7_fill_53178 (Nat.le_refl _) e1) (as := [.ref 72, .int (0 : Int32)]) (st := []) rfl rfl (Nat.le_of_ble_eq_true rfl) (Nat.le_trans (Nat.le_of_ble_eq_true rfl) hd) rfl ?_
  cases h
  exact g_ret (pc := 8) dX10_clearLetters_8 rfl rfl rfl (Nat.le_refl _) (Nat.le_refl _)
set_option maxRecDepth 100000 in
set_option maxHeartbeats 4000000 in
theorem M_X10_clearLetters {sc : Nat × (Nat → Int32)} {d : Nat} (hd : 1 ≤ d) {u u' : xS} (h : f_X10_clearLetters u = some u') : xMt sc mX10_clearLetters d 0 0 [.ref 58] (xL0, u) none (xL0, u') :=
  xMt.of (by decide +kernel) (Nat.le_of_ble_eq_true rfl) (L := [some (.ref 58)]) rfl ((G_X10_clearLetters_0 hd u h))
set_option maxRecDepth 100000 in
set_option maxHeartbeats 4000000 in
theorem G_X10_pop_0 {sc : Nat × (Nat → Int32)} {d : Nat} (hd : 0 ≤ d) {r : Int32} {u' : xS} (u : xS) (h : f_X10_pop u = some (r, u')) : xG sc mX10_pop d 0 0 (xR (some (.int r)) (xL0, u') 0 0) 0 0 0 [some (.ref 58)] [] (xL0, u) := by
  rw [f_X10_pop] at h
  refine g_aload_n (pc := 0) dX10_pop_0 rfl ?_
  refine g_gI (pc := 1) dX10_pop_1 fI_RX10_28 xc_58 (v := (rd u 58 4)) rfl ?_
  refine g_if_ne (tgt := 9) (pc := 4) dX10_pop_4 (by decide) (fun c1 => ?_) (fun c1 => ?_)
  · replace h := (if_neg c1).symm.trans h
    refine g_aload_n (pc := 9) dX10_pop_9 rfl ?_
    refine g_dup (pc := 10) dX10_pop_10 rfl ?_
    refine g_gI (pc := 11) dX10_pop_11 fI_RX10_28 xc_58 (v := (rd u 58 4)) rfl ?_
    refine g_iconst (pc := 14) dX10_pop_14 ic_1 ?_
    refine g_isub (pc := 15) dX10_pop_15 rfl ?_
    refine g_pI (pc := 16) dX10_pop_16 pI_RX10_28 xc_58 (u' := (wr u 58 4 ((rd u 58 4) - (1 : Int32)))) rfl ?_
    refine g_aload_n (pc := 19) dX10_pop_19 rfl ?_
    refine g_gR (pc := 20) dX10_pop_20 fR_RX10_25 xc_58 (v := 73) rfl ?_
    refine g_aload_n (pc := 23) dX10_pop_23 rfl ?_
    refine g_gI (pc := 24) dX10_pop_24 fI_RX10_28 xc_58 (v := ((rd u 58 4) - (1 : Int32))) rfl ?_
    obtain ⟨g2, h⟩ := x_gd h
    refine g_iaload (pc := 27) dX10_pop_27 xc_73 (xin_of g2) (v := (rd u 73 ((rd u 58 4) - (1 : Int32)).toNatClampNeg)) rfl ?_
    cases h
    exact g_iret (pc := 28) dX10_pop_28 rfl rfl rfl (Nat.le_refl _) (Nat.le_refl _)
  · replace h := (if_pos c1).symm.trans h
    refine g_iconst (pc := 7) dX10_pop_7 ic_0 ?_
    cases h
    exact g_iret (pc := 8) dX10_pop_8 rfl rfl rfl (Nat.le_refl _) (Nat.le_refl _)
set_option maxRecDepth 100000 in
set_option maxHeartbeats 4000000 in
theorem M_X10_pop {sc : Nat × (Nat → Int32)} {d : Nat} (hd : 0 ≤ d) {r : Int32} {u u' : xS} (h : f_X10_pop u = some (r, u')) : xMt sc mX10_pop d 0 0 [.ref 58] (xL0, u) (some (.int r)) (xL0, u') :=
  xMt.of (by decide +kernel) (Nat.le_of_ble_eq_true rfl) (L := [some (.ref 58)]) rfl ((G_X10_pop_0 hd u h))
set_option maxRecDepth 100000 in
set_option maxHeartbeats 4000000 in
theorem G_X10_push_0 {sc : Nat × (Nat → Int32)} {d : Nat} (hd : 0 ≤ d) {u' : xS} (v1 : Int32) (u : xS) (h : f_X10_push v1 u = some u') : xG sc mX10_push d 0 0 (xR none (xL0, u') 0 0) 0 0 0 [some (.ref 58), some (.int v1)] [] (xL0, u) := by
  rw [f_X10_push] at h
  refine g_aload_n (pc := 0) dX10_push_0 rfl ?_
  refine g_gI (pc := 1) dX10_push_1 fI_RX10_28 xc_58 (v := (rd u 58 4)) rfl ?_
  refine g_aload_n (pc := 4) dX10_push_4 rfl ?_
  refine g_gR (pc := 5) dX10_push_5 fR_RX10_25 xc_58 (v := 73) rfl ?_
  refine g_alen (pc := 8) dX10_push_8 xc_73 (by decide) (v := (64 : Int32)) (by decide) ?_
  refine g_icmp_ge (tgt := 32) (pc := 9) dX10_push_9 (by decide) (fun c1 => ?_) (fun c1 => ?_)
  · replace h := (if_pos c1).symm.trans h
    cases h
    exact g_ret (pc := 32) dX10_push_32 rfl rfl rfl (Nat.le_refl _) (Nat.le_refl _)
  · replace h := (if_neg c1).symm.trans h
    refine g_aload_n (pc := 12) dX10_push_12 rfl ?_
    refine g_gR (pc := 13) dX10_push_13 fR_RX10_25 xc_58 (v := 73) rfl ?_
    refine g_aload_n (pc := 16) dX10_push_16 rfl ?_
    refine g_gI (pc := 17) dX10_push_17 fI_RX10_28 xc_58 (v := (rd u 58 4)) rfl ?_
    refine g_iload_n (pc := 20) dX10_push_20 rfl ?_
    obtain ⟨g2, h⟩ := x_gd h
    refine g_iastore (pc := 21) dX10_push_21 xc_73 (xin_of g2) (u' := (wr u 73 (rd u 58 4).toNatClampNeg v1)) rfl ?_
    refine g_aload_n (pc := 22) dX10_push_22 rfl ?_
    refine g_dup (pc := 23) dX10_push_23 rfl ?_
    refine g_gI (pc := 24) dX10_push_24 fI_RX10_28 xc_58 (v := (rd u 58 4)) rfl ?_
    refine g_iconst (pc := 27) dX10_push_27 ic_1 ?_
    refine g_iadd (pc := 28) dX10_push_28 rfl ?_
    refine g_pI (pc := 29) dX10_push_29 pI_RX10_28 xc_58 (u' := (wr (wr u 73 (rd u 58 4).toNatClampNeg v1) 58 4 ((rd u 58 4) + (1 : Int32)))) rfl ?_
    cases h
    exact g_ret (pc := 32) dX10_push_32 rfl rfl rfl (Nat.le_refl _) (Nat.le_refl _)
set_option maxRecDepth 100000 in
set_option maxHeartbeats 4000000 in
theorem M_X10_push {sc : Nat × (Nat → Int32)} {d : Nat} (hd : 0 ≤ d) {u u' : xS} {a1 : Int32} (h : f_X10_push a1 u = some u') : xMt sc mX10_push d 0 0 [.ref 58, .int a1] (xL0, u) none (xL0, u') :=
  xMt.of (by decide +kernel) (Nat.le_of_ble_eq_true rfl) (L := [some (.ref 58), some (.int a1)]) rfl ((G_X10_push_0 hd a1 u h))
set_option maxRecDepth 100000 in
set_option maxHeartbeats 4000000 in
theorem G_X10_joined_92 {sc : Nat × (Nat → Int32)} {d : Nat} (hd : 0 ≤ d) {r : Int32} {u : xS} (h : f_X10_joined_92 = some r) : xG sc mX10_joined d 0 0 (xR (some (.int r)) (xL0, u) 0 0) 0 0 92 [none, none, none] [] (xL0, u) := by
  rw [f_X10_joined_92] at h
  refine g_iconst (pc := 92) dX10_joined_92 ic_1 ?_
  refine g_goto (tgt := 97) (pc := 93) dX10_joined_93 (by decide) ?_
  cases h
  exact g_iret (pc := 97) dX10_joined_97 rfl rfl rfl (Nat.le_refl _) (Nat.le_refl _)
set_option maxRecDepth 100000 in
set_option maxHeartbeats 4000000 in
theorem G_X10_joined_0 {sc : Nat × (Nat → Int32)} {d : Nat} (hd : 0 ≤ d) {r : Int32} {u : xS} (v0 : Int32) (v1 : Int32) (v2 : Int32) (h : f_X10_joined v0 v1 v2 = some r) : xG sc mX10_joined d 0 0 (xR (some (.int r)) (xL0, u) 0 0) 0 0 0 [some (.int v0), some (.int v1), some (.int v2)] [] (xL0, u) := by
  rw [f_X10_joined] at h
  refine g_iload_n (pc := 0) dX10_joined_0 rfl ?_
  by_cases c1 : v0 = (38 : Int32)
  · replace h := (if_pos c1).symm.trans h
    refine g_lookup (tgt := 98) (off := 97) (pc := 1) dX10_joined_1 (by decide) (by rw [c1]; decide) (by decide) ?_
    refine g_iload_n (pc := 98) dX10_joined_98 rfl ?_
    refine g_if_eq (tgt := 110) (pc := 99) dX10_joined_99 (by decide) (fun c2 => ?_) (fun c2 => ?_)
    · replace h := (if_pos c2).symm.trans h
      refine g_iconst (pc := 110) dX10_joined_110 ic_0 ?_
      cases h
      exact g_iret (pc := 111) dX10_joined_111 rfl rfl rfl (Nat.le_refl _) (Nat.le_refl _)
    · replace h := (if_neg c2).symm.trans h
      refine g_iload_n (pc := 102) dX10_joined_102 rfl ?_
      refine g_if_eq (tgt := 110) (pc := 103) dX10_joined_103 (by decide) (fun c3 => ?_) (fun c3 => ?_)
      · replace h := (if_pos c3).symm.trans h
        refine g_iconst (pc := 110) dX10_joined_110 ic_0 ?_
        cases h
        exact g_iret (pc := 111) dX10_joined_111 rfl rfl rfl (Nat.le_refl _) (Nat.le_refl _)
      · replace h := (if_neg c3).symm.trans h
        refine g_iconst (pc := 106) dX10_joined_106 ic_1 ?_
        refine g_goto (tgt := 111) (pc := 107) dX10_joined_107 (by decide) ?_
        cases h
        exact g_iret (pc := 111) dX10_joined_111 rfl rfl rfl (Nat.le_refl _) (Nat.le_refl _)
  replace h := (if_neg c1).symm.trans h
  by_cases c4 : v0 = (42 : Int32)
  · replace h := (if_pos c4).symm.trans h
    refine g_lookup (tgt := 153) (off := 152) (pc := 1) dX10_joined_1 (by decide) (by rw [c4]; decide) (by decide) ?_
    refine g_iload_n (pc := 153) dX10_joined_153 rfl ?_
    refine g_iload_n (pc := 154) dX10_joined_154 rfl ?_
    refine g_imul (pc := 155) dX10_joined_155 rfl ?_
    cases h
    exact g_iret (pc := 156) dX10_joined_156 rfl rfl rfl (Nat.le_refl _) (Nat.le_refl _)
  replace h := (if_neg c4).symm.trans h
  by_cases c5 : v0 = (43 : Int32)
  · replace h := (if_pos c5).symm.trans h
    refine g_lookup (tgt := 145) (off := 144) (pc := 1) dX10_joined_1 (by decide) (by rw [c5]; decide) (by decide) ?_
    refine g_iload_n (pc := 145) dX10_joined_145 rfl ?_
    refine g_iload_n (pc := 146) dX10_joined_146 rfl ?_
    refine g_iadd (pc := 147) dX10_joined_147 rfl ?_
    cases h
    exact g_iret (pc := 148) dX10_joined_148 rfl rfl rfl (Nat.le_refl _) (Nat.le_refl _)
  replace h := (if_neg c5).symm.trans h
  by_cases c6 : v0 = (45 : Int32)
  · replace h := (if_pos c6).symm.trans h
    refine g_lookup (tgt := 149) (off := 148) (pc := 1) dX10_joined_1 (by decide) (by rw [c6]; decide) (by decide) ?_
    refine g_iload_n (pc := 149) dX10_joined_149 rfl ?_
    refine g_iload_n (pc := 150) dX10_joined_150 rfl ?_
    refine g_isub (pc := 151) dX10_joined_151 rfl ?_
    cases h
    exact g_iret (pc := 152) dX10_joined_152 rfl rfl rfl (Nat.le_refl _) (Nat.le_refl _)
  replace h := (if_neg c6).symm.trans h
  by_cases c7 : v0 = (47 : Int32)
  · replace h := (if_pos c7).symm.trans h
    refine g_lookup (tgt := 157) (off := 156) (pc := 1) dX10_joined_1 (by decide) (by rw [c7]; decide) (by decide) ?_
    refine g_iload_n (pc := 157) dX10_joined_157 rfl ?_
    refine g_if_ne (tgt := 165) (pc := 158) dX10_joined_158 (by decide) (fun c8 => ?_) (fun c8 => ?_)
    · replace h := (if_neg c8).symm.trans h
      refine g_iload_n (pc := 165) dX10_joined_165 rfl ?_
      refine g_iload_n (pc := 166) dX10_joined_166 rfl ?_
      obtain ⟨g9, h⟩ := x_gd h
      refine g_idiv (pc := 167) dX10_joined_167 (xnz_of g9) rfl ?_
      cases h
      exact g_iret (pc := 168) dX10_joined_168 rfl rfl rfl (Nat.le_refl _) (Nat.le_refl _)
    · replace h := (if_pos c8).symm.trans h
      refine g_iconst (pc := 161) dX10_joined_161 ic_0 ?_
      refine g_goto (tgt := 168) (pc := 162) dX10_joined_162 (by decide) ?_
      cases h
      exact g_iret (pc := 168) dX10_joined_168 rfl rfl rfl (Nat.le_refl _) (Nat.le_refl _)
  replace h := (if_neg c7).symm.trans h
  by_cases c10 : v0 = (60 : Int32)
  · replace h := (if_pos c10).symm.trans h
    refine g_lookup (tgt := 112) (off := 111) (pc := 1) dX10_joined_1 (by decide) (by rw [c10]; decide) (by decide) ?_
    refine g_iload_n (pc := 112) dX10_joined_112 rfl ?_
    refine g_iload_n (pc := 113) dX10_joined_113 rfl ?_
    refine g_icmp_ge (tgt := 121) (pc := 114) dX10_joined_114 (by decide) (fun c11 => ?_) (fun c11 => ?_)
    · replace h := (if_pos c11).symm.trans h
      refine g_iconst (pc := 121) dX10_joined_121 ic_0 ?_
      cases h
      exact g_iret (pc := 122) dX10_joined_122 rfl rfl rfl (Nat.le_refl _) (Nat.le_refl _)
    · replace h := (if_neg c11).symm.trans h
      refine g_iconst (pc := 117) dX10_joined_117 ic_1 ?_
      refine g_goto (tgt := 122) (pc := 118) dX10_joined_118 (by decide) ?_
      cases h
      exact g_iret (pc := 122) dX10_joined_122 rfl rfl rfl (Nat.le_refl _) (Nat.le_refl _)
  replace h := (if_neg c10).symm.trans h
  by_cases c12 : v0 = (61 : Int32)
  · replace h := (if_pos c12).symm.trans h
    refine g_lookup (tgt := 134) (off := 133) (pc := 1) dX10_joined_1 (by decide) (by rw [c12]; decide) (by decide) ?_
    refine g_iload_n (pc := 134) dX10_joined_134 rfl ?_
    refine g_iload_n (pc := 135) dX10_joined_135 rfl ?_
    refine g_icmp_ne (tgt := 143) (pc := 136) dX10_joined_136 (by decide) (fun c13 => ?_) (fun c13 => ?_)
    · replace h := (if_neg c13).symm.trans h
      refine g_iconst (pc := 143) dX10_joined_143 ic_0 ?_
      cases h
      exact g_iret (pc := 144) dX10_joined_144 rfl rfl rfl (Nat.le_refl _) (Nat.le_refl _)
    · replace h := (if_pos c13).symm.trans h
      refine g_iconst (pc := 139) dX10_joined_139 ic_1 ?_
      refine g_goto (tgt := 144) (pc := 140) dX10_joined_140 (by decide) ?_
      cases h
      exact g_iret (pc := 144) dX10_joined_144 rfl rfl rfl (Nat.le_refl _) (Nat.le_refl _)
  replace h := (if_neg c12).symm.trans h
  by_cases c14 : v0 = (62 : Int32)
  · replace h := (if_pos c14).symm.trans h
    refine g_lookup (tgt := 123) (off := 122) (pc := 1) dX10_joined_1 (by decide) (by rw [c14]; decide) (by decide) ?_
    refine g_iload_n (pc := 123) dX10_joined_123 rfl ?_
    refine g_iload_n (pc := 124) dX10_joined_124 rfl ?_
    refine g_icmp_le (tgt := 132) (pc := 125) dX10_joined_125 (by decide) (fun c15 => ?_) (fun c15 => ?_)
    · replace h := (if_pos c15).symm.trans h
      refine g_iconst (pc := 132) dX10_joined_132 ic_0 ?_
      cases h
      exact g_iret (pc := 133) dX10_joined_133 rfl rfl rfl (Nat.le_refl _) (Nat.le_refl _)
    · replace h := (if_neg c15).symm.trans h
      refine g_iconst (pc := 128) dX10_joined_128 ic_1 ?_
      refine g_goto (tgt := 133) (pc := 129) dX10_joined_129 (by decide) ?_
      cases h
      exact g_iret (pc := 133) dX10_joined_133 rfl rfl rfl (Nat.le_refl _) (Nat.le_refl _)
  replace h := (if_neg c14).symm.trans h
  by_cases c16 : v0 = (124 : Int32)
  · replace h := (if_pos c16).symm.trans h
    refine g_lookup (tgt := 84) (off := 83) (pc := 1) dX10_joined_1 (by decide) (by rw [c16]; decide) (by decide) ?_
    refine g_iload_n (pc := 84) dX10_joined_84 rfl ?_
    refine g_if_ne (tgt := 92) (pc := 85) dX10_joined_85 (by decide) (fun c17 => ?_) (fun c17 => ?_)
    · replace h := (if_neg c17).symm.trans h
      refine g_L (L' := [none, none, none]) trivial ?_
      exact G_X10_joined_92 hd h
    · replace h := (if_pos c17).symm.trans h
      refine g_iload_n (pc := 88) dX10_joined_88 rfl ?_
      refine g_if_eq (tgt := 96) (pc := 89) dX10_joined_89 (by decide) (fun c18 => ?_) (fun c18 => ?_)
      · replace h := (if_pos c18).symm.trans h
        refine g_iconst (pc := 96) dX10_joined_96 ic_0 ?_
        cases h
        exact g_iret (pc := 97) dX10_joined_97 rfl rfl rfl (Nat.le_refl _) (Nat.le_refl _)
      · replace h := (if_neg c18).symm.trans h
        refine g_L (L' := [none, none, none]) trivial ?_
        exact G_X10_joined_92 hd h
  replace h := (if_neg c16).symm.trans h
  have c1i := i32_ne c1 (m := 38) (by decide)
  have c4i := i32_ne c4 (m := 42) (by decide)
  have c5i := i32_ne c5 (m := 43) (by decide)
  have c6i := i32_ne c6 (m := 45) (by decide)
  have c7i := i32_ne c7 (m := 47) (by decide)
  have c10i := i32_ne c10 (m := 60) (by decide)
  have c12i := i32_ne c12 (m := 61) (by decide)
  have c14i := i32_ne c14 (m := 62) (by decide)
  have c16i := i32_ne c16 (m := 124) (by decide)
  refine g_lookup (tgt := 169) (off := 168) (pc := 1) dX10_joined_1 (by decide) (x_lsw (by simp [c1i, Ne.symm c1i, c4i, Ne.symm c4i, c5i, Ne.symm c5i, c6i, Ne.symm c6i, c7i, Ne.symm c7i, c10i, Ne.symm c10i, c12i, Ne.symm c12i, c14i, Ne.symm c14i, c16i, Ne.symm c16i])) (by decide) ?_
  refine g_iload_n (pc := 169) dX10_joined_169 rfl ?_
  refine g_if_ne (tgt := 177) (pc := 170) dX10_joined_170 (by decide) (fun c19 => ?_) (fun c19 => ?_)
  · replace h := (if_neg c19).symm.trans h
    refine g_iload_n (pc := 177) dX10_joined_177 rfl ?_
    refine g_iload_n (pc := 178) dX10_joined_178 rfl ?_
    obtain ⟨g20, h⟩ := x_gd h
    refine g_irem (pc := 179) dX10_joined_179 (xnz_of g20) rfl ?_
    cases h
    exact g_iret (pc := 180) dX10_joined_180 rfl rfl rfl (Nat.le_refl _) (Nat.le_refl _)
  · replace h := (if_pos c19).symm.trans h
    refine g_iconst (pc := 173) dX10_joined_173 ic_0 ?_
    refine g_goto (tgt := 180) (pc := 174) dX10_joined_174 (by decide) ?_
    cases h
    exact g_iret (pc := 180) dX10_joined_180 rfl rfl rfl (Nat.le_refl _) (Nat.le_refl _)
set_option maxRecDepth 100000 in
set_option maxHeartbeats 4000000 in
theorem M_X10_joined {sc : Nat × (Nat → Int32)} {d : Nat} (hd : 0 ≤ d) {r : Int32} {u : xS} {a0 : Int32} {a1 : Int32} {a2 : Int32} (h : f_X10_joined a0 a1 a2 = some r) : xMt sc mX10_joined d 0 0 [.int a0, .int a1, .int a2] (xL0, u) (some (.int r)) (xL0, u) :=
  xMt.of (by decide +kernel) (Nat.le_of_ble_eq_true rfl) (L := [some (.int a0), some (.int a1), some (.int a2)]) rfl ((G_X10_joined_0 hd a0 a1 a2 h))
set_option maxRecDepth 100000 in
set_option maxHeartbeats 4000000 in
theorem G_X10_work_60 {sc : Nat × (Nat → Int32)} {d : Nat} (hd : 1 ≤ d) {u' : xS} (s1 : Int32) (u : xS) (h : f_X10_work_60 s1 u = some u') : xG sc mX10_work d 0 0 (xR none (xL0, u') 0 0) 0 0 60 [none, none, none] [.int s1, .ref 58] (xL0, u) := by
  rw [f_X10_work_60] at h
  obtain ⟨u2, e1, h⟩ := x_bind h
  refine g_cV (pc := 60) dX10_work_60 cV_RX10_73 (M_X10_push (Nat.le_refl _) e1) xc_58 (as := [.int s1]) (st := []) rfl rfl (Nat.le_of_ble_eq_true rfl) (Nat.le_trans (Nat.le_of_ble_eq_true rfl) hd) rfl ?_
  refine g_goto (tgt := 103) (pc := 63) dX10_work_63 (by decide) ?_
  cases h
  exact g_ret (pc := 103) dX10_work_103 rfl rfl rfl (Nat.le_refl _) (Nat.le_refl _)
set_option maxRecDepth 100000 in
set_option maxHeartbeats 4000000 in
theorem G_X10_work_0 {sc : Nat × (Nat → Int32)} {d : Nat} (hd : 1 ≤ d) {u' : xS} (v1 : Int32) (u : xS) (h : f_X10_work v1 u = some u') : xG sc mX10_work d 0 0 (xR none (xL0, u') 0 0) 0 0 0 [some (.ref 58), some (.int v1), none] [] (xL0, u) := by
  rw [f_X10_work] at h
  refine g_iload_n (pc := 0) dX10_work_0 rfl ?_
  refine g_if_lt (tgt := 12) (pc := 1) dX10_work_1 (by decide) (fun c1 => ?_) (fun c1 => ?_)
  · replace h := (if_pos c1).symm.trans h
    refine g_iload_n (pc := 12) dX10_work_12 rfl ?_
    refine g_ineg (pc := 13) dX10_work_13 rfl ?_
    refine g_bipush (pc := 14) dX10_work_14 bp_97 ?_
    refine g_bipush (pc := 16) dX10_work_16 bp_122 ?_
    refine g_cN (pc := 18) dX10_work_18 cN_RX10_35 (M_X11_lies (Nat.le_refl _) rfl) (as := [.int (-v1), .int (97 : Int32), .int (122 : Int32)]) (st := []) rfl rfl (Nat.le_of_ble_eq_true rfl) (Nat.le_trans (Nat.le_of_ble_eq_true rfl) hd) rfl ?_
    refine g_if_eq (tgt := 41) (pc := 21) dX10_work_21 (by decide) (fun c2 => ?_) (fun c2 => ?_)
    · replace h := (if_pos c2).symm.trans h
      refine g_iload_n (pc := 41) dX10_work_41 rfl ?_
      refine g_bipush (pc := 42) dX10_work_42 bp_m33 ?_
      refine g_icmp_ne (tgt := 66) (pc := 44) dX10_work_44 (by decide) (fun c3 => ?_) (fun c3 => ?_)
      · replace h := (if_neg c3).symm.trans h
        refine g_iload_n (pc := 66) dX10_work_66 rfl ?_
        refine g_bipush (pc := 67) dX10_work_67 bp_m126 ?_
        refine g_icmp_ne (tgt := 84) (pc := 69) dX10_work_69 (by decide) (fun c4 => ?_) (fun c4 => ?_)
        · replace h := (if_neg c4).symm.trans h
          refine g_aload_n (pc := 84) dX10_work_84 rfl ?_
          obtain ⟨⟨x6, u7⟩, e5, h⟩ := x_bind h
          dsimp only at h
          refine g_cV (pc := 85) dX10_work_85 cV_RX10_65 (M_X10_pop (Nat.le_refl _) e5) xc_58 (as := []) (st := []) rfl rfl (Nat.le_of_ble_eq_true rfl) (Nat.le_trans (Nat.le_of_ble_eq_true rfl) hd) rfl ?_
          refine g_istore_n (pc := 88) dX10_work_88 (Nat.le_of_ble_eq_true rfl) (L' := [some (.ref 58), some (.int v1), some (.int x6)]) rfl ?_
          refine g_aload_n (pc := 89) dX10_work_89 rfl ?_
          refine g_iload_n (pc := 90) dX10_work_90 rfl ?_
          refine g_ineg (pc := 91) dX10_work_91 rfl ?_
          refine g_aload_n (pc := 92) dX10_work_92 rfl ?_
          obtain ⟨⟨x9, u10⟩, e8, h⟩ := x_bind h
          dsimp only at h
          refine g_cV (pc := 93) dX10_work_93 cV_RX10_65 (M_X10_pop (Nat.le_refl _) e8) xc_58 (as := []) (st := [.int (-v1), .ref 58]) rfl rfl (Nat.le_of_ble_eq_true rfl) (Nat.le_trans (Nat.le_of_ble_eq_true rfl) hd) rfl ?_
          refine g_iload_n (pc := 96) dX10_work_96 rfl ?_
          obtain ⟨x12, e11, h⟩ := x_bind h
          refine g_cS (pc := 97) dX10_work_97 cS_RX10_76 (M_X10_joined (Nat.le_refl _) e11) (as := [.int (-v1), .int x9, .int x6]) (st := [.ref 58]) rfl rfl (Nat.le_of_ble_eq_true rfl) (Nat.le_trans (Nat.le_of_ble_eq_true rfl) hd) rfl ?_
          obtain ⟨u14, e13, h⟩ := x_bind h
          refine g_cV (pc := 100) dX10_work_100 cV_RX10_73 (M_X10_push (Nat.le_refl _) e13) xc_58 (as := [.int x12]) (st := []) rfl rfl (Nat.le_of_ble_eq_true rfl) (Nat.le_trans (Nat.le_of_ble_eq_true rfl) hd) rfl ?_
          cases h
          exact g_ret (pc := 103) dX10_work_103 rfl rfl rfl (Nat.le_refl _) (Nat.le_refl _)
        · replace h := (if_pos c4).symm.trans h
          refine g_aload_n (pc := 72) dX10_work_72 rfl ?_
          refine g_aload_n (pc := 73) dX10_work_73 rfl ?_
          obtain ⟨⟨x18, u19⟩, e17, h⟩ := x_bind h
          dsimp only at h
          refine g_cV (pc := 74) dX10_work_74 cV_RX10_65 (M_X10_pop (Nat.le_refl _) e17) xc_58 (as := []) (st := [.ref 58]) rfl rfl (Nat.le_of_ble_eq_true rfl) (Nat.le_trans (Nat.le_of_ble_eq_true rfl) hd) rfl ?_
          refine g_ineg (pc := 77) dX10_work_77 rfl ?_
          obtain ⟨u21, e20, h⟩ := x_bind h
          refine g_cV (pc := 78) dX10_work_78 cV_RX10_73 (M_X10_push (Nat.le_refl _) e20) xc_58 (as := [.int (-x18)]) (st := []) rfl rfl (Nat.le_of_ble_eq_true rfl) (Nat.le_trans (Nat.le_of_ble_eq_true rfl) hd) rfl ?_
          refine g_goto (tgt := 103) (pc := 81) dX10_work_81 (by decide) ?_
          cases h
          exact g_ret (pc := 103) dX10_work_103 rfl rfl rfl (Nat.le_refl _) (Nat.le_refl _)
      · replace h := (if_pos c3).symm.trans h
        refine g_aload_n (pc := 47) dX10_work_47 rfl ?_
        refine g_aload_n (pc := 48) dX10_work_48 rfl ?_
        obtain ⟨⟨x24, u25⟩, e23, h⟩ := x_bind h
        dsimp only at h
        refine g_cV (pc := 49) dX10_work_49 cV_RX10_65 (M_X10_pop (Nat.le_refl _) e23) xc_58 (as := []) (st := [.ref 58]) rfl rfl (Nat.le_of_ble_eq_true rfl) (Nat.le_trans (Nat.le_of_ble_eq_true rfl) hd) rfl ?_
        refine g_if_ne (tgt := 59) (pc := 52) dX10_work_52 (by decide) (fun c26 => ?_) (fun c26 => ?_)
        · replace h := (if_neg c26).symm.trans h
          refine g_iconst (pc := 59) dX10_work_59 ic_0 ?_
          refine g_L (L' := [none, none, none]) trivial ?_
          exact G_X10_work_60 hd (0 : Int32) u25 h
        · replace h := (if_pos c26).symm.trans h
          refine g_iconst (pc := 55) dX10_work_55 ic_1 ?_
          refine g_goto (tgt := 60) (pc := 56) dX10_work_56 (by decide) ?_
          refine g_L (L' := [none, none, none]) trivial ?_
          exact G_X10_work_60 hd (1 : Int32) u25 h
    · replace h := (if_neg c2).symm.trans h
      refine g_aload_n (pc := 24) dX10_work_24 rfl ?_
      refine g_aload_n (pc := 25) dX10_work_25 rfl ?_
      refine g_gR (pc := 26) dX10_work_26 fR_RX10_22 xc_58 (v := 72) rfl ?_
      refine g_iload_n (pc := 29) dX10_work_29 rfl ?_
      refine g_ineg (pc := 30) dX10_work_30 rfl ?_
      refine g_bipush (pc := 31) dX10_work_31 bp_97 ?_
      refine g_isub (pc := 33) dX10_work_33 rfl ?_
      obtain ⟨g28, h⟩ := x_gd h
      refine g_iaload (pc := 34) dX10_work_34 xc_72 (xin_of g28) (v := (rd u 72 ((-v1) - (97 : Int32)).toNatClampNeg)) rfl ?_
      obtain ⟨u30, e29, h⟩ := x_bind h
      refine g_cV (pc := 35) dX10_work_35 cV_RX10_73 (M_X10_push (Nat.le_refl _) e29) xc_58 (as := [.int (rd u 72 ((-v1) - (97 : Int32)).toNatClampNeg)]) (st := []) rfl rfl (Nat.le_of_ble_eq_true rfl) (Nat.le_trans (Nat.le_of_ble_eq_true rfl) hd) rfl ?_
      refine g_goto (tgt := 103) (pc := 38) dX10_work_38 (by decide) ?_
      cases h
      exact g_ret (pc := 103) dX10_work_103 rfl rfl rfl (Nat.le_refl _) (Nat.le_refl _)
  · replace h := (if_neg c1).symm.trans h
    refine g_aload_n (pc := 4) dX10_work_4 rfl ?_
    refine g_iload_n (pc := 5) dX10_work_5 rfl ?_
    obtain ⟨u32, e31, h⟩ := x_bind h
    refine g_cV (pc := 6) dX10_work_6 cV_RX10_73 (M_X10_push (Nat.le_refl _) e31) xc_58 (as := [.int v1]) (st := []) rfl rfl (Nat.le_of_ble_eq_true rfl) (Nat.le_trans (Nat.le_of_ble_eq_true rfl) hd) rfl ?_
    refine g_goto (tgt := 103) (pc := 9) dX10_work_9 (by decide) ?_
    cases h
    exact g_ret (pc := 103) dX10_work_103 rfl rfl rfl (Nat.le_refl _) (Nat.le_refl _)
set_option maxRecDepth 100000 in
set_option maxHeartbeats 4000000 in
theorem M_X10_work {sc : Nat × (Nat → Int32)} {d : Nat} (hd : 1 ≤ d) {u u' : xS} {a1 : Int32} (h : f_X10_work a1 u = some u') : xMt sc mX10_work d 0 0 [.ref 58, .int a1] (xL0, u) none (xL0, u') :=
  xMt.of (by decide +kernel) (Nat.le_of_ble_eq_true rfl) (L := [some (.ref 58), some (.int a1), none]) rfl ((G_X10_work_0 hd a1 u h))
theorem zb_X10_hasRecipe (u : xS) (v1 : Int32) : f_X10_hasRecipe u v1 = 0 ∨ f_X10_hasRecipe u v1 = 1 := by
  unfold f_X10_hasRecipe
  (repeat' split) <;> first | exact Or.inl rfl | exact Or.inr rfl
set_option maxRecDepth 100000 in
set_option maxHeartbeats 4000000 in
theorem G_X10_hasRecipe_0 {sc : Nat × (Nat → Int32)} {d : Nat} (hd : 0 ≤ d) {r : Int32} {u : xS} (v1 : Int32) (h : f_X10_hasRecipe u v1 = r) : xG sc mX10_hasRecipe d 0 0 (xR (some (.int r)) (xL0, u) 0 0) 0 0 0 [some (.ref 58), some (.int v1)] [] (xL0, u) := by
  rw [f_X10_hasRecipe] at h
  refine g_iload_n (pc := 0) dX10_hasRecipe_0 rfl ?_
  refine g_if_lt (tgt := 16) (pc := 1) dX10_hasRecipe_1 (by decide) (fun c1 => ?_) (fun c1 => ?_)
  · replace h := (if_pos c1).symm.trans h
    refine g_iconst (pc := 16) dX10_hasRecipe_16 ic_0 ?_
    subst h
    exact g_zret (pc := 17) dX10_hasRecipe_17 rfl (Or.inl rfl) rfl rfl (Nat.le_refl _) (Nat.le_refl _)
  · replace h := (if_neg c1).symm.trans h
    refine g_iload_n (pc := 4) dX10_hasRecipe_4 rfl ?_
    refine g_aload_n (pc := 5) dX10_hasRecipe_5 rfl ?_
    refine g_gI (pc := 6) dX10_hasRecipe_6 fI_RX10_32 xc_58 (v := (rd u 58 5)) rfl ?_
    refine g_icmp_ge (tgt := 16) (pc := 9) dX10_hasRecipe_9 (by decide) (fun c2 => ?_) (fun c2 => ?_)
    · replace h := (if_pos c2).symm.trans h
      refine g_iconst (pc := 16) dX10_hasRecipe_16 ic_0 ?_
      subst h
      exact g_zret (pc := 17) dX10_hasRecipe_17 rfl (Or.inl rfl) rfl rfl (Nat.le_refl _) (Nat.le_refl _)
    · replace h := (if_neg c2).symm.trans h
      refine g_iconst (pc := 12) dX10_hasRecipe_12 ic_1 ?_
      refine g_goto (tgt := 17) (pc := 13) dX10_hasRecipe_13 (by decide) ?_
      subst h
      exact g_zret (pc := 17) dX10_hasRecipe_17 rfl (Or.inr rfl) rfl rfl (Nat.le_refl _) (Nat.le_refl _)
set_option maxRecDepth 100000 in
set_option maxHeartbeats 4000000 in
theorem M_X10_hasRecipe {sc : Nat × (Nat → Int32)} {d : Nat} (hd : 0 ≤ d) {r : Int32} {u : xS} {a1 : Int32} (h : f_X10_hasRecipe u a1 = r) : xMt sc mX10_hasRecipe d 0 0 [.ref 58, .int a1] (xL0, u) (some (.int r)) (xL0, u) :=
  xMt.of (by decide +kernel) (Nat.le_of_ble_eq_true rfl) (L := [some (.ref 58), some (.int a1)]) rfl ((G_X10_hasRecipe_0 hd a1 h))
set_option maxRecDepth 100000 in
set_option maxHeartbeats 4000000 in
theorem G_X10_firstBroken_74 {sc : Nat × (Nat → Int32)} {d : Nat} (hd : 2 ≤ d) {r : Int32} {u' : xS} {k29 : Int32 → Nat → Int32 → Int32 → xS → Option (Int32 × xS)} (hk29 : ∀ (v1 : Int32) (v2 : Nat) (v3 : Int32) (v4 : Int32) (u : xS), k29 v1 v2 v3 v4 u = some (r, u') → xG sc mX10_firstBroken d 0 0 (xR (some (.int r)) (xL0, u') 0 0) 0 0 29 [some (.ref 58), some (.int v1), some (.ref v2), some (.int v3), some (.int v4)] [] (xL0, u)) (v1 : Int32) (v2 : Nat) (v3 : Int32) (v4 : Int32) (u : xS) (h : f_X10_firstBroken_74 k29 v1 v2 v3 v4 u = some (r, u')) : xG sc mX10_firstBroken d 0 0 (xR (some (.int r)) (xL0, u') 0 0) 0 0 74 [some (.ref 58), some (.int v1), some (.ref v2), some (.int v3), some (.int v4)] [] (xL0, u) := by
  rw [f_X10_firstBroken_74] at h
  refine g_inc (pc := 74) dX10_firstBroken_74 (Nat.le_of_ble_eq_true rfl) rfl ic_1 (L' := [some (.ref 58), some (.int v1), some (.ref v2), some (.int v3), some (.int (v4 + (1 : Int32)))]) rfl ?_
  refine g_goto (tgt := 29) (pc := 77) dX10_firstBroken_77 (by decide) ?_
  exact hk29 v1 v2 v3 (v4 + (1 : Int32)) u h
set_option maxRecDepth 100000 in
set_option maxHeartbeats 4000000 in
theorem G_X10_firstBroken_29 {sc : Nat × (Nat → Int32)} {d : Nat} (hd : 2 ≤ d) {r : Int32} {u' : xS} : ∀ (n : Nat) (v1 : Int32) (v2 : Nat) (v3 : Int32) (v4 : Int32) (u : xS), f_X10_firstBroken_29 n v1 v2 v3 v4 u = some (r, u') → xG sc mX10_firstBroken d 0 0 (xR (some (.int r)) (xL0, u') 0 0) 0 0 29 [some (.ref 58), some (.int v1), some (.ref v2), some (.int v3), some (.int v4)] [] (xL0, u) := by
  intro n
  induction n with
  | zero =>
    intro v1 v2 v3 v4 u h
    rw [f_X10_firstBroken_29] at h
    cases h
  | succ n ih =>
    intro v1 v2 v3 v4 u h
    rw [f_X10_firstBroken_29] at h
    refine g_iload (pc := 29) dX10_firstBroken_29 rfl ?_
    refine g_aload_n (pc := 31) dX10_firstBroken_31 rfl ?_
    refine g_gR (pc := 32) dX10_firstBroken_32 fR_RX10_18 xc_58 (v := 71) rfl ?_
    refine g_iconst (pc := 35) dX10_firstBroken_35 ic_4 ?_
    refine g_iload_n (pc := 36) dX10_firstBroken_36 rfl ?_
    refine g_iadd (pc := 37) dX10_firstBroken_37 rfl ?_
    obtain ⟨g1, h⟩ := x_gd h
    refine g_iaload (pc := 38) dX10_firstBroken_38 xc_71 (xin_of g1) (v := (rd u 71 ((4 : Int32) + v1).toNatClampNeg)) rfl ?_
    refine g_icmp_ge (tgt := 80) (pc := 39) dX10_firstBroken_39 (by decide) (fun c2 => ?_) (fun c2 => ?_)
    · replace h := (if_pos c2).symm.trans h
      refine g_bipush (pc := 80) dX10_firstBroken_80 bp_m2 ?_
      cases h
      exact g_iret (pc := 82) dX10_firstBroken_82 rfl rfl rfl (Nat.le_refl _) (Nat.le_refl _)
    · replace h := (if_neg c2).symm.trans h
      refine g_aload_n (pc := 42) dX10_firstBroken_42 rfl ?_
      refine g_iload (pc := 43) dX10_firstBroken_43 rfl ?_
      obtain ⟨g3, h⟩ := x_gd h
      obtain ⟨g4, h⟩ := x_gd h
      obtain ⟨q5, hq6⟩ := xisI_of g3
      refine g_iaload (pc := 45) dX10_firstBroken_45 hq6 (xin_of g4) (v := (rd u v2 v4.toNatClampNeg)) rfl ?_
      refine g_bipush (pc := 46) dX10_firstBroken_46 bp_m59 ?_
      refine g_icmp_eq (tgt := 62) (pc := 48) dX10_firstBroken_48 (by decide) (fun c7 => ?_) (fun c7 => ?_)
      · replace h := (if_pos c7).symm.trans h
        refine g_aload_n (pc := 62) dX10_firstBroken_62 rfl ?_
        obtain ⟨⟨x9, u10⟩, e8, h⟩ := x_bind h
        dsimp only at h
        refine g_cV (pc := 63) dX10_firstBroken_63 cV_RX10_65 (M_X10_pop (Nat.le_refl _) e8) xc_58 (as := []) (st := []) rfl rfl (Nat.le_of_ble_eq_true rfl) (Nat.le_trans (Nat.le_of_ble_eq_true rfl) hd) rfl ?_
        refine g_if_ne (tgt := 71) (pc := 66) dX10_firstBroken_66 (by decide) (fun c11 => ?_) (fun c11 => ?_)
        · replace h := (if_neg c11).symm.trans h
          refine g_inc (pc := 71) dX10_firstBroken_71 (Nat.le_of_ble_eq_true rfl) rfl ic_1 (L' := [some (.ref 58), some (.int v1), some (.ref v2), some (.int (v3 + (1 : Int32))), some (.int v4)]) rfl ?_
          exact G_X10_firstBroken_74 hd ih v1 v2 (v3 + (1 : Int32)) v4 u10 h
        · replace h := (if_pos c11).symm.trans h
          refine g_iload_n (pc := 69) dX10_firstBroken_69 rfl ?_
          cases h
          exact g_iret (pc := 70) dX10_firstBroken_70 rfl rfl rfl (Nat.le_refl _) (Nat.le_refl _)
      · replace h := (if_neg c7).symm.trans h
        refine g_aload_n (pc := 51) dX10_firstBroken_51 rfl ?_
        refine g_aload_n (pc := 52) dX10_firstBroken_52 rfl ?_
        refine g_iload (pc := 53) dX10_firstBroken_53 rfl ?_
        obtain ⟨g13, h⟩ := x_gd h
        obtain ⟨g14, h⟩ := x_gd h
        obtain ⟨q15, hq16⟩ := xisI_of g13
        refine g_iaload (pc := 55) dX10_firstBroken_55 hq16 (xin_of g14) (v := (rd u v2 v4.toNatClampNeg)) rfl ?_
        obtain ⟨u18, e17, h⟩ := x_bind h
        refine g_cV (pc := 56) dX10_firstBroken_56 cV_RX10_61 (M_X10_work (Nat.le_refl _) e17) xc_58 (as := [.int (rd u v2 v4.toNatClampNeg)]) (st := []) rfl rfl (Nat.le_of_ble_eq_true rfl) (Nat.le_trans (Nat.le_of_ble_eq_true rfl) hd) rfl ?_
        refine g_goto (tgt := 74) (pc := 59) dX10_firstBroken_59 (by decide) ?_
        exact G_X10_firstBroken_74 hd ih v1 v2 v3 v4 u18 h
set_option maxRecDepth 100000 in
set_option maxHeartbeats 4000000 in
theorem G_X10_firstBroken_0 {sc : Nat × (Nat → Int32)} {d : Nat} (hd : 2 ≤ d) {r : Int32} {u' : xS} (v1 : Int32) (u : xS) (h : f_X10_firstBroken v1 u = some (r, u')) : xG sc mX10_firstBroken d 0 0 (xR (some (.int r)) (xL0, u') 0 0) 0 0 0 [some (.ref 58), some (.int v1), none, none, none] [] (xL0, u) := by
  rw [f_X10_firstBroken] at h
  refine g_aload_n (pc := 0) dX10_firstBroken_0 rfl ?_
  refine g_iload_n (pc := 1) dX10_firstBroken_1 rfl ?_
  refine g_cV (pc := 2) dX10_firstBroken_2 cV_RX10_69 (M_X10_hasRecipe (Nat.le_refl _) rfl) xc_58 (as := [.int v1]) (st := []) rfl rfl (Nat.le_of_ble_eq_true rfl) (Nat.le_trans (Nat.le_of_ble_eq_true rfl) hd) rfl ?_
  refine g_if_ne (tgt := 10) (pc := 5) dX10_firstBroken_5 (by decide) (fun c1 => ?_) (fun c1 => ?_)
  · replace h := (if_neg c1).symm.trans h
    refine g_aload_n (pc := 10) dX10_firstBroken_10 rfl ?_
    refine g_gR (pc := 11) dX10_firstBroken_11 fR_RX10_15 xc_58 (v := 59) rfl ?_
    refine g_iconst (pc := 14) dX10_firstBroken_14 ic_4 ?_
    refine g_iload_n (pc := 15) dX10_firstBroken_15 rfl ?_
    refine g_iadd (pc := 16) dX10_firstBroken_16 rfl ?_
    obtain ⟨g2, h⟩ := x_gd h
    refine g_aaload (pc := 17) dX10_firstBroken_17 xc_59 (xin_of g2) (v := (60 + ((4 : Int32) + v1).toNatClampNeg)) (xrf_59 _ (xin_lt g2)) ?_
    refine g_astore_n (pc := 18) dX10_firstBroken_18 (Nat.le_of_ble_eq_true rfl) (L' := [some (.ref 58), some (.int v1), some (.ref (60 + ((4 : Int32) + v1).toNatClampNeg)), none, none]) rfl ?_
    refine g_iconst (pc := 19) dX10_firstBroken_19 ic_0 ?_
    refine g_istore_n (pc := 20) dX10_firstBroken_20 (Nat.le_of_ble_eq_true rfl) (L' := [some (.ref 58), some (.int v1), some (.ref (60 + ((4 : Int32) + v1).toNatClampNeg)), some (.int (0 : Int32)), none]) rfl ?_
    refine g_aload_n (pc := 21) dX10_firstBroken_21 rfl ?_
    refine g_iconst (pc := 22) dX10_firstBroken_22 ic_0 ?_
    refine g_pI (pc := 23) dX10_firstBroken_23 pI_RX10_28 xc_58 (u' := (wr u 58 4 (0 : Int32))) rfl ?_
    refine g_iconst (pc := 26) dX10_firstBroken_26 ic_0 ?_
    refine g_istore (pc := 27) dX10_firstBroken_27 (Nat.le_of_ble_eq_true rfl) (L' := [some (.ref 58), some (.int v1), some (.ref (60 + ((4 : Int32) + v1).toNatClampNeg)), some (.int (0 : Int32)), some (.int (0 : Int32))]) rfl ?_
    exact G_X10_firstBroken_29 hd xN v1 (60 + ((4 : Int32) + v1).toNatClampNeg) (0 : Int32) (0 : Int32) (wr u 58 4 (0 : Int32)) h
  · replace h := (if_pos c1).symm.trans h
    refine g_iconst (pc := 8) dX10_firstBroken_8 ic_m1 ?_
    cases h
    exact g_iret (pc := 9) dX10_firstBroken_9 rfl rfl rfl (Nat.le_refl _) (Nat.le_refl _)
set_option maxRecDepth 100000 in
set_option maxHeartbeats 4000000 in
theorem M_X10_firstBroken {sc : Nat × (Nat → Int32)} {d : Nat} (hd : 2 ≤ d) {r : Int32} {u u' : xS} {a1 : Int32} (h : f_X10_firstBroken a1 u = some (r, u')) : xMt sc mX10_firstBroken d 0 0 [.ref 58, .int a1] (xL0, u) (some (.int r)) (xL0, u') :=
  xMt.of (by decide +kernel) (Nat.le_of_ble_eq_true rfl) (L := [some (.ref 58), some (.int a1), none, none, none]) rfl ((G_X10_firstBroken_0 hd a1 u h))
set_option maxRecDepth 100000 in
set_option maxHeartbeats 4000000 in
theorem G_X10_tell_0 {sc : Nat × (Nat → Int32)} {d : Nat} (hd : 1 ≤ d) {u' : xS} (v1 : Int32) (v2 : Int32) (u : xS) (h : f_X10_tell v1 v2 u = some u') : xG sc mX10_tell d 0 0 (xR none (xL0, u') 0 0) 0 0 0 [some (.ref 58), some (.int v1), some (.int v2)] [] (xL0, u) := by
  rw [f_X10_tell] at h
  refine g_iload_n (pc := 0) dX10_tell_0 rfl ?_
  refine g_bipush (pc := 1) dX10_tell_1 bp_97 ?_
  refine g_bipush (pc := 3) dX10_tell_3 bp_122 ?_
  refine g_cN (pc := 5) dX10_tell_5 cN_RX10_35 (M_X11_lies (Nat.le_refl _) rfl) (as := [.int v1, .int (97 : Int32), .int (122 : Int32)]) (st := []) rfl rfl (Nat.le_of_ble_eq_true rfl) (Nat.le_trans (Nat.le_of_ble_eq_true rfl) hd) rfl ?_
  refine g_if_eq (tgt := 21) (pc := 8) dX10_tell_8 (by decide) (fun c1 => ?_) (fun c1 => ?_)
  · replace h := (if_pos c1).symm.trans h
    cases h
    exact g_ret (pc := 21) dX10_tell_21 rfl rfl rfl (Nat.le_refl _) (Nat.le_refl _)
  · replace h := (if_neg c1).symm.trans h
    refine g_aload_n (pc := 11) dX10_tell_11 rfl ?_
    refine g_gR (pc := 12) dX10_tell_12 fR_RX10_22 xc_58 (v := 72) rfl ?_
    refine g_iload_n (pc := 15) dX10_tell_15 rfl ?_
    refine g_bipush (pc := 16) dX10_tell_16 bp_97 ?_
    refine g_isub (pc := 18) dX10_tell_18 rfl ?_
    refine g_iload_n (pc := 19) dX10_tell_19 rfl ?_
    obtain ⟨g2, h⟩ := x_gd h
    refine g_iastore (pc := 20) dX10_tell_20 xc_72 (xin_of g2) (u' := (wr u 72 (v1 - (97 : Int32)).toNatClampNeg v2)) rfl ?_
    cases h
    exact g_ret (pc := 21) dX10_tell_21 rfl rfl rfl (Nat.le_refl _) (Nat.le_refl _)
set_option maxRecDepth 100000 in
set_option maxHeartbeats 4000000 in
theorem M_X10_tell {sc : Nat × (Nat → Int32)} {d : Nat} (hd : 1 ≤ d) {u u' : xS} {a1 : Int32} {a2 : Int32} (h : f_X10_tell a1 a2 u = some u') : xMt sc mX10_tell d 0 0 [.ref 58, .int a1, .int a2] (xL0, u) none (xL0, u') :=
  xMt.of (by decide +kernel) (Nat.le_of_ble_eq_true rfl) (L := [some (.ref 58), some (.int a1), some (.int a2)]) rfl ((G_X10_tell_0 hd a1 a2 u h))
set_option maxRecDepth 100000 in
set_option maxHeartbeats 4000000 in
theorem G_X10_valueOf_19 {sc : Nat × (Nat → Int32)} {d : Nat} (hd : 2 ≤ d) {r : Int32} {u' : xS} : ∀ (n : Nat) (v1 : Int32) (v2 : Int32) (u : xS), f_X10_valueOf_19 n v1 v2 u = some (r, u') → xG sc mX10_valueOf d 0 0 (xR (some (.int r)) (xL0, u') 0 0) 0 0 19 [some (.ref 58), some (.int v1), some (.int v2)] [] (xL0, u) := by
  intro n
  induction n with
  | zero =>
    intro v1 v2 u h
    rw [f_X10_valueOf_19] at h
    cases h
  | succ n ih =>
    intro v1 v2 u h
    rw [f_X10_valueOf_19] at h
    refine g_iload_n (pc := 19) dX10_valueOf_19 rfl ?_
    refine g_aload_n (pc := 20) dX10_valueOf_20 rfl ?_
    refine g_gR (pc := 21) dX10_valueOf_21 fR_RX10_18 xc_58 (v := 71) rfl ?_
    refine g_iload_n (pc := 24) dX10_valueOf_24 rfl ?_
    obtain ⟨g1, h⟩ := x_gd h
    refine g_iaload (pc := 25) dX10_valueOf_25 xc_71 (xin_of g1) (v := (rd u 71 v1.toNatClampNeg)) rfl ?_
    refine g_icmp_ge (tgt := 47) (pc := 26) dX10_valueOf_26 (by decide) (fun c2 => ?_) (fun c2 => ?_)
    · replace h := (if_pos c2).symm.trans h
      refine g_aload_n (pc := 47) dX10_valueOf_47 rfl ?_
      obtain ⟨⟨x4, u5⟩, e3, h⟩ := x_bind h
      dsimp only at h
      refine g_cV (pc := 48) dX10_valueOf_48 cV_RX10_65 (M_X10_pop (Nat.le_refl _) e3) xc_58 (as := []) (st := []) rfl rfl (Nat.le_of_ble_eq_true rfl) (Nat.le_trans (Nat.le_of_ble_eq_true rfl) hd) rfl ?_
      cases h
      exact g_iret (pc := 51) dX10_valueOf_51 rfl rfl rfl (Nat.le_refl _) (Nat.le_refl _)
    · replace h := (if_neg c2).symm.trans h
      refine g_aload_n (pc := 29) dX10_valueOf_29 rfl ?_
      refine g_aload_n (pc := 30) dX10_valueOf_30 rfl ?_
      refine g_gR (pc := 31) dX10_valueOf_31 fR_RX10_15 xc_58 (v := 59) rfl ?_
      refine g_iload_n (pc := 34) dX10_valueOf_34 rfl ?_
      refine g_aaload (pc := 35) dX10_valueOf_35 xc_59 (xin_of g1) (v := (60 + v1.toNatClampNeg)) (xrf_59 _ (xin_lt g1)) ?_
      refine g_iload_n (pc := 36) dX10_valueOf_36 rfl ?_
      obtain ⟨g7, h⟩ := x_gd h
      refine g_iaload (pc := 37) dX10_valueOf_37 (xrow_59 _ (xin_lt g1)) (xin_of g7) (v := (rd u (60 + v1.toNatClampNeg) v2.toNatClampNeg)) rfl ?_
      obtain ⟨u9, e8, h⟩ := x_bind h
      refine g_cV (pc := 38) dX10_valueOf_38 cV_RX10_61 (M_X10_work (Nat.le_refl _) e8) xc_58 (as := [.int (rd u (60 + v1.toNatClampNeg) v2.toNatClampNeg)]) (st := []) rfl rfl (Nat.le_of_ble_eq_true rfl) (Nat.le_trans (Nat.le_of_ble_eq_true rfl) hd) rfl ?_
      refine g_inc (pc := 41) dX10_valueOf_41 (Nat.le_of_ble_eq_true rfl) rfl ic_1 (L' := [some (.ref 58), some (.int v1), some (.int (v2 + (1 : Int32)))]) rfl ?_
      refine g_goto (tgt := 19) (pc := 44) dX10_valueOf_44 (by decide) ?_
      exact ih v1 (v2 + (1 : Int32)) u9 h
set_option maxRecDepth 100000 in
set_option maxHeartbeats 4000000 in
theorem G_X10_valueOf_0 {sc : Nat × (Nat → Int32)} {d : Nat} (hd : 2 ≤ d) {r : Int32} {u' : xS} (v1 : Int32) (u : xS) (h : f_X10_valueOf v1 u = some (r, u')) : xG sc mX10_valueOf d 0 0 (xR (some (.int r)) (xL0, u') 0 0) 0 0 0 [some (.ref 58), some (.int v1), none] [] (xL0, u) := by
  rw [f_X10_valueOf] at h
  refine g_iload_n (pc := 0) dX10_valueOf_0 rfl ?_
  refine g_iconst (pc := 1) dX10_valueOf_1 ic_0 ?_
  refine g_bipush (pc := 2) dX10_valueOf_2 bp_10 ?_
  refine g_cN (pc := 4) dX10_valueOf_4 cN_RX10_35 (M_X11_lies (Nat.le_refl _) rfl) (as := [.int v1, .int (0 : Int32), .int (10 : Int32)]) (st := []) rfl rfl (Nat.le_of_ble_eq_true rfl) (Nat.le_trans (Nat.le_of_ble_eq_true rfl) hd) rfl ?_
  refine g_if_ne (tgt := 12) (pc := 7) dX10_valueOf_7 (by decide) (fun c1 => ?_) (fun c1 => ?_)
  · replace h := (if_neg c1).symm.trans h
    refine g_aload_n (pc := 12) dX10_valueOf_12 rfl ?_
    refine g_iconst (pc := 13) dX10_valueOf_13 ic_0 ?_
    refine g_pI (pc := 14) dX10_valueOf_14 pI_RX10_28 xc_58 (u' := (wr u 58 4 (0 : Int32))) rfl ?_
    refine g_iconst (pc := 17) dX10_valueOf_17 ic_0 ?_
    refine g_istore_n (pc := 18) dX10_valueOf_18 (Nat.le_of_ble_eq_true rfl) (L' := [some (.ref 58), some (.int v1), some (.int (0 : Int32))]) rfl ?_
    exact G_X10_valueOf_19 hd xN v1 (0 : Int32) (wr u 58 4 (0 : Int32)) h
  · replace h := (if_pos c1).symm.trans h
    refine g_iconst (pc := 10) dX10_valueOf_10 ic_0 ?_
    cases h
    exact g_iret (pc := 11) dX10_valueOf_11 rfl rfl rfl (Nat.le_refl _) (Nat.le_refl _)
set_option maxRecDepth 100000 in
set_option maxHeartbeats 4000000 in
theorem M_X10_valueOf {sc : Nat × (Nat → Int32)} {d : Nat} (hd : 2 ≤ d) {r : Int32} {u u' : xS} {a1 : Int32} (h : f_X10_valueOf a1 u = some (r, u')) : xMt sc mX10_valueOf d 0 0 [.ref 58, .int a1] (xL0, u) (some (.int r)) (xL0, u') :=
  xMt.of (by decide +kernel) (Nat.le_of_ble_eq_true rfl) (L := [some (.ref 58), some (.int a1), none]) rfl ((G_X10_valueOf_0 hd a1 u h))
theorem zb_X11_isDay (v0 : Int32) : f_X11_isDay v0 = 0 ∨ f_X11_isDay v0 = 1 := by
  unfold f_X11_isDay
  (repeat' split) <;> first | exact Or.inl rfl | exact Or.inr rfl | exact zb_X11_lies _ _ _
set_option maxRecDepth 100000 in
set_option maxHeartbeats 4000000 in
theorem G_X11_isDay_0 {sc : Nat × (Nat → Int32)} {d : Nat} (hd : 1 ≤ d) {r : Int32} {u : xS} (v0 : Int32) (h : f_X11_isDay v0 = r) : xG sc mX11_isDay d 0 0 (xR (some (.int r)) (xL0, u) 0 0) 0 0 0 [some (.int v0)] [] (xL0, u) := by
  rw [f_X11_isDay] at h
  refine g_iload_n (pc := 0) dX11_isDay_0 rfl ?_
  refine g_iconst (pc := 1) dX11_isDay_1 ic_0 ?_
  refine g_bipush (pc := 2) dX11_isDay_2 bp_99 ?_
  refine g_cS (pc := 4) dX11_isDay_4 cS_RX11_94 (M_X11_lies (Nat.le_refl _) rfl) (as := [.int v0, .int (0 : Int32), .int (99 : Int32)]) (st := []) rfl rfl (Nat.le_of_ble_eq_true rfl) (Nat.le_trans (Nat.le_of_ble_eq_true rfl) hd) rfl ?_
  subst h
  exact g_zret (pc := 7) dX11_isDay_7 rfl (zb_X11_lies _ _ _) rfl rfl (Nat.le_refl _) (Nat.le_refl _)
set_option maxRecDepth 100000 in
set_option maxHeartbeats 4000000 in
theorem M_X11_isDay {sc : Nat × (Nat → Int32)} {d : Nat} (hd : 1 ≤ d) {r : Int32} {u : xS} {a0 : Int32} (h : f_X11_isDay a0 = r) : xMt sc mX11_isDay d 0 0 [.int a0] (xL0, u) (some (.int r)) (xL0, u) :=
  xMt.of (by decide +kernel) (Nat.le_of_ble_eq_true rfl) (L := [some (.int a0)]) rfl ((G_X11_isDay_0 hd a0 h))
set_option maxRecDepth 100000 in
set_option maxHeartbeats 4000000 in
theorem G_X11_as_0 {sc : Nat × (Nat → Int32)} {d : Nat} (hd : 2 ≤ d) {r : Int32} {u' : xS} (v1 : Int32) (u : xS) (h : f_X11_as v1 u = some (r, u')) : xG sc mX11_as d 0 0 (xR (some (.int r)) (xL0, u') 0 0) 0 0 0 [some (.ref 0), some (.int v1), none] [] (xL0, u) := by
  rw [f_X11_as] at h
  refine g_iload_n (pc := 0) dX11_as_0 rfl ?_
  refine g_cS (pc := 1) dX11_as_1 cS_RX11_109 (M_X11_isDay (Nat.le_refl _) rfl) (as := [.int v1]) (st := []) rfl rfl (Nat.le_of_ble_eq_true rfl) (Nat.le_trans (Nat.le_of_ble_eq_true rfl) hd) rfl ?_
  refine g_if_ne (tgt := 9) (pc := 4) dX11_as_4 (by decide) (fun c1 => ?_) (fun c1 => ?_)
  · replace h := (if_neg c1).symm.trans h
    refine g_aload_n (pc := 9) dX11_as_9 rfl ?_
    refine g_gR (pc := 10) dX11_as_10 fR_RX11_26 xc_0 (v := 46) rfl ?_
    refine g_gI (pc := 13) dX11_as_13 fI_RX11_182 xc_46 (v := (rd u 46 6)) rfl ?_
    refine g_istore_n (pc := 16) dX11_as_16 (Nat.le_of_ble_eq_true rfl) (L' := [some (.ref 0), some (.int v1), some (.int (rd u 46 6))]) rfl ?_
    refine g_aload_n (pc := 17) dX11_as_17 rfl ?_
    refine g_gR (pc := 18) dX11_as_18 fR_RX11_26 xc_0 (v := 46) rfl ?_
    refine g_iload_n (pc := 21) dX11_as_21 rfl ?_
    refine g_pI (pc := 22) dX11_as_22 pI_RX11_182 xc_46 (u' := (wr u 46 6 v1)) rfl ?_
    refine g_iload_n (pc := 25) dX11_as_25 rfl ?_
    cases h
    exact g_iret (pc := 26) dX11_as_26 rfl rfl rfl (Nat.le_refl _) (Nat.le_refl _)
  · replace h := (if_pos c1).symm.trans h
    refine g_iconst (pc := 7) dX11_as_7 ic_m1 ?_
    cases h
    exact g_iret (pc := 8) dX11_as_8 rfl rfl rfl (Nat.le_refl _) (Nat.le_refl _)
set_option maxRecDepth 100000 in
set_option maxHeartbeats 4000000 in
theorem M_X11_as {sc : Nat × (Nat → Int32)} {d : Nat} (hd : 2 ≤ d) {r : Int32} {u u' : xS} {a1 : Int32} (h : f_X11_as a1 u = some (r, u')) : xMt sc mX11_as d 0 0 [.ref 0, .int a1] (xL0, u) (some (.int r)) (xL0, u') :=
  xMt.of (by decide +kernel) (Nat.le_of_ble_eq_true rfl) (L := [some (.ref 0), some (.int a1), none]) rfl ((G_X11_as_0 hd a1 u h))
theorem zb_X8_has (u : xS) (v1 : Int32) : f_X8_has u v1 = 0 ∨ f_X8_has u v1 = 1 := by
  unfold f_X8_has
  (repeat' split) <;> first | exact Or.inl rfl | exact Or.inr rfl
set_option maxRecDepth 100000 in
set_option maxHeartbeats 4000000 in
theorem G_X8_has_0 {sc : Nat × (Nat → Int32)} {d : Nat} (hd : 0 ≤ d) {r : Int32} {u : xS} (v1 : Int32) (h : f_X8_has u v1 = r) : xG sc mX8_has d 0 0 (xR (some (.int r)) (xL0, u) 0 0) 0 0 0 [some (.ref 1), some (.int v1)] [] (xL0, u) := by
  rw [f_X8_has] at h
  refine g_iload_n (pc := 0) dX8_has_0 rfl ?_
  refine g_if_lt (tgt := 16) (pc := 1) dX8_has_1 (by decide) (fun c1 => ?_) (fun c1 => ?_)
  · replace h := (if_pos c1).symm.trans h
    refine g_iconst (pc := 16) dX8_has_16 ic_0 ?_
    subst h
    exact g_zret (pc := 17) dX8_has_17 rfl (Or.inl rfl) rfl rfl (Nat.le_refl _) (Nat.le_refl _)
  · replace h := (if_neg c1).symm.trans h
    refine g_iload_n (pc := 4) dX8_has_4 rfl ?_
    refine g_aload_n (pc := 5) dX8_has_5 rfl ?_
    refine g_gI (pc := 6) dX8_has_6 fI_RX8_20 xc_1 (v := (rd u 1 2)) rfl ?_
    refine g_icmp_ge (tgt := 16) (pc := 9) dX8_has_9 (by decide) (fun c2 => ?_) (fun c2 => ?_)
    · replace h := (if_pos c2).symm.trans h
      refine g_iconst (pc := 16) dX8_has_16 ic_0 ?_
      subst h
      exact g_zret (pc := 17) dX8_has_17 rfl (Or.inl rfl) rfl rfl (Nat.le_refl _) (Nat.le_refl _)
    · replace h := (if_neg c2).symm.trans h
      refine g_iconst (pc := 12) dX8_has_12 ic_1 ?_
      refine g_goto (tgt := 17) (pc := 13) dX8_has_13 (by decide) ?_
      subst h
      exact g_zret (pc := 17) dX8_has_17 rfl (Or.inr rfl) rfl rfl (Nat.le_refl _) (Nat.le_refl _)
set_option maxRecDepth 100000 in
set_option maxHeartbeats 4000000 in
theorem M_X8_has {sc : Nat × (Nat → Int32)} {d : Nat} (hd : 0 ≤ d) {r : Int32} {u : xS} {a1 : Int32} (h : f_X8_has u a1 = r) : xMt sc mX8_has d 0 0 [.ref 1, .int a1] (xL0, u) (some (.int r)) (xL0, u) :=
  xMt.of (by decide +kernel) (Nat.le_of_ble_eq_true rfl) (L := [some (.ref 1), some (.int a1)]) rfl ((G_X8_has_0 hd a1 h))
set_option maxRecDepth 100000 in
set_option maxHeartbeats 4000000 in
theorem G_X8_priceIn_67 {sc : Nat × (Nat → Int32)} {d : Nat} (hd : 0 ≤ d) {r : Int32} {u : xS} {k8 : Int32 → Int32 → Int32 → Int32 → Int32 → Option Int32} (hk8 : ∀ (v1 : Int32) (v2 : Int32) (v3 : Int32) (v4 : Int32) (v5 : Int32), k8 v1 v2 v3 v4 v5 = some r → xG sc mX8_priceIn d 0 0 (xR (some (.int r)) (xL0, u) 0 0) 0 0 8 [some (.ref 1), some (.int v1), some (.int v2), some (.int v3), some (.int v4), some (.int v5)] [] (xL0, u)) (v1 : Int32) (v2 : Int32) (v3 : Int32) (v4 : Int32) (v5 : Int32) (h : f_X8_priceIn_67 k8 u v1 v2 v3 v4 v5 = some r) : xG sc mX8_priceIn d 0 0 (xR (some (.int r)) (xL0, u) 0 0) 0 0 67 [some (.ref 1), some (.int v1), some (.int v2), some (.int v3), some (.int v4), some (.int v5)] [] (xL0, u) := by
  rw [f_X8_priceIn_67] at h
  refine g_inc (pc := 67) dX8_priceIn_67 (Nat.le_of_ble_eq_true rfl) rfl ic_1 (L' := [some (.ref 1), some (.int v1), some (.int v2), some (.int v3), some (.int v4), some (.int (v5 + (1 : Int32)))]) rfl ?_
  refine g_goto (tgt := 8) (pc := 70) dX8_priceIn_70 (by decide) ?_
  exact hk8 v1 v2 v3 v4 (v5 + (1 : Int32)) h
set_option maxRecDepth 100000 in
set_option maxHeartbeats 4000000 in
theorem G_X8_priceIn_8 {sc : Nat × (Nat → Int32)} {d : Nat} (hd : 0 ≤ d) {r : Int32} {u : xS} : ∀ (n : Nat) (v1 : Int32) (v2 : Int32) (v3 : Int32) (v4 : Int32) (v5 : Int32), f_X8_priceIn_8 u n v1 v2 v3 v4 v5 = some r → xG sc mX8_priceIn d 0 0 (xR (some (.int r)) (xL0, u) 0 0) 0 0 8 [some (.ref 1), some (.int v1), some (.int v2), some (.int v3), some (.int v4), some (.int v5)] [] (xL0, u) := by
  intro n
  induction n with
  | zero =>
    intro v1 v2 v3 v4 v5 h
    rw [f_X8_priceIn_8] at h
    cases h
  | succ n ih =>
    intro v1 v2 v3 v4 v5 h
    rw [f_X8_priceIn_8] at h
    refine g_iload (pc := 8) dX8_priceIn_8 rfl ?_
    refine g_aload_n (pc := 10) dX8_priceIn_10 rfl ?_
    refine g_gI (pc := 11) dX8_priceIn_11 fI_RX8_33 xc_1 (v := (rd u 1 6)) rfl ?_
    refine g_icmp_ge (tgt := 73) (pc := 14) dX8_priceIn_14 (by decide) (fun c1 => ?_) (fun c1 => ?_)
    · replace h := (if_pos c1).symm.trans h
      refine g_iload (pc := 73) dX8_priceIn_73 rfl ?_
      cases h
      exact g_iret (pc := 75) dX8_priceIn_75 rfl rfl rfl (Nat.le_refl _) (Nat.le_refl _)
    · replace h := (if_neg c1).symm.trans h
      refine g_aload_n (pc := 17) dX8_priceIn_17 rfl ?_
      refine g_gR (pc := 18) dX8_priceIn_18 fR_RX8_24 xc_1 (v := 10) rfl ?_
      refine g_iload (pc := 21) dX8_priceIn_21 rfl ?_
      obtain ⟨g2, h⟩ := x_gd h
      refine g_iaload (pc := 23) dX8_priceIn_23 xc_10 (xin_of g2) (v := (rd u 10 v5.toNatClampNeg)) rfl ?_
      refine g_iload_n (pc := 24) dX8_priceIn_24 rfl ?_
      refine g_icmp_ne (tgt := 67) (pc := 25) dX8_priceIn_25 (by decide) (fun c3 => ?_) (fun c3 => ?_)
      · replace h := (if_neg c3).symm.trans h
        exact G_X8_priceIn_67 hd ih v1 v2 v3 v4 v5 h
      · replace h := (if_pos c3).symm.trans h
        refine g_aload_n (pc := 28) dX8_priceIn_28 rfl ?_
        refine g_gR (pc := 29) dX8_priceIn_29 fR_RX8_27 xc_1 (v := 11) rfl ?_
        refine g_iload (pc := 32) dX8_priceIn_32 rfl ?_
        refine g_iaload (pc := 34) dX8_priceIn_34 xc_11 (xin_of g2) (v := (rd u 11 v5.toNatClampNeg)) rfl ?_
        refine g_iload_n (pc := 35) dX8_priceIn_35 rfl ?_
        refine g_icmp_gt (tgt := 67) (pc := 36) dX8_priceIn_36 (by decide) (fun c4 => ?_) (fun c4 => ?_)
        · replace h := (if_pos c4).symm.trans h
          exact G_X8_priceIn_67 hd ih v1 v2 v3 v4 v5 h
        · replace h := (if_neg c4).symm.trans h
          refine g_aload_n (pc := 39) dX8_priceIn_39 rfl ?_
          refine g_gR (pc := 40) dX8_priceIn_40 fR_RX8_27 xc_1 (v := 11) rfl ?_
          refine g_iload (pc := 43) dX8_priceIn_43 rfl ?_
          refine g_iaload (pc := 45) dX8_priceIn_45 xc_11 (xin_of g2) (v := (rd u 11 v5.toNatClampNeg)) rfl ?_
          refine g_iload_n (pc := 46) dX8_priceIn_46 rfl ?_
          refine g_icmp_lt (tgt := 67) (pc := 47) dX8_priceIn_47 (by decide) (fun c5 => ?_) (fun c5 => ?_)
          · replace h := (if_pos c5).symm.trans h
            exact G_X8_priceIn_67 hd ih v1 v2 v3 v4 v5 h
          · replace h := (if_neg c5).symm.trans h
            refine g_aload_n (pc := 50) dX8_priceIn_50 rfl ?_
            refine g_gR (pc := 51) dX8_priceIn_51 fR_RX8_27 xc_1 (v := 11) rfl ?_
            refine g_iload (pc := 54) dX8_priceIn_54 rfl ?_
            refine g_iaload (pc := 56) dX8_priceIn_56 xc_11 (xin_of g2) (v := (rd u 11 v5.toNatClampNeg)) rfl ?_
            refine g_istore_n (pc := 57) dX8_priceIn_57 (Nat.le_of_ble_eq_true rfl) (L' := [some (.ref 1), some (.int v1), some (.int v2), some (.int (rd u 11 v5.toNatClampNeg)), some (.int v4), some (.int v5)]) rfl ?_
            refine g_aload_n (pc := 58) dX8_priceIn_58 rfl ?_
            refine g_gR (pc := 59) dX8_priceIn_59 fR_RX8_30 xc_1 (v := 12) rfl ?_
            refine g_iload (pc := 62) dX8_priceIn_62 rfl ?_
            refine g_iaload (pc := 64) dX8_priceIn_64 xc_12 (xin_of g2) (v := (rd u 12 v5.toNatClampNeg)) rfl ?_
            refine g_istore (pc := 65) dX8_priceIn_65 (Nat.le_of_ble_eq_true rfl) (L' := [some (.ref 1), some (.int v1), some (.int v2), some (.int (rd u 11 v5.toNatClampNeg)), some (.int (rd u 12 v5.toNatClampNeg)), some (.int v5)]) rfl ?_
            exact G_X8_priceIn_67 hd ih v1 v2 (rd u 11 v5.toNatClampNeg) (rd u 12 v5.toNatClampNeg) v5 h
set_option maxRecDepth 100000 in
set_option maxHeartbeats 4000000 in
theorem G_X8_priceIn_0 {sc : Nat × (Nat → Int32)} {d : Nat} (hd : 0 ≤ d) {r : Int32} {u : xS} (v1 : Int32) (v2 : Int32) (h : f_X8_priceIn u v1 v2 = some r) : xG sc mX8_priceIn d 0 0 (xR (some (.int r)) (xL0, u) 0 0) 0 0 0 [some (.ref 1), some (.int v1), some (.int v2), none, none, none] [] (xL0, u) := by
  rw [f_X8_priceIn] at h
  refine g_iconst (pc := 0) dX8_priceIn_0 ic_m1 ?_
  refine g_istore_n (pc := 1) dX8_priceIn_1 (Nat.le_of_ble_eq_true rfl) (L' := [some (.ref 1), some (.int v1), some (.int v2), some (.int (-1 : Int32)), none, none]) rfl ?_
  refine g_iconst (pc := 2) dX8_priceIn_2 ic_0 ?_
  refine g_istore (pc := 3) dX8_priceIn_3 (Nat.le_of_ble_eq_true rfl) (L' := [some (.ref 1), some (.int v1), some (.int v2), some (.int (-1 : Int32)), some (.int (0 : Int32)), none]) rfl ?_
  refine g_iconst (pc := 5) dX8_priceIn_5 ic_0 ?_
  refine g_istore (pc := 6) dX8_priceIn_6 (Nat.le_of_ble_eq_true rfl) (L' := [some (.ref 1), some (.int v1), some (.int v2), some (.int (-1 : Int32)), some (.int (0 : Int32)), some (.int (0 : Int32))]) rfl ?_
  exact G_X8_priceIn_8 hd xN v1 v2 (-1 : Int32) (0 : Int32) (0 : Int32) h
set_option maxRecDepth 100000 in
set_option maxHeartbeats 4000000 in
theorem M_X8_priceIn {sc : Nat × (Nat → Int32)} {d : Nat} (hd : 0 ≤ d) {r : Int32} {u : xS} {a1 : Int32} {a2 : Int32} (h : f_X8_priceIn u a1 a2 = some r) : xMt sc mX8_priceIn d 0 0 [.ref 1, .int a1, .int a2] (xL0, u) (some (.int r)) (xL0, u) :=
  xMt.of (by decide +kernel) (Nat.le_of_ble_eq_true rfl) (L := [some (.ref 1), some (.int a1), some (.int a2), none, none, none]) rfl ((G_X8_priceIn_0 hd a1 a2 h))
set_option maxRecDepth 100000 in
set_option maxHeartbeats 4000000 in
theorem G_X11_at_0 {sc : Nat × (Nat → Int32)} {d : Nat} (hd : 2 ≤ d) {r : Int32} {u : xS} (v1 : Int32) (v2 : Int32) (h : f_X11_at u v1 v2 = some r) : xG sc mX11_at d 0 0 (xR (some (.int r)) (xL0, u) 0 0) 0 0 0 [some (.ref 0), some (.int v1), some (.int v2)] [] (xL0, u) := by
  rw [f_X11_at] at h
  refine g_aload_n (pc := 0) dX11_at_0 rfl ?_
  refine g_gR (pc := 1) dX11_at_1 fR_RX11_12 xc_0 (v := 1) rfl ?_
  refine g_iload_n (pc := 4) dX11_at_4 rfl ?_
  refine g_cV (pc := 5) dX11_at_5 cV_RX11_98 (M_X8_has (Nat.le_refl _) rfl) xc_1 (as := [.int v1]) (st := []) rfl rfl (Nat.le_of_ble_eq_true rfl) (Nat.le_trans (Nat.le_of_ble_eq_true rfl) hd) rfl ?_
  refine g_if_eq (tgt := 30) (pc := 8) dX11_at_8 (by decide) (fun c1 => ?_) (fun c1 => ?_)
  · replace h := (if_pos c1).symm.trans h
    refine g_iconst (pc := 30) dX11_at_30 ic_m1 ?_
    cases h
    exact g_iret (pc := 31) dX11_at_31 rfl rfl rfl (Nat.le_refl _) (Nat.le_refl _)
  · replace h := (if_neg c1).symm.trans h
    refine g_iload_n (pc := 11) dX11_at_11 rfl ?_
    refine g_cS (pc := 12) dX11_at_12 cS_RX11_109 (M_X11_isDay (Nat.le_refl _) rfl) (as := [.int v2]) (st := []) rfl rfl (Nat.le_of_ble_eq_true rfl) (Nat.le_trans (Nat.le_of_ble_eq_true rfl) hd) rfl ?_
    refine g_if_eq (tgt := 30) (pc := 15) dX11_at_15 (by decide) (fun c2 => ?_) (fun c2 => ?_)
    · replace h := (if_pos c2).symm.trans h
      refine g_iconst (pc := 30) dX11_at_30 ic_m1 ?_
      cases h
      exact g_iret (pc := 31) dX11_at_31 rfl rfl rfl (Nat.le_refl _) (Nat.le_refl _)
    · replace h := (if_neg c2).symm.trans h
      refine g_aload_n (pc := 18) dX11_at_18 rfl ?_
      refine g_gR (pc := 19) dX11_at_19 fR_RX11_12 xc_0 (v := 1) rfl ?_
      refine g_iload_n (pc := 22) dX11_at_22 rfl ?_
      refine g_iload_n (pc := 23) dX11_at_23 rfl ?_
      obtain ⟨x4, e3, h⟩ := x_bind h
      refine g_cV (pc := 24) dX11_at_24 cV_RX11_119 (M_X8_priceIn (Nat.le_refl _) e3) xc_1 (as := [.int v1, .int v2]) (st := []) rfl rfl (Nat.le_of_ble_eq_true rfl) (Nat.le_trans (Nat.le_of_ble_eq_true rfl) hd) rfl ?_
      refine g_goto (tgt := 31) (pc := 27) dX11_at_27 (by decide) ?_
      cases h
      exact g_iret (pc := 31) dX11_at_31 rfl rfl rfl (Nat.le_refl _) (Nat.le_refl _)
set_option maxRecDepth 100000 in
set_option maxHeartbeats 4000000 in
theorem M_X11_at {sc : Nat × (Nat → Int32)} {d : Nat} (hd : 2 ≤ d) {r : Int32} {u : xS} {a1 : Int32} {a2 : Int32} (h : f_X11_at u a1 a2 = some r) : xMt sc mX11_at d 0 0 [.ref 0, .int a1, .int a2] (xL0, u) (some (.int r)) (xL0, u) :=
  xMt.of (by decide +kernel) (Nat.le_of_ble_eq_true rfl) (L := [some (.ref 0), some (.int a1), some (.int a2)]) rfl ((G_X11_at_0 hd a1 a2 h))
theorem zb_X11_isSeller (v0 : Int32) : f_X11_isSeller v0 = 0 ∨ f_X11_isSeller v0 = 1 := by
  unfold f_X11_isSeller
  (repeat' split) <;> first | exact Or.inl rfl | exact Or.inr rfl | exact zb_X11_lies _ _ _
set_option maxRecDepth 100000 in
set_option maxHeartbeats 4000000 in
theorem G_X11_isSeller_0 {sc : Nat × (Nat → Int32)} {d : Nat} (hd : 1 ≤ d) {r : Int32} {u : xS} (v0 : Int32) (h : f_X11_isSeller v0 = r) : xG sc mX11_isSeller d 0 0 (xR (some (.int r)) (xL0, u) 0 0) 0 0 0 [some (.int v0)] [] (xL0, u) := by
  rw [f_X11_isSeller] at h
  refine g_iload_n (pc := 0) dX11_isSeller_0 rfl ?_
  refine g_iconst (pc := 1) dX11_isSeller_1 ic_0 ?_
  refine g_iconst (pc := 2) dX11_isSeller_2 ic_3 ?_
  refine g_cS (pc := 3) dX11_isSeller_3 cS_RX11_94 (M_X11_lies (Nat.le_refl _) rfl) (as := [.int v0, .int (0 : Int32), .int (3 : Int32)]) (st := []) rfl rfl (Nat.le_of_ble_eq_true rfl) (Nat.le_trans (Nat.le_of_ble_eq_true rfl) hd) rfl ?_
  subst h
  exact g_zret (pc := 6) dX11_isSeller_6 rfl (zb_X11_lies _ _ _) rfl rfl (Nat.le_refl _) (Nat.le_refl _)
set_option maxRecDepth 100000 in
set_option maxHeartbeats 4000000 in
theorem M_X11_isSeller {sc : Nat × (Nat → Int32)} {d : Nat} (hd : 1 ≤ d) {r : Int32} {u : xS} {a0 : Int32} (h : f_X11_isSeller a0 = r) : xMt sc mX11_isSeller d 0 0 [.int a0] (xL0, u) (some (.int r)) (xL0, u) :=
  xMt.of (by decide +kernel) (Nat.le_of_ble_eq_true rfl) (L := [some (.int a0)]) rfl ((G_X11_isSeller_0 hd a0 h))
theorem zb_X11_isMark (v0 : Int32) : f_X11_isMark v0 = 0 ∨ f_X11_isMark v0 = 1 := by
  unfold f_X11_isMark
  (repeat' split) <;> first | exact Or.inl rfl | exact Or.inr rfl | exact zb_X11_lies _ _ _
set_option maxRecDepth 100000 in
set_option maxHeartbeats 4000000 in
theorem G_X11_isMark_0 {sc : Nat × (Nat → Int32)} {d : Nat} (hd : 1 ≤ d) {r : Int32} {u : xS} (v0 : Int32) (h : f_X11_isMark v0 = r) : xG sc mX11_isMark d 0 0 (xR (some (.int r)) (xL0, u) 0 0) 0 0 0 [some (.int v0)] [] (xL0, u) := by
  rw [f_X11_isMark] at h
  refine g_iload_n (pc := 0) dX11_isMark_0 rfl ?_
  refine g_iconst (pc := 1) dX11_isMark_1 ic_0 ?_
  refine g_bipush (pc := 2) dX11_isMark_2 bp_7 ?_
  refine g_cS (pc := 4) dX11_isMark_4 cS_RX11_94 (M_X11_lies (Nat.le_refl _) rfl) (as := [.int v0, .int (0 : Int32), .int (7 : Int32)]) (st := []) rfl rfl (Nat.le_of_ble_eq_true rfl) (Nat.le_trans (Nat.le_of_ble_eq_true rfl) hd) rfl ?_
  subst h
  exact g_zret (pc := 7) dX11_isMark_7 rfl (zb_X11_lies _ _ _) rfl rfl (Nat.le_refl _) (Nat.le_refl _)
set_option maxRecDepth 100000 in
set_option maxHeartbeats 4000000 in
theorem M_X11_isMark {sc : Nat × (Nat → Int32)} {d : Nat} (hd : 1 ≤ d) {r : Int32} {u : xS} {a0 : Int32} (h : f_X11_isMark a0 = r) : xMt sc mX11_isMark d 0 0 [.int a0] (xL0, u) (some (.int r)) (xL0, u) :=
  xMt.of (by decide +kernel) (Nat.le_of_ble_eq_true rfl) (L := [some (.int a0)]) rfl ((G_X11_isMark_0 hd a0 h))
set_option maxRecDepth 100000 in
set_option maxHeartbeats 4000000 in
theorem G_X11_bale_42 {sc : Nat × (Nat → Int32)} {d : Nat} (hd : 2 ≤ d) {r : Int32} {u' : xS} (v1 : Int32) (v2 : Int32) (v3 : Int32) (v4 : Int32) (s0 : Int32) (u : xS) (h : f_X11_bale_42 v1 v2 v3 v4 s0 u = some (r, u')) : xG sc mX11_bale d 0 0 (xR (some (.int r)) (xL0, u') 0 0) 0 0 42 [some (.ref 0), some (.int v1), some (.int v2), some (.int v3), some (.int v4), none] [.int s0] (xL0, u) := by
  rw [f_X11_bale_42] at h
  refine g_istore (pc := 42) dX11_bale_42 (Nat.le_of_ble_eq_true rfl) (L' := [some (.ref 0), some (.int v1), some (.int v2), some (.int v3), some (.int v4), some (.int s0)]) rfl ?_
  refine g_iload (pc := 44) dX11_bale_44 rfl ?_
  refine g_if_eq (tgt := 76) (pc := 46) dX11_bale_46 (by decide) (fun c1 => ?_) (fun c1 => ?_)
  · replace h := (if_pos c1).symm.trans h
    refine g_iconst (pc := 76) dX11_bale_76 ic_m1 ?_
    cases h
    exact g_iret (pc := 77) dX11_bale_77 rfl rfl rfl (Nat.le_refl _) (Nat.le_refl _)
  · replace h := (if_neg c1).symm.trans h
    refine g_aload_n (pc := 49) dX11_bale_49 rfl ?_
    refine g_gR (pc := 50) dX11_bale_50 fR_RX11_19 xc_0 (v := 13) rfl ?_
    refine g_gI (pc := 53) dX11_bale_53 fI_RX11_133 xc_13 (v := (rd u 13 8)) rfl ?_
    refine g_bipush (pc := 56) dX11_bale_56 bp_24 ?_
    refine g_icmp_ge (tgt := 76) (pc := 58) dX11_bale_58 (by decide) (fun c2 => ?_) (fun c2 => ?_)
    · replace h := (if_pos c2).symm.trans h
      refine g_iconst (pc := 76) dX11_bale_76 ic_m1 ?_
      cases h
      exact g_iret (pc := 77) dX11_bale_77 rfl rfl rfl (Nat.le_refl _) (Nat.le_refl _)
    · replace h := (if_neg c2).symm.trans h
      refine g_aload_n (pc := 61) dX11_bale_61 rfl ?_
      refine g_gR (pc := 62) dX11_bale_62 fR_RX11_19 xc_0 (v := 13) rfl ?_
      refine g_iload_n (pc := 65) dX11_bale_65 rfl ?_
      refine g_iload_n (pc := 66) dX11_bale_66 rfl ?_
      refine g_iload_n (pc := 67) dX11_bale_67 rfl ?_
      refine g_iload (pc := 68) dX11_bale_68 rfl ?_
      obtain ⟨⟨x4, u5⟩, e3, h⟩ := x_bind h
      dsimp only at h
      refine g_cV (pc := 70) dX11_bale_70 cV_RX11_134 (M_X0_add (Nat.le_refl _) e3) xc_13 (as := [.int v1, .int v2, .int v3, .int v4]) (st := []) rfl rfl (Nat.le_of_ble_eq_true rfl) (Nat.le_trans (Nat.le_of_ble_eq_true rfl) hd) rfl ?_
      refine g_goto (tgt := 77) (pc := 73) dX11_bale_73 (by decide) ?_
      cases h
      exact g_iret (pc := 77) dX11_bale_77 rfl rfl rfl (Nat.le_refl _) (Nat.le_refl _)
set_option maxRecDepth 100000 in
set_option maxHeartbeats 4000000 in
theorem G_X11_bale_41 {sc : Nat × (Nat → Int32)} {d : Nat} (hd : 2 ≤ d) {r : Int32} {u' : xS} (v1 : Int32) (v2 : Int32) (v3 : Int32) (v4 : Int32) (u : xS) (h : f_X11_bale_41 v1 v2 v3 v4 u = some (r, u')) : xG sc mX11_bale d 0 0 (xR (some (.int r)) (xL0, u') 0 0) 0 0 41 [some (.ref 0), some (.int v1), some (.int v2), some (.int v3), some (.int v4), none] [] (xL0, u) := by
  rw [f_X11_bale_41] at h
  refine g_iconst (pc := 41) dX11_bale_41 ic_0 ?_
  exact G_X11_bale_42 hd v1 v2 v3 v4 (0 : Int32) u h
set_option maxRecDepth 100000 in
set_option maxHeartbeats 4000000 in
theorem G_X11_bale_0 {sc : Nat × (Nat → Int32)} {d : Nat} (hd : 2 ≤ d) {r : Int32} {u' : xS} (v1 : Int32) (v2 : Int32) (v3 : Int32) (v4 : Int32) (u : xS) (h : f_X11_bale v1 v2 v3 v4 u = some (r, u')) : xG sc mX11_bale d 0 0 (xR (some (.int r)) (xL0, u') 0 0) 0 0 0 [some (.ref 0), some (.int v1), some (.int v2), some (.int v3), some (.int v4), none] [] (xL0, u) := by
  rw [f_X11_bale] at h
  refine g_iload_n (pc := 0) dX11_bale_0 rfl ?_
  refine g_cS (pc := 1) dX11_bale_1 cS_RX11_127 (M_X11_isSeller (Nat.le_refl _) rfl) (as := [.int v1]) (st := []) rfl rfl (Nat.le_of_ble_eq_true rfl) (Nat.le_trans (Nat.le_of_ble_eq_true rfl) hd) rfl ?_
  refine g_if_eq (tgt := 41) (pc := 4) dX11_bale_4 (by decide) (fun c1 => ?_) (fun c1 => ?_)
  · replace h := (if_pos c1).symm.trans h
    exact G_X11_bale_41 hd v1 v2 v3 v4 u h
  · replace h := (if_neg c1).symm.trans h
    refine g_iload_n (pc := 7) dX11_bale_7 rfl ?_
    refine g_cS (pc := 8) dX11_bale_8 cS_RX11_130 (M_X11_isMark (Nat.le_refl _) rfl) (as := [.int v2]) (st := []) rfl rfl (Nat.le_of_ble_eq_true rfl) (Nat.le_trans (Nat.le_of_ble_eq_true rfl) hd) rfl ?_
    refine g_if_eq (tgt := 41) (pc := 11) dX11_bale_11 (by decide) (fun c2 => ?_) (fun c2 => ?_)
    · replace h := (if_pos c2).symm.trans h
      exact G_X11_bale_41 hd v1 v2 v3 v4 u h
    · replace h := (if_neg c2).symm.trans h
      refine g_iload_n (pc := 14) dX11_bale_14 rfl ?_
      refine g_iconst (pc := 15) dX11_bale_15 ic_1 ?_
      refine g_sipush (pc := 16) dX11_bale_16 sp_9999 ?_
      refine g_cS (pc := 19) dX11_bale_19 cS_RX11_94 (M_X11_lies (Nat.le_refl _) rfl) (as := [.int v3, .int (1 : Int32), .int (9999 : Int32)]) (st := []) rfl rfl (Nat.le_of_ble_eq_true rfl) (Nat.le_trans (Nat.le_of_ble_eq_true rfl) hd) rfl ?_
      refine g_if_eq (tgt := 41) (pc := 22) dX11_bale_22 (by decide) (fun c3 => ?_) (fun c3 => ?_)
      · replace h := (if_pos c3).symm.trans h
        exact G_X11_bale_41 hd v1 v2 v3 v4 u h
      · replace h := (if_neg c3).symm.trans h
        refine g_iload (pc := 25) dX11_bale_25 rfl ?_
        refine g_iconst (pc := 27) dX11_bale_27 ic_0 ?_
        refine g_sipush (pc := 28) dX11_bale_28 sp_999 ?_
        refine g_cS (pc := 31) dX11_bale_31 cS_RX11_94 (M_X11_lies (Nat.le_refl _) rfl) (as := [.int v4, .int (0 : Int32), .int (999 : Int32)]) (st := []) rfl rfl (Nat.le_of_ble_eq_true rfl) (Nat.le_trans (Nat.le_of_ble_eq_true rfl) hd) rfl ?_
        refine g_if_eq (tgt := 41) (pc := 34) dX11_bale_34 (by decide) (fun c4 => ?_) (fun c4 => ?_)
        · replace h := (if_pos c4).symm.trans h
          exact G_X11_bale_41 hd v1 v2 v3 v4 u h
        · replace h := (if_neg c4).symm.trans h
          refine g_iconst (pc := 37) dX11_bale_37 ic_1 ?_
          refine g_goto (tgt := 42) (pc := 38) dX11_bale_38 (by decide) ?_
          exact G_X11_bale_42 hd v1 v2 v3 v4 (1 : Int32) u h
set_option maxRecDepth 100000 in
set_option maxHeartbeats 4000000 in
theorem M_X11_bale {sc : Nat × (Nat → Int32)} {d : Nat} (hd : 2 ≤ d) {r : Int32} {u u' : xS} {a1 : Int32} {a2 : Int32} {a3 : Int32} {a4 : Int32} (h : f_X11_bale a1 a2 a3 a4 u = some (r, u')) : xMt sc mX11_bale d 0 0 [.ref 0, .int a1, .int a2, .int a3, .int a4] (xL0, u) (some (.int r)) (xL0, u') :=
  xMt.of (by decide +kernel) (Nat.le_of_ble_eq_true rfl) (L := [some (.ref 0), some (.int a1), some (.int a2), some (.int a3), some (.int a4), none]) rfl ((G_X11_bale_0 hd a1 a2 a3 a4 u h))
theorem zb_X11_isSorter (v0 : Int32) : f_X11_isSorter v0 = 0 ∨ f_X11_isSorter v0 = 1 := by
  unfold f_X11_isSorter
  (repeat' split) <;> first | exact Or.inl rfl | exact Or.inr rfl | exact zb_X11_lies _ _ _
set_option maxRecDepth 100000 in
set_option maxHeartbeats 4000000 in
theorem G_X11_isSorter_0 {sc : Nat × (Nat → Int32)} {d : Nat} (hd : 1 ≤ d) {r : Int32} {u : xS} (v0 : Int32) (h : f_X11_isSorter v0 = r) : xG sc mX11_isSorter d 0 0 (xR (some (.int r)) (xL0, u) 0 0) 0 0 0 [some (.int v0)] [] (xL0, u) := by
  rw [f_X11_isSorter] at h
  refine g_iload_n (pc := 0) dX11_isSorter_0 rfl ?_
  refine g_iconst (pc := 1) dX11_isSorter_1 ic_0 ?_
  refine g_iconst (pc := 2) dX11_isSorter_2 ic_5 ?_
  refine g_cS (pc := 3) dX11_isSorter_3 cS_RX11_94 (M_X11_lies (Nat.le_refl _) rfl) (as := [.int v0, .int (0 : Int32), .int (5 : Int32)]) (st := []) rfl rfl (Nat.le_of_ble_eq_true rfl) (Nat.le_trans (Nat.le_of_ble_eq_true rfl) hd) rfl ?_
  subst h
  exact g_zret (pc := 6) dX11_isSorter_6 rfl (zb_X11_lies _ _ _) rfl rfl (Nat.le_refl _) (Nat.le_refl _)
set_option maxRecDepth 100000 in
set_option maxHeartbeats 4000000 in
theorem M_X11_isSorter {sc : Nat × (Nat → Int32)} {d : Nat} (hd : 1 ≤ d) {r : Int32} {u : xS} {a0 : Int32} (h : f_X11_isSorter a0 = r) : xMt sc mX11_isSorter d 0 0 [.int a0] (xL0, u) (some (.int r)) (xL0, u) :=
  xMt.of (by decide +kernel) (Nat.le_of_ble_eq_true rfl) (L := [some (.int a0)]) rfl ((G_X11_isSorter_0 hd a0 h))
set_option maxRecDepth 100000 in
set_option maxHeartbeats 4000000 in
theorem G_X3_mostOften_124 {sc : Nat × (Nat → Int32)} {d : Nat} (hd : 1 ≤ d) {r : Int32} {u' : xS} {k93 : Int32 → Int32 → Int32 → xS → Option (Int32 × xS)} (hk93 : ∀ (v3 : Int32) (v4 : Int32) (v5 : Int32) (u : xS), k93 v3 v4 v5 u = some (r, u') → xG sc mX3_mostOften d 0 0 (xR (some (.int r)) (xL0, u') 0 0) 0 0 93 [some (.ref 113), none, none, some (.int v3), some (.int v4), some (.int v5)] [] (xL0, u)) (v3 : Int32) (v4 : Int32) (v5 : Int32) (u : xS) (h : f_X3_mostOften_124 k93 v3 v4 v5 u = some (r, u')) : xG sc mX3_mostOften d 0 0 (xR (some (.int r)) (xL0, u') 0 0) 0 0 124 [some (.ref 113), none, none, some (.int v3), some (.int v4), some (.int v5)] [] (xL0, u) := by
  rw [f_X3_mostOften_124] at h
  refine g_inc (pc := 124) dX3_mostOften_124 (Nat.le_of_ble_eq_true rfl) rfl ic_1 (L' := [some (.ref 113), none, none, some (.int v3), some (.int v4), some (.int (v5 + (1 : Int32)))]) rfl ?_
  refine g_goto (tgt := 93) (pc := 127) dX3_mostOften_127 (by decide) ?_
  exact hk93 v3 v4 (v5 + (1 : Int32)) u h
set_option maxRecDepth 100000 in
set_option maxHeartbeats 4000000 in
theorem G_X3_mostOften_93 {sc : Nat × (Nat → Int32)} {d : Nat} (hd : 1 ≤ d) {r : Int32} {u' : xS} : ∀ (n : Nat) (v3 : Int32) (v4 : Int32) (v5 : Int32) (u : xS), f_X3_mostOften_93 n v3 v4 v5 u = some (r, u') → xG sc mX3_mostOften d 0 0 (xR (some (.int r)) (xL0, u') 0 0) 0 0 93 [some (.ref 113), none, none, some (.int v3), some (.int v4), some (.int v5)] [] (xL0, u) := by
  intro n
  induction n with
  | zero =>
    intro v3 v4 v5 u h
    rw [f_X3_mostOften_93] at h
    cases h
  | succ n ih =>
    intro v3 v4 v5 u h
    rw [f_X3_mostOften_93] at h
    refine g_iload (pc := 93) dX3_mostOften_93 rfl ?_
    refine g_bipush (pc := 95) dX3_mostOften_95 bp_16 ?_
    refine g_icmp_ge (tgt := 130) (pc := 97) dX3_mostOften_97 (by decide) (fun c1 => ?_) (fun c1 => ?_)
    · replace h := (if_pos c1).symm.trans h
      refine g_iload_n (pc := 130) dX3_mostOften_130 rfl ?_
      cases h
      exact g_iret (pc := 131) dX3_mostOften_131 rfl rfl rfl (Nat.le_refl _) (Nat.le_refl _)
    · replace h := (if_neg c1).symm.trans h
      refine g_aload_n (pc := 100) dX3_mostOften_100 rfl ?_
      refine g_gR (pc := 101) dX3_mostOften_101 fR_RX3_19 xc_113 (v := 120) rfl ?_
      refine g_iload (pc := 104) dX3_mostOften_104 rfl ?_
      obtain ⟨g2, h⟩ := x_gd h
      refine g_iaload (pc := 106) dX3_mostOften_106 xc_120 (xin_of g2) (v := (rd u 120 v5.toNatClampNeg)) rfl ?_
      refine g_iload (pc := 107) dX3_mostOften_107 rfl ?_
      refine g_icmp_le (tgt := 124) (pc := 109) dX3_mostOften_109 (by decide) (fun c3 => ?_) (fun c3 => ?_)
      · replace h := (if_pos c3).symm.trans h
        exact G_X3_mostOften_124 hd ih v3 v4 v5 u h
      · replace h := (if_neg c3).symm.trans h
        refine g_aload_n (pc := 112) dX3_mostOften_112 rfl ?_
        refine g_gR (pc := 113) dX3_mostOften_113 fR_RX3_19 xc_113 (v := 120) rfl ?_
        refine g_iload (pc := 116) dX3_mostOften_116 rfl ?_
        refine g_iaload (pc := 118) dX3_mostOften_118 xc_120 (xin_of g2) (v := (rd u 120 v5.toNatClampNeg)) rfl ?_
        refine g_istore (pc := 119) dX3_mostOften_119 (Nat.le_of_ble_eq_true rfl) (L' := [some (.ref 113), none, none, some (.int v3), some (.int (rd u 120 v5.toNatClampNeg)), some (.int v5)]) rfl ?_
        refine g_iload (pc := 121) dX3_mostOften_121 rfl ?_
        refine g_istore_n (pc := 123) dX3_mostOften_123 (Nat.le_of_ble_eq_true rfl) (L' := [some (.ref 113), none, none, some (.int v5), some (.int (rd u 120 v5.toNatClampNeg)), some (.int v5)]) rfl ?_
        exact G_X3_mostOften_124 hd ih v5 (rd u 120 v5.toNatClampNeg) v5 u h
set_option maxRecDepth 100000 in
set_option maxHeartbeats 4000000 in
theorem G_X3_mostOften_73 {sc : Nat × (Nat → Int32)} {d : Nat} (hd : 1 ≤ d) {r : Int32} {u' : xS} {k21 : Int32 → Int32 → Int32 → Int32 → xS → Option (Int32 × xS)} (hk21 : ∀ (v1 : Int32) (v2 : Int32) (v3 : Int32) (v4 : Int32) (u : xS), k21 v1 v2 v3 v4 u = some (r, u') → xG sc mX3_mostOften d 0 0 (xR (some (.int r)) (xL0, u') 0 0) 0 0 21 [some (.ref 113), some (.int v1), some (.int v2), some (.int v3), some (.int v4), none] [] (xL0, u)) {k10 : Int32 → Int32 → Int32 → xS → Option (Int32 × xS)} (hk10 : ∀ (v1 : Int32) (v2 : Int32) (v3 : Int32) (u : xS), k10 v1 v2 v3 u = some (r, u') → xG sc mX3_mostOften d 0 0 (xR (some (.int r)) (xL0, u') 0 0) 0 0 10 [some (.ref 113), some (.int v1), some (.int v2), some (.int v3), none, none] [] (xL0, u)) (v1 : Int32) (v2 : Int32) (v3 : Int32) (v4 : Int32) (u : xS) (h : f_X3_mostOften_73 k21 k10 v1 v2 v3 v4 u = some (r, u')) : xG sc mX3_mostOften d 0 0 (xR (some (.int r)) (xL0, u') 0 0) 0 0 73 [some (.ref 113), some (.int v1), some (.int v2), some (.int v3), some (.int v4), none] [] (xL0, u) := by
  rw [f_X3_mostOften_73] at h
  refine g_inc (pc := 73) dX3_mostOften_73 (Nat.le_of_ble_eq_true rfl) rfl ic_1 (L' := [some (.ref 113), some (.int v1), some (.int v2), some (.int v3), some (.int (v4 + (1 : Int32))), none]) rfl ?_
  refine g_goto (tgt := 21) (pc := 76) dX3_mostOften_76 (by decide) ?_
  exact hk21 v1 v2 v3 (v4 + (1 : Int32)) u h
set_option maxRecDepth 100000 in
set_option maxHeartbeats 4000000 in
theorem G_X3_mostOften_21 {sc : Nat × (Nat → Int32)} {d : Nat} (hd : 1 ≤ d) {r : Int32} {u' : xS} {k10 : Int32 → Int32 → Int32 → xS → Option (Int32 × xS)} (hk10 : ∀ (v1 : Int32) (v2 : Int32) (v3 : Int32) (u : xS), k10 v1 v2 v3 u = some (r, u') → xG sc mX3_mostOften d 0 0 (xR (some (.int r)) (xL0, u') 0 0) 0 0 10 [some (.ref 113), some (.int v1), some (.int v2), some (.int v3), none, none] [] (xL0, u)) : ∀ (n : Nat) (v1 : Int32) (v2 : Int32) (v3 : Int32) (v4 : Int32) (u : xS), f_X3_mostOften_21 k10 n v1 v2 v3 v4 u = some (r, u') → xG sc mX3_mostOften d 0 0 (xR (some (.int r)) (xL0, u') 0 0) 0 0 21 [some (.ref 113), some (.int v1), some (.int v2), some (.int v3), some (.int v4), none] [] (xL0, u) := by
  intro n
  induction n with
  | zero =>
    intro v1 v2 v3 v4 u h
    rw [f_X3_mostOften_21] at h
    cases h
  | succ n ih =>
    intro v1 v2 v3 v4 u h
    rw [f_X3_mostOften_21] at h
    refine g_iload (pc := 21) dX3_mostOften_21 rfl ?_
    refine g_iconst (pc := 23) dX3_mostOften_23 ic_2 ?_
    refine g_icmp_ge (tgt := 79) (pc := 24) dX3_mostOften_24 (by decide) (fun c1 => ?_) (fun c1 => ?_)
    · replace h := (if_pos c1).symm.trans h
      refine g_inc (pc := 79) dX3_mostOften_79 (Nat.le_of_ble_eq_true rfl) rfl ic_1 (L' := [some (.ref 113), some (.int v1), some (.int v2), some (.int (v3 + (1 : Int32))), some (.int v4), none]) rfl ?_
      refine g_goto (tgt := 10) (pc := 82) dX3_mostOften_82 (by decide) ?_
      refine g_L (L' := [some (.ref 113), some (.int v1), some (.int v2), some (.int (v3 + (1 : Int32))), none, none]) ⟨rfl, ⟨rfl, ⟨rfl, ⟨rfl, trivial⟩⟩⟩⟩ ?_
      exact hk10 v1 v2 (v3 + (1 : Int32)) u h
    · replace h := (if_neg c1).symm.trans h
      refine g_aload_n (pc := 27) dX3_mostOften_27 rfl ?_
      refine g_gR (pc := 28) dX3_mostOften_28 fR_RX3_11 xc_113 (v := 114) rfl ?_
      refine g_iload (pc := 31) dX3_mostOften_31 rfl ?_
      obtain ⟨g2, h⟩ := x_gd h
      refine g_aaload (pc := 33) dX3_mostOften_33 xc_114 (xin_of g2) (v := (115 + v4.toNatClampNeg)) (xrf_114 _ (xin_lt g2)) ?_
      refine g_iload_n (pc := 34) dX3_mostOften_34 rfl ?_
      obtain ⟨g3, h⟩ := x_gd h
      refine g_iaload (pc := 35) dX3_mostOften_35 (xrow_114 _ (xin_lt g2)) (xin_of g3) (v := (rd u (115 + v4.toNatClampNeg) v3.toNatClampNeg)) rfl ?_
      refine g_iload_n (pc := 36) dX3_mostOften_36 rfl ?_
      refine g_icmp_ne (tgt := 73) (pc := 37) dX3_mostOften_37 (by decide) (fun c4 => ?_) (fun c4 => ?_)
      · replace h := (if_neg c4).symm.trans h
        exact G_X3_mostOften_73 hd ih hk10 v1 v2 v3 v4 u h
      · replace h := (if_pos c4).symm.trans h
        refine g_aload_n (pc := 40) dX3_mostOften_40 rfl ?_
        refine g_gR (pc := 41) dX3_mostOften_41 fR_RX3_16 xc_113 (v := 117) rfl ?_
        refine g_iload (pc := 44) dX3_mostOften_44 rfl ?_
        refine g_aaload (pc := 46) dX3_mostOften_46 xc_117 (xin_of g2) (v := (118 + v4.toNatClampNeg)) (xrf_117 _ (xin_lt g2)) ?_
        refine g_iload_n (pc := 47) dX3_mostOften_47 rfl ?_
        refine g_iaload (pc := 48) dX3_mostOften_48 (xrow_117 _ (xin_lt g2)) (xin_of g3) (v := (rd u (118 + v4.toNatClampNeg) v3.toNatClampNeg)) rfl ?_
        refine g_iload_n (pc := 49) dX3_mostOften_49 rfl ?_
        refine g_icmp_ne (tgt := 73) (pc := 50) dX3_mostOften_50 (by decide) (fun c5 => ?_) (fun c5 => ?_)
        · replace h := (if_neg c5).symm.trans h
          exact G_X3_mostOften_73 hd ih hk10 v1 v2 v3 v4 u h
        · replace h := (if_pos c5).symm.trans h
          refine g_aload_n (pc := 53) dX3_mostOften_53 rfl ?_
          refine g_gR (pc := 54) dX3_mostOften_54 fR_RX3_19 xc_113 (v := 120) rfl ?_
          refine g_aload_n (pc := 57) dX3_mostOften_57 rfl ?_
          refine g_gR (pc := 58) dX3_mostOften_58 fR_RX3_16 xc_113 (v := 117) rfl ?_
          refine g_iconst (pc := 61) dX3_mostOften_61 ic_1 ?_
          refine g_iload (pc := 62) dX3_mostOften_62 rfl ?_
          refine g_isub (pc := 64) dX3_mostOften_64 rfl ?_
          obtain ⟨g6, h⟩ := x_gd h
          refine g_aaload (pc := 65) dX3_mostOften_65 xc_117 (xin_of g6) (v := (118 + ((1 : Int32) - v4).toNatClampNeg)) (xrf_117 _ (xin_lt g6)) ?_
          refine g_iload_n (pc := 66) dX3_mostOften_66 rfl ?_
          refine g_iaload (pc := 67) dX3_mostOften_67 (xrow_117 _ (xin_lt g6)) (xin_of g3) (v := (rd u (118 + ((1 : Int32) - v4).toNatClampNeg) v3.toNatClampNeg)) rfl ?_
          refine g_dup2 (pc := 68) dX3_mostOften_68 rfl rfl ?_
          obtain ⟨g7, h⟩ := x_gd h
          refine g_iaload (pc := 69) dX3_mostOften_69 xc_120 (xin_of g7) (v := (rd u 120 (rd u (118 + ((1 : Int32) - v4).toNatClampNeg) v3.toNatClampNeg).toNatClampNeg)) rfl ?_
          refine g_iconst (pc := 70) dX3_mostOften_70 ic_1 ?_
          refine g_iadd (pc := 71) dX3_mostOften_71 rfl ?_
          refine g_iastore (pc := 72) dX3_mostOften_72 xc_120 (xin_of g7) (u' := (wr u 120 (rd u (118 + ((1 : Int32) - v4).toNatClampNeg) v3.toNatClampNeg).toNatClampNeg ((rd u 120 (rd u (118 + ((1 : Int32) - v4).toNatClampNeg) v3.toNatClampNeg).toNatClampNeg) + (1 : Int32)))) rfl ?_
          exact G_X3_mostOften_73 hd ih hk10 v1 v2 v3 v4 (wr u 120 (rd u (118 + ((1 : Int32) - v4).toNatClampNeg) v3.toNatClampNeg).toNatClampNeg ((rd u 120 (rd u (118 + ((1 : Int32) - v4).toNatClampNeg) v3.toNatClampNeg).toNatClampNeg) + (1 : Int32))) h
set_option maxRecDepth 100000 in
set_option maxHeartbeats 4000000 in
theorem G_X3_mostOften_10 {sc : Nat × (Nat → Int32)} {d : Nat} (hd : 1 ≤ d) {r : Int32} {u' : xS} : ∀ (n : Nat) (v1 : Int32) (v2 : Int32) (v3 : Int32) (u : xS), f_X3_mostOften_10 n v1 v2 v3 u = some (r, u') → xG sc mX3_mostOften d 0 0 (xR (some (.int r)) (xL0, u') 0 0) 0 0 10 [some (.ref 113), some (.int v1), some (.int v2), some (.int v3), none, none] [] (xL0, u) := by
  intro n
  induction n with
  | zero =>
    intro v1 v2 v3 u h
    rw [f_X3_mostOften_10] at h
    cases h
  | succ n ih =>
    intro v1 v2 v3 u h
    rw [f_X3_mostOften_10] at h
    refine g_iload_n (pc := 10) dX3_mostOften_10 rfl ?_
    refine g_aload_n (pc := 11) dX3_mostOften_11 rfl ?_
    refine g_gI (pc := 12) dX3_mostOften_12 fI_RX3_23 xc_113 (v := (rd u 113 3)) rfl ?_
    refine g_icmp_ge (tgt := 85) (pc := 15) dX3_mostOften_15 (by decide) (fun c1 => ?_) (fun c1 => ?_)
    · replace h := (if_pos c1).symm.trans h
      refine g_iconst (pc := 85) dX3_mostOften_85 ic_m1 ?_
      refine g_istore_n (pc := 86) dX3_mostOften_86 (Nat.le_of_ble_eq_true rfl) (L' := [some (.ref 113), some (.int v1), some (.int v2), some (.int (-1 : Int32)), none, none]) rfl ?_
      refine g_iconst (pc := 87) dX3_mostOften_87 ic_0 ?_
      refine g_istore (pc := 88) dX3_mostOften_88 (Nat.le_of_ble_eq_true rfl) (L' := [some (.ref 113), some (.int v1), some (.int v2), some (.int (-1 : Int32)), some (.int (0 : Int32)), none]) rfl ?_
      refine g_iconst (pc := 90) dX3_mostOften_90 ic_0 ?_
      refine g_istore (pc := 91) dX3_mostOften_91 (Nat.le_of_ble_eq_true rfl) (L' := [some (.ref 113), some (.int v1), some (.int v2), some (.int (-1 : Int32)), some (.int (0 : Int32)), some (.int (0 : Int32))]) rfl ?_
      refine g_L (L' := [some (.ref 113), none, none, some (.int (-1 : Int32)), some (.int (0 : Int32)), some (.int (0 : Int32))]) ⟨rfl, ⟨rfl, ⟨rfl, ⟨rfl, trivial⟩⟩⟩⟩ ?_
      exact G_X3_mostOften_93 hd xN (-1 : Int32) (0 : Int32) (0 : Int32) u h
    · replace h := (if_neg c1).symm.trans h
      refine g_iconst (pc := 18) dX3_mostOften_18 ic_0 ?_
      refine g_istore (pc := 19) dX3_mostOften_19 (Nat.le_of_ble_eq_true rfl) (L' := [some (.ref 113), some (.int v1), some (.int v2), some (.int v3), some (.int (0 : Int32)), none]) rfl ?_
      exact G_X3_mostOften_21 hd ih xN v1 v2 v3 (0 : Int32) u h
set_option maxRecDepth 100000 in
set_option maxHeartbeats 4000000 in
theorem G_X3_mostOften_0 {sc : Nat × (Nat → Int32)} {d : Nat} (hd : 1 ≤ d) {r : Int32} {u' : xS} (v1 : Int32) (v2 : Int32) (u : xS) (h : f_X3_mostOften v1 v2 u = some (r, u')) : xG sc mX3_mostOften d 0 0 (xR (some (.int r)) (xL0, u') 0 0) 0 0 0 [some (.ref 113), some (.int v1), some (.int v2), none, none, none] [] (xL0, u) := by
  rw [f_X3_mostOften] at h
  refine g_aload_n (pc := 0) dX3_mostOften_0 rfl ?_
  refine g_gR (pc := 1) dX3_mostOften_1 fR_RX3_19 xc_113 (v := 120) rfl ?_
  refine g_iconst (pc := 4) dX3_mostOften_4 ic_0 ?_
  obtain ⟨u2, e1, h⟩ := x_bind h
  refine g_cS (pc := 5) dX3_mostOften_5 cS_RX3_35 (M_J7_fill_53178 (Nat.le_refl _) e1) (as := [.ref 120, .int (0 : Int32)]) (st := []) rfl rfl (Nat.le_of_ble_eq_true rfl) (Nat.le_trans (Nat.le_of_ble_eq_true rfl) hd) rfl ?_
  refine g_iconst (pc := 8) dX3_mostOften_8 ic_0 ?_
  refine g_istore_n (pc := 9) dX3_mostOften_9 (Nat.le_of_ble_eq_true rfl) (L' := [some (.ref 113), some (.int v1), some (.int v2), some (.int (0 : Int32)), none, none]) rfl ?_
  exact G_X3_mostOften_10 hd xN v1 v2 (0 : Int32) u2 h
set_option maxRecDepth 100000 in
set_option maxHeartbeats 4000000 in
theorem M_X3_mostOften {sc : Nat × (Nat → Int32)} {d : Nat} (hd : 1 ≤ d) {r : Int32} {u u' : xS} {a1 : Int32} {a2 : Int32} (h : f_X3_mostOften a1 a2 u = some (r, u')) : xMt sc mX3_mostOften d 0 0 [.ref 113, .int a1, .int a2] (xL0, u) (some (.int r)) (xL0, u') :=
  xMt.of (by decide +kernel) (Nat.le_of_ble_eq_true rfl) (L := [some (.ref 113), some (.int a1), some (.int a2), none, none, none]) rfl ((G_X3_mostOften_0 hd a1 a2 u h))
set_option maxRecDepth 100000 in
set_option maxHeartbeats 4000000 in
theorem G_X11_called_0 {sc : Nat × (Nat → Int32)} {d : Nat} (hd : 2 ≤ d) {r : Int32} {u' : xS} (v1 : Int32) (v2 : Int32) (u : xS) (h : f_X11_called v1 v2 u = some (r, u')) : xG sc mX11_called d 0 0 (xR (some (.int r)) (xL0, u') 0 0) 0 0 0 [some (.ref 0), some (.int v1), some (.int v2)] [] (xL0, u) := by
  rw [f_X11_called] at h
  refine g_iload_n (pc := 0) dX11_called_0 rfl ?_
  refine g_cS (pc := 1) dX11_called_1 cS_RX11_138 (M_X11_isSorter (Nat.le_refl _) rfl) (as := [.int v1]) (st := []) rfl rfl (Nat.le_of_ble_eq_true rfl) (Nat.le_trans (Nat.le_of_ble_eq_true rfl) hd) rfl ?_
  refine g_if_eq (tgt := 30) (pc := 4) dX11_called_4 (by decide) (fun c1 => ?_) (fun c1 => ?_)
  · replace h := (if_pos c1).symm.trans h
    refine g_iconst (pc := 30) dX11_called_30 ic_m1 ?_
    cases h
    exact g_iret (pc := 31) dX11_called_31 rfl rfl rfl (Nat.le_refl _) (Nat.le_refl _)
  · replace h := (if_neg c1).symm.trans h
    refine g_aload_n (pc := 7) dX11_called_7 rfl ?_
    refine g_gR (pc := 8) dX11_called_8 fR_RX11_12 xc_0 (v := 1) rfl ?_
    refine g_iload_n (pc := 11) dX11_called_11 rfl ?_
    refine g_cV (pc := 12) dX11_called_12 cV_RX11_98 (M_X8_has (Nat.le_refl _) rfl) xc_1 (as := [.int v2]) (st := []) rfl rfl (Nat.le_of_ble_eq_true rfl) (Nat.le_trans (Nat.le_of_ble_eq_true rfl) hd) rfl ?_
    refine g_if_eq (tgt := 30) (pc := 15) dX11_called_15 (by decide) (fun c2 => ?_) (fun c2 => ?_)
    · replace h := (if_pos c2).symm.trans h
      refine g_iconst (pc := 30) dX11_called_30 ic_m1 ?_
      cases h
      exact g_iret (pc := 31) dX11_called_31 rfl rfl rfl (Nat.le_refl _) (Nat.le_refl _)
    · replace h := (if_neg c2).symm.trans h
      refine g_aload_n (pc := 18) dX11_called_18 rfl ?_
      refine g_gR (pc := 19) dX11_called_19 fR_RX11_75 xc_0 (v := 113) rfl ?_
      refine g_iload_n (pc := 22) dX11_called_22 rfl ?_
      refine g_iload_n (pc := 23) dX11_called_23 rfl ?_
      obtain ⟨⟨x4, u5⟩, e3, h⟩ := x_bind h
      dsimp only at h
      refine g_cV (pc := 24) dX11_called_24 cV_RX11_376 (M_X3_mostOften (Nat.le_refl _) e3) xc_113 (as := [.int v1, .int v2]) (st := []) rfl rfl (Nat.le_of_ble_eq_true rfl) (Nat.le_trans (Nat.le_of_ble_eq_true rfl) hd) rfl ?_
      refine g_goto (tgt := 31) (pc := 27) dX11_called_27 (by decide) ?_
      cases h
      exact g_iret (pc := 31) dX11_called_31 rfl rfl rfl (Nat.le_refl _) (Nat.le_refl _)
set_option maxRecDepth 100000 in
set_option maxHeartbeats 4000000 in
theorem M_X11_called {sc : Nat × (Nat → Int32)} {d : Nat} (hd : 2 ≤ d) {r : Int32} {u u' : xS} {a1 : Int32} {a2 : Int32} (h : f_X11_called a1 a2 u = some (r, u')) : xMt sc mX11_called d 0 0 [.ref 0, .int a1, .int a2] (xL0, u) (some (.int r)) (xL0, u') :=
  xMt.of (by decide +kernel) (Nat.le_of_ble_eq_true rfl) (L := [some (.ref 0), some (.int a1), some (.int a2)]) rfl ((G_X11_called_0 hd a1 a2 u h))
set_option maxRecDepth 100000 in
set_option maxHeartbeats 4000000 in
theorem G_X1_nextTrial_7 {sc : Nat × (Nat → Int32)} {d : Nat} (hd : 0 ≤ d) {r : Int32} {u' : xS} : ∀ (n : Nat) (v1 : Int32) (u : xS), f_X1_nextTrial_7 n v1 u = some (r, u') → xG sc mX1_nextTrial d 0 0 (xR (some (.int r)) (xL0, u') 0 0) 0 0 7 [some (.ref 79), some (.int v1), none] [] (xL0, u) := by
  intro n
  induction n with
  | zero =>
    intro v1 u h
    rw [f_X1_nextTrial_7] at h
    cases h
  | succ n ih =>
    intro v1 u h
    rw [f_X1_nextTrial_7] at h
    refine g_iload_n (pc := 7) dX1_nextTrial_7 rfl ?_
    refine g_if_le (tgt := 83) (pc := 8) dX1_nextTrial_8 (by decide) (fun c1 => ?_) (fun c1 => ?_)
    · replace h := (if_pos c1).symm.trans h
      refine g_iconst (pc := 83) dX1_nextTrial_83 ic_0 ?_
      cases h
      exact g_zret (pc := 84) dX1_nextTrial_84 rfl (Or.inl rfl) rfl rfl (Nat.le_refl _) (Nat.le_refl _)
    · replace h := (if_neg c1).symm.trans h
      refine g_aload_n (pc := 11) dX1_nextTrial_11 rfl ?_
      refine g_gR (pc := 12) dX1_nextTrial_12 fR_RX1_33 xc_79 (v := 85) rfl ?_
      refine g_aload_n (pc := 15) dX1_nextTrial_15 rfl ?_
      refine g_gR (pc := 16) dX1_nextTrial_16 fR_RX1_20 xc_79 (v := 82) rfl ?_
      refine g_iload_n (pc := 19) dX1_nextTrial_19 rfl ?_
      obtain ⟨g2, h⟩ := x_gd h
      refine g_iaload (pc := 20) dX1_nextTrial_20 xc_82 (xin_of g2) (v := (rd u 82 v1.toNatClampNeg)) rfl ?_
      obtain ⟨g3, h⟩ := x_gd h
      refine g_iaload (pc := 21) dX1_nextTrial_21 xc_85 (xin_of g3) (v := (rd u 85 (rd u 82 v1.toNatClampNeg).toNatClampNeg)) rfl ?_
      refine g_istore_n (pc := 22) dX1_nextTrial_22 (Nat.le_of_ble_eq_true rfl) (L' := [some (.ref 79), some (.int v1), some (.int (rd u 85 (rd u 82 v1.toNatClampNeg).toNatClampNeg))]) rfl ?_
      refine g_iload_n (pc := 23) dX1_nextTrial_23 rfl ?_
      refine g_if_le (tgt := 77) (pc := 24) dX1_nextTrial_24 (by decide) (fun c4 => ?_) (fun c4 => ?_)
      · replace h := (if_pos c4).symm.trans h
        refine g_inc (pc := 77) dX1_nextTrial_77 (Nat.le_of_ble_eq_true rfl) rfl ic_m1 (L' := [some (.ref 79), some (.int (v1 + (-1 : Int32))), some (.int (rd u 85 (rd u 82 v1.toNatClampNeg).toNatClampNeg))]) rfl ?_
        refine g_goto (tgt := 7) (pc := 80) dX1_nextTrial_80 (by decide) ?_
        refine g_L (L' := [some (.ref 79), some (.int (v1 + (-1 : Int32))), none]) ⟨rfl, ⟨rfl, trivial⟩⟩ ?_
        exact ih (v1 + (-1 : Int32)) u h
      · replace h := (if_neg c4).symm.trans h
        refine g_aload_n (pc := 27) dX1_nextTrial_27 rfl ?_
        refine g_gR (pc := 28) dX1_nextTrial_28 fR_RX1_33 xc_79 (v := 85) rfl ?_
        refine g_aload_n (pc := 31) dX1_nextTrial_31 rfl ?_
        refine g_gR (pc := 32) dX1_nextTrial_32 fR_RX1_20 xc_79 (v := 82) rfl ?_
        refine g_iload_n (pc := 35) dX1_nextTrial_35 rfl ?_
        refine g_iaload (pc := 36) dX1_nextTrial_36 xc_82 (xin_of g2) (v := (rd u 82 v1.toNatClampNeg)) rfl ?_
        refine g_iconst (pc := 37) dX1_nextTrial_37 ic_0 ?_
        refine g_iastore (pc := 38) dX1_nextTrial_38 xc_85 (xin_of g3) (u' := (wr u 85 (rd u 82 v1.toNatClampNeg).toNatClampNeg (0 : Int32))) rfl ?_
        refine g_aload_n (pc := 39) dX1_nextTrial_39 rfl ?_
        refine g_gR (pc := 40) dX1_nextTrial_40 fR_RX1_33 xc_79 (v := 85) rfl ?_
        refine g_aload_n (pc := 43) dX1_nextTrial_43 rfl ?_
        refine g_gR (pc := 44) dX1_nextTrial_44 fR_RX1_20 xc_79 (v := 82) rfl ?_
        refine g_iload_n (pc := 47) dX1_nextTrial_47 rfl ?_
        refine g_iconst (pc := 48) dX1_nextTrial_48 ic_1 ?_
        refine g_isub (pc := 49) dX1_nextTrial_49 rfl ?_
        obtain ⟨g5, h⟩ := x_gd h
        refine g_iaload (pc := 50) dX1_nextTrial_50 xc_82 (xin_of g5) (v := (rd u 82 (v1 - (1 : Int32)).toNatClampNeg)) rfl ?_
        refine g_dup2 (pc := 51) dX1_nextTrial_51 rfl rfl ?_
        obtain ⟨g6, h⟩ := x_gd h
        refine g_iaload (pc := 52) dX1_nextTrial_52 xc_85 (xin_of g6) (v := (rd (wr u 85 (rd u 82 v1.toNatClampNeg).toNatClampNeg (0 : Int32)) 85 (rd u 82 (v1 - (1 : Int32)).toNatClampNeg).toNatClampNeg)) rfl ?_
        refine g_iconst (pc := 53) dX1_nextTrial_53 ic_1 ?_
        refine g_iadd (pc := 54) dX1_nextTrial_54 rfl ?_
        refine g_iastore (pc := 55) dX1_nextTrial_55 xc_85 (xin_of g6) (u' := (wr (wr u 85 (rd u 82 v1.toNatClampNeg).toNatClampNeg (0 : Int32)) 85 (rd u 82 (v1 - (1 : Int32)).toNatClampNeg).toNatClampNeg ((rd (wr u 85 (rd u 82 v1.toNatClampNeg).toNatClampNeg (0 : Int32)) 85 (rd u 82 (v1 - (1 : Int32)).toNatClampNeg).toNatClampNeg) + (1 : Int32)))) rfl ?_
        refine g_aload_n (pc := 56) dX1_nextTrial_56 rfl ?_
        refine g_gR (pc := 57) dX1_nextTrial_57 fR_RX1_33 xc_79 (v := 85) rfl ?_
        refine g_aload_n (pc := 60) dX1_nextTrial_60 rfl ?_
        refine g_gR (pc := 61) dX1_nextTrial_61 fR_RX1_20 xc_79 (v := 82) rfl ?_
        refine g_aload_n (pc := 64) dX1_nextTrial_64 rfl ?_
        refine g_gI (pc := 65) dX1_nextTrial_65 fI_RX1_29 xc_79 (v := (rd u 79 5)) rfl ?_
        refine g_iconst (pc := 68) dX1_nextTrial_68 ic_1 ?_
        refine g_isub (pc := 69) dX1_nextTrial_69 rfl ?_
        obtain ⟨g7, h⟩ := x_gd h
        refine g_iaload (pc := 70) dX1_nextTrial_70 xc_82 (xin_of g7) (v := (rd u 82 ((rd u 79 5) - (1 : Int32)).toNatClampNeg)) rfl ?_
        refine g_iload_n (pc := 71) dX1_nextTrial_71 rfl ?_
        refine g_iconst (pc := 72) dX1_nextTrial_72 ic_1 ?_
        refine g_isub (pc := 73) dX1_nextTrial_73 rfl ?_
        obtain ⟨g8, h⟩ := x_gd h
        refine g_iastore (pc := 74) dX1_nextTrial_74 xc_85 (xin_of g8) (u' := (wr (wr (wr u 85 (rd u 82 v1.toNatClampNeg).toNatClampNeg (0 : Int32)) 85 (rd u 82 (v1 - (1 : Int32)).toNatClampNeg).toNatClampNeg ((rd (wr u 85 (rd u 82 v1.toNatClampNeg).toNatClampNeg (0 : Int32)) 85 (rd u 82 (v1 - (1 : Int32)).toNatClampNeg).toNatClampNeg) + (1 : Int32))) 85 (rd u 82 ((rd u 79 5) - (1 : Int32)).toNatClampNeg).toNatClampNeg ((rd u 85 (rd u 82 v1.toNatClampNeg).toNatClampNeg) - (1 : Int32)))) rfl ?_
        refine g_iconst (pc := 75) dX1_nextTrial_75 ic_1 ?_
        cases h
        exact g_zret (pc := 76) dX1_nextTrial_76 rfl (Or.inr rfl) rfl rfl (Nat.le_refl _) (Nat.le_refl _)
set_option maxRecDepth 100000 in
set_option maxHeartbeats 4000000 in
theorem G_X1_nextTrial_0 {sc : Nat × (Nat → Int32)} {d : Nat} (hd : 0 ≤ d) {r : Int32} {u' : xS} (u : xS) (h : f_X1_nextTrial u = some (r, u')) : xG sc mX1_nextTrial d 0 0 (xR (some (.int r)) (xL0, u') 0 0) 0 0 0 [some (.ref 79), none, none] [] (xL0, u) := by
  rw [f_X1_nextTrial] at h
  refine g_aload_n (pc := 0) dX1_nextTrial_0 rfl ?_
  refine g_gI (pc := 1) dX1_nextTrial_1 fI_RX1_29 xc_79 (v := (rd u 79 5)) rfl ?_
  refine g_iconst (pc := 4) dX1_nextTrial_4 ic_1 ?_
  refine g_isub (pc := 5) dX1_nextTrial_5 rfl ?_
  refine g_istore_n (pc := 6) dX1_nextTrial_6 (Nat.le_of_ble_eq_true rfl) (L' := [some (.ref 79), some (.int ((rd u 79 5) - (1 : Int32))), none]) rfl ?_
  exact G_X1_nextTrial_7 hd xN ((rd u 79 5) - (1 : Int32)) u h
set_option maxRecDepth 100000 in
set_option maxHeartbeats 4000000 in
theorem M_X1_nextTrial {sc : Nat × (Nat → Int32)} {d : Nat} (hd : 0 ≤ d) {r : Int32} {u u' : xS} (h : f_X1_nextTrial u = some (r, u')) : xMt sc mX1_nextTrial d 0 0 [.ref 79] (xL0, u) (some (.int r)) (xL0, u') :=
  xMt.of (by decide +kernel) (Nat.le_of_ble_eq_true rfl) (L := [some (.ref 79), none, none]) rfl ((G_X1_nextTrial_0 hd u h))
set_option maxRecDepth 100000 in
set_option maxHeartbeats 4000000 in
theorem G_X8_addFeatures_3 {sc : Nat × (Nat → Int32)} {d : Nat} (hd : 0 ≤ d) {u' : xS} : ∀ (n : Nat) (v1 : Int32) (v2 : Int32) (v3 : Nat) (v4 : Int32) (u : xS), f_X8_addFeatures_3 n v1 v2 v3 v4 u = some u' → xG sc mX8_addFeatures d 0 0 (xR none (xL0, u') 0 0) 0 0 3 [some (.ref 1), some (.int v1), some (.int v2), some (.ref v3), some (.int v4)] [] (xL0, u) := by
  intro n
  induction n with
  | zero =>
    intro v1 v2 v3 v4 u h
    rw [f_X8_addFeatures_3] at h
    cases h
  | succ n ih =>
    intro v1 v2 v3 v4 u h
    rw [f_X8_addFeatures_3] at h
    refine g_iload (pc := 3) dX8_addFeatures_3 rfl ?_
    refine g_bipush (pc := 5) dX8_addFeatures_5 bp_6 ?_
    refine g_icmp_ge (tgt := 41) (pc := 7) dX8_addFeatures_7 (by decide) (fun c1 => ?_) (fun c1 => ?_)
    · replace h := (if_pos c1).symm.trans h
      cases h
      exact g_ret (pc := 41) dX8_addFeatures_41 rfl rfl rfl (Nat.le_refl _) (Nat.le_refl _)
    · replace h := (if_neg c1).symm.trans h
      refine g_iload (pc := 10) dX8_addFeatures_10 rfl ?_
      refine g_aload_n (pc := 12) dX8_addFeatures_12 rfl ?_
      obtain ⟨g2, h⟩ := x_gd h
      obtain ⟨q3, hq4⟩ := xisI_of g2
      refine g_alen (pc := 13) dX8_addFeatures_13 hq4 (by decide) (v := (Int32.ofNat (xlen v3))) rfl ?_
      refine g_icmp_ge (tgt := 41) (pc := 14) dX8_addFeatures_14 (by decide) (fun c5 => ?_) (fun c5 => ?_)
      · replace h := (if_pos c5).symm.trans h
        cases h
        exact g_ret (pc := 41) dX8_addFeatures_41 rfl rfl rfl (Nat.le_refl _) (Nat.le_refl _)
      · replace h := (if_neg c5).symm.trans h
        refine g_aload_n (pc := 17) dX8_addFeatures_17 rfl ?_
        refine g_iload (pc := 18) dX8_addFeatures_18 rfl ?_
        refine g_dup2 (pc := 20) dX8_addFeatures_20 rfl rfl ?_
        obtain ⟨g6, h⟩ := x_gd h
        obtain ⟨g7, h⟩ := x_gd h
        obtain ⟨q8, hq9⟩ := xisI_of g6
        refine g_iaload (pc := 21) dX8_addFeatures_21 hq9 (xin_of g7) (v := (rd u v3 v4.toNatClampNeg)) rfl ?_
        refine g_aload_n (pc := 22) dX8_addFeatures_22 rfl ?_
        refine g_gR (pc := 23) dX8_addFeatures_23 fR_RX8_13 xc_1 (v := 2) rfl ?_
        refine g_iload (pc := 26) dX8_addFeatures_26 rfl ?_
        obtain ⟨g10, h⟩ := x_gd h
        refine g_aaload (pc := 28) dX8_addFeatures_28 xc_2 (xin_of g10) (v := (3 + v4.toNatClampNeg)) (xrf_2 _ (xin_lt g10)) ?_
        refine g_iload_n (pc := 29) dX8_addFeatures_29 rfl ?_
        obtain ⟨g11, h⟩ := x_gd h
        refine g_iaload (pc := 30) dX8_addFeatures_30 (xrow_2 _ (xin_lt g10)) (xin_of g11) (v := (rd u (3 + v4.toNatClampNeg) v1.toNatClampNeg)) rfl ?_
        refine g_iload_n (pc := 31) dX8_addFeatures_31 rfl ?_
        refine g_imul (pc := 32) dX8_addFeatures_32 rfl ?_
        refine g_iadd (pc := 33) dX8_addFeatures_33 rfl ?_
        obtain ⟨g12, h⟩ := x_gd h
        obtain ⟨q13, hq14⟩ := xisI_of g12
        obtain ⟨g15, h⟩ := x_gd h
        refine g_iastore (pc := 34) dX8_addFeatures_34 hq14 (xin_of g15) (u' := (wr u v3 v4.toNatClampNeg ((rd u v3 v4.toNatClampNeg) + ((rd u (3 + v4.toNatClampNeg) v1.toNatClampNeg) * v2)))) rfl ?_
        refine g_inc (pc := 35) dX8_addFeatures_35 (Nat.le_of_ble_eq_true rfl) rfl ic_1 (L' := [some (.ref 1), some (.int v1), some (.int v2), some (.ref v3), some (.int (v4 + (1 : Int32)))]) rfl ?_
        refine g_goto (tgt := 3) (pc := 38) dX8_addFeatures_38 (by decide) ?_
        exact ih v1 v2 v3 (v4 + (1 : Int32)) (wr u v3 v4.toNatClampNeg ((rd u v3 v4.toNatClampNeg) + ((rd u (3 + v4.toNatClampNeg) v1.toNatClampNeg) * v2))) h
set_option maxRecDepth 100000 in
set_option maxHeartbeats 4000000 in
theorem G_X8_addFeatures_0 {sc : Nat × (Nat → Int32)} {d : Nat} (hd : 0 ≤ d) {u' : xS} (v1 : Int32) (v2 : Int32) (v3 : Nat) (u : xS) (h : f_X8_addFeatures v1 v2 v3 u = some u') : xG sc mX8_addFeatures d 0 0 (xR none (xL0, u') 0 0) 0 0 0 [some (.ref 1), some (.int v1), some (.int v2), some (.ref v3), none] [] (xL0, u) := by
  rw [f_X8_addFeatures] at h
  refine g_iconst (pc := 0) dX8_addFeatures_0 ic_0 ?_
  refine g_istore (pc := 1) dX8_addFeatures_1 (Nat.le_of_ble_eq_true rfl) (L' := [some (.ref 1), some (.int v1), some (.int v2), some (.ref v3), some (.int (0 : Int32))]) rfl ?_
  exact G_X8_addFeatures_3 hd xN v1 v2 v3 (0 : Int32) u h
set_option maxRecDepth 100000 in
set_option maxHeartbeats 4000000 in
theorem M_X8_addFeatures {sc : Nat × (Nat → Int32)} {d : Nat} (hd : 0 ≤ d) {u u' : xS} {a1 : Int32} {a2 : Int32} {a3 : Nat} (h : f_X8_addFeatures a1 a2 a3 u = some u') : xMt sc mX8_addFeatures d 0 0 [.ref 1, .int a1, .int a2, .ref a3] (xL0, u) none (xL0, u') :=
  xMt.of (by decide +kernel) (Nat.le_of_ble_eq_true rfl) (L := [some (.ref 1), some (.int a1), some (.int a2), some (.ref a3), none]) rfl ((G_X8_addFeatures_0 hd a1 a2 a3 u h))
set_option maxRecDepth 100000 in
set_option maxHeartbeats 4000000 in
theorem G_X11_tellBlend_81 {sc : Nat × (Nat → Int32)} {d : Nat} (hd : 2 ≤ d) {u' : xS} (v3 : Int32) (v4 : Int32) (u : xS) (h : f_X11_tellBlend_81 v3 v4 u = some u') : xG sc mX11_tellBlend d 0 0 (xR none (xL0, u') 0 0) 0 0 81 [some (.ref 0), none, some (.ref 81), some (.int v3), some (.int v4), none] [] (xL0, u) := by
  rw [f_X11_tellBlend_81] at h
  refine g_aload_n (pc := 81) dX11_tellBlend_81 rfl ?_
  refine g_gR (pc := 82) dX11_tellBlend_82 fR_RX11_47 xc_0 (v := 58) rfl ?_
  obtain ⟨u2, e1, h⟩ := x_bind h
  refine g_cV (pc := 85) dX11_tellBlend_85 cV_RX11_205 (M_X10_clearLetters (Nat.le_refl _) e1) xc_58 (as := []) (st := []) rfl rfl (Nat.le_of_ble_eq_true rfl) (Nat.le_trans (Nat.le_of_ble_eq_true rfl) hd) rfl ?_
  refine g_aload_n (pc := 88) dX11_tellBlend_88 rfl ?_
  refine g_gR (pc := 89) dX11_tellBlend_89 fR_RX11_47 xc_0 (v := 58) rfl ?_
  refine g_bipush (pc := 92) dX11_tellBlend_92 bp_114 ?_
  refine g_aload_n (pc := 94) dX11_tellBlend_94 rfl ?_
  refine g_iconst (pc := 95) dX11_tellBlend_95 ic_0 ?_
  refine g_iaload (pc := 96) dX11_tellBlend_96 xc_81 vin_0_6 (v := (rd u2 81 0)) rfl ?_
  refine g_bipush (pc := 97) dX11_tellBlend_97 bp_12 ?_
  refine g_idiv (pc := 99) dX11_tellBlend_99 (by decide) rfl ?_
  obtain ⟨u4, e3, h⟩ := x_bind h
  refine g_cV (pc := 100) dX11_tellBlend_100 cV_RX11_211 (M_X10_tell (Nat.le_refl _) e3) xc_58 (as := [.int (114 : Int32), .int ((rd u2 81 0) / (12 : Int32))]) (st := []) rfl rfl (Nat.le_of_ble_eq_true rfl) (Nat.le_trans (Nat.le_of_ble_eq_true rfl) hd) rfl ?_
  refine g_aload_n (pc := 103) dX11_tellBlend_103 rfl ?_
  refine g_gR (pc := 104) dX11_tellBlend_104 fR_RX11_47 xc_0 (v := 58) rfl ?_
  refine g_bipush (pc := 107) dX11_tellBlend_107 bp_103 ?_
  refine g_aload_n (pc := 109) dX11_tellBlend_109 rfl ?_
  refine g_iconst (pc := 110) dX11_tellBlend_110 ic_1 ?_
  refine g_iaload (pc := 111) dX11_tellBlend_111 xc_81 vin_1_6 (v := (rd u4 81 1)) rfl ?_
  refine g_bipush (pc := 112) dX11_tellBlend_112 bp_12 ?_
  refine g_idiv (pc := 114) dX11_tellBlend_114 (by decide) rfl ?_
  obtain ⟨u6, e5, h⟩ := x_bind h
  refine g_cV (pc := 115) dX11_tellBlend_115 cV_RX11_211 (M_X10_tell (Nat.le_refl _) e5) xc_58 (as := [.int (103 : Int32), .int ((rd u4 81 1) / (12 : Int32))]) (st := []) rfl rfl (Nat.le_of_ble_eq_true rfl) (Nat.le_trans (Nat.le_of_ble_eq_true rfl) hd) rfl ?_
  refine g_aload_n (pc := 118) dX11_tellBlend_118 rfl ?_
  refine g_gR (pc := 119) dX11_tellBlend_119 fR_RX11_47 xc_0 (v := 58) rfl ?_
  refine g_bipush (pc := 122) dX11_tellBlend_122 bp_98 ?_
  refine g_aload_n (pc := 124) dX11_tellBlend_124 rfl ?_
  refine g_iconst (pc := 125) dX11_tellBlend_125 ic_2 ?_
  refine g_iaload (pc := 126) dX11_tellBlend_126 xc_81 vin_2_6 (v := (rd u6 81 2)) rfl ?_
  refine g_bipush (pc := 127) dX11_tellBlend_127 bp_12 ?_
  refine g_idiv (pc := 129) dX11_tellBlend_129 (by decide) rfl ?_
  obtain ⟨u8, e7, h⟩ := x_bind h
  refine g_cV (pc := 130) dX11_tellBlend_130 cV_RX11_211 (M_X10_tell (Nat.le_refl _) e7) xc_58 (as := [.int (98 : Int32), .int ((rd u6 81 2) / (12 : Int32))]) (st := []) rfl rfl (Nat.le_of_ble_eq_true rfl) (Nat.le_trans (Nat.le_of_ble_eq_true rfl) hd) rfl ?_
  refine g_aload_n (pc := 133) dX11_tellBlend_133 rfl ?_
  refine g_gR (pc := 134) dX11_tellBlend_134 fR_RX11_47 xc_0 (v := 58) rfl ?_
  refine g_bipush (pc := 137) dX11_tellBlend_137 bp_115 ?_
  refine g_aload_n (pc := 139) dX11_tellBlend_139 rfl ?_
  refine g_iconst (pc := 140) dX11_tellBlend_140 ic_3 ?_
  refine g_iaload (pc := 141) dX11_tellBlend_141 xc_81 vin_3_6 (v := (rd u8 81 3)) rfl ?_
  refine g_bipush (pc := 142) dX11_tellBlend_142 bp_12 ?_
  refine g_idiv (pc := 144) dX11_tellBlend_144 (by decide) rfl ?_
  obtain ⟨u10, e9, h⟩ := x_bind h
  refine g_cV (pc := 145) dX11_tellBlend_145 cV_RX11_211 (M_X10_tell (Nat.le_refl _) e9) xc_58 (as := [.int (115 : Int32), .int ((rd u8 81 3) / (12 : Int32))]) (st := []) rfl rfl (Nat.le_of_ble_eq_true rfl) (Nat.le_trans (Nat.le_of_ble_eq_true rfl) hd) rfl ?_
  refine g_aload_n (pc := 148) dX11_tellBlend_148 rfl ?_
  refine g_gR (pc := 149) dX11_tellBlend_149 fR_RX11_47 xc_0 (v := 58) rfl ?_
  refine g_bipush (pc := 152) dX11_tellBlend_152 bp_119 ?_
  refine g_aload_n (pc := 154) dX11_tellBlend_154 rfl ?_
  refine g_iconst (pc := 155) dX11_tellBlend_155 ic_4 ?_
  refine g_iaload (pc := 156) dX11_tellBlend_156 xc_81 vin_4_6 (v := (rd u10 81 4)) rfl ?_
  refine g_bipush (pc := 157) dX11_tellBlend_157 bp_12 ?_
  refine g_idiv (pc := 159) dX11_tellBlend_159 (by decide) rfl ?_
  obtain ⟨u12, e11, h⟩ := x_bind h
  refine g_cV (pc := 160) dX11_tellBlend_160 cV_RX11_211 (M_X10_tell (Nat.le_refl _) e11) xc_58 (as := [.int (119 : Int32), .int ((rd u10 81 4) / (12 : Int32))]) (st := []) rfl rfl (Nat.le_of_ble_eq_true rfl) (Nat.le_trans (Nat.le_of_ble_eq_true rfl) hd) rfl ?_
  refine g_aload_n (pc := 163) dX11_tellBlend_163 rfl ?_
  refine g_gR (pc := 164) dX11_tellBlend_164 fR_RX11_47 xc_0 (v := 58) rfl ?_
  refine g_bipush (pc := 167) dX11_tellBlend_167 bp_118 ?_
  refine g_aload_n (pc := 169) dX11_tellBlend_169 rfl ?_
  refine g_iconst (pc := 170) dX11_tellBlend_170 ic_5 ?_
  refine g_iaload (pc := 171) dX11_tellBlend_171 xc_81 vin_5_6 (v := (rd u12 81 5)) rfl ?_
  refine g_bipush (pc := 172) dX11_tellBlend_172 bp_12 ?_
  refine g_idiv (pc := 174) dX11_tellBlend_174 (by decide) rfl ?_
  obtain ⟨u14, e13, h⟩ := x_bind h
  refine g_cV (pc := 175) dX11_tellBlend_175 cV_RX11_211 (M_X10_tell (Nat.le_refl _) e13) xc_58 (as := [.int (118 : Int32), .int ((rd u12 81 5) / (12 : Int32))]) (st := []) rfl rfl (Nat.le_of_ble_eq_true rfl) (Nat.le_trans (Nat.le_of_ble_eq_true rfl) hd) rfl ?_
  refine g_aload_n (pc := 178) dX11_tellBlend_178 rfl ?_
  refine g_gR (pc := 179) dX11_tellBlend_179 fR_RX11_47 xc_0 (v := 58) rfl ?_
  refine g_bipush (pc := 182) dX11_tellBlend_182 bp_110 ?_
  refine g_iload_n (pc := 184) dX11_tellBlend_184 rfl ?_
  obtain ⟨u16, e15, h⟩ := x_bind h
  refine g_cV (pc := 185) dX11_tellBlend_185 cV_RX11_211 (M_X10_tell (Nat.le_refl _) e15) xc_58 (as := [.int (110 : Int32), .int v3]) (st := []) rfl rfl (Nat.le_of_ble_eq_true rfl) (Nat.le_trans (Nat.le_of_ble_eq_true rfl) hd) rfl ?_
  refine g_aload_n (pc := 188) dX11_tellBlend_188 rfl ?_
  refine g_gR (pc := 189) dX11_tellBlend_189 fR_RX11_47 xc_0 (v := 58) rfl ?_
  refine g_bipush (pc := 192) dX11_tellBlend_192 bp_109 ?_
  refine g_iload (pc := 194) dX11_tellBlend_194 rfl ?_
  obtain ⟨u18, e17, h⟩ := x_bind h
  refine g_cV (pc := 196) dX11_tellBlend_196 cV_RX11_211 (M_X10_tell (Nat.le_refl _) e17) xc_58 (as := [.int (109 : Int32), .int v4]) (st := []) rfl rfl (Nat.le_of_ble_eq_true rfl) (Nat.le_trans (Nat.le_of_ble_eq_true rfl) hd) rfl ?_
  cases h
  exact g_ret (pc := 199) dX11_tellBlend_199 rfl rfl rfl (Nat.le_refl _) (Nat.le_refl _)
set_option maxRecDepth 100000 in
set_option maxHeartbeats 4000000 in
theorem G_X11_tellBlend_75 {sc : Nat × (Nat → Int32)} {d : Nat} (hd : 2 ≤ d) {u' : xS} {k21 : Nat → Int32 → Int32 → Int32 → xS → Option xS} (hk21 : ∀ (v1 : Nat) (v3 : Int32) (v4 : Int32) (v5 : Int32) (u : xS), k21 v1 v3 v4 v5 u = some u' → xG sc mX11_tellBlend d 0 0 (xR none (xL0, u') 0 0) 0 0 21 [some (.ref 0), some (.ref v1), some (.ref 81), some (.int v3), some (.int v4), some (.int v5)] [] (xL0, u)) (v1 : Nat) (v3 : Int32) (v4 : Int32) (v5 : Int32) (u : xS) (h : f_X11_tellBlend_75 k21 v1 v3 v4 v5 u = some u') : xG sc mX11_tellBlend d 0 0 (xR none (xL0, u') 0 0) 0 0 75 [some (.ref 0), some (.ref v1), some (.ref 81), some (.int v3), some (.int v4), some (.int v5)] [] (xL0, u) := by
  rw [f_X11_tellBlend_75] at h
  refine g_inc (pc := 75) dX11_tellBlend_75 (Nat.le_of_ble_eq_true rfl) rfl ic_1 (L' := [some (.ref 0), some (.ref v1), some (.ref 81), some (.int v3), some (.int v4), some (.int (v5 + (1 : Int32)))]) rfl ?_
  refine g_goto (tgt := 21) (pc := 78) dX11_tellBlend_78 (by decide) ?_
  exact hk21 v1 v3 v4 (v5 + (1 : Int32)) u h
set_option maxRecDepth 100000 in
set_option maxHeartbeats 4000000 in
theorem G_X11_tellBlend_21 {sc : Nat × (Nat → Int32)} {d : Nat} (hd : 2 ≤ d) {u' : xS} : ∀ (n : Nat) (v1 : Nat) (v3 : Int32) (v4 : Int32) (v5 : Int32) (u : xS), f_X11_tellBlend_21 n v1 v3 v4 v5 u = some u' → xG sc mX11_tellBlend d 0 0 (xR none (xL0, u') 0 0) 0 0 21 [some (.ref 0), some (.ref v1), some (.ref 81), some (.int v3), some (.int v4), some (.int v5)] [] (xL0, u) := by
  intro n
  induction n with
  | zero =>
    intro v1 v3 v4 v5 u h
    rw [f_X11_tellBlend_21] at h
    cases h
  | succ n ih =>
    intro v1 v3 v4 v5 u h
    rw [f_X11_tellBlend_21] at h
    refine g_iload (pc := 21) dX11_tellBlend_21 rfl ?_
    refine g_aload_n (pc := 23) dX11_tellBlend_23 rfl ?_
    refine g_gR (pc := 24) dX11_tellBlend_24 fR_RX11_12 xc_0 (v := 1) rfl ?_
    refine g_gI (pc := 27) dX11_tellBlend_27 fI_RX11_102 xc_1 (v := (rd u 1 2)) rfl ?_
    refine g_icmp_ge (tgt := 81) (pc := 30) dX11_tellBlend_30 (by decide) (fun c1 => ?_) (fun c1 => ?_)
    · replace h := (if_pos c1).symm.trans h
      refine g_L (L' := [some (.ref 0), none, some (.ref 81), some (.int v3), some (.int v4), none]) ⟨rfl, ⟨rfl, ⟨rfl, ⟨rfl, trivial⟩⟩⟩⟩ ?_
      exact G_X11_tellBlend_81 hd v3 v4 u h
    · replace h := (if_neg c1).symm.trans h
      refine g_iload (pc := 33) dX11_tellBlend_33 rfl ?_
      refine g_aload_n (pc := 35) dX11_tellBlend_35 rfl ?_
      obtain ⟨g2, h⟩ := x_gd h
      obtain ⟨q3, hq4⟩ := xisI_of g2
      refine g_alen (pc := 36) dX11_tellBlend_36 hq4 (by decide) (v := (Int32.ofNat (xlen v1))) rfl ?_
      refine g_icmp_ge (tgt := 81) (pc := 37) dX11_tellBlend_37 (by decide) (fun c5 => ?_) (fun c5 => ?_)
      · replace h := (if_pos c5).symm.trans h
        refine g_L (L' := [some (.ref 0), none, some (.ref 81), some (.int v3), some (.int v4), none]) ⟨rfl, ⟨rfl, ⟨rfl, ⟨rfl, trivial⟩⟩⟩⟩ ?_
        exact G_X11_tellBlend_81 hd v3 v4 u h
      · replace h := (if_neg c5).symm.trans h
        refine g_aload_n (pc := 40) dX11_tellBlend_40 rfl ?_
        refine g_iload (pc := 41) dX11_tellBlend_41 rfl ?_
        obtain ⟨g6, h⟩ := x_gd h
        obtain ⟨g7, h⟩ := x_gd h
        obtain ⟨q8, hq9⟩ := xisI_of g6
        refine g_iaload (pc := 43) dX11_tellBlend_43 hq9 (xin_of g7) (v := (rd u v1 v5.toNatClampNeg)) rfl ?_
        refine g_if_le (tgt := 75) (pc := 44) dX11_tellBlend_44 (by decide) (fun c10 => ?_) (fun c10 => ?_)
        · replace h := (if_pos c10).symm.trans h
          exact G_X11_tellBlend_75 hd ih v1 v3 v4 v5 u h
        · replace h := (if_neg c10).symm.trans h
          refine g_inc (pc := 47) dX11_tellBlend_47 (Nat.le_of_ble_eq_true rfl) rfl ic_1 (L' := [some (.ref 0), some (.ref v1), some (.ref 81), some (.int (v3 + (1 : Int32))), some (.int v4), some (.int v5)]) rfl ?_
          refine g_iload (pc := 50) dX11_tellBlend_50 rfl ?_
          refine g_aload_n (pc := 52) dX11_tellBlend_52 rfl ?_
          refine g_iload (pc := 53) dX11_tellBlend_53 rfl ?_
          obtain ⟨g11, h⟩ := x_gd h
          obtain ⟨g12, h⟩ := x_gd h
          obtain ⟨q13, hq14⟩ := xisI_of g11
          refine g_iaload (pc := 55) dX11_tellBlend_55 hq14 (xin_of g12) (v := (rd u v1 v5.toNatClampNeg)) rfl ?_
          refine g_max (pc := 56) dX11_tellBlend_56 mK_RX11_188 (Nat.le_of_ble_eq_true rfl) (Nat.le_trans (Nat.le_of_ble_eq_true rfl) hd) (Nat.le_refl _) (Nat.le_refl _) ?_
          refine g_istore (pc := 59) dX11_tellBlend_59 (Nat.le_of_ble_eq_true rfl) (L' := [some (.ref 0), some (.ref v1), some (.ref 81), some (.int (v3 + (1 : Int32))), some (.int (imax v4 (rd u v1 v5.toNatClampNeg))), some (.int v5)]) rfl ?_
          refine g_aload_n (pc := 61) dX11_tellBlend_61 rfl ?_
          refine g_gR (pc := 62) dX11_tellBlend_62 fR_RX11_12 xc_0 (v := 1) rfl ?_
          refine g_iload (pc := 65) dX11_tellBlend_65 rfl ?_
          refine g_aload_n (pc := 67) dX11_tellBlend_67 rfl ?_
          refine g_iload (pc := 68) dX11_tellBlend_68 rfl ?_
          obtain ⟨g15, h⟩ := x_gd h
          obtain ⟨g16, h⟩ := x_gd h
          obtain ⟨q17, hq18⟩ := xisI_of g15
          refine g_iaload (pc := 70) dX11_tellBlend_70 hq18 (xin_of g16) (v := (rd u v1 v5.toNatClampNeg)) rfl ?_
          refine g_aload_n (pc := 71) dX11_tellBlend_71 rfl ?_
          obtain ⟨u20, e19, h⟩ := x_bind h
          refine g_cV (pc := 72) dX11_tellBlend_72 cV_RX11_312 (M_X8_addFeatures (Nat.le_refl _) e19) xc_1 (as := [.int v5, .int (rd u v1 v5.toNatClampNeg), .ref 81]) (st := []) rfl rfl (Nat.le_of_ble_eq_true rfl) (Nat.le_trans (Nat.le_of_ble_eq_true rfl) hd) rfl ?_
          exact G_X11_tellBlend_75 hd ih v1 (v3 + (1 : Int32)) (imax v4 (rd u v1 v5.toNatClampNeg)) v5 u20 h
set_option maxRecDepth 100000 in
set_option maxHeartbeats 4000000 in
theorem G_X11_tellBlend_0 {sc : Nat × (Nat → Int32)} {d : Nat} (hd : 2 ≤ d) {u' : xS} (v1 : Nat) (u : xS) (h : f_X11_tellBlend v1 u = some u') : xG sc mX11_tellBlend d 0 0 (xR none (xL0, u') 0 0) 0 0 0 [some (.ref 0), some (.ref v1), none, none, none, none] [] (xL0, u) := by
  rw [f_X11_tellBlend] at h
  refine g_aload_n (pc := 0) dX11_tellBlend_0 rfl ?_
  refine g_gR (pc := 1) dX11_tellBlend_1 fR_RX11_61 xc_0 (v := 79) rfl ?_
  refine g_gR (pc := 4) dX11_tellBlend_4 fR_RX11_303 xc_79 (v := 81) rfl ?_
  refine g_astore_n (pc := 7) dX11_tellBlend_7 (Nat.le_of_ble_eq_true rfl) (L' := [some (.ref 0), some (.ref v1), some (.ref 81), none, none, none]) rfl ?_
  refine g_iconst (pc := 8) dX11_tellBlend_8 ic_0 ?_
  refine g_istore_n (pc := 9) dX11_tellBlend_9 (Nat.le_of_ble_eq_true rfl) (L' := [some (.ref 0), some (.ref v1), some (.ref 81), some (.int (0 : Int32)), none, none]) rfl ?_
  refine g_iconst (pc := 10) dX11_tellBlend_10 ic_0 ?_
  refine g_istore (pc := 11) dX11_tellBlend_11 (Nat.le_of_ble_eq_true rfl) (L' := [some (.ref 0), some (.ref v1), some (.ref 81), some (.int (0 : Int32)), some (.int (0 : Int32)), none]) rfl ?_
  refine g_aload_n (pc := 13) dX11_tellBlend_13 rfl ?_
  refine g_iconst (pc := 14) dX11_tellBlend_14 ic_0 ?_
  obtain ⟨u2, e1, h⟩ := x_bind h
  refine g_cS (pc := 15) dX11_tellBlend_15 cS_RX11_306 (M_J7_fill_53178 (Nat.le_refl _) e1) (as := [.ref 81, .int (0 : Int32)]) (st := []) rfl rfl (Nat.le_of_ble_eq_true rfl) (Nat.le_trans (Nat.le_of_ble_eq_true rfl) hd) rfl ?_
  refine g_iconst (pc := 18) dX11_tellBlend_18 ic_0 ?_
  refine g_istore (pc := 19) dX11_tellBlend_19 (Nat.le_of_ble_eq_true rfl) (L' := [some (.ref 0), some (.ref v1), some (.ref 81), some (.int (0 : Int32)), some (.int (0 : Int32)), some (.int (0 : Int32))]) rfl ?_
  exact G_X11_tellBlend_21 hd xN v1 (0 : Int32) (0 : Int32) (0 : Int32) u2 h
set_option maxRecDepth 100000 in
set_option maxHeartbeats 4000000 in
theorem M_X11_tellBlend {sc : Nat × (Nat → Int32)} {d : Nat} (hd : 2 ≤ d) {u u' : xS} {a1 : Nat} (h : f_X11_tellBlend a1 u = some u') : xMt sc mX11_tellBlend d 0 0 [.ref 0, .ref a1] (xL0, u) none (xL0, u') :=
  xMt.of (by decide +kernel) (Nat.le_of_ble_eq_true rfl) (L := [some (.ref 0), some (.ref a1), none, none, none, none]) rfl ((G_X11_tellBlend_0 hd a1 u h))
set_option maxRecDepth 100000 in
set_option maxHeartbeats 4000000 in
theorem G_X11_holdsTrial_0 {sc : Nat × (Nat → Int32)} {d : Nat} (hd : 3 ≤ d) {r : Int32} {u' : xS} (v1 : Int32) (u : xS) (h : f_X11_holdsTrial v1 u = some (r, u')) : xG sc mX11_holdsTrial d 0 0 (xR (some (.int r)) (xL0, u') 0 0) 0 0 0 [some (.ref 0), some (.int v1)] [] (xL0, u) := by
  rw [f_X11_holdsTrial] at h
  refine g_aload_n (pc := 0) dX11_holdsTrial_0 rfl ?_
  refine g_aload_n (pc := 1) dX11_holdsTrial_1 rfl ?_
  refine g_gR (pc := 2) dX11_holdsTrial_2 fR_RX11_61 xc_0 (v := 79) rfl ?_
  refine g_gR (pc := 5) dX11_holdsTrial_5 fR_RX11_348 xc_79 (v := 85) rfl ?_
  obtain ⟨u2, e1, h⟩ := x_bind h
  refine g_cV (pc := 8) dX11_holdsTrial_8 cV_RX11_296 (M_X11_tellBlend (Nat.le_refl _) e1) xc_0 (as := [.ref 85]) (st := []) rfl rfl (Nat.le_of_ble_eq_true rfl) (Nat.le_trans (Nat.le_of_ble_eq_true rfl) hd) rfl ?_
  refine g_aload_n (pc := 11) dX11_holdsTrial_11 rfl ?_
  refine g_gR (pc := 12) dX11_holdsTrial_12 fR_RX11_47 xc_0 (v := 58) rfl ?_
  refine g_iload_n (pc := 15) dX11_holdsTrial_15 rfl ?_
  obtain ⟨⟨x4, u5⟩, e3, h⟩ := x_bind h
  dsimp only at h
  refine g_cV (pc := 16) dX11_holdsTrial_16 cV_RX11_300 (M_X10_firstBroken (Nat.le_refl _) e3) xc_58 (as := [.int v1]) (st := []) rfl rfl (Nat.le_of_ble_eq_true rfl) (Nat.le_trans (Nat.le_of_ble_eq_true rfl) hd) rfl ?_
  refine g_bipush (pc := 19) dX11_holdsTrial_19 bp_m2 ?_
  refine g_icmp_ne (tgt := 28) (pc := 21) dX11_holdsTrial_21 (by decide) (fun c6 => ?_) (fun c6 => ?_)
  · replace h := (if_neg c6).symm.trans h
    refine g_iconst (pc := 28) dX11_holdsTrial_28 ic_0 ?_
    cases h
    exact g_zret (pc := 29) dX11_holdsTrial_29 rfl (Or.inl rfl) rfl rfl (Nat.le_refl _) (Nat.le_refl _)
  · replace h := (if_pos c6).symm.trans h
    refine g_iconst (pc := 24) dX11_holdsTrial_24 ic_1 ?_
    refine g_goto (tgt := 29) (pc := 25) dX11_holdsTrial_25 (by decide) ?_
    cases h
    exact g_zret (pc := 29) dX11_holdsTrial_29 rfl (Or.inr rfl) rfl rfl (Nat.le_refl _) (Nat.le_refl _)
set_option maxRecDepth 100000 in
set_option maxHeartbeats 4000000 in
theorem M_X11_holdsTrial {sc : Nat × (Nat → Int32)} {d : Nat} (hd : 3 ≤ d) {r : Int32} {u u' : xS} {a1 : Int32} (h : f_X11_holdsTrial a1 u = some (r, u')) : xMt sc mX11_holdsTrial d 0 0 [.ref 0, .int a1] (xL0, u) (some (.int r)) (xL0, u') :=
  xMt.of (by decide +kernel) (Nat.le_of_ble_eq_true rfl) (L := [some (.ref 0), some (.int a1)]) rfl ((G_X11_holdsTrial_0 hd a1 u h))
set_option maxRecDepth 100000 in
set_option maxHeartbeats 4000000 in
theorem G_X1_keepTrial_0 {sc : Nat × (Nat → Int32)} {d : Nat} (hd : 1 ≤ d) {u' : xS} (u : xS) (h : f_X1_keepTrial u = some u') : xG sc mX1_keepTrial d 0 0 (xR none (xL0, u') 0 0) 0 0 0 [some (.ref 79)] [] (xL0, u) := by
  rw [f_X1_keepTrial] at h
  refine g_aload_n (pc := 0) dX1_keepTrial_0 rfl ?_
  refine g_gR (pc := 1) dX1_keepTrial_1 fR_RX1_33 xc_79 (v := 85) rfl ?_
  refine g_iconst (pc := 4) dX1_keepTrial_4 ic_0 ?_
  refine g_aload_n (pc := 5) dX1_keepTrial_5 rfl ?_
  refine g_gR (pc := 6) dX1_keepTrial_6 fR_RX1_36 xc_79 (v := 86) rfl ?_
  refine g_iconst (pc := 9) dX1_keepTrial_9 ic_0 ?_
  refine g_bipush (pc := 10) dX1_keepTrial_10 bp_16 ?_
  obtain ⟨g1, h⟩ := x_gd h
  refine g_cp (pc := 12) dX1_keepTrial_12 kcp_RX1_45 xc_85 xc_86 (xcok_of g1) (Nat.le_of_ble_eq_true rfl) (Nat.le_trans (Nat.le_of_ble_eq_true rfl) hd) (u' := (xcpy u 85 (0 : Int32).toNatClampNeg 86 (0 : Int32).toNatClampNeg (16 : Int32).toNatClampNeg)) rfl ?_
  cases h
  exact g_ret (pc := 15) dX1_keepTrial_15 rfl rfl rfl (Nat.le_refl _) (Nat.le_refl _)
set_option maxRecDepth 100000 in
set_option maxHeartbeats 4000000 in
theorem M_X1_keepTrial {sc : Nat × (Nat → Int32)} {d : Nat} (hd : 1 ≤ d) {u u' : xS} (h : f_X1_keepTrial u = some u') : xMt sc mX1_keepTrial d 0 0 [.ref 79] (xL0, u) none (xL0, u') :=
  xMt.of (by decide +kernel) (Nat.le_of_ble_eq_true rfl) (L := [some (.ref 79)]) rfl ((G_X1_keepTrial_0 hd u h))
set_option maxRecDepth 100000 in
set_option maxHeartbeats 4000000 in
theorem G_X1_trialPence_4 {sc : Nat × (Nat → Int32)} {d : Nat} (hd : 0 ≤ d) {r : Int32} {u : xS} : ∀ (n : Nat) (v1 : Int32) (v2 : Int32), f_X1_trialPence_4 u n v1 v2 = some r → xG sc mX1_trialPence d 0 0 (xR (some (.int r)) (xL0, u) 0 0) 0 0 4 [some (.ref 79), some (.int v1), some (.int v2), none] [] (xL0, u) := by
  intro n
  induction n with
  | zero =>
    intro v1 v2 h
    rw [f_X1_trialPence_4] at h
    cases h
  | succ n ih =>
    intro v1 v2 h
    rw [f_X1_trialPence_4] at h
    refine g_iload_n (pc := 4) dX1_trialPence_4 rfl ?_
    refine g_aload_n (pc := 5) dX1_trialPence_5 rfl ?_
    refine g_gI (pc := 6) dX1_trialPence_6 fI_RX1_29 xc_79 (v := (rd u 79 5)) rfl ?_
    refine g_icmp_ge (tgt := 53) (pc := 9) dX1_trialPence_9 (by decide) (fun c1 => ?_) (fun c1 => ?_)
    · replace h := (if_pos c1).symm.trans h
      refine g_iload_n (pc := 53) dX1_trialPence_53 rfl ?_
      cases h
      exact g_iret (pc := 54) dX1_trialPence_54 rfl rfl rfl (Nat.le_refl _) (Nat.le_refl _)
    · replace h := (if_neg c1).symm.trans h
      refine g_aload_n (pc := 12) dX1_trialPence_12 rfl ?_
      refine g_gR (pc := 13) dX1_trialPence_13 fR_RX1_33 xc_79 (v := 85) rfl ?_
      refine g_aload_n (pc := 16) dX1_trialPence_16 rfl ?_
      refine g_gR (pc := 17) dX1_trialPence_17 fR_RX1_20 xc_79 (v := 82) rfl ?_
      refine g_iload_n (pc := 20) dX1_trialPence_20 rfl ?_
      obtain ⟨g2, h⟩ := x_gd h
      refine g_iaload (pc := 21) dX1_trialPence_21 xc_82 (xin_of g2) (v := (rd u 82 v2.toNatClampNeg)) rfl ?_
      obtain ⟨g3, h⟩ := x_gd h
      refine g_iaload (pc := 22) dX1_trialPence_22 xc_85 (xin_of g3) (v := (rd u 85 (rd u 82 v2.toNatClampNeg).toNatClampNeg)) rfl ?_
      refine g_istore_n (pc := 23) dX1_trialPence_23 (Nat.le_of_ble_eq_true rfl) (L' := [some (.ref 79), some (.int v1), some (.int v2), some (.int (rd u 85 (rd u 82 v2.toNatClampNeg).toNatClampNeg))]) rfl ?_
      refine g_iload_n (pc := 24) dX1_trialPence_24 rfl ?_
      refine g_aload_n (pc := 25) dX1_trialPence_25 rfl ?_
      refine g_gR (pc := 26) dX1_trialPence_26 fR_RX1_26 xc_79 (v := 84) rfl ?_
      refine g_iload_n (pc := 29) dX1_trialPence_29 rfl ?_
      refine g_iaload (pc := 30) dX1_trialPence_30 xc_84 (xin_of g2) (v := (rd u 84 v2.toNatClampNeg)) rfl ?_
      refine g_icmp_le (tgt := 36) (pc := 31) dX1_trialPence_31 (by decide) (fun c4 => ?_) (fun c4 => ?_)
      · replace h := (if_pos c4).symm.trans h
        refine g_iload_n (pc := 36) dX1_trialPence_36 rfl ?_
        refine g_iload_n (pc := 37) dX1_trialPence_37 rfl ?_
        refine g_aload_n (pc := 38) dX1_trialPence_38 rfl ?_
        refine g_gR (pc := 39) dX1_trialPence_39 fR_RX1_23 xc_79 (v := 83) rfl ?_
        refine g_iload_n (pc := 42) dX1_trialPence_42 rfl ?_
        refine g_iaload (pc := 43) dX1_trialPence_43 xc_83 (xin_of g2) (v := (rd u 83 v2.toNatClampNeg)) rfl ?_
        refine g_imul (pc := 44) dX1_trialPence_44 rfl ?_
        refine g_iadd (pc := 45) dX1_trialPence_45 rfl ?_
        refine g_istore_n (pc := 46) dX1_trialPence_46 (Nat.le_of_ble_eq_true rfl) (L' := [some (.ref 79), some (.int (v1 + ((rd u 85 (rd u 82 v2.toNatClampNeg).toNatClampNeg) * (rd u 83 v2.toNatClampNeg)))), some (.int v2), some (.int (rd u 85 (rd u 82 v2.toNatClampNeg).toNatClampNeg))]) rfl ?_
        refine g_inc (pc := 47) dX1_trialPence_47 (Nat.le_of_ble_eq_true rfl) rfl ic_1 (L' := [some (.ref 79), some (.int (v1 + ((rd u 85 (rd u 82 v2.toNatClampNeg).toNatClampNeg) * (rd u 83 v2.toNatClampNeg)))), some (.int (v2 + (1 : Int32))), some (.int (rd u 85 (rd u 82 v2.toNatClampNeg).toNatClampNeg))]) rfl ?_
        refine g_goto (tgt := 4) (pc := 50) dX1_trialPence_50 (by decide) ?_
        refine g_L (L' := [some (.ref 79), some (.int (v1 + ((rd u 85 (rd u 82 v2.toNatClampNeg).toNatClampNeg) * (rd u 83 v2.toNatClampNeg)))), some (.int (v2 + (1 : Int32))), none]) ⟨rfl, ⟨rfl, ⟨rfl, trivial⟩⟩⟩ ?_
        exact ih (v1 + ((rd u 85 (rd u 82 v2.toNatClampNeg).toNatClampNeg) * (rd u 83 v2.toNatClampNeg))) (v2 + (1 : Int32)) h
      · replace h := (if_neg c4).symm.trans h
        refine g_iconst (pc := 34) dX1_trialPence_34 ic_m1 ?_
        cases h
        exact g_iret (pc := 35) dX1_trialPence_35 rfl rfl rfl (Nat.le_refl _) (Nat.le_refl _)
set_option maxRecDepth 100000 in
set_option maxHeartbeats 4000000 in
theorem G_X1_trialPence_0 {sc : Nat × (Nat → Int32)} {d : Nat} (hd : 0 ≤ d) {r : Int32} {u : xS} (h : f_X1_trialPence u = some r) : xG sc mX1_trialPence d 0 0 (xR (some (.int r)) (xL0, u) 0 0) 0 0 0 [some (.ref 79), none, none, none] [] (xL0, u) := by
  rw [f_X1_trialPence] at h
  refine g_iconst (pc := 0) dX1_trialPence_0 ic_0 ?_
  refine g_istore_n (pc := 1) dX1_trialPence_1 (Nat.le_of_ble_eq_true rfl) (L' := [some (.ref 79), some (.int (0 : Int32)), none, none]) rfl ?_
  refine g_iconst (pc := 2) dX1_trialPence_2 ic_0 ?_
  refine g_istore_n (pc := 3) dX1_trialPence_3 (Nat.le_of_ble_eq_true rfl) (L' := [some (.ref 79), some (.int (0 : Int32)), some (.int (0 : Int32)), none]) rfl ?_
  exact G_X1_trialPence_4 hd xN (0 : Int32) (0 : Int32) h
set_option maxRecDepth 100000 in
set_option maxHeartbeats 4000000 in
theorem M_X1_trialPence {sc : Nat × (Nat → Int32)} {d : Nat} (hd : 0 ≤ d) {r : Int32} {u : xS} (h : f_X1_trialPence u = some r) : xMt sc mX1_trialPence d 0 0 [.ref 79] (xL0, u) (some (.int r)) (xL0, u) :=
  xMt.of (by decide +kernel) (Nat.le_of_ble_eq_true rfl) (L := [some (.ref 79), none, none, none]) rfl ((G_X1_trialPence_0 hd h))
set_option maxRecDepth 100000 in
set_option maxHeartbeats 4000000 in
theorem G_X1_startTrial_0 {sc : Nat × (Nat → Int32)} {d : Nat} (hd : 1 ≤ d) {r : Int32} {u' : xS} (u : xS) (h : f_X1_startTrial u = some (r, u')) : xG sc mX1_startTrial d 0 0 (xR (some (.int r)) (xL0, u') 0 0) 0 0 0 [some (.ref 79)] [] (xL0, u) := by
  rw [f_X1_startTrial] at h
  refine g_aload_n (pc := 0) dX1_startTrial_0 rfl ?_
  refine g_gR (pc := 1) dX1_startTrial_1 fR_RX1_33 xc_79 (v := 85) rfl ?_
  refine g_iconst (pc := 4) dX1_startTrial_4 ic_0 ?_
  obtain ⟨u2, e1, h⟩ := x_bind h
  refine g_cS (pc := 5) dX1_startTrial_5 cS_RX1_39 (M_J7_fill_53178 (Nat.le_refl _) e1) (as := [.ref 85, .int (0 : Int32)]) (st := []) rfl rfl (Nat.le_of_ble_eq_true rfl) (Nat.le_trans (Nat.le_of_ble_eq_true rfl) hd) rfl ?_
  refine g_aload_n (pc := 8) dX1_startTrial_8 rfl ?_
  refine g_gI (pc := 9) dX1_startTrial_9 fI_RX1_29 xc_79 (v := (rd u2 79 5)) rfl ?_
  refine g_if_ne (tgt := 17) (pc := 12) dX1_startTrial_12 (by decide) (fun c3 => ?_) (fun c3 => ?_)
  · replace h := (if_neg c3).symm.trans h
    refine g_aload_n (pc := 17) dX1_startTrial_17 rfl ?_
    refine g_gR (pc := 18) dX1_startTrial_18 fR_RX1_33 xc_79 (v := 85) rfl ?_
    refine g_aload_n (pc := 21) dX1_startTrial_21 rfl ?_
    refine g_gR (pc := 22) dX1_startTrial_22 fR_RX1_20 xc_79 (v := 82) rfl ?_
    refine g_aload_n (pc := 25) dX1_startTrial_25 rfl ?_
    refine g_gI (pc := 26) dX1_startTrial_26 fI_RX1_29 xc_79 (v := (rd u2 79 5)) rfl ?_
    refine g_iconst (pc := 29) dX1_startTrial_29 ic_1 ?_
    refine g_isub (pc := 30) dX1_startTrial_30 rfl ?_
    obtain ⟨g4, h⟩ := x_gd h
    refine g_iaload (pc := 31) dX1_startTrial_31 xc_82 (xin_of g4) (v := (rd u2 82 ((rd u2 79 5) - (1 : Int32)).toNatClampNeg)) rfl ?_
    refine g_bipush (pc := 32) dX1_startTrial_32 bp_12 ?_
    obtain ⟨g5, h⟩ := x_gd h
    refine g_iastore (pc := 34) dX1_startTrial_34 xc_85 (xin_of g5) (u' := (wr u2 85 (rd u2 82 ((rd u2 79 5) - (1 : Int32)).toNatClampNeg).toNatClampNeg (12 : Int32))) rfl ?_
    refine g_iconst (pc := 35) dX1_startTrial_35 ic_1 ?_
    cases h
    exact g_zret (pc := 36) dX1_startTrial_36 rfl (Or.inr rfl) rfl rfl (Nat.le_refl _) (Nat.le_refl _)
  · replace h := (if_pos c3).symm.trans h
    refine g_iconst (pc := 15) dX1_startTrial_15 ic_0 ?_
    cases h
    exact g_zret (pc := 16) dX1_startTrial_16 rfl (Or.inl rfl) rfl rfl (Nat.le_refl _) (Nat.le_refl _)
set_option maxRecDepth 100000 in
set_option maxHeartbeats 4000000 in
theorem M_X1_startTrial {sc : Nat × (Nat → Int32)} {d : Nat} (hd : 1 ≤ d) {r : Int32} {u u' : xS} (h : f_X1_startTrial u = some (r, u')) : xMt sc mX1_startTrial d 0 0 [.ref 79] (xL0, u) (some (.int r)) (xL0, u') :=
  xMt.of (by decide +kernel) (Nat.le_of_ble_eq_true rfl) (L := [some (.ref 79)]) rfl ((G_X1_startTrial_0 hd u h))
set_option maxRecDepth 100000 in
set_option maxHeartbeats 4000000 in
theorem G_X11_cheapest_80 {sc : Nat × (Nat → Int32)} {d : Nat} (hd : 4 ≤ d) {r : Int32} {u' : xS} {k14 : Int32 → Int32 → Int32 → Int32 → xS → Option (Int32 × xS)} (hk14 : ∀ (v1 : Int32) (v2 : Int32) (v3 : Int32) (v4 : Int32) (u : xS), k14 v1 v2 v3 v4 u = some (r, u') → xG sc mX11_cheapest d 0 0 (xR (some (.int r)) (xL0, u') 0 0) 0 0 14 [some (.ref 0), some (.int v1), some (.int v2), some (.int v3), some (.int v4), none, none] [] (xL0, u)) (v1 : Int32) (v2 : Int32) (v4 : Int32) (u : xS) (h : f_X11_cheapest_80 k14 v1 v2 v4 u = some (r, u')) : xG sc mX11_cheapest d 0 0 (xR (some (.int r)) (xL0, u') 0 0) 0 0 80 [some (.ref 0), some (.int v1), some (.int v2), none, some (.int v4), none, none] [] (xL0, u) := by
  rw [f_X11_cheapest_80] at h
  refine g_aload_n (pc := 80) dX11_cheapest_80 rfl ?_
  refine g_gR (pc := 81) dX11_cheapest_81 fR_RX11_61 xc_0 (v := 79) rfl ?_
  obtain ⟨⟨x2, u3⟩, e1, h⟩ := x_bind h
  dsimp only at h
  refine g_cV (pc := 84) dX11_cheapest_84 cV_RX11_345 (M_X1_nextTrial (Nat.le_refl _) e1) xc_79 (as := []) (st := []) rfl rfl (Nat.le_of_ble_eq_true rfl) (Nat.le_trans (Nat.le_of_ble_eq_true rfl) hd) rfl ?_
  refine g_istore_n (pc := 87) dX11_cheapest_87 (Nat.le_of_ble_eq_true rfl) (L' := [some (.ref 0), some (.int v1), some (.int v2), some (.int x2), some (.int v4), none, none]) rfl ?_
  refine g_inc (pc := 88) dX11_cheapest_88 (Nat.le_of_ble_eq_true rfl) rfl ic_1 (L' := [some (.ref 0), some (.int v1), some (.int v2), some (.int x2), some (.int (v4 + (1 : Int32))), none, none]) rfl ?_
  refine g_goto (tgt := 14) (pc := 91) dX11_cheapest_91 (by decide) ?_
  exact hk14 v1 v2 x2 (v4 + (1 : Int32)) u3 h
set_option maxRecDepth 100000 in
set_option maxHeartbeats 4000000 in
theorem G_X11_cheapest_55 {sc : Nat × (Nat → Int32)} {d : Nat} (hd : 4 ≤ d) {r : Int32} {u' : xS} {k14 : Int32 → Int32 → Int32 → Int32 → xS → Option (Int32 × xS)} (hk14 : ∀ (v1 : Int32) (v2 : Int32) (v3 : Int32) (v4 : Int32) (u : xS), k14 v1 v2 v3 v4 u = some (r, u') → xG sc mX11_cheapest d 0 0 (xR (some (.int r)) (xL0, u') 0 0) 0 0 14 [some (.ref 0), some (.int v1), some (.int v2), some (.int v3), some (.int v4), none, none] [] (xL0, u)) (v1 : Int32) (v2 : Int32) (v4 : Int32) (v5 : Int32) (s0 : Int32) (u : xS) (h : f_X11_cheapest_55 k14 v1 v2 v4 v5 s0 u = some (r, u')) : xG sc mX11_cheapest d 0 0 (xR (some (.int r)) (xL0, u') 0 0) 0 0 55 [some (.ref 0), some (.int v1), some (.int v2), none, some (.int v4), some (.int v5), none] [.int s0] (xL0, u) := by
  rw [f_X11_cheapest_55] at h
  refine g_istore (pc := 55) dX11_cheapest_55 (Nat.le_of_ble_eq_true rfl) (L' := [some (.ref 0), some (.int v1), some (.int v2), none, some (.int v4), some (.int v5), some (.int s0)]) rfl ?_
  refine g_iload (pc := 57) dX11_cheapest_57 rfl ?_
  refine g_if_eq (tgt := 80) (pc := 59) dX11_cheapest_59 (by decide) (fun c1 => ?_) (fun c1 => ?_)
  · replace h := (if_pos c1).symm.trans h
    refine g_L (L' := [some (.ref 0), some (.int v1), some (.int v2), none, some (.int v4), none, none]) ⟨rfl, ⟨rfl, ⟨rfl, ⟨rfl, trivial⟩⟩⟩⟩ ?_
    exact G_X11_cheapest_80 hd hk14 v1 v2 v4 u h
  · replace h := (if_neg c1).symm.trans h
    refine g_aload_n (pc := 62) dX11_cheapest_62 rfl ?_
    refine g_iload_n (pc := 63) dX11_cheapest_63 rfl ?_
    obtain ⟨⟨x3, u4⟩, e2, h⟩ := x_bind h
    dsimp only at h
    refine g_cV (pc := 64) dX11_cheapest_64 cV_RX11_339 (M_X11_holdsTrial (Nat.le_refl _) e2) xc_0 (as := [.int v1]) (st := []) rfl rfl (Nat.le_of_ble_eq_true rfl) (Nat.le_trans (Nat.le_of_ble_eq_true rfl) hd) rfl ?_
    refine g_if_eq (tgt := 80) (pc := 67) dX11_cheapest_67 (by decide) (fun c5 => ?_) (fun c5 => ?_)
    · replace h := (if_pos c5).symm.trans h
      refine g_L (L' := [some (.ref 0), some (.int v1), some (.int v2), none, some (.int v4), none, none]) ⟨rfl, ⟨rfl, ⟨rfl, ⟨rfl, trivial⟩⟩⟩⟩ ?_
      exact G_X11_cheapest_80 hd hk14 v1 v2 v4 u4 h
    · replace h := (if_neg c5).symm.trans h
      refine g_iload (pc := 70) dX11_cheapest_70 rfl ?_
      refine g_istore_n (pc := 72) dX11_cheapest_72 (Nat.le_of_ble_eq_true rfl) (L' := [some (.ref 0), some (.int v1), some (.int v5), none, some (.int v4), some (.int v5), some (.int s0)]) rfl ?_
      refine g_aload_n (pc := 73) dX11_cheapest_73 rfl ?_
      refine g_gR (pc := 74) dX11_cheapest_74 fR_RX11_61 xc_0 (v := 79) rfl ?_
      obtain ⟨u7, e6, h⟩ := x_bind h
      refine g_cV (pc := 77) dX11_cheapest_77 cV_RX11_342 (M_X1_keepTrial (Nat.le_refl _) e6) xc_79 (as := []) (st := []) rfl rfl (Nat.le_of_ble_eq_true rfl) (Nat.le_trans (Nat.le_of_ble_eq_true rfl) hd) rfl ?_
      refine g_L (L' := [some (.ref 0), some (.int v1), some (.int v5), none, some (.int v4), none, none]) ⟨rfl, ⟨rfl, ⟨rfl, ⟨rfl, trivial⟩⟩⟩⟩ ?_
      exact G_X11_cheapest_80 hd hk14 v1 v5 v4 u7 h
set_option maxRecDepth 100000 in
set_option maxHeartbeats 4000000 in
theorem G_X11_cheapest_54 {sc : Nat × (Nat → Int32)} {d : Nat} (hd : 4 ≤ d) {r : Int32} {u' : xS} {k14 : Int32 → Int32 → Int32 → Int32 → xS → Option (Int32 × xS)} (hk14 : ∀ (v1 : Int32) (v2 : Int32) (v3 : Int32) (v4 : Int32) (u : xS), k14 v1 v2 v3 v4 u = some (r, u') → xG sc mX11_cheapest d 0 0 (xR (some (.int r)) (xL0, u') 0 0) 0 0 14 [some (.ref 0), some (.int v1), some (.int v2), some (.int v3), some (.int v4), none, none] [] (xL0, u)) (v1 : Int32) (v2 : Int32) (v4 : Int32) (v5 : Int32) (u : xS) (h : f_X11_cheapest_54 k14 v1 v2 v4 v5 u = some (r, u')) : xG sc mX11_cheapest d 0 0 (xR (some (.int r)) (xL0, u') 0 0) 0 0 54 [some (.ref 0), some (.int v1), some (.int v2), none, some (.int v4), some (.int v5), none] [] (xL0, u) := by
  rw [f_X11_cheapest_54] at h
  refine g_iconst (pc := 54) dX11_cheapest_54 ic_0 ?_
  exact G_X11_cheapest_55 hd hk14 v1 v2 v4 v5 (0 : Int32) u h
set_option maxRecDepth 100000 in
set_option maxHeartbeats 4000000 in
theorem G_X11_cheapest_50 {sc : Nat × (Nat → Int32)} {d : Nat} (hd : 4 ≤ d) {r : Int32} {u' : xS} {k14 : Int32 → Int32 → Int32 → Int32 → xS → Option (Int32 × xS)} (hk14 : ∀ (v1 : Int32) (v2 : Int32) (v3 : Int32) (v4 : Int32) (u : xS), k14 v1 v2 v3 v4 u = some (r, u') → xG sc mX11_cheapest d 0 0 (xR (some (.int r)) (xL0, u') 0 0) 0 0 14 [some (.ref 0), some (.int v1), some (.int v2), some (.int v3), some (.int v4), none, none] [] (xL0, u)) (v1 : Int32) (v2 : Int32) (v4 : Int32) (v5 : Int32) (u : xS) (h : f_X11_cheapest_50 k14 v1 v2 v4 v5 u = some (r, u')) : xG sc mX11_cheapest d 0 0 (xR (some (.int r)) (xL0, u') 0 0) 0 0 50 [some (.ref 0), some (.int v1), some (.int v2), none, some (.int v4), some (.int v5), none] [] (xL0, u) := by
  rw [f_X11_cheapest_50] at h
  refine g_iconst (pc := 50) dX11_cheapest_50 ic_1 ?_
  refine g_goto (tgt := 55) (pc := 51) dX11_cheapest_51 (by decide) ?_
  exact G_X11_cheapest_55 hd hk14 v1 v2 v4 v5 (1 : Int32) u h
set_option maxRecDepth 100000 in
set_option maxHeartbeats 4000000 in
theorem G_X11_cheapest_14 {sc : Nat × (Nat → Int32)} {d : Nat} (hd : 4 ≤ d) {r : Int32} {u' : xS} : ∀ (n : Nat) (v1 : Int32) (v2 : Int32) (v3 : Int32) (v4 : Int32) (u : xS), f_X11_cheapest_14 n v1 v2 v3 v4 u = some (r, u') → xG sc mX11_cheapest d 0 0 (xR (some (.int r)) (xL0, u') 0 0) 0 0 14 [some (.ref 0), some (.int v1), some (.int v2), some (.int v3), some (.int v4), none, none] [] (xL0, u) := by
  intro n
  induction n with
  | zero =>
    intro v1 v2 v3 v4 u h
    rw [f_X11_cheapest_14] at h
    cases h
  | succ n ih =>
    intro v1 v2 v3 v4 u h
    rw [f_X11_cheapest_14] at h
    refine g_iload_n (pc := 14) dX11_cheapest_14 rfl ?_
    refine g_if_eq (tgt := 94) (pc := 15) dX11_cheapest_15 (by decide) (fun c1 => ?_) (fun c1 => ?_)
    · replace h := (if_pos c1).symm.trans h
      refine g_iload_n (pc := 94) dX11_cheapest_94 rfl ?_
      cases h
      exact g_iret (pc := 95) dX11_cheapest_95 rfl rfl rfl (Nat.le_refl _) (Nat.le_refl _)
    · replace h := (if_neg c1).symm.trans h
      refine g_iload (pc := 18) dX11_cheapest_18 rfl ?_
      refine g_sipush (pc := 20) dX11_cheapest_20 sp_6188 ?_
      refine g_icmp_ge (tgt := 94) (pc := 23) dX11_cheapest_23 (by decide) (fun c2 => ?_) (fun c2 => ?_)
      · replace h := (if_pos c2).symm.trans h
        refine g_iload_n (pc := 94) dX11_cheapest_94 rfl ?_
        cases h
        exact g_iret (pc := 95) dX11_cheapest_95 rfl rfl rfl (Nat.le_refl _) (Nat.le_refl _)
      · replace h := (if_neg c2).symm.trans h
        refine g_aload_n (pc := 26) dX11_cheapest_26 rfl ?_
        refine g_gR (pc := 27) dX11_cheapest_27 fR_RX11_61 xc_0 (v := 79) rfl ?_
        obtain ⟨x4, e3, h⟩ := x_bind h
        refine g_cV (pc := 30) dX11_cheapest_30 cV_RX11_336 (M_X1_trialPence (Nat.le_refl _) e3) xc_79 (as := []) (st := []) rfl rfl (Nat.le_of_ble_eq_true rfl) (Nat.le_trans (Nat.le_of_ble_eq_true rfl) hd) rfl ?_
        refine g_istore (pc := 33) dX11_cheapest_33 (Nat.le_of_ble_eq_true rfl) (L' := [some (.ref 0), some (.int v1), some (.int v2), some (.int v3), some (.int v4), some (.int x4), none]) rfl ?_
        refine g_iload (pc := 35) dX11_cheapest_35 rfl ?_
        refine g_if_lt (tgt := 54) (pc := 37) dX11_cheapest_37 (by decide) (fun c5 => ?_) (fun c5 => ?_)
        · replace h := (if_pos c5).symm.trans h
          refine g_L (L' := [some (.ref 0), some (.int v1), some (.int v2), none, some (.int v4), some (.int x4), none]) ⟨rfl, ⟨rfl, ⟨rfl, ⟨rfl, ⟨rfl, trivial⟩⟩⟩⟩⟩ ?_
          exact G_X11_cheapest_54 hd ih v1 v2 v4 x4 u h
        · replace h := (if_neg c5).symm.trans h
          refine g_iload_n (pc := 40) dX11_cheapest_40 rfl ?_
          refine g_if_lt (tgt := 50) (pc := 41) dX11_cheapest_41 (by decide) (fun c6 => ?_) (fun c6 => ?_)
          · replace h := (if_pos c6).symm.trans h
            refine g_L (L' := [some (.ref 0), some (.int v1), some (.int v2), none, some (.int v4), some (.int x4), none]) ⟨rfl, ⟨rfl, ⟨rfl, ⟨rfl, ⟨rfl, trivial⟩⟩⟩⟩⟩ ?_
            exact G_X11_cheapest_50 hd ih v1 v2 v4 x4 u h
          · replace h := (if_neg c6).symm.trans h
            refine g_iload (pc := 44) dX11_cheapest_44 rfl ?_
            refine g_iload_n (pc := 46) dX11_cheapest_46 rfl ?_
            refine g_icmp_ge (tgt := 54) (pc := 47) dX11_cheapest_47 (by decide) (fun c7 => ?_) (fun c7 => ?_)
            · replace h := (if_pos c7).symm.trans h
              refine g_L (L' := [some (.ref 0), some (.int v1), some (.int v2), none, some (.int v4), some (.int x4), none]) ⟨rfl, ⟨rfl, ⟨rfl, ⟨rfl, ⟨rfl, trivial⟩⟩⟩⟩⟩ ?_
              exact G_X11_cheapest_54 hd ih v1 v2 v4 x4 u h
            · replace h := (if_neg c7).symm.trans h
              refine g_L (L' := [some (.ref 0), some (.int v1), some (.int v2), none, some (.int v4), some (.int x4), none]) ⟨rfl, ⟨rfl, ⟨rfl, ⟨rfl, ⟨rfl, trivial⟩⟩⟩⟩⟩ ?_
              exact G_X11_cheapest_50 hd ih v1 v2 v4 x4 u h
set_option maxRecDepth 100000 in
set_option maxHeartbeats 4000000 in
theorem G_X11_cheapest_0 {sc : Nat × (Nat → Int32)} {d : Nat} (hd : 4 ≤ d) {r : Int32} {u' : xS} (v1 : Int32) (u : xS) (h : f_X11_cheapest v1 u = some (r, u')) : xG sc mX11_cheapest d 0 0 (xR (some (.int r)) (xL0, u') 0 0) 0 0 0 [some (.ref 0), some (.int v1), none, none, none, none, none] [] (xL0, u) := by
  rw [f_X11_cheapest] at h
  refine g_bipush (pc := 0) dX11_cheapest_0 bp_m2 ?_
  refine g_istore_n (pc := 2) dX11_cheapest_2 (Nat.le_of_ble_eq_true rfl) (L' := [some (.ref 0), some (.int v1), some (.int (-2 : Int32)), none, none, none, none]) rfl ?_
  refine g_aload_n (pc := 3) dX11_cheapest_3 rfl ?_
  refine g_gR (pc := 4) dX11_cheapest_4 fR_RX11_61 xc_0 (v := 79) rfl ?_
  obtain ⟨⟨x2, u3⟩, e1, h⟩ := x_bind h
  dsimp only at h
  refine g_cV (pc := 7) dX11_cheapest_7 cV_RX11_332 (M_X1_startTrial (Nat.le_refl _) e1) xc_79 (as := []) (st := []) rfl rfl (Nat.le_of_ble_eq_true rfl) (Nat.le_trans (Nat.le_of_ble_eq_true rfl) hd) rfl ?_
  refine g_istore_n (pc := 10) dX11_cheapest_10 (Nat.le_of_ble_eq_true rfl) (L' := [some (.ref 0), some (.int v1), some (.int (-2 : Int32)), some (.int x2), none, none, none]) rfl ?_
  refine g_iconst (pc := 11) dX11_cheapest_11 ic_0 ?_
  refine g_istore (pc := 12) dX11_cheapest_12 (Nat.le_of_ble_eq_true rfl) (L' := [some (.ref 0), some (.int v1), some (.int (-2 : Int32)), some (.int x2), some (.int (0 : Int32)), none, none]) rfl ?_
  exact G_X11_cheapest_14 hd xN v1 (-2 : Int32) x2 (0 : Int32) u3 h
set_option maxRecDepth 100000 in
set_option maxHeartbeats 4000000 in
theorem M_X11_cheapest {sc : Nat × (Nat → Int32)} {d : Nat} (hd : 4 ≤ d) {r : Int32} {u u' : xS} {a1 : Int32} (h : f_X11_cheapest a1 u = some (r, u')) : xMt sc mX11_cheapest d 0 0 [.ref 0, .int a1] (xL0, u) (some (.int r)) (xL0, u') :=
  xMt.of (by decide +kernel) (Nat.le_of_ble_eq_true rfl) (L := [some (.ref 0), some (.int a1), none, none, none, none, none]) rfl ((G_X11_cheapest_0 hd a1 u h))
set_option maxRecDepth 100000 in
set_option maxHeartbeats 4000000 in
theorem G_X1_inAll_4 {sc : Nat × (Nat → Int32)} {d : Nat} (hd : 0 ≤ d) {r : Int32} {u : xS} : ∀ (n : Nat) (v1 : Int32) (v2 : Int32), f_X1_inAll_4 u n v1 v2 = some r → xG sc mX1_inAll d 0 0 (xR (some (.int r)) (xL0, u) 0 0) 0 0 4 [some (.ref 79), some (.int v1), some (.int v2)] [] (xL0, u) := by
  intro n
  induction n with
  | zero =>
    intro v1 v2 h
    rw [f_X1_inAll_4] at h
    cases h
  | succ n ih =>
    intro v1 v2 h
    rw [f_X1_inAll_4] at h
    refine g_iload_n (pc := 4) dX1_inAll_4 rfl ?_
    refine g_bipush (pc := 5) dX1_inAll_5 bp_16 ?_
    refine g_icmp_ge (tgt := 25) (pc := 7) dX1_inAll_7 (by decide) (fun c1 => ?_) (fun c1 => ?_)
    · replace h := (if_pos c1).symm.trans h
      refine g_iload_n (pc := 25) dX1_inAll_25 rfl ?_
      cases h
      exact g_iret (pc := 26) dX1_inAll_26 rfl rfl rfl (Nat.le_refl _) (Nat.le_refl _)
    · replace h := (if_neg c1).symm.trans h
      refine g_iload_n (pc := 10) dX1_inAll_10 rfl ?_
      refine g_aload_n (pc := 11) dX1_inAll_11 rfl ?_
      refine g_gR (pc := 12) dX1_inAll_12 fR_RX1_9 xc_79 (v := 80) rfl ?_
      refine g_iload_n (pc := 15) dX1_inAll_15 rfl ?_
      obtain ⟨g2, h⟩ := x_gd h
      refine g_iaload (pc := 16) dX1_inAll_16 xc_80 (xin_of g2) (v := (rd u 80 v2.toNatClampNeg)) rfl ?_
      refine g_iadd (pc := 17) dX1_inAll_17 rfl ?_
      refine g_istore_n (pc := 18) dX1_inAll_18 (Nat.le_of_ble_eq_true rfl) (L' := [some (.ref 79), some (.int (v1 + (rd u 80 v2.toNatClampNeg))), some (.int v2)]) rfl ?_
      refine g_inc (pc := 19) dX1_inAll_19 (Nat.le_of_ble_eq_true rfl) rfl ic_1 (L' := [some (.ref 79), some (.int (v1 + (rd u 80 v2.toNatClampNeg))), some (.int (v2 + (1 : Int32)))]) rfl ?_
      refine g_goto (tgt := 4) (pc := 22) dX1_inAll_22 (by decide) ?_
      exact ih (v1 + (rd u 80 v2.toNatClampNeg)) (v2 + (1 : Int32)) h
set_option maxRecDepth 100000 in
set_option maxHeartbeats 4000000 in
theorem G_X1_inAll_0 {sc : Nat × (Nat → Int32)} {d : Nat} (hd : 0 ≤ d) {r : Int32} {u : xS} (h : f_X1_inAll u = some r) : xG sc mX1_inAll d 0 0 (xR (some (.int r)) (xL0, u) 0 0) 0 0 0 [some (.ref 79), none, none] [] (xL0, u) := by
  rw [f_X1_inAll] at h
  refine g_iconst (pc := 0) dX1_inAll_0 ic_0 ?_
  refine g_istore_n (pc := 1) dX1_inAll_1 (Nat.le_of_ble_eq_true rfl) (L' := [some (.ref 79), some (.int (0 : Int32)), none]) rfl ?_
  refine g_iconst (pc := 2) dX1_inAll_2 ic_0 ?_
  refine g_istore_n (pc := 3) dX1_inAll_3 (Nat.le_of_ble_eq_true rfl) (L' := [some (.ref 79), some (.int (0 : Int32)), some (.int (0 : Int32))]) rfl ?_
  exact G_X1_inAll_4 hd xN (0 : Int32) (0 : Int32) h
set_option maxRecDepth 100000 in
set_option maxHeartbeats 4000000 in
theorem M_X1_inAll {sc : Nat × (Nat → Int32)} {d : Nat} (hd : 0 ≤ d) {r : Int32} {u : xS} (h : f_X1_inAll u = some r) : xMt sc mX1_inAll d 0 0 [.ref 79] (xL0, u) (some (.int r)) (xL0, u) :=
  xMt.of (by decide +kernel) (Nat.le_of_ble_eq_true rfl) (L := [some (.ref 79), none, none]) rfl ((G_X1_inAll_0 hd h))
set_option maxRecDepth 100000 in
set_option maxHeartbeats 4000000 in
theorem G_X11_cost_25 {sc : Nat × (Nat → Int32)} {d : Nat} (hd : 2 ≤ d) {r : Int32} {u : xS} : ∀ (n : Nat) (v1 : Int32) (v2 : Int32) (v3 : Int32), f_X11_cost_25 u n v1 v2 v3 = some r → xG sc mX11_cost d 0 0 (xR (some (.int r)) (xL0, u) 0 0) 0 0 25 [some (.ref 0), some (.int v1), some (.int v2), some (.int v3)] [] (xL0, u) := by
  intro n
  induction n with
  | zero =>
    intro v1 v2 v3 h
    rw [f_X11_cost_25] at h
    cases h
  | succ n ih =>
    intro v1 v2 v3 h
    rw [f_X11_cost_25] at h
    refine g_iload_n (pc := 25) dX11_cost_25 rfl ?_
    refine g_aload_n (pc := 26) dX11_cost_26 rfl ?_
    refine g_gR (pc := 27) dX11_cost_27 fR_RX11_12 xc_0 (v := 1) rfl ?_
    refine g_gI (pc := 30) dX11_cost_30 fI_RX11_102 xc_1 (v := (rd u 1 2)) rfl ?_
    refine g_icmp_ge (tgt := 64) (pc := 33) dX11_cost_33 (by decide) (fun c1 => ?_) (fun c1 => ?_)
    · replace h := (if_pos c1).symm.trans h
      refine g_iload_n (pc := 64) dX11_cost_64 rfl ?_
      cases h
      exact g_iret (pc := 65) dX11_cost_65 rfl rfl rfl (Nat.le_refl _) (Nat.le_refl _)
    · replace h := (if_neg c1).symm.trans h
      refine g_iload_n (pc := 36) dX11_cost_36 rfl ?_
      refine g_aload_n (pc := 37) dX11_cost_37 rfl ?_
      refine g_gR (pc := 38) dX11_cost_38 fR_RX11_61 xc_0 (v := 79) rfl ?_
      refine g_gR (pc := 41) dX11_cost_41 fR_RX11_286 xc_79 (v := 80) rfl ?_
      refine g_iload_n (pc := 44) dX11_cost_44 rfl ?_
      obtain ⟨g2, h⟩ := x_gd h
      refine g_iaload (pc := 45) dX11_cost_45 xc_80 (xin_of g2) (v := (rd u 80 v3.toNatClampNeg)) rfl ?_
      refine g_aload_n (pc := 46) dX11_cost_46 rfl ?_
      refine g_gR (pc := 47) dX11_cost_47 fR_RX11_12 xc_0 (v := 1) rfl ?_
      refine g_iload_n (pc := 50) dX11_cost_50 rfl ?_
      refine g_iload_n (pc := 51) dX11_cost_51 rfl ?_
      obtain ⟨x4, e3, h⟩ := x_bind h
      refine g_cV (pc := 52) dX11_cost_52 cV_RX11_119 (M_X8_priceIn (Nat.le_refl _) e3) xc_1 (as := [.int v3, .int v1]) (st := [.int (rd u 80 v3.toNatClampNeg), .int v2]) rfl rfl (Nat.le_of_ble_eq_true rfl) (Nat.le_trans (Nat.le_of_ble_eq_true rfl) hd) rfl ?_
      refine g_imul (pc := 55) dX11_cost_55 rfl ?_
      refine g_iadd (pc := 56) dX11_cost_56 rfl ?_
      refine g_istore_n (pc := 57) dX11_cost_57 (Nat.le_of_ble_eq_true rfl) (L' := [some (.ref 0), some (.int v1), some (.int (v2 + ((rd u 80 v3.toNatClampNeg) * x4))), some (.int v3)]) rfl ?_
      refine g_inc (pc := 58) dX11_cost_58 (Nat.le_of_ble_eq_true rfl) rfl ic_1 (L' := [some (.ref 0), some (.int v1), some (.int (v2 + ((rd u 80 v3.toNatClampNeg) * x4))), some (.int (v3 + (1 : Int32)))]) rfl ?_
      refine g_goto (tgt := 25) (pc := 61) dX11_cost_61 (by decide) ?_
      exact ih v1 (v2 + ((rd u 80 v3.toNatClampNeg) * x4)) (v3 + (1 : Int32)) h
set_option maxRecDepth 100000 in
set_option maxHeartbeats 4000000 in
theorem G_X11_cost_0 {sc : Nat × (Nat → Int32)} {d : Nat} (hd : 2 ≤ d) {r : Int32} {u : xS} (v1 : Int32) (h : f_X11_cost u v1 = some r) : xG sc mX11_cost d 0 0 (xR (some (.int r)) (xL0, u) 0 0) 0 0 0 [some (.ref 0), some (.int v1), none, none] [] (xL0, u) := by
  rw [f_X11_cost] at h
  refine g_iload_n (pc := 0) dX11_cost_0 rfl ?_
  refine g_cS (pc := 1) dX11_cost_1 cS_RX11_109 (M_X11_isDay (Nat.le_refl _) rfl) (as := [.int v1]) (st := []) rfl rfl (Nat.le_of_ble_eq_true rfl) (Nat.le_trans (Nat.le_of_ble_eq_true rfl) hd) rfl ?_
  refine g_if_eq (tgt := 19) (pc := 4) dX11_cost_4 (by decide) (fun c1 => ?_) (fun c1 => ?_)
  · replace h := (if_pos c1).symm.trans h
    refine g_iconst (pc := 19) dX11_cost_19 ic_m1 ?_
    cases h
    exact g_iret (pc := 20) dX11_cost_20 rfl rfl rfl (Nat.le_refl _) (Nat.le_refl _)
  · replace h := (if_neg c1).symm.trans h
    refine g_aload_n (pc := 7) dX11_cost_7 rfl ?_
    refine g_gR (pc := 8) dX11_cost_8 fR_RX11_61 xc_0 (v := 79) rfl ?_
    obtain ⟨x3, e2, h⟩ := x_bind h
    refine g_cV (pc := 11) dX11_cost_11 cV_RX11_289 (M_X1_inAll (Nat.le_refl _) e2) xc_79 (as := []) (st := []) rfl rfl (Nat.le_of_ble_eq_true rfl) (Nat.le_trans (Nat.le_of_ble_eq_true rfl) hd) rfl ?_
    refine g_bipush (pc := 14) dX11_cost_14 bp_12 ?_
    refine g_icmp_eq (tgt := 21) (pc := 16) dX11_cost_16 (by decide) (fun c4 => ?_) (fun c4 => ?_)
    · replace h := (if_pos c4).symm.trans h
      refine g_iconst (pc := 21) dX11_cost_21 ic_0 ?_
      refine g_istore_n (pc := 22) dX11_cost_22 (Nat.le_of_ble_eq_true rfl) (L' := [some (.ref 0), some (.int v1), some (.int (0 : Int32)), none]) rfl ?_
      refine g_iconst (pc := 23) dX11_cost_23 ic_0 ?_
      refine g_istore_n (pc := 24) dX11_cost_24 (Nat.le_of_ble_eq_true rfl) (L' := [some (.ref 0), some (.int v1), some (.int (0 : Int32)), some (.int (0 : Int32))]) rfl ?_
      exact G_X11_cost_25 hd xN v1 (0 : Int32) (0 : Int32) h
    · replace h := (if_neg c4).symm.trans h
      refine g_iconst (pc := 19) dX11_cost_19 ic_m1 ?_
      cases h
      exact g_iret (pc := 20) dX11_cost_20 rfl rfl rfl (Nat.le_refl _) (Nat.le_refl _)
set_option maxRecDepth 100000 in
set_option maxHeartbeats 4000000 in
theorem M_X11_cost {sc : Nat × (Nat → Int32)} {d : Nat} (hd : 2 ≤ d) {r : Int32} {u : xS} {a1 : Int32} (h : f_X11_cost u a1 = some r) : xMt sc mX11_cost d 0 0 [.ref 0, .int a1] (xL0, u) (some (.int r)) (xL0, u) :=
  xMt.of (by decide +kernel) (Nat.le_of_ble_eq_true rfl) (L := [some (.ref 0), some (.int a1), none, none]) rfl ((G_X11_cost_0 hd a1 h))
set_option maxRecDepth 100000 in
set_option maxHeartbeats 4000000 in
theorem G_X6_withPounds_24 {sc : Nat × (Nat → Int32)} {d : Nat} (hd : 0 ≤ d) {r : Int32} {u : xS} {k4 : Int32 → Int32 → Option Int32} (hk4 : ∀ (v1 : Int32) (v2 : Int32), k4 v1 v2 = some r → xG sc mX6_withPounds d 0 0 (xR (some (.int r)) (xL0, u) 0 0) 0 0 4 [some (.ref 74), some (.int v1), some (.int v2)] [] (xL0, u)) (v1 : Int32) (v2 : Int32) (h : f_X6_withPounds_24 k4 u v1 v2 = some r) : xG sc mX6_withPounds d 0 0 (xR (some (.int r)) (xL0, u) 0 0) 0 0 24 [some (.ref 74), some (.int v1), some (.int v2)] [] (xL0, u) := by
  rw [f_X6_withPounds_24] at h
  refine g_inc (pc := 24) dX6_withPounds_24 (Nat.le_of_ble_eq_true rfl) rfl ic_1 (L' := [some (.ref 74), some (.int v1), some (.int (v2 + (1 : Int32)))]) rfl ?_
  refine g_goto (tgt := 4) (pc := 27) dX6_withPounds_27 (by decide) ?_
  exact hk4 v1 (v2 + (1 : Int32)) h
set_option maxRecDepth 100000 in
set_option maxHeartbeats 4000000 in
theorem G_X6_withPounds_4 {sc : Nat × (Nat → Int32)} {d : Nat} (hd : 0 ≤ d) {r : Int32} {u : xS} : ∀ (n : Nat) (v1 : Int32) (v2 : Int32), f_X6_withPounds_4 u n v1 v2 = some r → xG sc mX6_withPounds d 0 0 (xR (some (.int r)) (xL0, u) 0 0) 0 0 4 [some (.ref 74), some (.int v1), some (.int v2)] [] (xL0, u) := by
  intro n
  induction n with
  | zero =>
    intro v1 v2 h
    rw [f_X6_withPounds_4] at h
    cases h
  | succ n ih =>
    intro v1 v2 h
    rw [f_X6_withPounds_4] at h
    refine g_iload_n (pc := 4) dX6_withPounds_4 rfl ?_
    refine g_aload_n (pc := 5) dX6_withPounds_5 rfl ?_
    refine g_gI (pc := 6) dX6_withPounds_6 fI_RX6_24 xc_74 (v := (rd u 74 4)) rfl ?_
    refine g_icmp_ge (tgt := 30) (pc := 9) dX6_withPounds_9 (by decide) (fun c1 => ?_) (fun c1 => ?_)
    · replace h := (if_pos c1).symm.trans h
      refine g_iload_n (pc := 30) dX6_withPounds_30 rfl ?_
      cases h
      exact g_iret (pc := 31) dX6_withPounds_31 rfl rfl rfl (Nat.le_refl _) (Nat.le_refl _)
    · replace h := (if_neg c1).symm.trans h
      refine g_aload_n (pc := 12) dX6_withPounds_12 rfl ?_
      refine g_gR (pc := 13) dX6_withPounds_13 fR_RX6_18 xc_74 (v := 77) rfl ?_
      refine g_iload_n (pc := 16) dX6_withPounds_16 rfl ?_
      obtain ⟨g2, h⟩ := x_gd h
      refine g_iaload (pc := 17) dX6_withPounds_17 xc_77 (xin_of g2) (v := (rd u 77 v2.toNatClampNeg)) rfl ?_
      refine g_if_le (tgt := 24) (pc := 18) dX6_withPounds_18 (by decide) (fun c3 => ?_) (fun c3 => ?_)
      · replace h := (if_pos c3).symm.trans h
        exact G_X6_withPounds_24 hd ih v1 v2 h
      · replace h := (if_neg c3).symm.trans h
        refine g_inc (pc := 21) dX6_withPounds_21 (Nat.le_of_ble_eq_true rfl) rfl ic_1 (L' := [some (.ref 74), some (.int (v1 + (1 : Int32))), some (.int v2)]) rfl ?_
        exact G_X6_withPounds_24 hd ih (v1 + (1 : Int32)) v2 h
set_option maxRecDepth 100000 in
set_option maxHeartbeats 4000000 in
theorem G_X6_withPounds_0 {sc : Nat × (Nat → Int32)} {d : Nat} (hd : 0 ≤ d) {r : Int32} {u : xS} (h : f_X6_withPounds u = some r) : xG sc mX6_withPounds d 0 0 (xR (some (.int r)) (xL0, u) 0 0) 0 0 0 [some (.ref 74), none, none] [] (xL0, u) := by
  rw [f_X6_withPounds] at h
  refine g_iconst (pc := 0) dX6_withPounds_0 ic_0 ?_
  refine g_istore_n (pc := 1) dX6_withPounds_1 (Nat.le_of_ble_eq_true rfl) (L' := [some (.ref 74), some (.int (0 : Int32)), none]) rfl ?_
  refine g_iconst (pc := 2) dX6_withPounds_2 ic_0 ?_
  refine g_istore_n (pc := 3) dX6_withPounds_3 (Nat.le_of_ble_eq_true rfl) (L' := [some (.ref 74), some (.int (0 : Int32)), some (.int (0 : Int32))]) rfl ?_
  exact G_X6_withPounds_4 hd xN (0 : Int32) (0 : Int32) h
set_option maxRecDepth 100000 in
set_option maxHeartbeats 4000000 in
theorem M_X6_withPounds {sc : Nat × (Nat → Int32)} {d : Nat} (hd : 0 ≤ d) {r : Int32} {u : xS} (h : f_X6_withPounds u = some r) : xMt sc mX6_withPounds d 0 0 [.ref 74] (xL0, u) (some (.int r)) (xL0, u) :=
  xMt.of (by decide +kernel) (Nat.le_of_ble_eq_true rfl) (L := [some (.ref 74), none, none]) rfl ((G_X6_withPounds_0 hd h))
set_option maxRecDepth 100000 in
set_option maxHeartbeats 4000000 in
theorem G_X11_count_0 {sc : Nat × (Nat → Int32)} {d : Nat} (hd : 1 ≤ d) {r : Int32} {u : xS} (v1 : Int32) (h : f_X11_count u v1 = some r) : xG sc mX11_count d 0 0 (xR (some (.int r)) (xL0, u) 0 0) 0 0 0 [some (.ref 0), some (.int v1)] [] (xL0, u) := by
  rw [f_X11_count] at h
  refine g_iload_n (pc := 0) dX11_count_0 rfl ?_
  by_cases c1 : v1 = (0 : Int32)
  · replace h := (if_pos c1).symm.trans h
    refine g_tableIn (tgt := 68) (off := 67) (pc := 1) dX11_count_1 (by rw [c1]; decide) (by rw [c1]; decide) (by rw [c1]; rfl) (by decide) ?_
    refine g_aload_n (pc := 68) dX11_count_68 rfl ?_
    refine g_gR (pc := 69) dX11_count_69 fR_RX11_12 xc_0 (v := 1) rfl ?_
    refine g_gI (pc := 72) dX11_count_72 fI_RX11_102 xc_1 (v := (rd u 1 2)) rfl ?_
    cases h
    exact g_iret (pc := 75) dX11_count_75 rfl rfl rfl (Nat.le_refl _) (Nat.le_refl _)
  replace h := (if_neg c1).symm.trans h
  by_cases c2 : v1 = (1 : Int32)
  · replace h := (if_pos c2).symm.trans h
    refine g_tableIn (tgt := 76) (off := 75) (pc := 1) dX11_count_1 (by rw [c2]; decide) (by rw [c2]; decide) (by rw [c2]; rfl) (by decide) ?_
    refine g_aload_n (pc := 76) dX11_count_76 rfl ?_
    refine g_gR (pc := 77) dX11_count_77 fR_RX11_12 xc_0 (v := 1) rfl ?_
    refine g_gI (pc := 80) dX11_count_80 fI_RX11_112 xc_1 (v := (rd u 1 6)) rfl ?_
    cases h
    exact g_iret (pc := 83) dX11_count_83 rfl rfl rfl (Nat.le_refl _) (Nat.le_refl _)
  replace h := (if_neg c2).symm.trans h
  by_cases c3 : v1 = (2 : Int32)
  · replace h := (if_pos c3).symm.trans h
    refine g_tableIn (tgt := 84) (off := 83) (pc := 1) dX11_count_1 (by rw [c3]; decide) (by rw [c3]; decide) (by rw [c3]; rfl) (by decide) ?_
    refine g_aload_n (pc := 84) dX11_count_84 rfl ?_
    refine g_gR (pc := 85) dX11_count_85 fR_RX11_19 xc_0 (v := 13) rfl ?_
    refine g_gI (pc := 88) dX11_count_88 fI_RX11_133 xc_13 (v := (rd u 13 8)) rfl ?_
    cases h
    exact g_iret (pc := 91) dX11_count_91 rfl rfl rfl (Nat.le_refl _) (Nat.le_refl _)
  replace h := (if_neg c3).symm.trans h
  by_cases c4 : v1 = (3 : Int32)
  · replace h := (if_pos c4).symm.trans h
    refine g_tableIn (tgt := 92) (off := 91) (pc := 1) dX11_count_1 (by rw [c4]; decide) (by rw [c4]; decide) (by rw [c4]; rfl) (by decide) ?_
    refine g_aload_n (pc := 92) dX11_count_92 rfl ?_
    refine g_gR (pc := 93) dX11_count_93 fR_RX11_26 xc_0 (v := 46) rfl ?_
    refine g_gI (pc := 96) dX11_count_96 fI_RX11_179 xc_46 (v := (rd u 46 5)) rfl ?_
    cases h
    exact g_iret (pc := 99) dX11_count_99 rfl rfl rfl (Nat.le_refl _) (Nat.le_refl _)
  replace h := (if_neg c4).symm.trans h
  by_cases c5 : v1 = (4 : Int32)
  · replace h := (if_pos c5).symm.trans h
    refine g_tableIn (tgt := 100) (off := 99) (pc := 1) dX11_count_1 (by rw [c5]; decide) (by rw [c5]; decide) (by rw [c5]; rfl) (by decide) ?_
    refine g_aload_n (pc := 100) dX11_count_100 rfl ?_
    refine g_gR (pc := 101) dX11_count_101 fR_RX11_47 xc_0 (v := 58) rfl ?_
    refine g_gI (pc := 104) dX11_count_104 fI_RX11_238 xc_58 (v := (rd u 58 5)) rfl ?_
    cases h
    exact g_iret (pc := 107) dX11_count_107 rfl rfl rfl (Nat.le_refl _) (Nat.le_refl _)
  replace h := (if_neg c5).symm.trans h
  by_cases c6 : v1 = (5 : Int32)
  · replace h := (if_pos c6).symm.trans h
    refine g_tableIn (tgt := 108) (off := 107) (pc := 1) dX11_count_1 (by rw [c6]; decide) (by rw [c6]; decide) (by rw [c6]; rfl) (by decide) ?_
    refine g_aload_n (pc := 108) dX11_count_108 rfl ?_
    refine g_gR (pc := 109) dX11_count_109 fR_RX11_54 xc_0 (v := 74) rfl ?_
    obtain ⟨x8, e7, h⟩ := x_bind h
    refine g_cV (pc := 112) dX11_count_112 cV_RX11_415 (M_X6_withPounds (Nat.le_refl _) e7) xc_74 (as := []) (st := []) rfl rfl (Nat.le_of_ble_eq_true rfl) (Nat.le_trans (Nat.le_of_ble_eq_true rfl) hd) rfl ?_
    cases h
    exact g_iret (pc := 115) dX11_count_115 rfl rfl rfl (Nat.le_refl _) (Nat.le_refl _)
  replace h := (if_neg c6).symm.trans h
  by_cases c9 : v1 = (6 : Int32)
  · replace h := (if_pos c9).symm.trans h
    refine g_tableIn (tgt := 116) (off := 115) (pc := 1) dX11_count_1 (by rw [c9]; decide) (by rw [c9]; decide) (by rw [c9]; rfl) (by decide) ?_
    refine g_aload_n (pc := 116) dX11_count_116 rfl ?_
    refine g_gR (pc := 117) dX11_count_117 fR_RX11_68 xc_0 (v := 87) rfl ?_
    refine g_gI (pc := 120) dX11_count_120 fI_RX11_351 xc_87 (v := (rd u 87 2)) rfl ?_
    cases h
    exact g_iret (pc := 123) dX11_count_123 rfl rfl rfl (Nat.le_refl _) (Nat.le_refl _)
  replace h := (if_neg c9).symm.trans h
  by_cases c10 : v1 = (7 : Int32)
  · replace h := (if_pos c10).symm.trans h
    refine g_tableIn (tgt := 124) (off := 123) (pc := 1) dX11_count_1 (by rw [c10]; decide) (by rw [c10]; decide) (by rw [c10]; rfl) (by decide) ?_
    refine g_aload_n (pc := 124) dX11_count_124 rfl ?_
    refine g_gR (pc := 125) dX11_count_125 fR_RX11_75 xc_0 (v := 113) rfl ?_
    refine g_gI (pc := 128) dX11_count_128 fI_RX11_374 xc_113 (v := (rd u 113 3)) rfl ?_
    cases h
    exact g_iret (pc := 131) dX11_count_131 rfl rfl rfl (Nat.le_refl _) (Nat.le_refl _)
  replace h := (if_neg c10).symm.trans h
  by_cases c11 : v1 = (8 : Int32)
  · replace h := (if_pos c11).symm.trans h
    refine g_tableIn (tgt := 132) (off := 131) (pc := 1) dX11_count_1 (by rw [c11]; decide) (by rw [c11]; decide) (by rw [c11]; rfl) (by decide) ?_
    refine g_aload_n (pc := 132) dX11_count_132 rfl ?_
    refine g_gR (pc := 133) dX11_count_133 fR_RX11_82 xc_0 (v := 121) rfl ?_
    refine g_gI (pc := 136) dX11_count_136 fI_RX11_391 xc_121 (v := (rd u 121 6)) rfl ?_
    cases h
    exact g_iret (pc := 139) dX11_count_139 rfl rfl rfl (Nat.le_refl _) (Nat.le_refl _)
  replace h := (if_neg c11).symm.trans h
  by_cases c12 : v1 = (9 : Int32)
  · replace h := (if_pos c12).symm.trans h
    refine g_tableIn (tgt := 140) (off := 139) (pc := 1) dX11_count_1 (by rw [c12]; decide) (by rw [c12]; decide) (by rw [c12]; rfl) (by decide) ?_
    refine g_aload_n (pc := 140) dX11_count_140 rfl ?_
    refine g_gI (pc := 141) dX11_count_141 fI_RX11_90 xc_0 (v := (rd u 0 12)) rfl ?_
    cases h
    exact g_iret (pc := 144) dX11_count_144 rfl rfl rfl (Nat.le_refl _) (Nat.le_refl _)
  replace h := (if_neg c12).symm.trans h
  by_cases c13 : v1 = (10 : Int32)
  · replace h := (if_pos c13).symm.trans h
    refine g_tableIn (tgt := 145) (off := 144) (pc := 1) dX11_count_1 (by rw [c13]; decide) (by rw [c13]; decide) (by rw [c13]; rfl) (by decide) ?_
    refine g_aload_n (pc := 145) dX11_count_145 rfl ?_
    refine g_gR (pc := 146) dX11_count_146 fR_RX11_33 xc_0 (v := 52) rfl ?_
    refine g_gI (pc := 149) dX11_count_149 fI_RX11_233 xc_52 (v := (rd u 52 1)) rfl ?_
    cases h
    exact g_iret (pc := 152) dX11_count_152 rfl rfl rfl (Nat.le_refl _) (Nat.le_refl _)
  replace h := (if_neg c13).symm.trans h
  by_cases c14 : v1 = (11 : Int32)
  · replace h := (if_pos c14).symm.trans h
    refine g_tableIn (tgt := 153) (off := 152) (pc := 1) dX11_count_1 (by rw [c14]; decide) (by rw [c14]; decide) (by rw [c14]; rfl) (by decide) ?_
    refine g_aload_n (pc := 153) dX11_count_153 rfl ?_
    refine g_gR (pc := 154) dX11_count_154 fR_RX11_26 xc_0 (v := 46) rfl ?_
    refine g_gI (pc := 157) dX11_count_157 fI_RX11_182 xc_46 (v := (rd u 46 6)) rfl ?_
    cases h
    exact g_iret (pc := 160) dX11_count_160 rfl rfl rfl (Nat.le_refl _) (Nat.le_refl _)
  replace h := (if_neg c14).symm.trans h
  by_cases c15 : v1 = (12 : Int32)
  · replace h := (if_pos c15).symm.trans h
    refine g_tableIn (tgt := 161) (off := 160) (pc := 1) dX11_count_1 (by rw [c15]; decide) (by rw [c15]; decide) (by rw [c15]; rfl) (by decide) ?_
    refine g_aload_n (pc := 161) dX11_count_161 rfl ?_
    refine g_gR (pc := 162) dX11_count_162 fR_RX11_61 xc_0 (v := 79) rfl ?_
    obtain ⟨x17, e16, h⟩ := x_bind h
    refine g_cV (pc := 165) dX11_count_165 cV_RX11_289 (M_X1_inAll (Nat.le_refl _) e16) xc_79 (as := []) (st := []) rfl rfl (Nat.le_of_ble_eq_true rfl) (Nat.le_trans (Nat.le_of_ble_eq_true rfl) hd) rfl ?_
    cases h
    exact g_iret (pc := 168) dX11_count_168 rfl rfl rfl (Nat.le_refl _) (Nat.le_refl _)
  replace h := (if_neg c15).symm.trans h
  have c1i := i32_ne c1 (m := 0) (by decide)
  have c2i := i32_ne c2 (m := 1) (by decide)
  have c3i := i32_ne c3 (m := 2) (by decide)
  have c4i := i32_ne c4 (m := 3) (by decide)
  have c5i := i32_ne c5 (m := 4) (by decide)
  have c6i := i32_ne c6 (m := 5) (by decide)
  have c9i := i32_ne c9 (m := 6) (by decide)
  have c10i := i32_ne c10 (m := 7) (by decide)
  have c11i := i32_ne c11 (m := 8) (by decide)
  have c12i := i32_ne c12 (m := 9) (by decide)
  have c13i := i32_ne c13 (m := 10) (by decide)
  have c14i := i32_ne c14 (m := 11) (by decide)
  have c15i := i32_ne c15 (m := 12) (by decide)
  refine g_tableOut (tgt := 169) (pc := 1) dX11_count_1 (by omega) (by decide) ?_
  refine g_iconst (pc := 169) dX11_count_169 ic_m1 ?_
  cases h
  exact g_iret (pc := 170) dX11_count_170 rfl rfl rfl (Nat.le_refl _) (Nat.le_refl _)
set_option maxRecDepth 100000 in
set_option maxHeartbeats 4000000 in
theorem M_X11_count {sc : Nat × (Nat → Int32)} {d : Nat} (hd : 1 ≤ d) {r : Int32} {u : xS} {a1 : Int32} (h : f_X11_count u a1 = some r) : xMt sc mX11_count d 0 0 [.ref 0, .int a1] (xL0, u) (some (.int r)) (xL0, u) :=
  xMt.of (by decide +kernel) (Nat.le_of_ble_eq_true rfl) (L := [some (.ref 0), some (.int a1)]) rfl ((G_X11_count_0 hd a1 h))
set_option maxRecDepth 100000 in
set_option maxHeartbeats 4000000 in
theorem G_X5_held_77 {sc : Nat × (Nat → Int32)} {d : Nat} (hd : 0 ≤ d) {r : Int32} {u : xS} {k8 : Int32 → Int32 → Int32 → Int32 → Int32 → Option Int32} (hk8 : ∀ (v1 : Int32) (v2 : Int32) (v3 : Int32) (v4 : Int32) (v5 : Int32), k8 v1 v2 v3 v4 v5 = some r → xG sc mX5_held d 0 0 (xR (some (.int r)) (xL0, u) 0 0) 0 0 8 [some (.ref 46), some (.int v1), some (.int v2), some (.int v3), some (.int v4), some (.int v5)] [] (xL0, u)) (v1 : Int32) (v2 : Int32) (v3 : Int32) (v4 : Int32) (v5 : Int32) (h : f_X5_held_77 k8 u v1 v2 v3 v4 v5 = some r) : xG sc mX5_held d 0 0 (xR (some (.int r)) (xL0, u) 0 0) 0 0 77 [some (.ref 46), some (.int v1), some (.int v2), some (.int v3), some (.int v4), some (.int v5)] [] (xL0, u) := by
  rw [f_X5_held_77] at h
  refine g_inc (pc := 77) dX5_held_77 (Nat.le_of_ble_eq_true rfl) rfl ic_1 (L' := [some (.ref 46), some (.int v1), some (.int v2), some (.int v3), some (.int v4), some (.int (v5 + (1 : Int32)))]) rfl ?_
  refine g_goto (tgt := 8) (pc := 80) dX5_held_80 (by decide) ?_
  exact hk8 v1 v2 v3 v4 (v5 + (1 : Int32)) h
set_option maxRecDepth 100000 in
set_option maxHeartbeats 4000000 in
theorem G_X5_held_8 {sc : Nat × (Nat → Int32)} {d : Nat} (hd : 0 ≤ d) {r : Int32} {u : xS} : ∀ (n : Nat) (v1 : Int32) (v2 : Int32) (v3 : Int32) (v4 : Int32) (v5 : Int32), f_X5_held_8 u n v1 v2 v3 v4 v5 = some r → xG sc mX5_held d 0 0 (xR (some (.int r)) (xL0, u) 0 0) 0 0 8 [some (.ref 46), some (.int v1), some (.int v2), some (.int v3), some (.int v4), some (.int v5)] [] (xL0, u) := by
  intro n
  induction n with
  | zero =>
    intro v1 v2 v3 v4 v5 h
    rw [f_X5_held_8] at h
    cases h
  | succ n ih =>
    intro v1 v2 v3 v4 v5 h
    rw [f_X5_held_8] at h
    refine g_iload (pc := 8) dX5_held_8 rfl ?_
    refine g_aload_n (pc := 10) dX5_held_10 rfl ?_
    refine g_gI (pc := 11) dX5_held_11 fI_RX5_27 xc_46 (v := (rd u 46 5)) rfl ?_
    refine g_icmp_ge (tgt := 83) (pc := 14) dX5_held_14 (by decide) (fun c1 => ?_) (fun c1 => ?_)
    · replace h := (if_pos c1).symm.trans h
      refine g_iload_n (pc := 83) dX5_held_83 rfl ?_
      cases h
      exact g_iret (pc := 84) dX5_held_84 rfl rfl rfl (Nat.le_refl _) (Nat.le_refl _)
    · replace h := (if_neg c1).symm.trans h
      refine g_aload_n (pc := 17) dX5_held_17 rfl ?_
      refine g_gR (pc := 18) dX5_held_18 fR_RX5_9 xc_46 (v := 47) rfl ?_
      refine g_iload (pc := 21) dX5_held_21 rfl ?_
      obtain ⟨g2, h⟩ := x_gd h
      refine g_iaload (pc := 23) dX5_held_23 xc_47 (xin_of g2) (v := (rd u 47 v5.toNatClampNeg)) rfl ?_
      refine g_iload_n (pc := 24) dX5_held_24 rfl ?_
      refine g_icmp_ne (tgt := 77) (pc := 25) dX5_held_25 (by decide) (fun c3 => ?_) (fun c3 => ?_)
      · replace h := (if_neg c3).symm.trans h
        exact G_X5_held_77 hd ih v1 v2 v3 v4 v5 h
      · replace h := (if_pos c3).symm.trans h
        refine g_aload_n (pc := 28) dX5_held_28 rfl ?_
        refine g_gR (pc := 29) dX5_held_29 fR_RX5_15 xc_46 (v := 48) rfl ?_
        refine g_iload (pc := 32) dX5_held_32 rfl ?_
        refine g_iaload (pc := 34) dX5_held_34 xc_48 (xin_of g2) (v := (rd u 48 v5.toNatClampNeg)) rfl ?_
        refine g_iload_n (pc := 35) dX5_held_35 rfl ?_
        refine g_icmp_ne (tgt := 77) (pc := 36) dX5_held_36 (by decide) (fun c4 => ?_) (fun c4 => ?_)
        · replace h := (if_neg c4).symm.trans h
          exact G_X5_held_77 hd ih v1 v2 v3 v4 v5 h
        · replace h := (if_pos c4).symm.trans h
          refine g_aload_n (pc := 39) dX5_held_39 rfl ?_
          refine g_gR (pc := 40) dX5_held_40 fR_RX5_18 xc_46 (v := 49) rfl ?_
          refine g_iload (pc := 43) dX5_held_43 rfl ?_
          refine g_iaload (pc := 45) dX5_held_45 xc_49 (xin_of g2) (v := (rd u 49 v5.toNatClampNeg)) rfl ?_
          refine g_aload_n (pc := 46) dX5_held_46 rfl ?_
          refine g_gI (pc := 47) dX5_held_47 fI_RX5_31 xc_46 (v := (rd u 46 6)) rfl ?_
          refine g_icmp_gt (tgt := 77) (pc := 50) dX5_held_50 (by decide) (fun c5 => ?_) (fun c5 => ?_)
          · replace h := (if_pos c5).symm.trans h
            exact G_X5_held_77 hd ih v1 v2 v3 v4 v5 h
          · replace h := (if_neg c5).symm.trans h
            refine g_aload_n (pc := 53) dX5_held_53 rfl ?_
            refine g_gR (pc := 54) dX5_held_54 fR_RX5_18 xc_46 (v := 49) rfl ?_
            refine g_iload (pc := 57) dX5_held_57 rfl ?_
            refine g_iaload (pc := 59) dX5_held_59 xc_49 (xin_of g2) (v := (rd u 49 v5.toNatClampNeg)) rfl ?_
            refine g_iload (pc := 60) dX5_held_60 rfl ?_
            refine g_icmp_lt (tgt := 77) (pc := 62) dX5_held_62 (by decide) (fun c6 => ?_) (fun c6 => ?_)
            · replace h := (if_pos c6).symm.trans h
              exact G_X5_held_77 hd ih v1 v2 v3 v4 v5 h
            · replace h := (if_neg c6).symm.trans h
              refine g_iload (pc := 65) dX5_held_65 rfl ?_
              refine g_istore_n (pc := 67) dX5_held_67 (Nat.le_of_ble_eq_true rfl) (L' := [some (.ref 46), some (.int v1), some (.int v2), some (.int v5), some (.int v4), some (.int v5)]) rfl ?_
              refine g_aload_n (pc := 68) dX5_held_68 rfl ?_
              refine g_gR (pc := 69) dX5_held_69 fR_RX5_18 xc_46 (v := 49) rfl ?_
              refine g_iload (pc := 72) dX5_held_72 rfl ?_
              refine g_iaload (pc := 74) dX5_held_74 xc_49 (xin_of g2) (v := (rd u 49 v5.toNatClampNeg)) rfl ?_
              refine g_istore (pc := 75) dX5_held_75 (Nat.le_of_ble_eq_true rfl) (L' := [some (.ref 46), some (.int v1), some (.int v2), some (.int v5), some (.int (rd u 49 v5.toNatClampNeg)), some (.int v5)]) rfl ?_
              exact G_X5_held_77 hd ih v1 v2 v5 (rd u 49 v5.toNatClampNeg) v5 h
set_option maxRecDepth 100000 in
set_option maxHeartbeats 4000000 in
theorem G_X5_held_0 {sc : Nat × (Nat → Int32)} {d : Nat} (hd : 0 ≤ d) {r : Int32} {u : xS} (v1 : Int32) (v2 : Int32) (h : f_X5_held u v1 v2 = some r) : xG sc mX5_held d 0 0 (xR (some (.int r)) (xL0, u) 0 0) 0 0 0 [some (.ref 46), some (.int v1), some (.int v2), none, none, none] [] (xL0, u) := by
  rw [f_X5_held] at h
  refine g_iconst (pc := 0) dX5_held_0 ic_m1 ?_
  refine g_istore_n (pc := 1) dX5_held_1 (Nat.le_of_ble_eq_true rfl) (L' := [some (.ref 46), some (.int v1), some (.int v2), some (.int (-1 : Int32)), none, none]) rfl ?_
  refine g_iconst (pc := 2) dX5_held_2 ic_m1 ?_
  refine g_istore (pc := 3) dX5_held_3 (Nat.le_of_ble_eq_true rfl) (L' := [some (.ref 46), some (.int v1), some (.int v2), some (.int (-1 : Int32)), some (.int (-1 : Int32)), none]) rfl ?_
  refine g_iconst (pc := 5) dX5_held_5 ic_0 ?_
  refine g_istore (pc := 6) dX5_held_6 (Nat.le_of_ble_eq_true rfl) (L' := [some (.ref 46), some (.int v1), some (.int v2), some (.int (-1 : Int32)), some (.int (-1 : Int32)), some (.int (0 : Int32))]) rfl ?_
  exact G_X5_held_8 hd xN v1 v2 (-1 : Int32) (-1 : Int32) (0 : Int32) h
set_option maxRecDepth 100000 in
set_option maxHeartbeats 4000000 in
theorem M_X5_held {sc : Nat × (Nat → Int32)} {d : Nat} (hd : 0 ≤ d) {r : Int32} {u : xS} {a1 : Int32} {a2 : Int32} (h : f_X5_held u a1 a2 = some r) : xMt sc mX5_held d 0 0 [.ref 46, .int a1, .int a2] (xL0, u) (some (.int r)) (xL0, u) :=
  xMt.of (by decide +kernel) (Nat.le_of_ble_eq_true rfl) (L := [some (.ref 46), some (.int a1), some (.int a2), none, none, none]) rfl ((G_X5_held_0 hd a1 a2 h))
set_option maxRecDepth 100000 in
set_option maxHeartbeats 4000000 in
theorem G_X11_inThousand_0 {sc : Nat × (Nat → Int32)} {d : Nat} (hd : 0 ≤ d) {r : Int32} {u : xS} (v0 : Int32) (v1 : Int32) (h : f_X11_inThousand v0 v1 = some r) : xG sc mX11_inThousand d 0 0 (xR (some (.int r)) (xL0, u) 0 0) 0 0 0 [some (.int v0), some (.int v1)] [] (xL0, u) := by
  rw [f_X11_inThousand] at h
  refine g_iload_n (pc := 0) dX11_inThousand_0 rfl ?_
  refine g_if_le (tgt := 17) (pc := 1) dX11_inThousand_1 (by decide) (fun c1 => ?_) (fun c1 => ?_)
  · replace h := (if_pos c1).symm.trans h
    refine g_iconst (pc := 17) dX11_inThousand_17 ic_0 ?_
    cases h
    exact g_iret (pc := 18) dX11_inThousand_18 rfl rfl rfl (Nat.le_refl _) (Nat.le_refl _)
  · replace h := (if_neg c1).symm.trans h
    refine g_iload_n (pc := 4) dX11_inThousand_4 rfl ?_
    refine g_i2l (pc := 5) dX11_inThousand_5 rfl ?_
    refine g_ldc2 (pc := 6) dX11_inThousand_6 kl_RX11_196 ?_
    refine g_lmul (pc := 9) dX11_inThousand_9 rfl ?_
    refine g_iload_n (pc := 10) dX11_inThousand_10 rfl ?_
    refine g_i2l (pc := 11) dX11_inThousand_11 rfl ?_
    obtain ⟨g2, h⟩ := x_gd h
    refine g_ldiv (pc := 12) dX11_inThousand_12 (xnzJ_of g2) rfl ?_
    refine g_l2i (pc := 13) dX11_inThousand_13 rfl ?_
    refine g_goto (tgt := 18) (pc := 14) dX11_inThousand_14 (by decide) ?_
    cases h
    exact g_iret (pc := 18) dX11_inThousand_18 rfl rfl rfl (Nat.le_refl _) (Nat.le_refl _)
set_option maxRecDepth 100000 in
set_option maxHeartbeats 4000000 in
theorem M_X11_inThousand {sc : Nat × (Nat → Int32)} {d : Nat} (hd : 0 ≤ d) {r : Int32} {u : xS} {a0 : Int32} {a1 : Int32} (h : f_X11_inThousand a0 a1 = some r) : xMt sc mX11_inThousand d 0 0 [.int a0, .int a1] (xL0, u) (some (.int r)) (xL0, u) :=
  xMt.of (by decide +kernel) (Nat.le_of_ble_eq_true rfl) (L := [some (.int a0), some (.int a1)]) rfl ((G_X11_inThousand_0 hd a0 a1 h))
