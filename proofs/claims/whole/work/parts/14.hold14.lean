set_option maxRecDepth 100000 in
set_option maxHeartbeats 4000000 in
theorem G_X12_store_71 {sc : Nat × (Nat → Int32)} {d : Nat} (hd : 2 ≤ d) {r : Int32} {u' : xS} {k30 : Int32 → Int32 → Int32 → Int32 → xS → Option (Int32 × xS)} (hk30 : ∀ (v1 : Int32) (v2 : Int32) (v3 : Int32) (v4 : Int32) (u : xS), k30 v1 v2 v3 v4 u = some (r, u') → xG sc mX12_store d 0 0 (xR (some (.int r)) (xL0, u') 0 0) 0 0 30 [some (.ref 135), some (.int v1), some (.int v2), some (.int v3), some (.int v4)] [] (xL0, u)) (v1 : Int32) (v2 : Int32) (v4 : Int32) (s0 : Int32) (s1 : Int32) (u : xS) (h : f_X12_store_71 k30 v1 v2 v4 s0 s1 u = some (r, u')) : xG sc mX12_store d 0 0 (xR (some (.int r)) (xL0, u') 0 0) 0 0 71 [some (.ref 135), some (.int v1), some (.int v2), none, some (.int v4)] [.int s1, .int s0] (xL0, u) := by
  rw [f_X12_store_71] at h
  refine g_iadd (pc := 71) dX12_store_71 rfl ?_
  refine g_istore_n (pc := 72) dX12_store_72 (Nat.le_of_ble_eq_true rfl) (L' := [some (.ref 135), some (.int v1), some (.int v2), some (.int (s0 + s1)), some (.int v4)]) rfl ?_
  refine g_inc (pc := 73) dX12_store_73 (Nat.le_of_ble_eq_true rfl) rfl ic_1 (L' := [some (.ref 135), some (.int v1), some (.int v2), some (.int (s0 + s1)), some (.int (v4 + (1 : Int32)))]) rfl ?_
  refine g_goto (tgt := 30) (pc := 76) dX12_store_76 (by decide) ?_
  exact hk30 v1 v2 (s0 + s1) (v4 + (1 : Int32)) u h
set_option maxRecDepth 100000 in
set_option maxHeartbeats 4000000 in
theorem G_X12_store_61 {sc : Nat × (Nat → Int32)} {d : Nat} (hd : 2 ≤ d) {r : Int32} {u' : xS} {k30 : Int32 → Int32 → Int32 → Int32 → xS → Option (Int32 × xS)} (hk30 : ∀ (v1 : Int32) (v2 : Int32) (v3 : Int32) (v4 : Int32) (u : xS), k30 v1 v2 v3 v4 u = some (r, u') → xG sc mX12_store d 0 0 (xR (some (.int r)) (xL0, u') 0 0) 0 0 30 [some (.ref 135), some (.int v1), some (.int v2), some (.int v3), some (.int v4)] [] (xL0, u)) (v1 : Int32) (v2 : Int32) (v4 : Int32) (s0 : Int32) (u : xS) (h : f_X12_store_61 k30 v1 v2 v4 s0 u = some (r, u')) : xG sc mX12_store d 0 0 (xR (some (.int r)) (xL0, u') 0 0) 0 0 61 [some (.ref 135), some (.int v1), some (.int v2), none, some (.int v4)] [.int s0] (xL0, u) := by
  rw [f_X12_store_61] at h
  refine g_aload_n (pc := 61) dX12_store_61 rfl ?_
  refine g_iload (pc := 62) dX12_store_62 rfl ?_
  obtain ⟨x2, e1, h⟩ := x_bind h
  refine g_cV (pc := 64) dX12_store_64 cV_RX12_340 (M_X12_stored (Nat.le_refl _) e1) xc_135 (as := [.int v4]) (st := [.int s0]) rfl rfl (Nat.le_of_ble_eq_true rfl) (Nat.le_trans (Nat.le_of_ble_eq_true rfl) hd) rfl ?_
  refine g_goto (tgt := 71) (pc := 67) dX12_store_67 (by decide) ?_
  exact G_X12_store_71 hd hk30 v1 v2 v4 s0 x2 u h
set_option maxRecDepth 100000 in
set_option maxHeartbeats 4000000 in
theorem G_X12_store_70 {sc : Nat × (Nat → Int32)} {d : Nat} (hd : 2 ≤ d) {r : Int32} {u' : xS} {k30 : Int32 → Int32 → Int32 → Int32 → xS → Option (Int32 × xS)} (hk30 : ∀ (v1 : Int32) (v2 : Int32) (v3 : Int32) (v4 : Int32) (u : xS), k30 v1 v2 v3 v4 u = some (r, u') → xG sc mX12_store d 0 0 (xR (some (.int r)) (xL0, u') 0 0) 0 0 30 [some (.ref 135), some (.int v1), some (.int v2), some (.int v3), some (.int v4)] [] (xL0, u)) (v1 : Int32) (v2 : Int32) (v4 : Int32) (s0 : Int32) (u : xS) (h : f_X12_store_70 k30 v1 v2 v4 s0 u = some (r, u')) : xG sc mX12_store d 0 0 (xR (some (.int r)) (xL0, u') 0 0) 0 0 70 [some (.ref 135), some (.int v1), some (.int v2), none, some (.int v4)] [.int s0] (xL0, u) := by
  rw [f_X12_store_70] at h
  refine g_iconst (pc := 70) dX12_store_70 ic_0 ?_
  exact G_X12_store_71 hd hk30 v1 v2 v4 s0 (0 : Int32) u h
set_option maxRecDepth 100000 in
set_option maxHeartbeats 4000000 in
theorem G_X12_store_30 {sc : Nat × (Nat → Int32)} {d : Nat} (hd : 2 ≤ d) {r : Int32} {u' : xS} : ∀ (n : Nat) (v1 : Int32) (v2 : Int32) (v3 : Int32) (v4 : Int32) (u : xS), f_X12_store_30 n v1 v2 v3 v4 u = some (r, u') → xG sc mX12_store d 0 0 (xR (some (.int r)) (xL0, u') 0 0) 0 0 30 [some (.ref 135), some (.int v1), some (.int v2), some (.int v3), some (.int v4)] [] (xL0, u) := by
  intro n
  induction n with
  | zero =>
    intro v1 v2 v3 v4 u h
    rw [f_X12_store_30] at h
    cases h
  | succ n ih =>
    intro v1 v2 v3 v4 u h
    rw [f_X12_store_30] at h
    refine g_iload (pc := 30) dX12_store_30 rfl ?_
    refine g_aload_n (pc := 32) dX12_store_32 rfl ?_
    refine g_gI (pc := 33) dX12_store_33 fI_RX12_153 xc_135 (v := (rd u 135 1)) rfl ?_
    refine g_icmp_ge (tgt := 79) (pc := 36) dX12_store_36 (by decide) (fun c1 => ?_) (fun c1 => ?_)
    · replace h := (if_pos c1).symm.trans h
      refine g_iload_n (pc := 79) dX12_store_79 rfl ?_
      obtain ⟨h1, h2⟩ := x_inj2 h
      subst h1
      subst h2
      exact g_iret (pc := 80) dX12_store_80 rfl rfl rfl (Nat.le_refl _) (Nat.le_refl _)
    · replace h := (if_neg c1).symm.trans h
      refine g_iload_n (pc := 39) dX12_store_39 rfl ?_
      refine g_iload (pc := 40) dX12_store_40 rfl ?_
      refine g_iload_n (pc := 42) dX12_store_42 rfl ?_
      refine g_icmp_eq (tgt := 61) (pc := 43) dX12_store_43 (by decide) (fun c2 => ?_) (fun c2 => ?_)
      · replace h := (if_pos c2).symm.trans h
        refine g_L (L' := [some (.ref 135), some (.int v1), some (.int v2), none, some (.int v4)]) ⟨rfl, ⟨rfl, ⟨rfl, ⟨rfl, trivial⟩⟩⟩⟩ ?_
        exact G_X12_store_61 hd ih v1 v2 v4 v3 u h
      · replace h := (if_neg c2).symm.trans h
        refine g_iload_n (pc := 46) dX12_store_46 rfl ?_
        refine g_iconst (pc := 47) dX12_store_47 ic_1 ?_
        refine g_icmp_ne (tgt := 70) (pc := 48) dX12_store_48 (by decide) (fun c3 => ?_) (fun c3 => ?_)
        · replace h := (if_neg c3).symm.trans h
          refine g_L (L' := [some (.ref 135), some (.int v1), some (.int v2), none, some (.int v4)]) ⟨rfl, ⟨rfl, ⟨rfl, ⟨rfl, trivial⟩⟩⟩⟩ ?_
          exact G_X12_store_70 hd ih v1 v2 v4 v3 u h
        · replace h := (if_pos c3).symm.trans h
          refine g_aload_n (pc := 51) dX12_store_51 rfl ?_
          refine g_iload (pc := 52) dX12_store_52 rfl ?_
          refine g_iload_n (pc := 54) dX12_store_54 rfl ?_
          obtain ⟨x5, e4, h⟩ := x_bind h
          refine g_cV (pc := 55) dX12_store_55 cV_RX12_186 (M_X12_isWithin (Nat.le_refl _) e4) xc_135 (as := [.int v4, .int v1]) (st := [.int v3]) rfl rfl (Nat.le_of_ble_eq_true rfl) (Nat.le_trans (Nat.le_of_ble_eq_true rfl) hd) rfl ?_
          refine g_if_eq (tgt := 70) (pc := 58) dX12_store_58 (by decide) (fun c6 => ?_) (fun c6 => ?_)
          · replace h := (if_pos c6).symm.trans h
            refine g_L (L' := [some (.ref 135), some (.int v1), some (.int v2), none, some (.int v4)]) ⟨rfl, ⟨rfl, ⟨rfl, ⟨rfl, trivial⟩⟩⟩⟩ ?_
            exact G_X12_store_70 hd ih v1 v2 v4 v3 u h
          · replace h := (if_neg c6).symm.trans h
            refine g_L (L' := [some (.ref 135), some (.int v1), some (.int v2), none, some (.int v4)]) ⟨rfl, ⟨rfl, ⟨rfl, ⟨rfl, trivial⟩⟩⟩⟩ ?_
            exact G_X12_store_61 hd ih v1 v2 v4 v3 u h
set_option maxRecDepth 100000 in
set_option maxHeartbeats 4000000 in
theorem G_X12_store_0 {sc : Nat × (Nat → Int32)} {d : Nat} (hd : 2 ≤ d) {r : Int32} {u' : xS} (v1 : Int32) (v2 : Int32) (u : xS) (h : f_X12_store v1 v2 u = some (r, u')) : xG sc mX12_store d 0 0 (xR (some (.int r)) (xL0, u') 0 0) 0 0 0 [some (.ref 135), some (.int v1), some (.int v2), none, none] [] (xL0, u) := by
  rw [f_X12_store] at h
  refine g_aload_n (pc := 0) dX12_store_0 rfl ?_
  refine g_iconst (pc := 1) dX12_store_1 ic_0 ?_
  refine g_pI (pc := 2) dX12_store_2 pI_RX12_150 xc_135 (u' := (wr u 135 0 (0 : Int32))) rfl ?_
  refine g_aload_n (pc := 5) dX12_store_5 rfl ?_
  refine g_iload_n (pc := 6) dX12_store_6 rfl ?_
  refine g_cV (pc := 7) dX12_store_7 cV_RX12_166 (M_X12_isSort (Nat.le_refl _) rfl) xc_135 (as := [.int v1]) (st := []) rfl rfl (Nat.le_of_ble_eq_true rfl) (Nat.le_trans (Nat.le_of_ble_eq_true rfl) hd) rfl ?_
  refine g_if_eq (tgt := 23) (pc := 10) dX12_store_10 (by decide) (fun c1 => ?_) (fun c1 => ?_)
  · replace h := (if_pos c1).symm.trans h
    refine g_iconst (pc := 23) dX12_store_23 ic_m1 ?_
    obtain ⟨h1, h2⟩ := x_inj2 h
    subst h1
    subst h2
    exact g_iret (pc := 24) dX12_store_24 rfl rfl rfl (Nat.le_refl _) (Nat.le_refl _)
  · replace h := (if_neg c1).symm.trans h
    refine g_iload_n (pc := 13) dX12_store_13 rfl ?_
    refine g_i2l (pc := 14) dX12_store_14 rfl ?_
    refine g_lconst (v := (0 : Int64)) (pc := 15) dX12_store_15 rfl ?_
    refine g_lconst (v := (1 : Int64)) (pc := 16) dX12_store_16 rfl ?_
    refine g_cS (pc := 17) dX12_store_17 cS_RX12_156 (M_X12_in (Nat.le_refl _) rfl) (as := [.long ((v2).toInt64), .long (0 : Int64), .long (1 : Int64)]) (st := []) rfl rfl (Nat.le_of_ble_eq_true rfl) (Nat.le_trans (Nat.le_of_ble_eq_true rfl) hd) rfl ?_
    refine g_if_ne (tgt := 25) (pc := 20) dX12_store_20 (by decide) (fun c2 => ?_) (fun c2 => ?_)
    · replace h := (if_neg c2).symm.trans h
      refine g_iconst (pc := 25) dX12_store_25 ic_0 ?_
      refine g_istore_n (pc := 26) dX12_store_26 (Nat.le_of_ble_eq_true rfl) (L' := [some (.ref 135), some (.int v1), some (.int v2), some (.int (0 : Int32)), none]) rfl ?_
      refine g_iconst (pc := 27) dX12_store_27 ic_0 ?_
      refine g_istore (pc := 28) dX12_store_28 (Nat.le_of_ble_eq_true rfl) (L' := [some (.ref 135), some (.int v1), some (.int v2), some (.int (0 : Int32)), some (.int (0 : Int32))]) rfl ?_
      exact G_X12_store_30 hd xN v1 v2 (0 : Int32) (0 : Int32) (wr u 135 0 (0 : Int32)) h
    · replace h := (if_pos c2).symm.trans h
      refine g_iconst (pc := 23) dX12_store_23 ic_m1 ?_
      obtain ⟨h1, h2⟩ := x_inj2 h
      subst h1
      subst h2
      exact g_iret (pc := 24) dX12_store_24 rfl rfl rfl (Nat.le_refl _) (Nat.le_refl _)
set_option maxRecDepth 100000 in
set_option maxHeartbeats 4000000 in
theorem M_X12_store {sc : Nat × (Nat → Int32)} {d : Nat} (hd : 2 ≤ d) {r : Int32} {u u' : xS} {a1 : Int32} {a2 : Int32} (h : f_X12_store a1 a2 u = some (r, u')) : xMt sc mX12_store d 0 0 [.ref 135, .int a1, .int a2] (xL0, u) (some (.int r)) (xL0, u') :=
  xMt.of (by decide +kernel) (by decide +kernel) (Nat.le_of_ble_eq_true rfl) (L := [some (.ref 135), some (.int a1), some (.int a2), none, none]) rfl ((G_X12_store_0 hd a1 a2 u h))
set_option maxRecDepth 100000 in
set_option maxHeartbeats 4000000 in
theorem G_X12_isFound_58 {sc : Nat × (Nat → Int32)} {d : Nat} (hd : 1 ≤ d) {r : Int32} {u' : xS} {dk : Nat} (hkd : dk + 1 ≤ d) {k_X12_isFound : Int32 → Int32 → Int32 → xS → Option (Int32 × xS)} (hk_X12_isFound : ∀ (a1 a2 a3 : Int32) (u u' : xS) (r : Int32), k_X12_isFound a1 a2 a3 u = some (r, u') → xMt sc mX12_isFound dk 0 0 [.ref 135, .int a1, .int a2, .int a3] (xL0, u) (some (.int r)) (xL0, u')) {k13 : Int32 → Int32 → Int32 → xS → Option (Int32 × xS)} (hk13 : ∀ (v1 : Int32) (v2 : Int32) (v4 : Int32) (u : xS), k13 v1 v2 v4 u = some (r, u') → xG sc mX12_isFound d 0 0 (xR (some (.int r)) (xL0, u') 0 0) 0 0 13 [some (.ref 135), some (.int v1), some (.int v2), none, some (.int v4)] [] (xL0, u)) (v1 : Int32) (v2 : Int32) (v4 : Int32) (u : xS) (h : f_X12_isFound_58 k_X12_isFound k13 v1 v2 v4 u = some (r, u')) : xG sc mX12_isFound d 0 0 (xR (some (.int r)) (xL0, u') 0 0) 0 0 58 [some (.ref 135), some (.int v1), some (.int v2), none, some (.int v4)] [] (xL0, u) := by
  rw [f_X12_isFound_58] at h
  refine g_inc (pc := 58) dX12_isFound_58 (Nat.le_of_ble_eq_true rfl) rfl ic_1 (L' := [some (.ref 135), some (.int v1), some (.int v2), none, some (.int (v4 + (1 : Int32)))]) rfl ?_
  refine g_goto (tgt := 13) (pc := 61) dX12_isFound_61 (by decide) ?_
  exact hk13 v1 v2 (v4 + (1 : Int32)) u h
set_option maxRecDepth 100000 in
set_option maxHeartbeats 4000000 in
theorem G_X12_isFound_13 {sc : Nat × (Nat → Int32)} {d : Nat} (hd : 1 ≤ d) {r : Int32} {u' : xS} {dk : Nat} (hkd : dk + 1 ≤ d) {k_X12_isFound : Int32 → Int32 → Int32 → xS → Option (Int32 × xS)} (hk_X12_isFound : ∀ (a1 a2 a3 : Int32) (u u' : xS) (r : Int32), k_X12_isFound a1 a2 a3 u = some (r, u') → xMt sc mX12_isFound dk 0 0 [.ref 135, .int a1, .int a2, .int a3] (xL0, u) (some (.int r)) (xL0, u')) : ∀ (n : Nat) (v1 : Int32) (v2 : Int32) (v4 : Int32) (u : xS), f_X12_isFound_13 k_X12_isFound n v1 v2 v4 u = some (r, u') → xG sc mX12_isFound d 0 0 (xR (some (.int r)) (xL0, u') 0 0) 0 0 13 [some (.ref 135), some (.int v1), some (.int v2), none, some (.int v4)] [] (xL0, u) := by
  intro n
  induction n with
  | zero =>
    intro v1 v2 v4 u h
    rw [f_X12_isFound_13] at h
    cases h
  | succ n ih =>
    intro v1 v2 v4 u h
    rw [f_X12_isFound_13] at h
    refine g_iload (pc := 13) dX12_isFound_13 rfl ?_
    refine g_aload_n (pc := 15) dX12_isFound_15 rfl ?_
    refine g_gI (pc := 16) dX12_isFound_16 fI_RX12_194 xc_135 (v := (rd u 135 7)) rfl ?_
    refine g_icmp_ge (tgt := 64) (pc := 19) dX12_isFound_19 (by decide) (fun c1 => ?_) (fun c1 => ?_)
    · replace h := (if_pos c1).symm.trans h
      refine g_iconst (pc := 64) dX12_isFound_64 ic_0 ?_
      obtain ⟨h1, h2⟩ := x_inj2 h
      subst h1
      subst h2
      exact g_zret (pc := 65) dX12_isFound_65 rfl (Or.inl rfl) rfl rfl (Nat.le_refl _) (Nat.le_refl _)
    · replace h := (if_neg c1).symm.trans h
      refine g_aload_n (pc := 22) dX12_isFound_22 rfl ?_
      refine g_gR (pc := 23) dX12_isFound_23 fR_RX12_105 xc_135 (v := 166) rfl ?_
      refine g_iload_n (pc := 26) dX12_isFound_26 rfl ?_
      refine g_iload (pc := 27) dX12_isFound_27 rfl ?_
      obtain ⟨g2, h⟩ := x_gd h
      refine g_iastore (pc := 29) dX12_isFound_29 xc_166 (xin_of g2) (u' := (wr u 166 v1.toNatClampNeg v4)) rfl ?_
      refine g_aload_n (pc := 30) dX12_isFound_30 rfl ?_
      refine g_iload (pc := 31) dX12_isFound_31 rfl ?_
      obtain ⟨x4, e3, h⟩ := x_bind h
      refine g_cV (pc := 33) dX12_isFound_33 cV_RX12_400 (M_X12_isClean (Nat.le_refl _) e3) xc_135 (as := [.int v4]) (st := []) rfl rfl (Nat.le_of_ble_eq_true rfl) (Nat.le_trans (Nat.le_of_ble_eq_true rfl) hd) rfl ?_
      refine g_if_eq (tgt := 58) (pc := 36) dX12_isFound_36 (by decide) (fun c5 => ?_) (fun c5 => ?_)
      · replace h := (if_pos c5).symm.trans h
        exact G_X12_isFound_58 hd hkd hk_X12_isFound ih v1 v2 v4 (wr u 166 v1.toNatClampNeg v4) h
      · replace h := (if_neg c5).symm.trans h
        refine g_aload_n (pc := 39) dX12_isFound_39 rfl ?_
        refine g_iload_n (pc := 40) dX12_isFound_40 rfl ?_
        refine g_iconst (pc := 41) dX12_isFound_41 ic_1 ?_
        refine g_iadd (pc := 42) dX12_isFound_42 rfl ?_
        refine g_iload_n (pc := 43) dX12_isFound_43 rfl ?_
        refine g_iconst (pc := 44) dX12_isFound_44 ic_1 ?_
        refine g_isub (pc := 45) dX12_isFound_45 rfl ?_
        refine g_iload (pc := 46) dX12_isFound_46 rfl ?_
        refine g_iconst (pc := 48) dX12_isFound_48 ic_1 ?_
        refine g_iadd (pc := 49) dX12_isFound_49 rfl ?_
        obtain ⟨⟨x7, u8⟩, e6, h⟩ := x_bind h
        dsimp only at h
        refine g_cV (pc := 50) dX12_isFound_50 cV_RX12_403 (hk_X12_isFound _ _ _ _ _ _ e6) xc_135 (as := [.int (v1 + (1 : Int32)), .int (v2 - (1 : Int32)), .int (v4 + (1 : Int32))]) (st := []) rfl rfl (Nat.le_of_ble_eq_true rfl) hkd rfl ?_
        refine g_if_eq (tgt := 58) (pc := 53) dX12_isFound_53 (by decide) (fun c9 => ?_) (fun c9 => ?_)
        · replace h := (if_pos c9).symm.trans h
          exact G_X12_isFound_58 hd hkd hk_X12_isFound ih v1 v2 v4 u8 h
        · replace h := (if_neg c9).symm.trans h
          refine g_iconst (pc := 56) dX12_isFound_56 ic_1 ?_
          obtain ⟨h1, h2⟩ := x_inj2 h
          subst h1
          subst h2
          exact g_zret (pc := 57) dX12_isFound_57 rfl (Or.inr rfl) rfl rfl (Nat.le_refl _) (Nat.le_refl _)
set_option maxRecDepth 100000 in
set_option maxHeartbeats 4000000 in
theorem G_X12_isFound_0 {sc : Nat × (Nat → Int32)} {d : Nat} (hd : 1 ≤ d) {r : Int32} {u' : xS} {dk : Nat} (hkd : dk + 1 ≤ d) {k_X12_isFound : Int32 → Int32 → Int32 → xS → Option (Int32 × xS)} (hk_X12_isFound : ∀ (a1 a2 a3 : Int32) (u u' : xS) (r : Int32), k_X12_isFound a1 a2 a3 u = some (r, u') → xMt sc mX12_isFound dk 0 0 [.ref 135, .int a1, .int a2, .int a3] (xL0, u) (some (.int r)) (xL0, u')) (v1 : Int32) (v2 : Int32) (v3 : Int32) (u : xS) (h : f_X12_isFound k_X12_isFound v1 v2 v3 u = some (r, u')) : xG sc mX12_isFound d 0 0 (xR (some (.int r)) (xL0, u') 0 0) 0 0 0 [some (.ref 135), some (.int v1), some (.int v2), some (.int v3), none] [] (xL0, u) := by
  rw [f_X12_isFound] at h
  refine g_iload_n (pc := 0) dX12_isFound_0 rfl ?_
  refine g_if_ne (tgt := 10) (pc := 1) dX12_isFound_1 (by decide) (fun c1 => ?_) (fun c1 => ?_)
  · replace h := (if_neg c1).symm.trans h
    refine g_iload_n (pc := 10) dX12_isFound_10 rfl ?_
    refine g_istore (pc := 11) dX12_isFound_11 (Nat.le_of_ble_eq_true rfl) (L' := [some (.ref 135), some (.int v1), some (.int v2), some (.int v3), some (.int v3)]) rfl ?_
    refine g_L (L' := [some (.ref 135), some (.int v1), some (.int v2), none, some (.int v3)]) ⟨rfl, ⟨rfl, ⟨rfl, ⟨rfl, trivial⟩⟩⟩⟩ ?_
    exact G_X12_isFound_13 hd hkd hk_X12_isFound xN v1 v2 v3 u h
  · replace h := (if_pos c1).symm.trans h
    refine g_aload_n (pc := 4) dX12_isFound_4 rfl ?_
    refine g_iload_n (pc := 5) dX12_isFound_5 rfl ?_
    obtain ⟨x3, e2, h⟩ := x_bind h
    refine g_cV (pc := 6) dX12_isFound_6 cV_RX12_397 (M_X12_areAll (Nat.le_refl _) e2) xc_135 (as := [.int v1]) (st := []) rfl rfl (Nat.le_of_ble_eq_true rfl) (Nat.le_trans (Nat.le_of_ble_eq_true rfl) hd) rfl ?_
    obtain ⟨g4, h⟩ := x_gd h
    obtain ⟨h1, h2⟩ := x_inj2 h
    subst h1
    subst h2
    exact g_zret (pc := 9) dX12_isFound_9 rfl (xb_of g4) rfl rfl (Nat.le_refl _) (Nat.le_refl _)
set_option maxRecDepth 100000 in
set_option maxHeartbeats 4000000 in
theorem M_X12_isFound {sc : Nat × (Nat → Int32)} {d : Nat} (hd : 1 ≤ d) {r : Int32} {u u' : xS} {dk : Nat} (hkd : dk + 1 ≤ d) {k_X12_isFound : Int32 → Int32 → Int32 → xS → Option (Int32 × xS)} (hk_X12_isFound : ∀ (a1 a2 a3 : Int32) (u u' : xS) (r : Int32), k_X12_isFound a1 a2 a3 u = some (r, u') → xMt sc mX12_isFound dk 0 0 [.ref 135, .int a1, .int a2, .int a3] (xL0, u) (some (.int r)) (xL0, u')) {a1 : Int32} {a2 : Int32} {a3 : Int32} (h : f_X12_isFound k_X12_isFound a1 a2 a3 u = some (r, u')) : xMt sc mX12_isFound d 0 0 [.ref 135, .int a1, .int a2, .int a3] (xL0, u) (some (.int r)) (xL0, u') :=
  xMt.of (by decide +kernel) (by decide +kernel) (Nat.le_of_ble_eq_true rfl) (L := [some (.ref 135), some (.int a1), some (.int a2), some (.int a3), none]) rfl ((G_X12_isFound_0 hd hkd hk_X12_isFound a1 a2 a3 u h))
theorem Mr_isFound {sc : Nat × (Nat → Int32)} : ∀ n : Nat, ∀ (a1 a2 a3 : Int32) (u u' : xS) (r : Int32), (fr_isFound n) a1 a2 a3 u = some (r, u') → xMt sc mX12_isFound (n + 1) 0 0 [.ref 135, .int a1, .int a2, .int a3] (xL0, u) (some (.int r)) (xL0, u') := by
  intro n
  induction n with
  | zero =>
    intro a1 a2 a3 u u' r h
    cases h
  | succ n ih =>
    intro a1 a2 a3 u u' r h
    exact M_X12_isFound (dk := n + 1) (by omega) (by omega) ih h
set_option maxRecDepth 100000 in
set_option maxHeartbeats 4000000 in
theorem M_r_X12_isFound {sc : Nat × (Nat → Int32)} {d : Nat} (hd : 9 ≤ d) {u u' : xS} {r : Int32} {a1 a2 a3 : Int32} (h : f_r_X12_isFound a1 a2 a3 u = some (r, u')) : xMt sc mX12_isFound 9 0 0 [.ref 135, .int a1, .int a2, .int a3] (xL0, u) (some (.int r)) (xL0, u') := Mr_isFound 8 _ _ _ _ _ _ h
set_option maxRecDepth 100000 in
set_option maxHeartbeats 4000000 in
theorem G_X12_suspects_29 {sc : Nat × (Nat → Int32)} {d : Nat} (hd : 10 ≤ d) {r : Int32} {u' : xS} : ∀ (n : Nat) (v1 : Int32) (v2 : Int32) (u : xS), f_X12_suspects_29 n v1 v2 u = some (r, u') → xG sc mX12_suspects d 0 0 (xR (some (.int r)) (xL0, u') 0 0) 0 0 29 [some (.ref 135), some (.int v1), some (.int v2)] [] (xL0, u) := by
  intro n
  induction n with
  | zero =>
    intro v1 v2 u h
    rw [f_X12_suspects_29] at h
    cases h
  | succ n ih =>
    intro v1 v2 u h
    rw [f_X12_suspects_29] at h
    refine g_iload_n (pc := 29) dX12_suspects_29 rfl ?_
    refine g_iload_n (pc := 30) dX12_suspects_30 rfl ?_
    refine g_icmp_ge (tgt := 50) (pc := 31) dX12_suspects_31 (by decide) (fun c1 => ?_) (fun c1 => ?_)
    · replace h := (if_pos c1).symm.trans h
      refine g_iload_n (pc := 50) dX12_suspects_50 rfl ?_
      obtain ⟨h1, h2⟩ := x_inj2 h
      subst h1
      subst h2
      exact g_iret (pc := 51) dX12_suspects_51 rfl rfl rfl (Nat.le_refl _) (Nat.le_refl _)
    · replace h := (if_neg c1).symm.trans h
      refine g_aload_n (pc := 34) dX12_suspects_34 rfl ?_
      refine g_aload_n (pc := 35) dX12_suspects_35 rfl ?_
      refine g_gR (pc := 36) dX12_suspects_36 fR_RX12_105 xc_135 (v := 166) rfl ?_
      refine g_iload_n (pc := 39) dX12_suspects_39 rfl ?_
      obtain ⟨g2, h⟩ := x_gd h
      refine g_iaload (pc := 40) dX12_suspects_40 xc_166 (xin_of g2) (v := (rd u 166 v2.toNatClampNeg)) rfl ?_
      obtain ⟨u4, e3, h⟩ := x_bind h
      refine g_cV (pc := 41) dX12_suspects_41 cV_RX12_394 (M_X12_enters (Nat.le_refl _) e3) xc_135 (as := [.int (rd u 166 v2.toNatClampNeg)]) (st := []) rfl rfl (Nat.le_of_ble_eq_true rfl) (Nat.le_trans (Nat.le_of_ble_eq_true rfl) hd) rfl ?_
      refine g_inc (pc := 44) dX12_suspects_44 (Nat.le_of_ble_eq_true rfl) rfl ic_1 (L' := [some (.ref 135), some (.int v1), some (.int (v2 + (1 : Int32)))]) rfl ?_
      refine g_goto (tgt := 29) (pc := 47) dX12_suspects_47 (by decide) ?_
      exact ih v1 (v2 + (1 : Int32)) u4 h
set_option maxRecDepth 100000 in
set_option maxHeartbeats 4000000 in
theorem G_X12_suspects_7 {sc : Nat × (Nat → Int32)} {d : Nat} (hd : 10 ≤ d) {r : Int32} {u' : xS} : ∀ (n : Nat) (v1 : Int32) (u : xS), f_X12_suspects_7 n v1 u = some (r, u') → xG sc mX12_suspects d 0 0 (xR (some (.int r)) (xL0, u') 0 0) 0 0 7 [some (.ref 135), some (.int v1), none] [] (xL0, u) := by
  intro n
  induction n with
  | zero =>
    intro v1 u h
    rw [f_X12_suspects_7] at h
    cases h
  | succ n ih =>
    intro v1 u h
    rw [f_X12_suspects_7] at h
    refine g_iload_n (pc := 7) dX12_suspects_7 rfl ?_
    refine g_iconst (pc := 8) dX12_suspects_8 ic_4 ?_
    refine g_icmp_gt (tgt := 58) (pc := 9) dX12_suspects_9 (by decide) (fun c1 => ?_) (fun c1 => ?_)
    · replace h := (if_pos c1).symm.trans h
      refine g_bipush (pc := 58) dX12_suspects_58 bp_m2 ?_
      obtain ⟨h1, h2⟩ := x_inj2 h
      subst h1
      subst h2
      exact g_iret (pc := 60) dX12_suspects_60 rfl rfl rfl (Nat.le_refl _) (Nat.le_refl _)
    · replace h := (if_neg c1).symm.trans h
      refine g_aload_n (pc := 12) dX12_suspects_12 rfl ?_
      refine g_iconst (pc := 13) dX12_suspects_13 ic_0 ?_
      refine g_iload_n (pc := 14) dX12_suspects_14 rfl ?_
      refine g_iconst (pc := 15) dX12_suspects_15 ic_0 ?_
      obtain ⟨⟨x3, u4⟩, e2, h⟩ := x_bind h
      dsimp only at h
      refine g_cV (pc := 16) dX12_suspects_16 cV_RX12_403 (M_r_X12_isFound (Nat.le_refl _) e2) xc_135 (as := [.int (0 : Int32), .int v1, .int (0 : Int32)]) (st := []) rfl rfl (Nat.le_of_ble_eq_true rfl) (Nat.le_trans (Nat.le_of_ble_eq_true rfl) hd) rfl ?_
      refine g_if_eq (tgt := 52) (pc := 19) dX12_suspects_19 (by decide) (fun c5 => ?_) (fun c5 => ?_)
      · replace h := (if_pos c5).symm.trans h
        refine g_inc (pc := 52) dX12_suspects_52 (Nat.le_of_ble_eq_true rfl) rfl ic_1 (L' := [some (.ref 135), some (.int (v1 + (1 : Int32))), none]) rfl ?_
        refine g_goto (tgt := 7) (pc := 55) dX12_suspects_55 (by decide) ?_
        exact ih (v1 + (1 : Int32)) u4 h
      · replace h := (if_neg c5).symm.trans h
        refine g_aload_n (pc := 22) dX12_suspects_22 rfl ?_
        refine g_iconst (pc := 23) dX12_suspects_23 ic_0 ?_
        refine g_pI (pc := 24) dX12_suspects_24 pI_RX12_388 xc_135 (u' := (wr u4 135 43 (0 : Int32))) rfl ?_
        refine g_iconst (pc := 27) dX12_suspects_27 ic_0 ?_
        refine g_istore_n (pc := 28) dX12_suspects_28 (Nat.le_of_ble_eq_true rfl) (L' := [some (.ref 135), some (.int v1), some (.int (0 : Int32))]) rfl ?_
        exact G_X12_suspects_29 hd xN v1 (0 : Int32) (wr u4 135 43 (0 : Int32)) h
set_option maxRecDepth 100000 in
set_option maxHeartbeats 4000000 in
theorem G_X12_suspects_0 {sc : Nat × (Nat → Int32)} {d : Nat} (hd : 10 ≤ d) {r : Int32} {u' : xS} (u : xS) (h : f_X12_suspects u = some (r, u')) : xG sc mX12_suspects d 0 0 (xR (some (.int r)) (xL0, u') 0 0) 0 0 0 [some (.ref 135), none, none] [] (xL0, u) := by
  rw [f_X12_suspects] at h
  refine g_aload_n (pc := 0) dX12_suspects_0 rfl ?_
  refine g_iconst (pc := 1) dX12_suspects_1 ic_0 ?_
  refine g_pI (pc := 2) dX12_suspects_2 pI_RX12_150 xc_135 (u' := (wr u 135 0 (0 : Int32))) rfl ?_
  refine g_iconst (pc := 5) dX12_suspects_5 ic_0 ?_
  refine g_istore_n (pc := 6) dX12_suspects_6 (Nat.le_of_ble_eq_true rfl) (L' := [some (.ref 135), some (.int (0 : Int32)), none]) rfl ?_
  exact G_X12_suspects_7 hd xN (0 : Int32) (wr u 135 0 (0 : Int32)) h
set_option maxRecDepth 100000 in
set_option maxHeartbeats 4000000 in
theorem M_X12_suspects {sc : Nat × (Nat → Int32)} {d : Nat} (hd : 10 ≤ d) {r : Int32} {u u' : xS} (h : f_X12_suspects u = some (r, u')) : xMt sc mX12_suspects d 0 0 [.ref 135] (xL0, u) (some (.int r)) (xL0, u') :=
  xMt.of (by decide +kernel) (by decide +kernel) (Nat.le_of_ble_eq_true rfl) (L := [some (.ref 135), none, none]) rfl ((G_X12_suspects_0 hd u h))
set_option maxRecDepth 100000 in
set_option maxHeartbeats 4000000 in
theorem G_X12_takes_0 {sc : Nat × (Nat → Int32)} {d : Nat} (hd : 2 ≤ d) {r : Int32} {u' : xS} (v1 : Int32) (v2 : Int32) (u : xS) (h : f_X12_takes v1 v2 u = some (r, u')) : xG sc mX12_takes d 0 0 (xR (some (.int r)) (xL0, u') 0 0) 0 0 0 [some (.ref 135), some (.int v1), some (.int v2), none] [] (xL0, u) := by
  rw [f_X12_takes] at h
  refine g_aload_n (pc := 0) dX12_takes_0 rfl ?_
  refine g_iconst (pc := 1) dX12_takes_1 ic_0 ?_
  refine g_pI (pc := 2) dX12_takes_2 pI_RX12_150 xc_135 (u' := (wr u 135 0 (0 : Int32))) rfl ?_
  refine g_iload_n (pc := 5) dX12_takes_5 rfl ?_
  refine g_cS (pc := 6) dX12_takes_6 cS_RX12_415 (M_X12_isLand (Nat.le_refl _) rfl) (as := [.int v1]) (st := []) rfl rfl (Nat.le_of_ble_eq_true rfl) (Nat.le_trans (Nat.le_of_ble_eq_true rfl) hd) rfl ?_
  refine g_if_eq (tgt := 24) (pc := 9) dX12_takes_9 (by decide) (fun c1 => ?_) (fun c1 => ?_)
  · replace h := (if_pos c1).symm.trans h
    refine g_iconst (pc := 24) dX12_takes_24 ic_m1 ?_
    obtain ⟨h1, h2⟩ := x_inj2 h
    subst h1
    subst h2
    exact g_iret (pc := 25) dX12_takes_25 rfl rfl rfl (Nat.le_refl _) (Nat.le_refl _)
  · replace h := (if_neg c1).symm.trans h
    refine g_iload_n (pc := 12) dX12_takes_12 rfl ?_
    refine g_i2l (pc := 13) dX12_takes_13 rfl ?_
    refine g_lconst (v := (0 : Int64)) (pc := 14) dX12_takes_14 rfl ?_
    refine g_ldc2 (pc := 15) dX12_takes_15 kl_RX12_418 ?_
    refine g_cS (pc := 18) dX12_takes_18 cS_RX12_156 (M_X12_in (Nat.le_refl _) rfl) (as := [.long ((v2).toInt64), .long (0 : Int64), .long (8 : Int64)]) (st := []) rfl rfl (Nat.le_of_ble_eq_true rfl) (Nat.le_trans (Nat.le_of_ble_eq_true rfl) hd) rfl ?_
    refine g_if_ne (tgt := 26) (pc := 21) dX12_takes_21 (by decide) (fun c2 => ?_) (fun c2 => ?_)
    · replace h := (if_neg c2).symm.trans h
      refine g_aload_n (pc := 26) dX12_takes_26 rfl ?_
      refine g_gR (pc := 27) dX12_takes_27 fR_RX12_126 xc_135 (v := 173) rfl ?_
      refine g_iload_n (pc := 30) dX12_takes_30 rfl ?_
      obtain ⟨g3, h⟩ := x_gd h
      refine g_iaload (pc := 31) dX12_takes_31 xc_173 (xin_of g3) (v := (rd u 173 v1.toNatClampNeg)) rfl ?_
      refine g_istore_n (pc := 32) dX12_takes_32 (Nat.le_of_ble_eq_true rfl) (L' := [some (.ref 135), some (.int v1), some (.int v2), some (.int (rd u 173 v1.toNatClampNeg))]) rfl ?_
      refine g_aload_n (pc := 33) dX12_takes_33 rfl ?_
      refine g_gR (pc := 34) dX12_takes_34 fR_RX12_126 xc_135 (v := 173) rfl ?_
      refine g_iload_n (pc := 37) dX12_takes_37 rfl ?_
      refine g_iload_n (pc := 38) dX12_takes_38 rfl ?_
      refine g_iastore (pc := 39) dX12_takes_39 xc_173 (xin_of g3) (u' := (wr (wr u 135 0 (0 : Int32)) 173 v1.toNatClampNeg v2)) rfl ?_
      refine g_iload_n (pc := 40) dX12_takes_40 rfl ?_
      obtain ⟨h1, h2⟩ := x_inj2 h
      subst h1
      subst h2
      exact g_iret (pc := 41) dX12_takes_41 rfl rfl rfl (Nat.le_refl _) (Nat.le_refl _)
    · replace h := (if_pos c2).symm.trans h
      refine g_iconst (pc := 24) dX12_takes_24 ic_m1 ?_
      obtain ⟨h1, h2⟩ := x_inj2 h
      subst h1
      subst h2
      exact g_iret (pc := 25) dX12_takes_25 rfl rfl rfl (Nat.le_refl _) (Nat.le_refl _)
set_option maxRecDepth 100000 in
set_option maxHeartbeats 4000000 in
theorem M_X12_takes {sc : Nat × (Nat → Int32)} {d : Nat} (hd : 2 ≤ d) {r : Int32} {u u' : xS} {a1 : Int32} {a2 : Int32} (h : f_X12_takes a1 a2 u = some (r, u')) : xMt sc mX12_takes d 0 0 [.ref 135, .int a1, .int a2] (xL0, u) (some (.int r)) (xL0, u') :=
  xMt.of (by decide +kernel) (by decide +kernel) (Nat.le_of_ble_eq_true rfl) (L := [some (.ref 135), some (.int a1), some (.int a2), none]) rfl ((G_X12_takes_0 hd a1 a2 u h))
set_option maxRecDepth 100000 in
set_option maxHeartbeats 4000000 in
theorem G_X12_text_254 {sc : Nat × (Nat → Int32)} {d : Nat} (hd : 607 ≤ d) {r : Int32} {u' : xS} (v1 : Int32) (s1 : Int32) (s2 : Int32) (u : xS) (h : f_X12_text_254 v1 s1 s2 u = some (r, u')) : xG sc mX12_text d 0 0 (xR (some (.int r)) (xL0, u') 0 0) 0 0 254 [some (.ref 135), some (.int v1), none, none, none, none, none] [.int s2, .int s1, .ref 135] (xL0, u) := by
  rw [f_X12_text_254] at h
  refine g_cS (pc := 254) dX12_text_254 cS_RX12_190 (M_X12_truth (Nat.le_refl _) rfl) (as := [.int s2]) (st := [.int s1, .ref 135]) rfl rfl (Nat.le_of_ble_eq_true rfl) (Nat.le_trans (Nat.le_of_ble_eq_true rfl) hd) rfl ?_
  refine g_iadd (pc := 257) dX12_text_257 rfl ?_
  refine g_pI (pc := 258) dX12_text_258 pI_RX12_320 xc_135 (u' := (wr u 135 28 (s1 + (f_X12_truth s2)))) rfl ?_
  refine g_iload_n (pc := 261) dX12_text_261 rfl ?_
  refine g_iconst (pc := 262) dX12_text_262 ic_1 ?_
  refine g_icmp_ne (tgt := 275) (pc := 263) dX12_text_263 (by decide) (fun c1 => ?_) (fun c1 => ?_)
  · replace h := (if_neg c1).symm.trans h
    refine g_iconst (pc := 275) dX12_text_275 ic_0 ?_
    obtain ⟨h1, h2⟩ := x_inj2 h
    subst h1
    subst h2
    exact g_iret (pc := 276) dX12_text_276 rfl rfl rfl (Nat.le_refl _) (Nat.le_refl _)
  · replace h := (if_pos c1).symm.trans h
    refine g_aload_n (pc := 266) dX12_text_266 rfl ?_
    refine g_gI (pc := 267) dX12_text_267 fI_RX12_320 xc_135 (v := (s1 + (f_X12_truth s2))) rfl ?_
    refine g_iconst (pc := 270) dX12_text_270 ic_1 ?_
    refine g_isub (pc := 271) dX12_text_271 rfl ?_
    refine g_goto (tgt := 276) (pc := 272) dX12_text_272 (by decide) ?_
    obtain ⟨h1, h2⟩ := x_inj2 h
    subst h1
    subst h2
    exact g_iret (pc := 276) dX12_text_276 rfl rfl rfl (Nat.le_refl _) (Nat.le_refl _)
set_option maxRecDepth 100000 in
set_option maxHeartbeats 4000000 in
theorem G_X12_text_167 {sc : Nat × (Nat → Int32)} {d : Nat} (hd : 607 ≤ d) {r : Int32} {u' : xS} : ∀ (n : Nat) (v1 : Int32) (v5 : Int32) (v6 : Int32) (u : xS), f_X12_text_167 n v1 v5 v6 u = some (r, u') → xG sc mX12_text d 0 0 (xR (some (.int r)) (xL0, u') 0 0) 0 0 167 [some (.ref 135), some (.int v1), none, none, none, some (.int v5), some (.int v6)] [] (xL0, u) := by
  intro n
  induction n with
  | zero =>
    intro v1 v5 v6 u h
    rw [f_X12_text_167] at h
    cases h
  | succ n ih =>
    intro v1 v5 v6 u h
    rw [f_X12_text_167] at h
    refine g_iload (pc := 167) dX12_text_167 rfl ?_
    refine g_aload_n (pc := 169) dX12_text_169 rfl ?_
    refine g_gR (pc := 170) dX12_text_170 fR_RX12_75 xc_135 (v := 156) rfl ?_
    refine g_aload_n (pc := 173) dX12_text_173 rfl ?_
    refine g_gI (pc := 174) dX12_text_174 fI_RX12_267 xc_135 (v := (rd u 135 34)) rfl ?_
    obtain ⟨g1, h⟩ := x_gd h
    refine g_iaload (pc := 177) dX12_text_177 xc_156 (xin_of g1) (v := (rd u 156 (rd u 135 34).toNatClampNeg)) rfl ?_
    refine g_icmp_ge (tgt := 215) (pc := 178) dX12_text_178 (by decide) (fun c2 => ?_) (fun c2 => ?_)
    · replace h := (if_pos c2).symm.trans h
      refine g_aload_n (pc := 215) dX12_text_215 rfl ?_
      refine g_gR (pc := 216) dX12_text_216 fR_RX12_75 xc_135 (v := 156) rfl ?_
      refine g_iload (pc := 219) dX12_text_219 rfl ?_
      refine g_aload_n (pc := 221) dX12_text_221 rfl ?_
      refine g_gR (pc := 222) dX12_text_222 fR_RX12_75 xc_135 (v := 156) rfl ?_
      refine g_aload_n (pc := 225) dX12_text_225 rfl ?_
      refine g_gI (pc := 226) dX12_text_226 fI_RX12_267 xc_135 (v := (rd u 135 34)) rfl ?_
      refine g_iaload (pc := 229) dX12_text_229 xc_156 (xin_of g1) (v := (rd u 156 (rd u 135 34).toNatClampNeg)) rfl ?_
      obtain ⟨g3, h⟩ := x_gd h
      refine g_iastore (pc := 230) dX12_text_230 xc_156 (xin_of g3) (u' := (wr u 156 v5.toNatClampNeg (rd u 156 (rd u 135 34).toNatClampNeg))) rfl ?_
      refine g_aload_n (pc := 231) dX12_text_231 rfl ?_
      refine g_gR (pc := 232) dX12_text_232 fR_RX12_68 xc_135 (v := 154) rfl ?_
      refine g_iload (pc := 235) dX12_text_235 rfl ?_
      refine g_iconst (pc := 237) dX12_text_237 ic_1 ?_
      refine g_bastoreB (pc := 238) dX12_text_238 xc_154 (xin_of g3) (Or.inr rfl) (u' := (wr (wr u 156 v5.toNatClampNeg (rd u 156 (rd u 135 34).toNatClampNeg)) 154 v5.toNatClampNeg (1 : Int32))) rfl ?_
      refine g_aload_n (pc := 239) dX12_text_239 rfl ?_
      refine g_dup (pc := 240) dX12_text_240 rfl ?_
      refine g_gI (pc := 241) dX12_text_241 fI_RX12_320 xc_135 (v := (rd u 135 28)) rfl ?_
      refine g_iload_n (pc := 244) dX12_text_244 rfl ?_
      refine g_iconst (pc := 245) dX12_text_245 ic_1 ?_
      refine g_icmp_ne (tgt := 253) (pc := 246) dX12_text_246 (by decide) (fun c4 => ?_) (fun c4 => ?_)
      · replace h := (if_neg c4).symm.trans h
        refine g_iconst (pc := 253) dX12_text_253 ic_0 ?_
        refine g_L (L' := [some (.ref 135), some (.int v1), none, none, none, none, none]) ⟨rfl, ⟨rfl, trivial⟩⟩ ?_
        exact G_X12_text_254 hd v1 (rd u 135 28) (0 : Int32) (wr (wr u 156 v5.toNatClampNeg (rd u 156 (rd u 135 34).toNatClampNeg)) 154 v5.toNatClampNeg (1 : Int32)) h
      · replace h := (if_pos c4).symm.trans h
        refine g_iconst (pc := 249) dX12_text_249 ic_1 ?_
        refine g_goto (tgt := 254) (pc := 250) dX12_text_250 (by decide) ?_
        refine g_L (L' := [some (.ref 135), some (.int v1), none, none, none, none, none]) ⟨rfl, ⟨rfl, trivial⟩⟩ ?_
        exact G_X12_text_254 hd v1 (rd u 135 28) (1 : Int32) (wr (wr u 156 v5.toNatClampNeg (rd u 156 (rd u 135 34).toNatClampNeg)) 154 v5.toNatClampNeg (1 : Int32)) h
    · replace h := (if_neg c2).symm.trans h
      refine g_aload_n (pc := 181) dX12_text_181 rfl ?_
      refine g_gR (pc := 182) dX12_text_182 fR_RX12_72 xc_135 (v := 155) rfl ?_
      refine g_bipush (pc := 185) dX12_text_185 bp_64 ?_
      refine g_iload (pc := 187) dX12_text_187 rfl ?_
      refine g_imul (pc := 189) dX12_text_189 rfl ?_
      refine g_iload (pc := 190) dX12_text_190 rfl ?_
      refine g_iadd (pc := 192) dX12_text_192 rfl ?_
      refine g_aload_n (pc := 193) dX12_text_193 rfl ?_
      refine g_gR (pc := 194) dX12_text_194 fR_RX12_72 xc_135 (v := 155) rfl ?_
      refine g_bipush (pc := 197) dX12_text_197 bp_64 ?_
      refine g_aload_n (pc := 199) dX12_text_199 rfl ?_
      refine g_gI (pc := 200) dX12_text_200 fI_RX12_267 xc_135 (v := (rd u 135 34)) rfl ?_
      refine g_imul (pc := 203) dX12_text_203 rfl ?_
      refine g_iload (pc := 204) dX12_text_204 rfl ?_
      refine g_iadd (pc := 206) dX12_text_206 rfl ?_
      obtain ⟨g5, h⟩ := x_gd h
      refine g_iaload (pc := 207) dX12_text_207 xc_155 (xin_of g5) (v := (rd u 155 (((64 : Int32) * (rd u 135 34)) + v6).toNatClampNeg)) rfl ?_
      obtain ⟨g6, h⟩ := x_gd h
      refine g_iastore (pc := 208) dX12_text_208 xc_155 (xin_of g6) (u' := (wr u 155 (((64 : Int32) * v5) + v6).toNatClampNeg (rd u 155 (((64 : Int32) * (rd u 135 34)) + v6).toNatClampNeg))) rfl ?_
      refine g_inc (pc := 209) dX12_text_209 (Nat.le_of_ble_eq_true rfl) rfl ic_1 (L' := [some (.ref 135), some (.int v1), none, none, none, some (.int v5), some (.int (v6 + (1 : Int32)))]) rfl ?_
      refine g_goto (tgt := 167) (pc := 212) dX12_text_212 (by decide) ?_
      exact ih v1 v5 (v6 + (1 : Int32)) (wr u 155 (((64 : Int32) * v5) + v6).toNatClampNeg (rd u 155 (((64 : Int32) * (rd u 135 34)) + v6).toNatClampNeg)) h
set_option maxRecDepth 100000 in
set_option maxHeartbeats 4000000 in
theorem G_X12_text_162 {sc : Nat × (Nat → Int32)} {d : Nat} (hd : 607 ≤ d) {r : Int32} {u' : xS} (v1 : Int32) (s0 : Int32) (u : xS) (h : f_X12_text_162 v1 s0 u = some (r, u')) : xG sc mX12_text d 0 0 (xR (some (.int r)) (xL0, u') 0 0) 0 0 162 [some (.ref 135), some (.int v1), none, none, none, none, none] [.int s0] (xL0, u) := by
  rw [f_X12_text_162] at h
  refine g_istore (pc := 162) dX12_text_162 (Nat.le_of_ble_eq_true rfl) (L' := [some (.ref 135), some (.int v1), none, none, none, some (.int s0), none]) rfl ?_
  refine g_iconst (pc := 164) dX12_text_164 ic_0 ?_
  refine g_istore (pc := 165) dX12_text_165 (Nat.le_of_ble_eq_true rfl) (L' := [some (.ref 135), some (.int v1), none, none, none, some (.int s0), some (.int (0 : Int32))]) rfl ?_
  exact G_X12_text_167 hd xN v1 s0 (0 : Int32) u h
set_option maxRecDepth 100000 in
set_option maxHeartbeats 4000000 in
theorem G_X12_text_126 {sc : Nat × (Nat → Int32)} {d : Nat} (hd : 607 ≤ d) {r : Int32} {u' : xS} (v1 : Int32) (v2 : Int32) (v4 : Int32) (u : xS) (h : f_X12_text_126 v1 v2 v4 u = some (r, u')) : xG sc mX12_text d 0 0 (xR (some (.int r)) (xL0, u') 0 0) 0 0 126 [some (.ref 135), some (.int v1), some (.int v2), none, some (.int v4), none, none] [] (xL0, u) := by
  rw [f_X12_text_126] at h
  refine g_iload (pc := 126) dX12_text_126 rfl ?_
  refine g_if_ne (tgt := 138) (pc := 128) dX12_text_128 (by decide) (fun c1 => ?_) (fun c1 => ?_)
  · replace h := (if_neg c1).symm.trans h
    refine g_iload_n (pc := 138) dX12_text_138 rfl ?_
    refine g_if_ne (tgt := 146) (pc := 139) dX12_text_139 (by decide) (fun c2 => ?_) (fun c2 => ?_)
    · replace h := (if_neg c2).symm.trans h
      refine g_iload_n (pc := 146) dX12_text_146 rfl ?_
      refine g_iconst (pc := 147) dX12_text_147 ic_1 ?_
      refine g_icmp_ne (tgt := 160) (pc := 148) dX12_text_148 (by decide) (fun c3 => ?_) (fun c3 => ?_)
      · replace h := (if_neg c3).symm.trans h
        refine g_bipush (pc := 160) dX12_text_160 bp_10 ?_
        refine g_L (L' := [some (.ref 135), some (.int v1), none, none, none, none, none]) ⟨rfl, ⟨rfl, trivial⟩⟩ ?_
        exact G_X12_text_162 hd v1 (10 : Int32) u h
      · replace h := (if_pos c3).symm.trans h
        refine g_iconst (pc := 151) dX12_text_151 ic_4 ?_
        refine g_aload_n (pc := 152) dX12_text_152 rfl ?_
        refine g_gI (pc := 153) dX12_text_153 fI_RX12_320 xc_135 (v := (rd u 135 28)) rfl ?_
        refine g_iadd (pc := 156) dX12_text_156 rfl ?_
        refine g_goto (tgt := 162) (pc := 157) dX12_text_157 (by decide) ?_
        refine g_L (L' := [some (.ref 135), some (.int v1), none, none, none, none, none]) ⟨rfl, ⟨rfl, trivial⟩⟩ ?_
        exact G_X12_text_162 hd v1 ((4 : Int32) + (rd u 135 28)) u h
    · replace h := (if_pos c2).symm.trans h
      refine g_iload_n (pc := 142) dX12_text_142 rfl ?_
      refine g_goto (tgt := 162) (pc := 143) dX12_text_143 (by decide) ?_
      refine g_L (L' := [some (.ref 135), some (.int v1), none, none, none, none, none]) ⟨rfl, ⟨rfl, trivial⟩⟩ ?_
      exact G_X12_text_162 hd v1 v2 u h
  · replace h := (if_pos c1).symm.trans h
    refine g_iconst (pc := 131) dX12_text_131 ic_m1 ?_
    refine g_aload_n (pc := 132) dX12_text_132 rfl ?_
    refine g_gI (pc := 133) dX12_text_133 fI_RX12_259 xc_135 (v := (rd u 135 33)) rfl ?_
    refine g_isub (pc := 136) dX12_text_136 rfl ?_
    obtain ⟨h1, h2⟩ := x_inj2 h
    subst h1
    subst h2
    exact g_iret (pc := 137) dX12_text_137 rfl rfl rfl (Nat.le_refl _) (Nat.le_refl _)
set_option maxRecDepth 100000 in
set_option maxHeartbeats 4000000 in
theorem G_X12_text_98 {sc : Nat × (Nat → Int32)} {d : Nat} (hd : 607 ≤ d) {r : Int32} {u' : xS} (v1 : Int32) (v2 : Int32) (v3 : Int32) (s1 : Int32) (s2 : Int32) (u : xS) (h : f_X12_text_98 v1 v2 v3 s1 s2 u = some (r, u')) : xG sc mX12_text d 0 0 (xR (some (.int r)) (xL0, u') 0 0) 0 0 98 [some (.ref 135), some (.int v1), some (.int v2), some (.int v3), none, none, none] [.int s2, .int s1, .ref 135] (xL0, u) := by
  rw [f_X12_text_98] at h
  obtain ⟨⟨x2, u3⟩, e1, h⟩ := x_bind h
  dsimp only at h
  refine g_cV (pc := 98) dX12_text_98 cV_RX12_323 (M_X12_all (Nat.le_refl _) e1) xc_135 (as := [.int s1, .int s2]) (st := []) rfl rfl (Nat.le_of_ble_eq_true rfl) (Nat.le_trans (Nat.le_of_ble_eq_true rfl) hd) rfl ?_
  refine g_istore (pc := 101) dX12_text_101 (Nat.le_of_ble_eq_true rfl) (L' := [some (.ref 135), some (.int v1), some (.int v2), some (.int v3), some (.int x2), none, none]) rfl ?_
  refine g_iload_n (pc := 103) dX12_text_103 rfl ?_
  refine g_bipush (pc := 104) dX12_text_104 bp_60 ?_
  refine g_icmp_le (tgt := 126) (pc := 106) dX12_text_106 (by decide) (fun c4 => ?_) (fun c4 => ?_)
  · replace h := (if_pos c4).symm.trans h
    refine g_L (L' := [some (.ref 135), some (.int v1), some (.int v2), none, some (.int x2), none, none]) ⟨rfl, ⟨rfl, ⟨rfl, ⟨rfl, trivial⟩⟩⟩⟩ ?_
    exact G_X12_text_126 hd v1 v2 x2 u3 h
  · replace h := (if_neg c4).symm.trans h
    refine g_iload (pc := 109) dX12_text_109 rfl ?_
    refine g_if_ne (tgt := 123) (pc := 111) dX12_text_111 (by decide) (fun c5 => ?_) (fun c5 => ?_)
    · replace h := (if_neg c5).symm.trans h
      refine g_bipush (pc := 123) dX12_text_123 bp_m61 ?_
      obtain ⟨h1, h2⟩ := x_inj2 h
      subst h1
      subst h2
      exact g_iret (pc := 125) dX12_text_125 rfl rfl rfl (Nat.le_refl _) (Nat.le_refl _)
    · replace h := (if_pos c5).symm.trans h
      refine g_aload_n (pc := 114) dX12_text_114 rfl ?_
      refine g_gI (pc := 115) dX12_text_115 fI_RX12_259 xc_135 (v := (rd u3 135 33)) rfl ?_
      refine g_bipush (pc := 118) dX12_text_118 bp_60 ?_
      refine g_icmp_lt (tgt := 126) (pc := 120) dX12_text_120 (by decide) (fun c6 => ?_) (fun c6 => ?_)
      · replace h := (if_pos c6).symm.trans h
        refine g_L (L' := [some (.ref 135), some (.int v1), some (.int v2), none, some (.int x2), none, none]) ⟨rfl, ⟨rfl, ⟨rfl, ⟨rfl, trivial⟩⟩⟩⟩ ?_
        exact G_X12_text_126 hd v1 v2 x2 u3 h
      · replace h := (if_neg c6).symm.trans h
        refine g_bipush (pc := 123) dX12_text_123 bp_m61 ?_
        obtain ⟨h1, h2⟩ := x_inj2 h
        subst h1
        subst h2
        exact g_iret (pc := 125) dX12_text_125 rfl rfl rfl (Nat.le_refl _) (Nat.le_refl _)
set_option maxRecDepth 100000 in
set_option maxHeartbeats 4000000 in
theorem G_X12_text_60 {sc : Nat × (Nat → Int32)} {d : Nat} (hd : 607 ≤ d) {r : Int32} {u' : xS} (v1 : Int32) (v2 : Int32) (v3 : Int32) (u : xS) (h : f_X12_text_60 v1 v2 v3 u = some (r, u')) : xG sc mX12_text d 0 0 (xR (some (.int r)) (xL0, u') 0 0) 0 0 60 [some (.ref 135), some (.int v1), some (.int v2), some (.int v3), none, none, none] [] (xL0, u) := by
  rw [f_X12_text_60] at h
  refine g_aload_n (pc := 60) dX12_text_60 rfl ?_
  refine g_bipush (pc := 61) dX12_text_61 bp_11 ?_
  refine g_pI (pc := 63) dX12_text_63 pI_RX12_267 xc_135 (u' := (wr u 135 34 (11 : Int32))) rfl ?_
  refine g_aload_n (pc := 66) dX12_text_66 rfl ?_
  refine g_gR (pc := 67) dX12_text_67 fR_RX12_75 xc_135 (v := 156) rfl ?_
  refine g_aload_n (pc := 70) dX12_text_70 rfl ?_
  refine g_gI (pc := 71) dX12_text_71 fI_RX12_267 xc_135 (v := (11 : Int32)) rfl ?_
  refine g_iconst (pc := 74) dX12_text_74 ic_0 ?_
  refine g_iastore (pc := 75) dX12_text_75 xc_156 vin_11_12 (u' := (wr (wr u 135 34 (11 : Int32)) 156 11 (0 : Int32))) rfl ?_
  refine g_aload_n (pc := 76) dX12_text_76 rfl ?_
  refine g_iconst (pc := 77) dX12_text_77 ic_0 ?_
  refine g_pI (pc := 78) dX12_text_78 pI_RX12_259 xc_135 (u' := (wr (wr (wr u 135 34 (11 : Int32)) 156 11 (0 : Int32)) 135 33 (0 : Int32))) rfl ?_
  refine g_aload_n (pc := 81) dX12_text_81 rfl ?_
  refine g_iload_n (pc := 82) dX12_text_82 rfl ?_
  refine g_bipush (pc := 83) dX12_text_83 bp_60 ?_
  refine g_min (pc := 85) dX12_text_85 mK_RX12_250 (Nat.le_of_ble_eq_true rfl) (Nat.le_trans (Nat.le_of_ble_eq_true rfl) hd) (Nat.zero_le _) (Nat.zero_le _) ?_
  refine g_iload_n (pc := 88) dX12_text_88 rfl ?_
  refine g_iconst (pc := 89) dX12_text_89 ic_1 ?_
  refine g_icmp_ne (tgt := 97) (pc := 90) dX12_text_90 (by decide) (fun c1 => ?_) (fun c1 => ?_)
  · replace h := (if_neg c1).symm.trans h
    refine g_iconst (pc := 97) dX12_text_97 ic_0 ?_
    exact G_X12_text_98 hd v1 v2 v3 (imin v3 (60 : Int32)) (0 : Int32) (wr (wr (wr u 135 34 (11 : Int32)) 156 11 (0 : Int32)) 135 33 (0 : Int32)) h
  · replace h := (if_pos c1).symm.trans h
    refine g_iconst (pc := 93) dX12_text_93 ic_1 ?_
    refine g_goto (tgt := 98) (pc := 94) dX12_text_94 (by decide) ?_
    exact G_X12_text_98 hd v1 v2 v3 (imin v3 (60 : Int32)) (1 : Int32) (wr (wr (wr u 135 34 (11 : Int32)) 156 11 (0 : Int32)) 135 33 (0 : Int32)) h
set_option maxRecDepth 100000 in
set_option maxHeartbeats 4000000 in
theorem G_X12_text_43 {sc : Nat × (Nat → Int32)} {d : Nat} (hd : 607 ≤ d) {r : Int32} {u' : xS} (v1 : Int32) (v2 : Int32) (v3 : Int32) (u : xS) (h : f_X12_text_43 v1 v2 v3 u = some (r, u')) : xG sc mX12_text d 0 0 (xR (some (.int r)) (xL0, u') 0 0) 0 0 43 [some (.ref 135), some (.int v1), some (.int v2), some (.int v3), none, none, none] [] (xL0, u) := by
  rw [f_X12_text_43] at h
  refine g_iload_n (pc := 43) dX12_text_43 rfl ?_
  refine g_iconst (pc := 44) dX12_text_44 ic_1 ?_
  refine g_icmp_ne (tgt := 60) (pc := 45) dX12_text_45 (by decide) (fun c1 => ?_) (fun c1 => ?_)
  · replace h := (if_neg c1).symm.trans h
    exact G_X12_text_60 hd v1 v2 v3 u h
  · replace h := (if_pos c1).symm.trans h
    refine g_aload_n (pc := 48) dX12_text_48 rfl ?_
    refine g_gI (pc := 49) dX12_text_49 fI_RX12_320 xc_135 (v := (rd u 135 28)) rfl ?_
    refine g_bipush (pc := 52) dX12_text_52 bp_6 ?_
    refine g_icmp_ne (tgt := 60) (pc := 54) dX12_text_54 (by decide) (fun c2 => ?_) (fun c2 => ?_)
    · replace h := (if_neg c2).symm.trans h
      exact G_X12_text_60 hd v1 v2 v3 u h
    · replace h := (if_pos c2).symm.trans h
      refine g_bipush (pc := 57) dX12_text_57 bp_m100 ?_
      obtain ⟨h1, h2⟩ := x_inj2 h
      subst h1
      subst h2
      exact g_iret (pc := 59) dX12_text_59 rfl rfl rfl (Nat.le_refl _) (Nat.le_refl _)
set_option maxRecDepth 100000 in
set_option maxHeartbeats 4000000 in
theorem G_X12_text_0 {sc : Nat × (Nat → Int32)} {d : Nat} (hd : 607 ≤ d) {r : Int32} {u' : xS} (v1 : Int32) (v2 : Int32) (u : xS) (h : f_X12_text v1 v2 u = some (r, u')) : xG sc mX12_text d 0 0 (xR (some (.int r)) (xL0, u') 0 0) 0 0 0 [some (.ref 135), some (.int v1), some (.int v2), none, none, none, none] [] (xL0, u) := by
  rw [f_X12_text] at h
  refine g_aload_n (pc := 0) dX12_text_0 rfl ?_
  refine g_iconst (pc := 1) dX12_text_1 ic_0 ?_
  refine g_pI (pc := 2) dX12_text_2 pI_RX12_150 xc_135 (u' := (wr u 135 0 (0 : Int32))) rfl ?_
  refine g_aload_n (pc := 5) dX12_text_5 rfl ?_
  refine g_gI (pc := 6) dX12_text_6 fI_RX12_256 xc_135 (v := (rd u 135 32)) rfl ?_
  refine g_istore_n (pc := 9) dX12_text_9 (Nat.le_of_ble_eq_true rfl) (L' := [some (.ref 135), some (.int v1), some (.int v2), some (.int (rd u 135 32)), none, none, none]) rfl ?_
  refine g_aload_n (pc := 10) dX12_text_10 rfl ?_
  refine g_iconst (pc := 11) dX12_text_11 ic_0 ?_
  refine g_pI (pc := 12) dX12_text_12 pI_RX12_256 xc_135 (u' := (wr (wr u 135 0 (0 : Int32)) 135 32 (0 : Int32))) rfl ?_
  refine g_iload_n (pc := 15) dX12_text_15 rfl ?_
  refine g_i2l (pc := 16) dX12_text_16 rfl ?_
  refine g_lconst (v := (0 : Int64)) (pc := 17) dX12_text_17 rfl ?_
  refine g_ldc2 (pc := 18) dX12_text_18 kl_RX12_318 ?_
  refine g_cS (pc := 21) dX12_text_21 cS_RX12_156 (M_X12_in (Nat.le_refl _) rfl) (as := [.long ((v1).toInt64), .long (0 : Int64), .long (2 : Int64)]) (st := []) rfl rfl (Nat.le_of_ble_eq_true rfl) (Nat.le_trans (Nat.le_of_ble_eq_true rfl) hd) rfl ?_
  refine g_if_eq (tgt := 57) (pc := 24) dX12_text_24 (by decide) (fun c1 => ?_) (fun c1 => ?_)
  · replace h := (if_pos c1).symm.trans h
    refine g_bipush (pc := 57) dX12_text_57 bp_m100 ?_
    obtain ⟨h1, h2⟩ := x_inj2 h
    subst h1
    subst h2
    exact g_iret (pc := 59) dX12_text_59 rfl rfl rfl (Nat.le_refl _) (Nat.le_refl _)
  · replace h := (if_neg c1).symm.trans h
    refine g_iload_n (pc := 27) dX12_text_27 rfl ?_
    refine g_if_ne (tgt := 43) (pc := 28) dX12_text_28 (by decide) (fun c2 => ?_) (fun c2 => ?_)
    · replace h := (if_neg c2).symm.trans h
      exact G_X12_text_43 hd v1 v2 (rd u 135 32) (wr (wr u 135 0 (0 : Int32)) 135 32 (0 : Int32)) h
    · replace h := (if_pos c2).symm.trans h
      refine g_iload_n (pc := 31) dX12_text_31 rfl ?_
      refine g_i2l (pc := 32) dX12_text_32 rfl ?_
      refine g_lconst (v := (0 : Int64)) (pc := 33) dX12_text_33 rfl ?_
      refine g_ldc2 (pc := 34) dX12_text_34 kl_RX12_197 ?_
      refine g_cS (pc := 37) dX12_text_37 cS_RX12_156 (M_X12_in (Nat.le_refl _) rfl) (as := [.long ((v2).toInt64), .long (0 : Int64), .long (3 : Int64)]) (st := []) rfl rfl (Nat.le_of_ble_eq_true rfl) (Nat.le_trans (Nat.le_of_ble_eq_true rfl) hd) rfl ?_
      refine g_if_eq (tgt := 57) (pc := 40) dX12_text_40 (by decide) (fun c3 => ?_) (fun c3 => ?_)
      · replace h := (if_pos c3).symm.trans h
        refine g_bipush (pc := 57) dX12_text_57 bp_m100 ?_
        obtain ⟨h1, h2⟩ := x_inj2 h
        subst h1
        subst h2
        exact g_iret (pc := 59) dX12_text_59 rfl rfl rfl (Nat.le_refl _) (Nat.le_refl _)
      · replace h := (if_neg c3).symm.trans h
        exact G_X12_text_43 hd v1 v2 (rd u 135 32) (wr (wr u 135 0 (0 : Int32)) 135 32 (0 : Int32)) h
set_option maxRecDepth 100000 in
set_option maxHeartbeats 4000000 in
theorem M_X12_text {sc : Nat × (Nat → Int32)} {d : Nat} (hd : 607 ≤ d) {r : Int32} {u u' : xS} {a1 : Int32} {a2 : Int32} (h : f_X12_text a1 a2 u = some (r, u')) : xMt sc mX12_text d 0 0 [.ref 135, .int a1, .int a2] (xL0, u) (some (.int r)) (xL0, u') :=
  xMt.of (by decide +kernel) (by decide +kernel) (Nat.le_of_ble_eq_true rfl) (L := [some (.ref 135), some (.int a1), some (.int a2), none, none, none, none]) rfl ((G_X12_text_0 hd a1 a2 u h))
set_option maxRecDepth 100000 in
set_option maxHeartbeats 4000000 in
theorem G_X12_thrown_0 {sc : Nat × (Nat → Int32)} {d : Nat} (hd : 0 ≤ d) {r : Int32} {u : xS} (h : f_X12_thrown u = r) : xG sc mX12_thrown d 0 0 (xR (some (.int r)) (xL0, u) 0 0) 0 0 0 [some (.ref 135)] [] (xL0, u) := by
  rw [f_X12_thrown] at h
  refine g_aload_n (pc := 0) dX12_thrown_0 rfl ?_
  refine g_gI (pc := 1) dX12_thrown_1 fI_RX12_150 xc_135 (v := (rd u 135 0)) rfl ?_
  subst h
  exact g_iret (pc := 4) dX12_thrown_4 rfl rfl rfl (Nat.le_refl _) (Nat.le_refl _)
set_option maxRecDepth 100000 in
set_option maxHeartbeats 4000000 in
theorem M_X12_thrown {sc : Nat × (Nat → Int32)} {d : Nat} (hd : 0 ≤ d) {r : Int32} {u : xS} (h : f_X12_thrown u = r) : xMt sc mX12_thrown d 0 0 [.ref 135] (xL0, u) (some (.int r)) (xL0, u) :=
  xMt.of (by decide +kernel) (by decide +kernel) (Nat.le_of_ble_eq_true rfl) (L := [some (.ref 135)]) rfl ((G_X12_thrown_0 hd h))
set_option maxRecDepth 100000 in
set_option maxHeartbeats 4000000 in
theorem G_X12_twice_0 {sc : Nat × (Nat → Int32)} {d : Nat} (hd : 2 ≤ d) {r : Int32} {u' : xS} (v1 : Int32) (v2 : Int32) (v3 : Int32) (v4 : Int32) (u : xS) (h : f_X12_twice v1 v2 v3 v4 u = some (r, u')) : xG sc mX12_twice d 0 0 (xR (some (.int r)) (xL0, u') 0 0) 0 0 0 [some (.ref 135), some (.int v1), some (.int v2), some (.int v3), some (.int v4)] [] (xL0, u) := by
  rw [f_X12_twice] at h
  refine g_aload_n (pc := 0) dX12_twice_0 rfl ?_
  refine g_iconst (pc := 1) dX12_twice_1 ic_0 ?_
  refine g_pI (pc := 2) dX12_twice_2 pI_RX12_150 xc_135 (u' := (wr u 135 0 (0 : Int32))) rfl ?_
  refine g_iload_n (pc := 5) dX12_twice_5 rfl ?_
  refine g_cS (pc := 6) dX12_twice_6 cS_RX12_208 (M_X12_isSorter (Nat.le_refl _) rfl) (as := [.int v1]) (st := []) rfl rfl (Nat.le_of_ble_eq_true rfl) (Nat.le_trans (Nat.le_of_ble_eq_true rfl) hd) rfl ?_
  refine g_if_eq (tgt := 50) (pc := 9) dX12_twice_9 (by decide) (fun c1 => ?_) (fun c1 => ?_)
  · replace h := (if_pos c1).symm.trans h
    refine g_iconst (pc := 50) dX12_twice_50 ic_m1 ?_
    obtain ⟨h1, h2⟩ := x_inj2 h
    subst h1
    subst h2
    exact g_iret (pc := 51) dX12_twice_51 rfl rfl rfl (Nat.le_refl _) (Nat.le_refl _)
  · replace h := (if_neg c1).symm.trans h
    refine g_iload_n (pc := 12) dX12_twice_12 rfl ?_
    refine g_cS (pc := 13) dX12_twice_13 cS_RX12_208 (M_X12_isSorter (Nat.le_refl _) rfl) (as := [.int v3]) (st := []) rfl rfl (Nat.le_of_ble_eq_true rfl) (Nat.le_trans (Nat.le_of_ble_eq_true rfl) hd) rfl ?_
    refine g_if_eq (tgt := 50) (pc := 16) dX12_twice_16 (by decide) (fun c2 => ?_) (fun c2 => ?_)
    · replace h := (if_pos c2).symm.trans h
      refine g_iconst (pc := 50) dX12_twice_50 ic_m1 ?_
      obtain ⟨h1, h2⟩ := x_inj2 h
      subst h1
      subst h2
      exact g_iret (pc := 51) dX12_twice_51 rfl rfl rfl (Nat.le_refl _) (Nat.le_refl _)
    · replace h := (if_neg c2).symm.trans h
      refine g_iload_n (pc := 19) dX12_twice_19 rfl ?_
      refine g_iload_n (pc := 20) dX12_twice_20 rfl ?_
      refine g_icmp_eq (tgt := 50) (pc := 21) dX12_twice_21 (by decide) (fun c3 => ?_) (fun c3 => ?_)
      · replace h := (if_pos c3).symm.trans h
        refine g_iconst (pc := 50) dX12_twice_50 ic_m1 ?_
        obtain ⟨h1, h2⟩ := x_inj2 h
        subst h1
        subst h2
        exact g_iret (pc := 51) dX12_twice_51 rfl rfl rfl (Nat.le_refl _) (Nat.le_refl _)
      · replace h := (if_neg c3).symm.trans h
        refine g_aload_n (pc := 24) dX12_twice_24 rfl ?_
        refine g_iload_n (pc := 25) dX12_twice_25 rfl ?_
        refine g_cV (pc := 26) dX12_twice_26 cV_RX12_166 (M_X12_isSort (Nat.le_refl _) rfl) xc_135 (as := [.int v2]) (st := []) rfl rfl (Nat.le_of_ble_eq_true rfl) (Nat.le_trans (Nat.le_of_ble_eq_true rfl) hd) rfl ?_
        refine g_if_eq (tgt := 50) (pc := 29) dX12_twice_29 (by decide) (fun c4 => ?_) (fun c4 => ?_)
        · replace h := (if_pos c4).symm.trans h
          refine g_iconst (pc := 50) dX12_twice_50 ic_m1 ?_
          obtain ⟨h1, h2⟩ := x_inj2 h
          subst h1
          subst h2
          exact g_iret (pc := 51) dX12_twice_51 rfl rfl rfl (Nat.le_refl _) (Nat.le_refl _)
        · replace h := (if_neg c4).symm.trans h
          refine g_aload_n (pc := 32) dX12_twice_32 rfl ?_
          refine g_iload (pc := 33) dX12_twice_33 rfl ?_
          refine g_cV (pc := 35) dX12_twice_35 cV_RX12_166 (M_X12_isSort (Nat.le_refl _) rfl) xc_135 (as := [.int v4]) (st := []) rfl rfl (Nat.le_of_ble_eq_true rfl) (Nat.le_trans (Nat.le_of_ble_eq_true rfl) hd) rfl ?_
          refine g_if_eq (tgt := 50) (pc := 38) dX12_twice_38 (by decide) (fun c5 => ?_) (fun c5 => ?_)
          · replace h := (if_pos c5).symm.trans h
            refine g_iconst (pc := 50) dX12_twice_50 ic_m1 ?_
            obtain ⟨h1, h2⟩ := x_inj2 h
            subst h1
            subst h2
            exact g_iret (pc := 51) dX12_twice_51 rfl rfl rfl (Nat.le_refl _) (Nat.le_refl _)
          · replace h := (if_neg c5).symm.trans h
            refine g_aload_n (pc := 41) dX12_twice_41 rfl ?_
            refine g_gI (pc := 42) dX12_twice_42 fI_RX12_409 xc_135 (v := (rd u 135 46)) rfl ?_
            refine g_bipush (pc := 45) dX12_twice_45 bp_99 ?_
            refine g_icmp_ne (tgt := 52) (pc := 47) dX12_twice_47 (by decide) (fun c6 => ?_) (fun c6 => ?_)
            · replace h := (if_neg c6).symm.trans h
              refine g_aload_n (pc := 52) dX12_twice_52 rfl ?_
              refine g_gR (pc := 53) dX12_twice_53 fR_RX12_108 xc_135 (v := 167) rfl ?_
              refine g_aload_n (pc := 56) dX12_twice_56 rfl ?_
              refine g_gI (pc := 57) dX12_twice_57 fI_RX12_409 xc_135 (v := (rd u 135 46)) rfl ?_
              refine g_iload_n (pc := 60) dX12_twice_60 rfl ?_
              obtain ⟨g7, h⟩ := x_gd h
              refine g_iastore (pc := 61) dX12_twice_61 xc_167 (xin_of g7) (u' := (wr (wr u 135 0 (0 : Int32)) 167 (rd u 135 46).toNatClampNeg v1)) rfl ?_
              refine g_aload_n (pc := 62) dX12_twice_62 rfl ?_
              refine g_gR (pc := 63) dX12_twice_63 fR_RX12_114 xc_135 (v := 169) rfl ?_
              refine g_aload_n (pc := 66) dX12_twice_66 rfl ?_
              refine g_gI (pc := 67) dX12_twice_67 fI_RX12_409 xc_135 (v := (rd u 135 46)) rfl ?_
              refine g_iload_n (pc := 70) dX12_twice_70 rfl ?_
              refine g_iastore (pc := 71) dX12_twice_71 xc_169 (xin_of g7) (u' := (wr (wr (wr u 135 0 (0 : Int32)) 167 (rd u 135 46).toNatClampNeg v1) 169 (rd u 135 46).toNatClampNeg v2)) rfl ?_
              refine g_aload_n (pc := 72) dX12_twice_72 rfl ?_
              refine g_gR (pc := 73) dX12_twice_73 fR_RX12_111 xc_135 (v := 168) rfl ?_
              refine g_aload_n (pc := 76) dX12_twice_76 rfl ?_
              refine g_gI (pc := 77) dX12_twice_77 fI_RX12_409 xc_135 (v := (rd u 135 46)) rfl ?_
              refine g_iload_n (pc := 80) dX12_twice_80 rfl ?_
              refine g_iastore (pc := 81) dX12_twice_81 xc_168 (xin_of g7) (u' := (wr (wr (wr (wr u 135 0 (0 : Int32)) 167 (rd u 135 46).toNatClampNeg v1) 169 (rd u 135 46).toNatClampNeg v2) 168 (rd u 135 46).toNatClampNeg v3)) rfl ?_
              refine g_aload_n (pc := 82) dX12_twice_82 rfl ?_
              refine g_gR (pc := 83) dX12_twice_83 fR_RX12_117 xc_135 (v := 170) rfl ?_
              refine g_aload_n (pc := 86) dX12_twice_86 rfl ?_
              refine g_gI (pc := 87) dX12_twice_87 fI_RX12_409 xc_135 (v := (rd u 135 46)) rfl ?_
              refine g_iload (pc := 90) dX12_twice_90 rfl ?_
              refine g_iastore (pc := 92) dX12_twice_92 xc_170 (xin_of g7) (u' := (wr (wr (wr (wr (wr u 135 0 (0 : Int32)) 167 (rd u 135 46).toNatClampNeg v1) 169 (rd u 135 46).toNatClampNeg v2) 168 (rd u 135 46).toNatClampNeg v3) 170 (rd u 135 46).toNatClampNeg v4)) rfl ?_
              refine g_aload_n (pc := 93) dX12_twice_93 rfl ?_
              refine g_dup (pc := 94) dX12_twice_94 rfl ?_
              refine g_gI (pc := 95) dX12_twice_95 fI_RX12_409 xc_135 (v := (rd u 135 46)) rfl ?_
              refine g_iconst (pc := 98) dX12_twice_98 ic_1 ?_
              refine g_iadd (pc := 99) dX12_twice_99 rfl ?_
              refine g_pI (pc := 100) dX12_twice_100 pI_RX12_409 xc_135 (u' := (wr (wr (wr (wr (wr (wr u 135 0 (0 : Int32)) 167 (rd u 135 46).toNatClampNeg v1) 169 (rd u 135 46).toNatClampNeg v2) 168 (rd u 135 46).toNatClampNeg v3) 170 (rd u 135 46).toNatClampNeg v4) 135 46 ((rd u 135 46) + (1 : Int32)))) rfl ?_
              refine g_aload_n (pc := 103) dX12_twice_103 rfl ?_
              refine g_gI (pc := 104) dX12_twice_104 fI_RX12_409 xc_135 (v := ((rd u 135 46) + (1 : Int32))) rfl ?_
              obtain ⟨h1, h2⟩ := x_inj2 h
              subst h1
              subst h2
              exact g_iret (pc := 107) dX12_twice_107 rfl rfl rfl (Nat.le_refl _) (Nat.le_refl _)
            · replace h := (if_pos c6).symm.trans h
              refine g_iconst (pc := 50) dX12_twice_50 ic_m1 ?_
              obtain ⟨h1, h2⟩ := x_inj2 h
              subst h1
              subst h2
              exact g_iret (pc := 51) dX12_twice_51 rfl rfl rfl (Nat.le_refl _) (Nat.le_refl _)
set_option maxRecDepth 100000 in
set_option maxHeartbeats 4000000 in
theorem M_X12_twice {sc : Nat × (Nat → Int32)} {d : Nat} (hd : 2 ≤ d) {r : Int32} {u u' : xS} {a1 : Int32} {a2 : Int32} {a3 : Int32} {a4 : Int32} (h : f_X12_twice a1 a2 a3 a4 u = some (r, u')) : xMt sc mX12_twice d 0 0 [.ref 135, .int a1, .int a2, .int a3, .int a4] (xL0, u) (some (.int r)) (xL0, u') :=
  xMt.of (by decide +kernel) (by decide +kernel) (Nat.le_of_ble_eq_true rfl) (L := [some (.ref 135), some (.int a1), some (.int a2), some (.int a3), some (.int a4)]) rfl ((G_X12_twice_0 hd a1 a2 a3 a4 u h))
