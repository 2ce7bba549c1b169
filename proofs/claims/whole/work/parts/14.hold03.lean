set_option maxRecDepth 100000 in
set_option maxHeartbeats 4000000 in
theorem G_J1_indexOfChar_4cfef_t4_7 {sc : Nat × (Nat → Int32)} {d : Nat} (hd : 0 ≤ d) {r : Int32} {u : xS} : ∀ (n : Nat) (v3 : Int32) (v4 : Int32) (v5 : Int32), f_J1_indexOfChar_4cfef_t4_7 n v3 v4 v5 = some r → xG sc mJ1_indexOfChar_4cfef d 0 0 (xR (some (.int r)) (xL0, u) 0 0) 0 0 7 [some (.ref (1020 + 4)), none, none, some (.int v3), some (.int v4), some (.int v5)] [] (xL0, u) := by
  intro n
  induction n with
  | zero =>
    intro v3 v4 v5 h
    rw [f_J1_indexOfChar_4cfef_t4_7] at h
    cases h
  | succ n ih =>
    intro v3 v4 v5 h
    rw [f_J1_indexOfChar_4cfef_t4_7] at h
    refine g_iload (pc := 7) dJ1_indexOfChar_4cfef_7 rfl ?_
    refine g_iload_n (pc := 9) dJ1_indexOfChar_4cfef_9 rfl ?_
    refine g_icmp_ge (tgt := 31) (pc := 10) dJ1_indexOfChar_4cfef_10 (by decide) (fun c1 => ?_) (fun c1 => ?_)
    · replace h := (if_pos c1).symm.trans h
      refine g_iconst (pc := 31) dJ1_indexOfChar_4cfef_31 ic_m1 ?_
      replace h := Option.some.inj h
      subst h
      exact g_iret (pc := 32) dJ1_indexOfChar_4cfef_32 rfl rfl rfl (Nat.le_refl _) (Nat.le_refl _)
    · replace h := (if_neg c1).symm.trans h
      refine g_aload_n (pc := 13) dJ1_indexOfChar_4cfef_13 rfl ?_
      refine g_iload (pc := 14) dJ1_indexOfChar_4cfef_14 rfl ?_
      obtain ⟨g2, h⟩ := x_gd h
      refine g_bload 4 (pc := 16) dJ1_indexOfChar_4cfef_16 (by decide) (xin_of g2) rfl ?_
      refine g_iload (pc := 17) dJ1_indexOfChar_4cfef_17 rfl ?_
      refine g_icmp_ne (tgt := 25) (pc := 19) dJ1_indexOfChar_4cfef_19 (by decide) (fun c3 => ?_) (fun c3 => ?_)
      · replace h := (if_neg c3).symm.trans h
        refine g_inc (pc := 25) dJ1_indexOfChar_4cfef_25 (Nat.le_of_ble_eq_true rfl) rfl ic_1 (L' := [some (.ref (1020 + 4)), none, none, some (.int v3), some (.int v4), some (.int (v5 + (1 : Int32)))]) rfl ?_
        refine g_goto (tgt := 7) (pc := 28) dJ1_indexOfChar_4cfef_28 (by decide) ?_
        exact ih v3 v4 (v5 + (1 : Int32)) h
      · replace h := (if_pos c3).symm.trans h
        refine g_iload (pc := 22) dJ1_indexOfChar_4cfef_22 rfl ?_
        replace h := Option.some.inj h
        subst h
        exact g_iret (pc := 24) dJ1_indexOfChar_4cfef_24 rfl rfl rfl (Nat.le_refl _) (Nat.le_refl _)
set_option maxRecDepth 100000 in
set_option maxHeartbeats 4000000 in
theorem G_J1_indexOfChar_4cfef_t4_0 {sc : Nat × (Nat → Int32)} {d : Nat} (hd : 0 ≤ d) {r : Int32} {u : xS} (v1 : Int32) (v2 : Int32) (v3 : Int32) (h : f_J1_indexOfChar_4cfef_t4 v1 v2 v3 = some r) : xG sc mJ1_indexOfChar_4cfef d 0 0 (xR (some (.int r)) (xL0, u) 0 0) 0 0 0 [some (.ref (1020 + 4)), some (.int v1), some (.int v2), some (.int v3), none, none] [] (xL0, u) := by
  rw [f_J1_indexOfChar_4cfef_t4] at h
  refine g_iload_n (pc := 0) dJ1_indexOfChar_4cfef_0 rfl ?_
  refine g_i2b (pc := 1) dJ1_indexOfChar_4cfef_1 rfl ?_
  refine g_istore (pc := 2) dJ1_indexOfChar_4cfef_2 (Nat.le_of_ble_eq_true rfl) (L' := [some (.ref (1020 + 4)), some (.int v1), some (.int v2), some (.int v3), some (.int (v1.toInt8.toInt32)), none]) rfl ?_
  refine g_iload_n (pc := 4) dJ1_indexOfChar_4cfef_4 rfl ?_
  refine g_istore (pc := 5) dJ1_indexOfChar_4cfef_5 (Nat.le_of_ble_eq_true rfl) (L' := [some (.ref (1020 + 4)), some (.int v1), some (.int v2), some (.int v3), some (.int (v1.toInt8.toInt32)), some (.int v2)]) rfl ?_
  refine g_L (L' := [some (.ref (1020 + 4)), none, none, some (.int v3), some (.int (v1.toInt8.toInt32)), some (.int v2)]) ⟨rfl, ⟨rfl, ⟨rfl, ⟨rfl, trivial⟩⟩⟩⟩ ?_
  exact G_J1_indexOfChar_4cfef_t4_7 hd xN v3 (v1.toInt8.toInt32) v2 h
set_option maxRecDepth 100000 in
set_option maxHeartbeats 4000000 in
theorem M_J1_indexOfChar_4cfef_t4 {sc : Nat × (Nat → Int32)} {d : Nat} (hd : 0 ≤ d) {r : Int32} {u : xS} {a1 : Int32} {a2 : Int32} {a3 : Int32} (h : f_J1_indexOfChar_4cfef_t4 a1 a2 a3 = some r) : xMt sc mJ1_indexOfChar_4cfef d 0 0 [.ref (1020 + 4), .int a1, .int a2, .int a3] (xL0, u) (some (.int r)) (xL0, u) :=
  xMt.of (by decide +kernel) (by decide +kernel) (Nat.le_of_ble_eq_true rfl) (L := [some (.ref (1020 + 4)), some (.int a1), some (.int a2), some (.int a3), none, none]) rfl ((G_J1_indexOfChar_4cfef_t4_0 hd a1 a2 a3 h))
set_option maxRecDepth 100000 in
set_option maxHeartbeats 4000000 in
theorem G_J1_indexOf_4cfef_t4_0 {sc : Nat × (Nat → Int32)} {d : Nat} (hd : 1 ≤ d) {r : Int32} {u : xS} (v1 : Int32) (v2 : Int32) (v3 : Int32) (h : f_J1_indexOf_4cfef_t4 v1 v2 v3 = some r) : xG sc mJ1_indexOf_4cfef d 0 0 (xR (some (.int r)) (xL0, u) 0 0) 0 0 0 [some (.ref (1020 + 4)), some (.int v1), some (.int v2), some (.int v3)] [] (xL0, u) := by
  rw [f_J1_indexOf_4cfef_t4] at h
  refine g_iload_n (pc := 0) dJ1_indexOf_4cfef_0 rfl ?_
  refine g_cS (pc := 1) dJ1_indexOf_4cfef_1 cS_RJ1_88 (M_J1_canEncode_9a6ad (Nat.le_refl _) rfl) (as := [.int v1]) (st := []) rfl rfl (Nat.le_of_ble_eq_true rfl) (Nat.le_trans (Nat.le_of_ble_eq_true rfl) hd) rfl ?_
  refine g_if_ne (tgt := 9) (pc := 4) dJ1_indexOf_4cfef_4 (by decide) (fun c1 => ?_) (fun c1 => ?_)
  · replace h := (if_neg c1).symm.trans h
    refine g_iload_n (pc := 9) dJ1_indexOf_4cfef_9 rfl ?_
    refine g_iconst (pc := 10) dJ1_indexOf_4cfef_10 ic_0 ?_
    refine g_max (pc := 11) dJ1_indexOf_4cfef_11 mK_RJ1_92 (Nat.le_of_ble_eq_true rfl) (Nat.le_trans (Nat.le_of_ble_eq_true rfl) hd) (Nat.zero_le _) (Nat.zero_le _) ?_
    refine g_istore_n (pc := 14) dJ1_indexOf_4cfef_14 (Nat.le_of_ble_eq_true rfl) (L' := [some (.ref (1020 + 4)), some (.int v1), some (.int (imax v2 (0 : Int32))), some (.int v3)]) rfl ?_
    refine g_iload_n (pc := 15) dJ1_indexOf_4cfef_15 rfl ?_
    refine g_aload_n (pc := 16) dJ1_indexOf_4cfef_16 rfl ?_
    refine g_blen 4 (pc := 17) dJ1_indexOf_4cfef_17 (by decide) (v := (2 : Int32)) rfl ?_
    refine g_min (pc := 18) dJ1_indexOf_4cfef_18 mK_RJ1_38 (Nat.le_of_ble_eq_true rfl) (Nat.le_trans (Nat.le_of_ble_eq_true rfl) hd) (Nat.zero_le _) (Nat.zero_le _) ?_
    refine g_istore_n (pc := 21) dJ1_indexOf_4cfef_21 (Nat.le_of_ble_eq_true rfl) (L' := [some (.ref (1020 + 4)), some (.int v1), some (.int (imax v2 (0 : Int32))), some (.int (imin v3 (2 : Int32)))]) rfl ?_
    refine g_iload_n (pc := 22) dJ1_indexOf_4cfef_22 rfl ?_
    refine g_iload_n (pc := 23) dJ1_indexOf_4cfef_23 rfl ?_
    refine g_icmp_lt (tgt := 29) (pc := 24) dJ1_indexOf_4cfef_24 (by decide) (fun c2 => ?_) (fun c2 => ?_)
    · replace h := (if_pos c2).symm.trans h
      refine g_aload_n (pc := 29) dJ1_indexOf_4cfef_29 rfl ?_
      refine g_iload_n (pc := 30) dJ1_indexOf_4cfef_30 rfl ?_
      refine g_iload_n (pc := 31) dJ1_indexOf_4cfef_31 rfl ?_
      refine g_iload_n (pc := 32) dJ1_indexOf_4cfef_32 rfl ?_
      obtain ⟨x4, e3, h⟩ := x_bind h
      refine g_cS (pc := 33) dJ1_indexOf_4cfef_33 cS_RJ1_95 (M_J1_indexOfChar_4cfef_t4 (Nat.le_refl _) e3) (as := [.ref (1020 + 4), .int v1, .int (imax v2 (0 : Int32)), .int (imin v3 (2 : Int32))]) (st := []) rfl rfl (Nat.le_of_ble_eq_true rfl) (Nat.le_trans (Nat.le_of_ble_eq_true rfl) hd) rfl ?_
      replace h := Option.some.inj h
      subst h
      exact g_iret (pc := 36) dJ1_indexOf_4cfef_36 rfl rfl rfl (Nat.le_refl _) (Nat.le_refl _)
    · replace h := (if_neg c2).symm.trans h
      refine g_iconst (pc := 27) dJ1_indexOf_4cfef_27 ic_m1 ?_
      replace h := Option.some.inj h
      subst h
      exact g_iret (pc := 28) dJ1_indexOf_4cfef_28 rfl rfl rfl (Nat.le_refl _) (Nat.le_refl _)
  · replace h := (if_pos c1).symm.trans h
    refine g_iconst (pc := 7) dJ1_indexOf_4cfef_7 ic_m1 ?_
    replace h := Option.some.inj h
    subst h
    exact g_iret (pc := 8) dJ1_indexOf_4cfef_8 rfl rfl rfl (Nat.le_refl _) (Nat.le_refl _)
set_option maxRecDepth 100000 in
set_option maxHeartbeats 4000000 in
theorem M_J1_indexOf_4cfef_t4 {sc : Nat × (Nat → Int32)} {d : Nat} (hd : 1 ≤ d) {r : Int32} {u : xS} {a1 : Int32} {a2 : Int32} {a3 : Int32} (h : f_J1_indexOf_4cfef_t4 a1 a2 a3 = some r) : xMt sc mJ1_indexOf_4cfef d 0 0 [.ref (1020 + 4), .int a1, .int a2, .int a3] (xL0, u) (some (.int r)) (xL0, u) :=
  xMt.of (by decide +kernel) (by decide +kernel) (Nat.le_of_ble_eq_true rfl) (L := [some (.ref (1020 + 4)), some (.int a1), some (.int a2), some (.int a3)]) rfl ((G_J1_indexOf_4cfef_t4_0 hd a1 a2 a3 h))
set_option maxRecDepth 100000 in
set_option maxHeartbeats 4000000 in
theorem G_J0_indexOf_7cf53_t4_0 {sc : Nat × (Nat → Int32)} {d : Nat} (hd : 2 ≤ d) {r : Int32} {u : xS} (v1 : Int32) (v2 : Int32) (h : f_J0_indexOf_7cf53_t4 v1 v2 = some r) : xG sc mJ0_indexOf_7cf53 d 0 0 (xR (some (.int r)) (xL0, u) 0 0) 0 0 0 [some (.ref (1010 + 4)), some (.int v1), some (.int v2)] [] (xL0, u) := by
  rw [f_J0_indexOf_7cf53_t4] at h
  refine g_aload_n (pc := 0) dJ0_indexOf_7cf53_0 rfl ?_
  refine g_cT 4 (pc := 1) dJ0_indexOf_7cf53_1 cT_RJ0_492 (M_J0_isLatin1_aae02_t4 (Nat.le_refl _) (rfl : f_J0_isLatin1_aae02_t4 = (1 : Int32))) (by decide) (as := []) (st := []) rfl rfl (Nat.le_of_ble_eq_true rfl) (Nat.le_trans (Nat.le_of_ble_eq_true rfl) hd) rfl ?_
  refine g_if_eq (tgt := 23) (pc := 4) dJ0_indexOf_7cf53_4 (by decide) (fun c1 => absurd c1 (by decide)) (fun _ => ?_)
  refine g_aload_n (pc := 7) dJ0_indexOf_7cf53_7 rfl ?_
  refine g_strV 4 (pc := 8) dJ0_indexOf_7cf53_8 fs_RJ0_9 (by decide) ?_
  refine g_iload_n (pc := 11) dJ0_indexOf_7cf53_11 rfl ?_
  refine g_iload_n (pc := 12) dJ0_indexOf_7cf53_12 rfl ?_
  refine g_aload_n (pc := 13) dJ0_indexOf_7cf53_13 rfl ?_
  refine g_cT 4 (pc := 14) dJ0_indexOf_7cf53_14 cT_RJ0_505 (M_J0_length_8abf5_t4 (Nat.le_refl _) rfl) (by decide) (as := []) (st := [.int v2, .int v1, .ref (1020 + 4)]) rfl rfl (Nat.le_of_ble_eq_true rfl) (Nat.le_trans (Nat.le_of_ble_eq_true rfl) hd) rfl ?_
  obtain ⟨x3, e2, h⟩ := x_bind h
  refine g_cS (pc := 17) dJ0_indexOf_7cf53_17 cS_RJ0_637 (M_J1_indexOf_4cfef_t4 (Nat.le_refl _) e2) (as := [.ref (1020 + 4), .int v1, .int v2, .int (f_J0_length_8abf5_t4)]) (st := []) rfl rfl (Nat.le_of_ble_eq_true rfl) (Nat.le_trans (Nat.le_of_ble_eq_true rfl) hd) rfl ?_
  refine g_goto (tgt := 36) (pc := 20) dJ0_indexOf_7cf53_20 (by decide) ?_
  replace h := Option.some.inj h
  subst h
  exact g_iret (pc := 36) dJ0_indexOf_7cf53_36 rfl rfl rfl (Nat.le_refl _) (Nat.le_refl _)
set_option maxRecDepth 100000 in
set_option maxHeartbeats 4000000 in
theorem M_J0_indexOf_7cf53_t4 {sc : Nat × (Nat → Int32)} {d : Nat} (hd : 2 ≤ d) {r : Int32} {u : xS} {a1 : Int32} {a2 : Int32} (h : f_J0_indexOf_7cf53_t4 a1 a2 = some r) : xMt sc mJ0_indexOf_7cf53 d 0 0 [.ref (1010 + 4), .int a1, .int a2] (xL0, u) (some (.int r)) (xL0, u) :=
  xMt.of (by decide +kernel) (by decide +kernel) (Nat.le_of_ble_eq_true rfl) (L := [some (.ref (1010 + 4)), some (.int a1), some (.int a2)]) rfl ((G_J0_indexOf_7cf53_t4_0 hd a1 a2 h))
set_option maxRecDepth 100000 in
set_option maxHeartbeats 4000000 in
theorem G_J0_indexOf_0f7a4_t4_0 {sc : Nat × (Nat → Int32)} {d : Nat} (hd : 3 ≤ d) {r : Int32} {u : xS} (v1 : Int32) (h : f_J0_indexOf_0f7a4_t4 v1 = some r) : xG sc mJ0_indexOf_0f7a4 d 0 0 (xR (some (.int r)) (xL0, u) 0 0) 0 0 0 [some (.ref (1010 + 4)), some (.int v1)] [] (xL0, u) := by
  rw [f_J0_indexOf_0f7a4_t4] at h
  refine g_aload_n (pc := 0) dJ0_indexOf_0f7a4_0 rfl ?_
  refine g_iload_n (pc := 1) dJ0_indexOf_0f7a4_1 rfl ?_
  refine g_iconst (pc := 2) dJ0_indexOf_0f7a4_2 ic_0 ?_
  obtain ⟨x2, e1, h⟩ := x_bind h
  refine g_cT 4 (pc := 3) dJ0_indexOf_0f7a4_3 cT_RJ0_633 (M_J0_indexOf_7cf53_t4 (Nat.le_refl _) e1) (by decide) (as := [.int v1, .int (0 : Int32)]) (st := []) rfl rfl (Nat.le_of_ble_eq_true rfl) (Nat.le_trans (Nat.le_of_ble_eq_true rfl) hd) rfl ?_
  replace h := Option.some.inj h
  subst h
  exact g_iret (pc := 6) dJ0_indexOf_0f7a4_6 rfl rfl rfl (Nat.le_refl _) (Nat.le_refl _)
set_option maxRecDepth 100000 in
set_option maxHeartbeats 4000000 in
theorem M_J0_indexOf_0f7a4_t4 {sc : Nat × (Nat → Int32)} {d : Nat} (hd : 3 ≤ d) {r : Int32} {u : xS} {a1 : Int32} (h : f_J0_indexOf_0f7a4_t4 a1 = some r) : xMt sc mJ0_indexOf_0f7a4 d 0 0 [.ref (1010 + 4), .int a1] (xL0, u) (some (.int r)) (xL0, u) :=
  xMt.of (by decide +kernel) (by decide +kernel) (Nat.le_of_ble_eq_true rfl) (L := [some (.ref (1010 + 4)), some (.int a1)]) rfl ((G_J0_indexOf_0f7a4_t4_0 hd a1 h))
set_option maxRecDepth 100000 in
set_option maxHeartbeats 4000000 in
theorem G_X12_isOf_t4_0 {sc : Nat × (Nat → Int32)} {d : Nat} (hd : 4 ≤ d) {r : Int32} {u : xS} (v1 : Int32) (h : f_X12_isOf_t4 u v1 = some r) : xG sc mX12_isOf d 0 0 (xR (some (.int r)) (xL0, u) 0 0) 0 0 0 [some (.ref 135), some (.int v1), some (.ref (1010 + 4))] [] (xL0, u) := by
  rw [f_X12_isOf_t4] at h
  refine g_aload_n (pc := 0) dX12_isOf_0 rfl ?_
  refine g_gI (pc := 1) dX12_isOf_1 fI_RX12_259 xc_135 (v := (rd u 135 33)) rfl ?_
  refine g_iload_n (pc := 4) dX12_isOf_4 rfl ?_
  refine g_icmp_ge (tgt := 40) (pc := 5) dX12_isOf_5 (by decide) (fun c1 => ?_) (fun c1 => ?_)
  · replace h := (if_pos c1).symm.trans h
    refine g_iconst (pc := 40) dX12_isOf_40 ic_0 ?_
    replace h := Option.some.inj h
    subst h
    exact g_zret (pc := 41) dX12_isOf_41 rfl (Or.inl rfl) rfl rfl (Nat.le_refl _) (Nat.le_refl _)
  · replace h := (if_neg c1).symm.trans h
    refine g_aload_n (pc := 8) dX12_isOf_8 rfl ?_
    refine g_gR (pc := 9) dX12_isOf_9 fR_RX12_84 xc_135 (v := 159) rfl ?_
    refine g_aload_n (pc := 12) dX12_isOf_12 rfl ?_
    refine g_gI (pc := 13) dX12_isOf_13 fI_RX12_259 xc_135 (v := (rd u 135 33)) rfl ?_
    obtain ⟨g2, h⟩ := x_gd h
    refine g_iaload (pc := 16) dX12_isOf_16 xc_159 (xin_of g2) (v := (rd u 159 (rd u 135 33).toNatClampNeg)) rfl ?_
    refine g_if_le (tgt := 40) (pc := 17) dX12_isOf_17 (by decide) (fun c3 => ?_) (fun c3 => ?_)
    · replace h := (if_pos c3).symm.trans h
      refine g_iconst (pc := 40) dX12_isOf_40 ic_0 ?_
      replace h := Option.some.inj h
      subst h
      exact g_zret (pc := 41) dX12_isOf_41 rfl (Or.inl rfl) rfl rfl (Nat.le_refl _) (Nat.le_refl _)
    · replace h := (if_neg c3).symm.trans h
      refine g_aload_n (pc := 20) dX12_isOf_20 rfl ?_
      refine g_aload_n (pc := 21) dX12_isOf_21 rfl ?_
      refine g_gR (pc := 22) dX12_isOf_22 fR_RX12_84 xc_135 (v := 159) rfl ?_
      refine g_aload_n (pc := 25) dX12_isOf_25 rfl ?_
      refine g_gI (pc := 26) dX12_isOf_26 fI_RX12_259 xc_135 (v := (rd u 135 33)) rfl ?_
      refine g_iaload (pc := 29) dX12_isOf_29 xc_159 (xin_of g2) (v := (rd u 159 (rd u 135 33).toNatClampNeg)) rfl ?_
      obtain ⟨x5, e4, h⟩ := x_bind h
      refine g_cT 4 (pc := 30) dX12_isOf_30 cT_RX12_262 (M_J0_indexOf_0f7a4_t4 (Nat.le_refl _) e4) (by decide) (as := [.int (rd u 159 (rd u 135 33).toNatClampNeg)]) (st := []) rfl rfl (Nat.le_of_ble_eq_true rfl) (Nat.le_trans (Nat.le_of_ble_eq_true rfl) hd) rfl ?_
      refine g_if_lt (tgt := 40) (pc := 33) dX12_isOf_33 (by decide) (fun c6 => ?_) (fun c6 => ?_)
      · replace h := (if_pos c6).symm.trans h
        refine g_iconst (pc := 40) dX12_isOf_40 ic_0 ?_
        replace h := Option.some.inj h
        subst h
        exact g_zret (pc := 41) dX12_isOf_41 rfl (Or.inl rfl) rfl rfl (Nat.le_refl _) (Nat.le_refl _)
      · replace h := (if_neg c6).symm.trans h
        refine g_iconst (pc := 36) dX12_isOf_36 ic_1 ?_
        refine g_goto (tgt := 41) (pc := 37) dX12_isOf_37 (by decide) ?_
        replace h := Option.some.inj h
        subst h
        exact g_zret (pc := 41) dX12_isOf_41 rfl (Or.inr rfl) rfl rfl (Nat.le_refl _) (Nat.le_refl _)
set_option maxRecDepth 100000 in
set_option maxHeartbeats 4000000 in
theorem M_X12_isOf_t4 {sc : Nat × (Nat → Int32)} {d : Nat} (hd : 4 ≤ d) {r : Int32} {u : xS} {a1 : Int32} (h : f_X12_isOf_t4 u a1 = some r) : xMt sc mX12_isOf d 0 0 [.ref 135, .int a1, .ref (1010 + 4)] (xL0, u) (some (.int r)) (xL0, u) :=
  xMt.of (by decide +kernel) (by decide +kernel) (Nat.le_of_ble_eq_true rfl) (L := [some (.ref 135), some (.int a1), some (.ref (1010 + 4))]) rfl ((G_X12_isOf_t4_0 hd a1 h))
set_option maxRecDepth 100000 in
set_option maxHeartbeats 4000000 in
theorem G_X12_total_59 {sc : Nat × (Nat → Int32)} {d : Nat} (hd : 5 ≤ d) {r : Int32} {u' : xS} {dk : Nat} (hkd : dk + 1 ≤ d) {k_X12_product : Int32 → xS → Option (Int32 × xS)} (hk_X12_product : ∀ (a1 : Int32) (u u' : xS) (r : Int32), k_X12_product a1 u = some (r, u') → xMt sc mX12_product dk 0 0 [.ref 135, .int a1] (xL0, u) (some (.int r)) (xL0, u')) {k6 : Int32 → Int32 → xS → Option (Int32 × xS)} (hk6 : ∀ (v1 : Int32) (v2 : Int32) (u : xS), k6 v1 v2 u = some (r, u') → xG sc mX12_total d 0 0 (xR (some (.int r)) (xL0, u') 0 0) 0 0 6 [some (.ref 135), some (.int v1), some (.int v2), none] [] (xL0, u)) (v1 : Int32) (v2 : Int32) (u : xS) (h : f_X12_total_59 k_X12_product k6 v1 v2 u = some (r, u')) : xG sc mX12_total d 0 0 (xR (some (.int r)) (xL0, u') 0 0) 0 0 59 [some (.ref 135), some (.int v1), some (.int v2), none] [] (xL0, u) := by
  rw [f_X12_total_59] at h
  refine g_goto (tgt := 6) (pc := 59) dX12_total_59 (by decide) ?_
  exact hk6 v1 v2 u h
set_option maxRecDepth 100000 in
set_option maxHeartbeats 4000000 in
theorem G_X12_total_6 {sc : Nat × (Nat → Int32)} {d : Nat} (hd : 5 ≤ d) {r : Int32} {u' : xS} {dk : Nat} (hkd : dk + 1 ≤ d) {k_X12_product : Int32 → xS → Option (Int32 × xS)} (hk_X12_product : ∀ (a1 : Int32) (u u' : xS) (r : Int32), k_X12_product a1 u = some (r, u') → xMt sc mX12_product dk 0 0 [.ref 135, .int a1] (xL0, u) (some (.int r)) (xL0, u')) : ∀ (n : Nat) (v1 : Int32) (v2 : Int32) (u : xS), f_X12_total_6 k_X12_product n v1 v2 u = some (r, u') → xG sc mX12_total d 0 0 (xR (some (.int r)) (xL0, u') 0 0) 0 0 6 [some (.ref 135), some (.int v1), some (.int v2), none] [] (xL0, u) := by
  intro n
  induction n with
  | zero =>
    intro v1 v2 u h
    rw [f_X12_total_6] at h
    cases h
  | succ n ih =>
    intro v1 v2 u h
    rw [f_X12_total_6] at h
    refine g_iload_n (pc := 6) dX12_total_6 rfl ?_
    refine g_if_eq (tgt := 62) (pc := 7) dX12_total_7 (by decide) (fun c1 => ?_) (fun c1 => ?_)
    · replace h := (if_pos c1).symm.trans h
      refine g_iload_n (pc := 62) dX12_total_62 rfl ?_
      obtain ⟨g2, h⟩ := x_gd h
      obtain ⟨h1, h2⟩ := x_inj2 h
      subst h1
      subst h2
      exact g_zret (pc := 63) dX12_total_63 rfl (xb_of g2) rfl rfl (Nat.le_refl _) (Nat.le_refl _)
    · replace h := (if_neg c1).symm.trans h
      refine g_aload_n (pc := 10) dX12_total_10 rfl ?_
      refine g_iload_n (pc := 11) dX12_total_11 rfl ?_
      refine g_ldcSw 4 (pc := 12) dX12_total_12 rfl rfl ?_
      obtain ⟨x4, e3, h⟩ := x_bind h
      refine g_cV (pc := 15) dX12_total_15 cV_RX12_272 (M_X12_isOf_t4 (Nat.le_refl _) e3) xc_135 (as := [.int v1, .ref (1010 + 4)]) (st := []) rfl rfl (Nat.le_of_ble_eq_true rfl) (Nat.le_trans (Nat.le_of_ble_eq_true rfl) hd) rfl ?_
      refine g_if_eq (tgt := 62) (pc := 18) dX12_total_18 (by decide) (fun c5 => ?_) (fun c5 => ?_)
      · replace h := (if_pos c5).symm.trans h
        refine g_iload_n (pc := 62) dX12_total_62 rfl ?_
        obtain ⟨g6, h⟩ := x_gd h
        obtain ⟨h1, h2⟩ := x_inj2 h
        subst h1
        subst h2
        exact g_zret (pc := 63) dX12_total_63 rfl (xb_of g6) rfl rfl (Nat.le_refl _) (Nat.le_refl _)
      · replace h := (if_neg c5).symm.trans h
        refine g_aload_n (pc := 21) dX12_total_21 rfl ?_
        refine g_gR (pc := 22) dX12_total_22 fR_RX12_84 xc_135 (v := 159) rfl ?_
        refine g_aload_n (pc := 25) dX12_total_25 rfl ?_
        refine g_gI (pc := 26) dX12_total_26 fI_RX12_259 xc_135 (v := (rd u 135 33)) rfl ?_
        obtain ⟨g7, h⟩ := x_gd h
        refine g_iaload (pc := 29) dX12_total_29 xc_159 (xin_of g7) (v := (rd u 159 (rd u 135 33).toNatClampNeg)) rfl ?_
        refine g_istore_n (pc := 30) dX12_total_30 (Nat.le_of_ble_eq_true rfl) (L' := [some (.ref 135), some (.int v1), some (.int v2), some (.int (rd u 159 (rd u 135 33).toNatClampNeg))]) rfl ?_
        refine g_aload_n (pc := 31) dX12_total_31 rfl ?_
        refine g_dup (pc := 32) dX12_total_32 rfl ?_
        refine g_gI (pc := 33) dX12_total_33 fI_RX12_259 xc_135 (v := (rd u 135 33)) rfl ?_
        refine g_iconst (pc := 36) dX12_total_36 ic_1 ?_
        refine g_iadd (pc := 37) dX12_total_37 rfl ?_
        refine g_pI (pc := 38) dX12_total_38 pI_RX12_259 xc_135 (u' := (wr u 135 33 ((rd u 135 33) + (1 : Int32)))) rfl ?_
        refine g_aload_n (pc := 41) dX12_total_41 rfl ?_
        refine g_iload_n (pc := 42) dX12_total_42 rfl ?_
        obtain ⟨⟨x9, u10⟩, e8, h⟩ := x_bind h
        dsimp only at h
        refine g_cV (pc := 43) dX12_total_43 cV_RX12_302 (hk_X12_product _ _ _ _ e8) xc_135 (as := [.int v1]) (st := []) rfl rfl (Nat.le_of_ble_eq_true rfl) hkd rfl ?_
        refine g_istore_n (pc := 46) dX12_total_46 (Nat.le_of_ble_eq_true rfl) (L' := [some (.ref 135), some (.int v1), some (.int x9), some (.int (rd u 159 (rd u 135 33).toNatClampNeg))]) rfl ?_
        refine g_iload_n (pc := 47) dX12_total_47 rfl ?_
        refine g_if_eq (tgt := 59) (pc := 48) dX12_total_48 (by decide) (fun c11 => ?_) (fun c11 => ?_)
        · replace h := (if_pos c11).symm.trans h
          refine g_L (L' := [some (.ref 135), some (.int v1), some (.int x9), none]) ⟨rfl, ⟨rfl, ⟨rfl, trivial⟩⟩⟩ ?_
          exact G_X12_total_59 hd hkd hk_X12_product ih v1 x9 u10 h
        · replace h := (if_neg c11).symm.trans h
          refine g_aload_n (pc := 51) dX12_total_51 rfl ?_
          refine g_iload_n (pc := 52) dX12_total_52 rfl ?_
          refine g_cS (pc := 53) dX12_total_53 cS_RX12_297 (M_X12_act (Nat.le_refl _) rfl) (as := [.int (rd u 159 (rd u 135 33).toNatClampNeg)]) (st := [.ref 135]) rfl rfl (Nat.le_of_ble_eq_true rfl) (Nat.le_trans (Nat.le_of_ble_eq_true rfl) hd) rfl ?_
          obtain ⟨u13, e12, h⟩ := x_bind h
          refine g_cV (pc := 56) dX12_total_56 cV_RX12_276 (M_X12_marks (Nat.le_refl _) e12) xc_135 (as := [.int (f_X12_act (rd u 159 (rd u 135 33).toNatClampNeg))]) (st := []) rfl rfl (Nat.le_of_ble_eq_true rfl) (Nat.le_trans (Nat.le_of_ble_eq_true rfl) hd) rfl ?_
          refine g_L (L' := [some (.ref 135), some (.int v1), some (.int x9), none]) ⟨rfl, ⟨rfl, ⟨rfl, trivial⟩⟩⟩ ?_
          exact G_X12_total_59 hd hkd hk_X12_product ih v1 x9 u13 h
set_option maxRecDepth 100000 in
set_option maxHeartbeats 4000000 in
theorem G_X12_total_0 {sc : Nat × (Nat → Int32)} {d : Nat} (hd : 5 ≤ d) {r : Int32} {u' : xS} {dk : Nat} (hkd : dk + 1 ≤ d) {k_X12_product : Int32 → xS → Option (Int32 × xS)} (hk_X12_product : ∀ (a1 : Int32) (u u' : xS) (r : Int32), k_X12_product a1 u = some (r, u') → xMt sc mX12_product dk 0 0 [.ref 135, .int a1] (xL0, u) (some (.int r)) (xL0, u')) (v1 : Int32) (u : xS) (h : f_X12_total k_X12_product v1 u = some (r, u')) : xG sc mX12_total d 0 0 (xR (some (.int r)) (xL0, u') 0 0) 0 0 0 [some (.ref 135), some (.int v1), none, none] [] (xL0, u) := by
  rw [f_X12_total] at h
  refine g_aload_n (pc := 0) dX12_total_0 rfl ?_
  refine g_iload_n (pc := 1) dX12_total_1 rfl ?_
  obtain ⟨⟨x2, u3⟩, e1, h⟩ := x_bind h
  dsimp only at h
  refine g_cV (pc := 2) dX12_total_2 cV_RX12_302 (hk_X12_product _ _ _ _ e1) xc_135 (as := [.int v1]) (st := []) rfl rfl (Nat.le_of_ble_eq_true rfl) hkd rfl ?_
  refine g_istore_n (pc := 5) dX12_total_5 (Nat.le_of_ble_eq_true rfl) (L' := [some (.ref 135), some (.int v1), some (.int x2), none]) rfl ?_
  exact G_X12_total_6 hd hkd hk_X12_product xN v1 x2 u3 h
set_option maxRecDepth 100000 in
set_option maxHeartbeats 4000000 in
theorem M_X12_total {sc : Nat × (Nat → Int32)} {d : Nat} (hd : 5 ≤ d) {r : Int32} {u u' : xS} {dk : Nat} (hkd : dk + 1 ≤ d) {k_X12_product : Int32 → xS → Option (Int32 × xS)} (hk_X12_product : ∀ (a1 : Int32) (u u' : xS) (r : Int32), k_X12_product a1 u = some (r, u') → xMt sc mX12_product dk 0 0 [.ref 135, .int a1] (xL0, u) (some (.int r)) (xL0, u')) {a1 : Int32} (h : f_X12_total k_X12_product a1 u = some (r, u')) : xMt sc mX12_total d 0 0 [.ref 135, .int a1] (xL0, u) (some (.int r)) (xL0, u') :=
  xMt.of (by decide +kernel) (by decide +kernel) (Nat.le_of_ble_eq_true rfl) (L := [some (.ref 135), some (.int a1), none, none]) rfl ((G_X12_total_0 hd hkd hk_X12_product a1 u h))
theorem zb_J0_isLatin1_aae02_t5 : f_J0_isLatin1_aae02_t5 = 0 ∨ f_J0_isLatin1_aae02_t5 = 1 := by
  unfold f_J0_isLatin1_aae02_t5
  repeat' first | exact Or.inl rfl | exact Or.inr rfl | apply x_ite
set_option maxRecDepth 100000 in
set_option maxHeartbeats 4000000 in
theorem G_J0_isLatin1_aae02_t5_0 {sc : Nat × (Nat → Int32)} {d : Nat} (hd : 0 ≤ d) {r : Int32} {u : xS} (h : f_J0_isLatin1_aae02_t5 = r) : xG sc mJ0_isLatin1_aae02 d 0 0 (xR (some (.int r)) (xL0, u) 0 0) 0 0 0 [some (.ref (1010 + 5))] [] (xL0, u) := by
  rw [f_J0_isLatin1_aae02_t5] at h
  refine g_getsC (pc := 0) dJ0_isLatin1_aae02_0 fs_RJ0_38 ?_
  refine g_if_eq (tgt := 17) (pc := 3) dJ0_isLatin1_aae02_3 (by decide) (fun c1 => absurd c1 (by decide)) (fun _ => ?_)
  refine g_aload_n (pc := 6) dJ0_isLatin1_aae02_6 rfl ?_
  refine g_strC 5 (pc := 7) dJ0_isLatin1_aae02_7 fs_RJ0_15 (by decide) ?_
  refine g_if_ne (tgt := 17) (pc := 10) dJ0_isLatin1_aae02_10 (by decide) (fun c2 => absurd c2 (by decide)) (fun _ => ?_)
  refine g_iconst (pc := 13) dJ0_isLatin1_aae02_13 ic_1 ?_
  refine g_goto (tgt := 18) (pc := 14) dJ0_isLatin1_aae02_14 (by decide) ?_
  subst h
  exact g_zret (pc := 18) dJ0_isLatin1_aae02_18 rfl (Or.inr rfl) rfl rfl (Nat.le_refl _) (Nat.le_refl _)
set_option maxRecDepth 100000 in
set_option maxHeartbeats 4000000 in
theorem M_J0_isLatin1_aae02_t5 {sc : Nat × (Nat → Int32)} {d : Nat} (hd : 0 ≤ d) {r : Int32} {u : xS} (h : f_J0_isLatin1_aae02_t5 = r) : xMt sc mJ0_isLatin1_aae02 d 0 0 [.ref (1010 + 5)] (xL0, u) (some (.int r)) (xL0, u) :=
  xMt.of (by decide +kernel) (by decide +kernel) (Nat.le_of_ble_eq_true rfl) (L := [some (.ref (1010 + 5))]) rfl ((G_J0_isLatin1_aae02_t5_0 hd h))
set_option maxRecDepth 100000 in
set_option maxHeartbeats 4000000 in
theorem G_J0_coder_7d493_t5_0 {sc : Nat × (Nat → Int32)} {d : Nat} (hd : 0 ≤ d) {r : Int32} {u : xS} (h : f_J0_coder_7d493_t5 = r) : xG sc mJ0_coder_7d493 d 0 0 (xR (some (.int r)) (xL0, u) 0 0) 0 0 0 [some (.ref (1010 + 5))] [] (xL0, u) := by
  rw [f_J0_coder_7d493_t5] at h
  refine g_getsC (pc := 0) dJ0_coder_7d493_0 fs_RJ0_38 ?_
  refine g_if_eq (tgt := 13) (pc := 3) dJ0_coder_7d493_3 (by decide) (fun c1 => absurd c1 (by decide)) (fun _ => ?_)
  refine g_aload_n (pc := 6) dJ0_coder_7d493_6 rfl ?_
  refine g_strC 5 (pc := 7) dJ0_coder_7d493_7 fs_RJ0_15 (by decide) ?_
  refine g_goto (tgt := 14) (pc := 10) dJ0_coder_7d493_10 (by decide) ?_
  subst h
  exact g_bret (pc := 14) dJ0_coder_7d493_14 rfl rfl rfl rfl (Nat.le_refl _) (Nat.le_refl _)
set_option maxRecDepth 100000 in
set_option maxHeartbeats 4000000 in
theorem M_J0_coder_7d493_t5 {sc : Nat × (Nat → Int32)} {d : Nat} (hd : 0 ≤ d) {r : Int32} {u : xS} (h : f_J0_coder_7d493_t5 = r) : xMt sc mJ0_coder_7d493 d 0 0 [.ref (1010 + 5)] (xL0, u) (some (.int r)) (xL0, u) :=
  xMt.of (by decide +kernel) (by decide +kernel) (Nat.le_of_ble_eq_true rfl) (L := [some (.ref (1010 + 5))]) rfl ((G_J0_coder_7d493_t5_0 hd h))
set_option maxRecDepth 100000 in
set_option maxHeartbeats 4000000 in
theorem G_J0_length_8abf5_t5_0 {sc : Nat × (Nat → Int32)} {d : Nat} (hd : 1 ≤ d) {r : Int32} {u : xS} (h : f_J0_length_8abf5_t5 = r) : xG sc mJ0_length_8abf5 d 0 0 (xR (some (.int r)) (xL0, u) 0 0) 0 0 0 [some (.ref (1010 + 5))] [] (xL0, u) := by
  rw [f_J0_length_8abf5_t5] at h
  refine g_aload_n (pc := 0) dJ0_length_8abf5_0 rfl ?_
  refine g_strV 5 (pc := 1) dJ0_length_8abf5_1 fs_RJ0_9 (by decide) ?_
  refine g_blen 5 (pc := 4) dJ0_length_8abf5_4 (by decide) (v := (3 : Int32)) rfl ?_
  refine g_aload_n (pc := 5) dJ0_length_8abf5_5 rfl ?_
  refine g_cT 5 (pc := 6) dJ0_length_8abf5_6 cT_RJ0_335 (M_J0_coder_7d493_t5 (Nat.le_refl _) (rfl : f_J0_coder_7d493_t5 = (0 : Int32))) (by decide) (as := []) (st := [.int (3 : Int32)]) rfl rfl (Nat.le_of_ble_eq_true rfl) (Nat.le_trans (Nat.le_of_ble_eq_true rfl) hd) rfl ?_
  refine g_ishr (pc := 9) dJ0_length_8abf5_9 rfl ?_
  subst h
  exact g_iret (pc := 10) dJ0_length_8abf5_10 rfl rfl rfl (Nat.le_refl _) (Nat.le_refl _)
set_option maxRecDepth 100000 in
set_option maxHeartbeats 4000000 in
theorem M_J0_length_8abf5_t5 {sc : Nat × (Nat → Int32)} {d : Nat} (hd : 1 ≤ d) {r : Int32} {u : xS} (h : f_J0_length_8abf5_t5 = r) : xMt sc mJ0_length_8abf5 d 0 0 [.ref (1010 + 5)] (xL0, u) (some (.int r)) (xL0, u) :=
  xMt.of (by decide +kernel) (by decide +kernel) (Nat.le_of_ble_eq_true rfl) (L := [some (.ref (1010 + 5))]) rfl ((G_J0_length_8abf5_t5_0 hd h))
set_option maxRecDepth 100000 in
set_option maxHeartbeats 4000000 in
theorem G_J1_indexOfChar_4cfef_t5_7 {sc : Nat × (Nat → Int32)} {d : Nat} (hd : 0 ≤ d) {r : Int32} {u : xS} : ∀ (n : Nat) (v3 : Int32) (v4 : Int32) (v5 : Int32), f_J1_indexOfChar_4cfef_t5_7 n v3 v4 v5 = some r → xG sc mJ1_indexOfChar_4cfef d 0 0 (xR (some (.int r)) (xL0, u) 0 0) 0 0 7 [some (.ref (1020 + 5)), none, none, some (.int v3), some (.int v4), some (.int v5)] [] (xL0, u) := by
  intro n
  induction n with
  | zero =>
    intro v3 v4 v5 h
    rw [f_J1_indexOfChar_4cfef_t5_7] at h
    cases h
  | succ n ih =>
    intro v3 v4 v5 h
    rw [f_J1_indexOfChar_4cfef_t5_7] at h
    refine g_iload (pc := 7) dJ1_indexOfChar_4cfef_7 rfl ?_
    refine g_iload_n (pc := 9) dJ1_indexOfChar_4cfef_9 rfl ?_
    refine g_icmp_ge (tgt := 31) (pc := 10) dJ1_indexOfChar_4cfef_10 (by decide) (fun c1 => ?_) (fun c1 => ?_)
    · replace h := (if_pos c1).symm.trans h
      refine g_iconst (pc := 31) dJ1_indexOfChar_4cfef_31 ic_m1 ?_
      replace h := Option.some.inj h
      subst h
      exact g_iret (pc := 32) dJ1_indexOfChar_4cfef_32 rfl rfl rfl (Nat.le_refl _) (Nat.le_refl _)
    · replace h := (if_neg c1).symm.trans h
      refine g_aload_n (pc := 13) dJ1_indexOfChar_4cfef_13 rfl ?_
      refine g_iload (pc := 14) dJ1_indexOfChar_4cfef_14 rfl ?_
      obtain ⟨g2, h⟩ := x_gd h
      refine g_bload 5 (pc := 16) dJ1_indexOfChar_4cfef_16 (by decide) (xin_of g2) rfl ?_
      refine g_iload (pc := 17) dJ1_indexOfChar_4cfef_17 rfl ?_
      refine g_icmp_ne (tgt := 25) (pc := 19) dJ1_indexOfChar_4cfef_19 (by decide) (fun c3 => ?_) (fun c3 => ?_)
      · replace h := (if_neg c3).symm.trans h
        refine g_inc (pc := 25) dJ1_indexOfChar_4cfef_25 (Nat.le_of_ble_eq_true rfl) rfl ic_1 (L' := [some (.ref (1020 + 5)), none, none, some (.int v3), some (.int v4), some (.int (v5 + (1 : Int32)))]) rfl ?_
        refine g_goto (tgt := 7) (pc := 28) dJ1_indexOfChar_4cfef_28 (by decide) ?_
        exact ih v3 v4 (v5 + (1 : Int32)) h
      · replace h := (if_pos c3).symm.trans h
        refine g_iload (pc := 22) dJ1_indexOfChar_4cfef_22 rfl ?_
        replace h := Option.some.inj h
        subst h
        exact g_iret (pc := 24) dJ1_indexOfChar_4cfef_24 rfl rfl rfl (Nat.le_refl _) (Nat.le_refl _)
set_option maxRecDepth 100000 in
set_option maxHeartbeats 4000000 in
theorem G_J1_indexOfChar_4cfef_t5_0 {sc : Nat × (Nat → Int32)} {d : Nat} (hd : 0 ≤ d) {r : Int32} {u : xS} (v1 : Int32) (v2 : Int32) (v3 : Int32) (h : f_J1_indexOfChar_4cfef_t5 v1 v2 v3 = some r) : xG sc mJ1_indexOfChar_4cfef d 0 0 (xR (some (.int r)) (xL0, u) 0 0) 0 0 0 [some (.ref (1020 + 5)), some (.int v1), some (.int v2), some (.int v3), none, none] [] (xL0, u) := by
  rw [f_J1_indexOfChar_4cfef_t5] at h
  refine g_iload_n (pc := 0) dJ1_indexOfChar_4cfef_0 rfl ?_
  refine g_i2b (pc := 1) dJ1_indexOfChar_4cfef_1 rfl ?_
  refine g_istore (pc := 2) dJ1_indexOfChar_4cfef_2 (Nat.le_of_ble_eq_true rfl) (L' := [some (.ref (1020 + 5)), some (.int v1), some (.int v2), some (.int v3), some (.int (v1.toInt8.toInt32)), none]) rfl ?_
  refine g_iload_n (pc := 4) dJ1_indexOfChar_4cfef_4 rfl ?_
  refine g_istore (pc := 5) dJ1_indexOfChar_4cfef_5 (Nat.le_of_ble_eq_true rfl) (L' := [some (.ref (1020 + 5)), some (.int v1), some (.int v2), some (.int v3), some (.int (v1.toInt8.toInt32)), some (.int v2)]) rfl ?_
  refine g_L (L' := [some (.ref (1020 + 5)), none, none, some (.int v3), some (.int (v1.toInt8.toInt32)), some (.int v2)]) ⟨rfl, ⟨rfl, ⟨rfl, ⟨rfl, trivial⟩⟩⟩⟩ ?_
  exact G_J1_indexOfChar_4cfef_t5_7 hd xN v3 (v1.toInt8.toInt32) v2 h
set_option maxRecDepth 100000 in
set_option maxHeartbeats 4000000 in
theorem M_J1_indexOfChar_4cfef_t5 {sc : Nat × (Nat → Int32)} {d : Nat} (hd : 0 ≤ d) {r : Int32} {u : xS} {a1 : Int32} {a2 : Int32} {a3 : Int32} (h : f_J1_indexOfChar_4cfef_t5 a1 a2 a3 = some r) : xMt sc mJ1_indexOfChar_4cfef d 0 0 [.ref (1020 + 5), .int a1, .int a2, .int a3] (xL0, u) (some (.int r)) (xL0, u) :=
  xMt.of (by decide +kernel) (by decide +kernel) (Nat.le_of_ble_eq_true rfl) (L := [some (.ref (1020 + 5)), some (.int a1), some (.int a2), some (.int a3), none, none]) rfl ((G_J1_indexOfChar_4cfef_t5_0 hd a1 a2 a3 h))
set_option maxRecDepth 100000 in
set_option maxHeartbeats 4000000 in
theorem G_J1_indexOf_4cfef_t5_0 {sc : Nat × (Nat → Int32)} {d : Nat} (hd : 1 ≤ d) {r : Int32} {u : xS} (v1 : Int32) (v2 : Int32) (v3 : Int32) (h : f_J1_indexOf_4cfef_t5 v1 v2 v3 = some r) : xG sc mJ1_indexOf_4cfef d 0 0 (xR (some (.int r)) (xL0, u) 0 0) 0 0 0 [some (.ref (1020 + 5)), some (.int v1), some (.int v2), some (.int v3)] [] (xL0, u) := by
  rw [f_J1_indexOf_4cfef_t5] at h
  refine g_iload_n (pc := 0) dJ1_indexOf_4cfef_0 rfl ?_
  refine g_cS (pc := 1) dJ1_indexOf_4cfef_1 cS_RJ1_88 (M_J1_canEncode_9a6ad (Nat.le_refl _) rfl) (as := [.int v1]) (st := []) rfl rfl (Nat.le_of_ble_eq_true rfl) (Nat.le_trans (Nat.le_of_ble_eq_true rfl) hd) rfl ?_
  refine g_if_ne (tgt := 9) (pc := 4) dJ1_indexOf_4cfef_4 (by decide) (fun c1 => ?_) (fun c1 => ?_)
  · replace h := (if_neg c1).symm.trans h
    refine g_iload_n (pc := 9) dJ1_indexOf_4cfef_9 rfl ?_
    refine g_iconst (pc := 10) dJ1_indexOf_4cfef_10 ic_0 ?_
    refine g_max (pc := 11) dJ1_indexOf_4cfef_11 mK_RJ1_92 (Nat.le_of_ble_eq_true rfl) (Nat.le_trans (Nat.le_of_ble_eq_true rfl) hd) (Nat.zero_le _) (Nat.zero_le _) ?_
    refine g_istore_n (pc := 14) dJ1_indexOf_4cfef_14 (Nat.le_of_ble_eq_true rfl) (L' := [some (.ref (1020 + 5)), some (.int v1), some (.int (imax v2 (0 : Int32))), some (.int v3)]) rfl ?_
    refine g_iload_n (pc := 15) dJ1_indexOf_4cfef_15 rfl ?_
    refine g_aload_n (pc := 16) dJ1_indexOf_4cfef_16 rfl ?_
    refine g_blen 5 (pc := 17) dJ1_indexOf_4cfef_17 (by decide) (v := (3 : Int32)) rfl ?_
    refine g_min (pc := 18) dJ1_indexOf_4cfef_18 mK_RJ1_38 (Nat.le_of_ble_eq_true rfl) (Nat.le_trans (Nat.le_of_ble_eq_true rfl) hd) (Nat.zero_le _) (Nat.zero_le _) ?_
    refine g_istore_n (pc := 21) dJ1_indexOf_4cfef_21 (Nat.le_of_ble_eq_true rfl) (L' := [some (.ref (1020 + 5)), some (.int v1), some (.int (imax v2 (0 : Int32))), some (.int (imin v3 (3 : Int32)))]) rfl ?_
    refine g_iload_n (pc := 22) dJ1_indexOf_4cfef_22 rfl ?_
    refine g_iload_n (pc := 23) dJ1_indexOf_4cfef_23 rfl ?_
    refine g_icmp_lt (tgt := 29) (pc := 24) dJ1_indexOf_4cfef_24 (by decide) (fun c2 => ?_) (fun c2 => ?_)
    · replace h := (if_pos c2).symm.trans h
      refine g_aload_n (pc := 29) dJ1_indexOf_4cfef_29 rfl ?_
      refine g_iload_n (pc := 30) dJ1_indexOf_4cfef_30 rfl ?_
      refine g_iload_n (pc := 31) dJ1_indexOf_4cfef_31 rfl ?_
      refine g_iload_n (pc := 32) dJ1_indexOf_4cfef_32 rfl ?_
      obtain ⟨x4, e3, h⟩ := x_bind h
      refine g_cS (pc := 33) dJ1_indexOf_4cfef_33 cS_RJ1_95 (M_J1_indexOfChar_4cfef_t5 (Nat.le_refl _) e3) (as := [.ref (1020 + 5), .int v1, .int (imax v2 (0 : Int32)), .int (imin v3 (3 : Int32))]) (st := []) rfl rfl (Nat.le_of_ble_eq_true rfl) (Nat.le_trans (Nat.le_of_ble_eq_true rfl) hd) rfl ?_
      replace h := Option.some.inj h
      subst h
      exact g_iret (pc := 36) dJ1_indexOf_4cfef_36 rfl rfl rfl (Nat.le_refl _) (Nat.le_refl _)
    · replace h := (if_neg c2).symm.trans h
      refine g_iconst (pc := 27) dJ1_indexOf_4cfef_27 ic_m1 ?_
      replace h := Option.some.inj h
      subst h
      exact g_iret (pc := 28) dJ1_indexOf_4cfef_28 rfl rfl rfl (Nat.le_refl _) (Nat.le_refl _)
  · replace h := (if_pos c1).symm.trans h
    refine g_iconst (pc := 7) dJ1_indexOf_4cfef_7 ic_m1 ?_
    replace h := Option.some.inj h
    subst h
    exact g_iret (pc := 8) dJ1_indexOf_4cfef_8 rfl rfl rfl (Nat.le_refl _) (Nat.le_refl _)
set_option maxRecDepth 100000 in
set_option maxHeartbeats 4000000 in
theorem M_J1_indexOf_4cfef_t5 {sc : Nat × (Nat → Int32)} {d : Nat} (hd : 1 ≤ d) {r : Int32} {u : xS} {a1 : Int32} {a2 : Int32} {a3 : Int32} (h : f_J1_indexOf_4cfef_t5 a1 a2 a3 = some r) : xMt sc mJ1_indexOf_4cfef d 0 0 [.ref (1020 + 5), .int a1, .int a2, .int a3] (xL0, u) (some (.int r)) (xL0, u) :=
  xMt.of (by decide +kernel) (by decide +kernel) (Nat.le_of_ble_eq_true rfl) (L := [some (.ref (1020 + 5)), some (.int a1), some (.int a2), some (.int a3)]) rfl ((G_J1_indexOf_4cfef_t5_0 hd a1 a2 a3 h))
set_option maxRecDepth 100000 in
set_option maxHeartbeats 4000000 in
theorem G_J0_indexOf_7cf53_t5_0 {sc : Nat × (Nat → Int32)} {d : Nat} (hd : 2 ≤ d) {r : Int32} {u : xS} (v1 : Int32) (v2 : Int32) (h : f_J0_indexOf_7cf53_t5 v1 v2 = some r) : xG sc mJ0_indexOf_7cf53 d 0 0 (xR (some (.int r)) (xL0, u) 0 0) 0 0 0 [some (.ref (1010 + 5)), some (.int v1), some (.int v2)] [] (xL0, u) := by
  rw [f_J0_indexOf_7cf53_t5] at h
  refine g_aload_n (pc := 0) dJ0_indexOf_7cf53_0 rfl ?_
  refine g_cT 5 (pc := 1) dJ0_indexOf_7cf53_1 cT_RJ0_492 (M_J0_isLatin1_aae02_t5 (Nat.le_refl _) (rfl : f_J0_isLatin1_aae02_t5 = (1 : Int32))) (by decide) (as := []) (st := []) rfl rfl (Nat.le_of_ble_eq_true rfl) (Nat.le_trans (Nat.le_of_ble_eq_true rfl) hd) rfl ?_
  refine g_if_eq (tgt := 23) (pc := 4) dJ0_indexOf_7cf53_4 (by decide) (fun c1 => absurd c1 (by decide)) (fun _ => ?_)
  refine g_aload_n (pc := 7) dJ0_indexOf_7cf53_7 rfl ?_
  refine g_strV 5 (pc := 8) dJ0_indexOf_7cf53_8 fs_RJ0_9 (by decide) ?_
  refine g_iload_n (pc := 11) dJ0_indexOf_7cf53_11 rfl ?_
  refine g_iload_n (pc := 12) dJ0_indexOf_7cf53_12 rfl ?_
  refine g_aload_n (pc := 13) dJ0_indexOf_7cf53_13 rfl ?_
  refine g_cT 5 (pc := 14) dJ0_indexOf_7cf53_14 cT_RJ0_505 (M_J0_length_8abf5_t5 (Nat.le_refl _) rfl) (by decide) (as := []) (st := [.int v2, .int v1, .ref (1020 + 5)]) rfl rfl (Nat.le_of_ble_eq_true rfl) (Nat.le_trans (Nat.le_of_ble_eq_true rfl) hd) rfl ?_
  obtain ⟨x3, e2, h⟩ := x_bind h
  refine g_cS (pc := 17) dJ0_indexOf_7cf53_17 cS_RJ0_637 (M_J1_indexOf_4cfef_t5 (Nat.le_refl _) e2) (as := [.ref (1020 + 5), .int v1, .int v2, .int (f_J0_length_8abf5_t5)]) (st := []) rfl rfl (Nat.le_of_ble_eq_true rfl) (Nat.le_trans (Nat.le_of_ble_eq_true rfl) hd) rfl ?_
  refine g_goto (tgt := 36) (pc := 20) dJ0_indexOf_7cf53_20 (by decide) ?_
  replace h := Option.some.inj h
  subst h
  exact g_iret (pc := 36) dJ0_indexOf_7cf53_36 rfl rfl rfl (Nat.le_refl _) (Nat.le_refl _)
set_option maxRecDepth 100000 in
set_option maxHeartbeats 4000000 in
theorem M_J0_indexOf_7cf53_t5 {sc : Nat × (Nat → Int32)} {d : Nat} (hd : 2 ≤ d) {r : Int32} {u : xS} {a1 : Int32} {a2 : Int32} (h : f_J0_indexOf_7cf53_t5 a1 a2 = some r) : xMt sc mJ0_indexOf_7cf53 d 0 0 [.ref (1010 + 5), .int a1, .int a2] (xL0, u) (some (.int r)) (xL0, u) :=
  xMt.of (by decide +kernel) (by decide +kernel) (Nat.le_of_ble_eq_true rfl) (L := [some (.ref (1010 + 5)), some (.int a1), some (.int a2)]) rfl ((G_J0_indexOf_7cf53_t5_0 hd a1 a2 h))
set_option maxRecDepth 100000 in
set_option maxHeartbeats 4000000 in
theorem G_J0_indexOf_0f7a4_t5_0 {sc : Nat × (Nat → Int32)} {d : Nat} (hd : 3 ≤ d) {r : Int32} {u : xS} (v1 : Int32) (h : f_J0_indexOf_0f7a4_t5 v1 = some r) : xG sc mJ0_indexOf_0f7a4 d 0 0 (xR (some (.int r)) (xL0, u) 0 0) 0 0 0 [some (.ref (1010 + 5)), some (.int v1)] [] (xL0, u) := by
  rw [f_J0_indexOf_0f7a4_t5] at h
  refine g_aload_n (pc := 0) dJ0_indexOf_0f7a4_0 rfl ?_
  refine g_iload_n (pc := 1) dJ0_indexOf_0f7a4_1 rfl ?_
  refine g_iconst (pc := 2) dJ0_indexOf_0f7a4_2 ic_0 ?_
  obtain ⟨x2, e1, h⟩ := x_bind h
  refine g_cT 5 (pc := 3) dJ0_indexOf_0f7a4_3 cT_RJ0_633 (M_J0_indexOf_7cf53_t5 (Nat.le_refl _) e1) (by decide) (as := [.int v1, .int (0 : Int32)]) (st := []) rfl rfl (Nat.le_of_ble_eq_true rfl) (Nat.le_trans (Nat.le_of_ble_eq_true rfl) hd) rfl ?_
  replace h := Option.some.inj h
  subst h
  exact g_iret (pc := 6) dJ0_indexOf_0f7a4_6 rfl rfl rfl (Nat.le_refl _) (Nat.le_refl _)
set_option maxRecDepth 100000 in
set_option maxHeartbeats 4000000 in
theorem M_J0_indexOf_0f7a4_t5 {sc : Nat × (Nat → Int32)} {d : Nat} (hd : 3 ≤ d) {r : Int32} {u : xS} {a1 : Int32} (h : f_J0_indexOf_0f7a4_t5 a1 = some r) : xMt sc mJ0_indexOf_0f7a4 d 0 0 [.ref (1010 + 5), .int a1] (xL0, u) (some (.int r)) (xL0, u) :=
  xMt.of (by decide +kernel) (by decide +kernel) (Nat.le_of_ble_eq_true rfl) (L := [some (.ref (1010 + 5)), some (.int a1)]) rfl ((G_J0_indexOf_0f7a4_t5_0 hd a1 h))
set_option maxRecDepth 100000 in
set_option maxHeartbeats 4000000 in
theorem G_X12_isOf_t5_0 {sc : Nat × (Nat → Int32)} {d : Nat} (hd : 4 ≤ d) {r : Int32} {u : xS} (v1 : Int32) (h : f_X12_isOf_t5 u v1 = some r) : xG sc mX12_isOf d 0 0 (xR (some (.int r)) (xL0, u) 0 0) 0 0 0 [some (.ref 135), some (.int v1), some (.ref (1010 + 5))] [] (xL0, u) := by
  rw [f_X12_isOf_t5] at h
  refine g_aload_n (pc := 0) dX12_isOf_0 rfl ?_
  refine g_gI (pc := 1) dX12_isOf_1 fI_RX12_259 xc_135 (v := (rd u 135 33)) rfl ?_
  refine g_iload_n (pc := 4) dX12_isOf_4 rfl ?_
  refine g_icmp_ge (tgt := 40) (pc := 5) dX12_isOf_5 (by decide) (fun c1 => ?_) (fun c1 => ?_)
  · replace h := (if_pos c1).symm.trans h
    refine g_iconst (pc := 40) dX12_isOf_40 ic_0 ?_
    replace h := Option.some.inj h
    subst h
    exact g_zret (pc := 41) dX12_isOf_41 rfl (Or.inl rfl) rfl rfl (Nat.le_refl _) (Nat.le_refl _)
  · replace h := (if_neg c1).symm.trans h
    refine g_aload_n (pc := 8) dX12_isOf_8 rfl ?_
    refine g_gR (pc := 9) dX12_isOf_9 fR_RX12_84 xc_135 (v := 159) rfl ?_
    refine g_aload_n (pc := 12) dX12_isOf_12 rfl ?_
    refine g_gI (pc := 13) dX12_isOf_13 fI_RX12_259 xc_135 (v := (rd u 135 33)) rfl ?_
    obtain ⟨g2, h⟩ := x_gd h
    refine g_iaload (pc := 16) dX12_isOf_16 xc_159 (xin_of g2) (v := (rd u 159 (rd u 135 33).toNatClampNeg)) rfl ?_
    refine g_if_le (tgt := 40) (pc := 17) dX12_isOf_17 (by decide) (fun c3 => ?_) (fun c3 => ?_)
    · replace h := (if_pos c3).symm.trans h
      refine g_iconst (pc := 40) dX12_isOf_40 ic_0 ?_
      replace h := Option.some.inj h
      subst h
      exact g_zret (pc := 41) dX12_isOf_41 rfl (Or.inl rfl) rfl rfl (Nat.le_refl _) (Nat.le_refl _)
    · replace h := (if_neg c3).symm.trans h
      refine g_aload_n (pc := 20) dX12_isOf_20 rfl ?_
      refine g_aload_n (pc := 21) dX12_isOf_21 rfl ?_
      refine g_gR (pc := 22) dX12_isOf_22 fR_RX12_84 xc_135 (v := 159) rfl ?_
      refine g_aload_n (pc := 25) dX12_isOf_25 rfl ?_
      refine g_gI (pc := 26) dX12_isOf_26 fI_RX12_259 xc_135 (v := (rd u 135 33)) rfl ?_
      refine g_iaload (pc := 29) dX12_isOf_29 xc_159 (xin_of g2) (v := (rd u 159 (rd u 135 33).toNatClampNeg)) rfl ?_
      obtain ⟨x5, e4, h⟩ := x_bind h
      refine g_cT 5 (pc := 30) dX12_isOf_30 cT_RX12_262 (M_J0_indexOf_0f7a4_t5 (Nat.le_refl _) e4) (by decide) (as := [.int (rd u 159 (rd u 135 33).toNatClampNeg)]) (st := []) rfl rfl (Nat.le_of_ble_eq_true rfl) (Nat.le_trans (Nat.le_of_ble_eq_true rfl) hd) rfl ?_
      refine g_if_lt (tgt := 40) (pc := 33) dX12_isOf_33 (by decide) (fun c6 => ?_) (fun c6 => ?_)
      · replace h := (if_pos c6).symm.trans h
        refine g_iconst (pc := 40) dX12_isOf_40 ic_0 ?_
        replace h := Option.some.inj h
        subst h
        exact g_zret (pc := 41) dX12_isOf_41 rfl (Or.inl rfl) rfl rfl (Nat.le_refl _) (Nat.le_refl _)
      · replace h := (if_neg c6).symm.trans h
        refine g_iconst (pc := 36) dX12_isOf_36 ic_1 ?_
        refine g_goto (tgt := 41) (pc := 37) dX12_isOf_37 (by decide) ?_
        replace h := Option.some.inj h
        subst h
        exact g_zret (pc := 41) dX12_isOf_41 rfl (Or.inr rfl) rfl rfl (Nat.le_refl _) (Nat.le_refl _)
set_option maxRecDepth 100000 in
set_option maxHeartbeats 4000000 in
theorem M_X12_isOf_t5 {sc : Nat × (Nat → Int32)} {d : Nat} (hd : 4 ≤ d) {r : Int32} {u : xS} {a1 : Int32} (h : f_X12_isOf_t5 u a1 = some r) : xMt sc mX12_isOf d 0 0 [.ref 135, .int a1, .ref (1010 + 5)] (xL0, u) (some (.int r)) (xL0, u) :=
  xMt.of (by decide +kernel) (by decide +kernel) (Nat.le_of_ble_eq_true rfl) (L := [some (.ref 135), some (.int a1), some (.ref (1010 + 5))]) rfl ((G_X12_isOf_t5_0 hd a1 h))
set_option maxRecDepth 100000 in
set_option maxHeartbeats 4000000 in
theorem G_X12_compared_0 {sc : Nat × (Nat → Int32)} {d : Nat} (hd : 5 ≤ d) {r : Int32} {u' : xS} {dk : Nat} (hkd : dk + 1 ≤ d) {k_X12_total : Int32 → xS → Option (Int32 × xS)} (hk_X12_total : ∀ (a1 : Int32) (u u' : xS) (r : Int32), k_X12_total a1 u = some (r, u') → xMt sc mX12_total dk 0 0 [.ref 135, .int a1] (xL0, u) (some (.int r)) (xL0, u')) (v1 : Int32) (u : xS) (h : f_X12_compared k_X12_total v1 u = some (r, u')) : xG sc mX12_compared d 0 0 (xR (some (.int r)) (xL0, u') 0 0) 0 0 0 [some (.ref 135), some (.int v1), none, none] [] (xL0, u) := by
  rw [f_X12_compared] at h
  refine g_aload_n (pc := 0) dX12_compared_0 rfl ?_
  refine g_iload_n (pc := 1) dX12_compared_1 rfl ?_
  obtain ⟨⟨x2, u3⟩, e1, h⟩ := x_bind h
  dsimp only at h
  refine g_cV (pc := 2) dX12_compared_2 cV_RX12_307 (hk_X12_total _ _ _ _ e1) xc_135 (as := [.int v1]) (st := []) rfl rfl (Nat.le_of_ble_eq_true rfl) hkd rfl ?_
  refine g_istore_n (pc := 5) dX12_compared_5 (Nat.le_of_ble_eq_true rfl) (L' := [some (.ref 135), some (.int v1), some (.int x2), none]) rfl ?_
  refine g_iload_n (pc := 6) dX12_compared_6 rfl ?_
  refine g_if_eq (tgt := 59) (pc := 7) dX12_compared_7 (by decide) (fun c4 => ?_) (fun c4 => ?_)
  · replace h := (if_pos c4).symm.trans h
    refine g_iload_n (pc := 59) dX12_compared_59 rfl ?_
    obtain ⟨g5, h⟩ := x_gd h
    obtain ⟨h1, h2⟩ := x_inj2 h
    subst h1
    subst h2
    exact g_zret (pc := 60) dX12_compared_60 rfl (xb_of g5) rfl rfl (Nat.le_refl _) (Nat.le_refl _)
  · replace h := (if_neg c4).symm.trans h
    refine g_aload_n (pc := 10) dX12_compared_10 rfl ?_
    refine g_iload_n (pc := 11) dX12_compared_11 rfl ?_
    refine g_ldcSw 5 (pc := 12) dX12_compared_12 rfl rfl ?_
    obtain ⟨x7, e6, h⟩ := x_bind h
    refine g_cV (pc := 15) dX12_compared_15 cV_RX12_272 (M_X12_isOf_t5 (Nat.le_refl _) e6) xc_135 (as := [.int v1, .ref (1010 + 5)]) (st := []) rfl rfl (Nat.le_of_ble_eq_true rfl) (Nat.le_trans (Nat.le_of_ble_eq_true rfl) hd) rfl ?_
    refine g_if_eq (tgt := 59) (pc := 18) dX12_compared_18 (by decide) (fun c8 => ?_) (fun c8 => ?_)
    · replace h := (if_pos c8).symm.trans h
      refine g_iload_n (pc := 59) dX12_compared_59 rfl ?_
      obtain ⟨g9, h⟩ := x_gd h
      obtain ⟨h1, h2⟩ := x_inj2 h
      subst h1
      subst h2
      exact g_zret (pc := 60) dX12_compared_60 rfl (xb_of g9) rfl rfl (Nat.le_refl _) (Nat.le_refl _)
    · replace h := (if_neg c8).symm.trans h
      refine g_aload_n (pc := 21) dX12_compared_21 rfl ?_
      refine g_gR (pc := 22) dX12_compared_22 fR_RX12_84 xc_135 (v := 159) rfl ?_
      refine g_aload_n (pc := 25) dX12_compared_25 rfl ?_
      refine g_gI (pc := 26) dX12_compared_26 fI_RX12_259 xc_135 (v := (rd u3 135 33)) rfl ?_
      obtain ⟨g10, h⟩ := x_gd h
      refine g_iaload (pc := 29) dX12_compared_29 xc_159 (xin_of g10) (v := (rd u3 159 (rd u3 135 33).toNatClampNeg)) rfl ?_
      refine g_istore_n (pc := 30) dX12_compared_30 (Nat.le_of_ble_eq_true rfl) (L' := [some (.ref 135), some (.int v1), some (.int x2), some (.int (rd u3 159 (rd u3 135 33).toNatClampNeg))]) rfl ?_
      refine g_aload_n (pc := 31) dX12_compared_31 rfl ?_
      refine g_dup (pc := 32) dX12_compared_32 rfl ?_
      refine g_gI (pc := 33) dX12_compared_33 fI_RX12_259 xc_135 (v := (rd u3 135 33)) rfl ?_
      refine g_iconst (pc := 36) dX12_compared_36 ic_1 ?_
      refine g_iadd (pc := 37) dX12_compared_37 rfl ?_
      refine g_pI (pc := 38) dX12_compared_38 pI_RX12_259 xc_135 (u' := (wr u3 135 33 ((rd u3 135 33) + (1 : Int32)))) rfl ?_
      refine g_aload_n (pc := 41) dX12_compared_41 rfl ?_
      refine g_iload_n (pc := 42) dX12_compared_42 rfl ?_
      obtain ⟨⟨x12, u13⟩, e11, h⟩ := x_bind h
      dsimp only at h
      refine g_cV (pc := 43) dX12_compared_43 cV_RX12_307 (hk_X12_total _ _ _ _ e11) xc_135 (as := [.int v1]) (st := []) rfl rfl (Nat.le_of_ble_eq_true rfl) hkd rfl ?_
      refine g_istore_n (pc := 46) dX12_compared_46 (Nat.le_of_ble_eq_true rfl) (L' := [some (.ref 135), some (.int v1), some (.int x12), some (.int (rd u3 159 (rd u3 135 33).toNatClampNeg))]) rfl ?_
      refine g_iload_n (pc := 47) dX12_compared_47 rfl ?_
      refine g_if_eq (tgt := 59) (pc := 48) dX12_compared_48 (by decide) (fun c14 => ?_) (fun c14 => ?_)
      · replace h := (if_pos c14).symm.trans h
        refine g_iload_n (pc := 59) dX12_compared_59 rfl ?_
        obtain ⟨g15, h⟩ := x_gd h
        obtain ⟨h1, h2⟩ := x_inj2 h
        subst h1
        subst h2
        exact g_zret (pc := 60) dX12_compared_60 rfl (xb_of g15) rfl rfl (Nat.le_refl _) (Nat.le_refl _)
      · replace h := (if_neg c14).symm.trans h
        refine g_aload_n (pc := 51) dX12_compared_51 rfl ?_
        refine g_iload_n (pc := 52) dX12_compared_52 rfl ?_
        refine g_cS (pc := 53) dX12_compared_53 cS_RX12_297 (M_X12_act (Nat.le_refl _) rfl) (as := [.int (rd u3 159 (rd u3 135 33).toNatClampNeg)]) (st := [.ref 135]) rfl rfl (Nat.le_of_ble_eq_true rfl) (Nat.le_trans (Nat.le_of_ble_eq_true rfl) hd) rfl ?_
        obtain ⟨u17, e16, h⟩ := x_bind h
        refine g_cV (pc := 56) dX12_compared_56 cV_RX12_276 (M_X12_marks (Nat.le_refl _) e16) xc_135 (as := [.int (f_X12_act (rd u3 159 (rd u3 135 33).toNatClampNeg))]) (st := []) rfl rfl (Nat.le_of_ble_eq_true rfl) (Nat.le_trans (Nat.le_of_ble_eq_true rfl) hd) rfl ?_
        refine g_iload_n (pc := 59) dX12_compared_59 rfl ?_
        obtain ⟨g18, h⟩ := x_gd h
        obtain ⟨h1, h2⟩ := x_inj2 h
        subst h1
        subst h2
        exact g_zret (pc := 60) dX12_compared_60 rfl (xb_of g18) rfl rfl (Nat.le_refl _) (Nat.le_refl _)
set_option maxRecDepth 100000 in
set_option maxHeartbeats 4000000 in
theorem M_X12_compared {sc : Nat × (Nat → Int32)} {d : Nat} (hd : 5 ≤ d) {r : Int32} {u u' : xS} {dk : Nat} (hkd : dk + 1 ≤ d) {k_X12_total : Int32 → xS → Option (Int32 × xS)} (hk_X12_total : ∀ (a1 : Int32) (u u' : xS) (r : Int32), k_X12_total a1 u = some (r, u') → xMt sc mX12_total dk 0 0 [.ref 135, .int a1] (xL0, u) (some (.int r)) (xL0, u')) {a1 : Int32} (h : f_X12_compared k_X12_total a1 u = some (r, u')) : xMt sc mX12_compared d 0 0 [.ref 135, .int a1] (xL0, u) (some (.int r)) (xL0, u') :=
  xMt.of (by decide +kernel) (by decide +kernel) (Nat.le_of_ble_eq_true rfl) (L := [some (.ref 135), some (.int a1), none, none]) rfl ((G_X12_compared_0 hd hkd hk_X12_total a1 u h))
set_option maxRecDepth 100000 in
set_option maxHeartbeats 4000000 in
theorem G_X12_every_6 {sc : Nat × (Nat → Int32)} {d : Nat} (hd : 1 ≤ d) {r : Int32} {u' : xS} {dk : Nat} (hkd : dk + 1 ≤ d) {k_X12_compared : Int32 → xS → Option (Int32 × xS)} (hk_X12_compared : ∀ (a1 : Int32) (u u' : xS) (r : Int32), k_X12_compared a1 u = some (r, u') → xMt sc mX12_compared dk 0 0 [.ref 135, .int a1] (xL0, u) (some (.int r)) (xL0, u')) : ∀ (n : Nat) (v1 : Int32) (v2 : Int32) (u : xS), f_X12_every_6 k_X12_compared n v1 v2 u = some (r, u') → xG sc mX12_every d 0 0 (xR (some (.int r)) (xL0, u') 0 0) 0 0 6 [some (.ref 135), some (.int v1), some (.int v2)] [] (xL0, u) := by
  intro n
  induction n with
  | zero =>
    intro v1 v2 u h
    rw [f_X12_every_6] at h
    cases h
  | succ n ih =>
    intro v1 v2 u h
    rw [f_X12_every_6] at h
    refine g_iload_n (pc := 6) dX12_every_6 rfl ?_
    refine g_if_eq (tgt := 52) (pc := 7) dX12_every_7 (by decide) (fun c1 => ?_) (fun c1 => ?_)
    · replace h := (if_pos c1).symm.trans h
      refine g_iload_n (pc := 52) dX12_every_52 rfl ?_
      obtain ⟨g2, h⟩ := x_gd h
      obtain ⟨h1, h2⟩ := x_inj2 h
      subst h1
      subst h2
      exact g_zret (pc := 53) dX12_every_53 rfl (xb_of g2) rfl rfl (Nat.le_refl _) (Nat.le_refl _)
    · replace h := (if_neg c1).symm.trans h
      refine g_aload_n (pc := 10) dX12_every_10 rfl ?_
      refine g_iload_n (pc := 11) dX12_every_11 rfl ?_
      refine g_bipush (pc := 12) dX12_every_12 bp_38 ?_
      obtain ⟨x4, e3, h⟩ := x_bind h
      refine g_cV (pc := 14) dX12_every_14 cV_RX12_282 (M_X12_isSign (Nat.le_refl _) e3) xc_135 (as := [.int v1, .int (38 : Int32)]) (st := []) rfl rfl (Nat.le_of_ble_eq_true rfl) (Nat.le_trans (Nat.le_of_ble_eq_true rfl) hd) rfl ?_
      refine g_if_eq (tgt := 52) (pc := 17) dX12_every_17 (by decide) (fun c5 => ?_) (fun c5 => ?_)
      · replace h := (if_pos c5).symm.trans h
        refine g_iload_n (pc := 52) dX12_every_52 rfl ?_
        obtain ⟨g6, h⟩ := x_gd h
        obtain ⟨h1, h2⟩ := x_inj2 h
        subst h1
        subst h2
        exact g_zret (pc := 53) dX12_every_53 rfl (xb_of g6) rfl rfl (Nat.le_refl _) (Nat.le_refl _)
      · replace h := (if_neg c5).symm.trans h
        refine g_aload_n (pc := 20) dX12_every_20 rfl ?_
        refine g_dup (pc := 21) dX12_every_21 rfl ?_
        refine g_gI (pc := 22) dX12_every_22 fI_RX12_259 xc_135 (v := (rd u 135 33)) rfl ?_
        refine g_iconst (pc := 25) dX12_every_25 ic_1 ?_
        refine g_iadd (pc := 26) dX12_every_26 rfl ?_
        refine g_pI (pc := 27) dX12_every_27 pI_RX12_259 xc_135 (u' := (wr u 135 33 ((rd u 135 33) + (1 : Int32)))) rfl ?_
        refine g_aload_n (pc := 30) dX12_every_30 rfl ?_
        refine g_iload_n (pc := 31) dX12_every_31 rfl ?_
        obtain ⟨⟨x8, u9⟩, e7, h⟩ := x_bind h
        dsimp only at h
        refine g_cV (pc := 32) dX12_every_32 cV_RX12_312 (hk_X12_compared _ _ _ _ e7) xc_135 (as := [.int v1]) (st := []) rfl rfl (Nat.le_of_ble_eq_true rfl) hkd rfl ?_
        refine g_istore_n (pc := 35) dX12_every_35 (Nat.le_of_ble_eq_true rfl) (L' := [some (.ref 135), some (.int v1), some (.int x8)]) rfl ?_
        refine g_iload_n (pc := 36) dX12_every_36 rfl ?_
        refine g_if_eq (tgt := 6) (pc := 37) dX12_every_37 (by decide) (fun c10 => ?_) (fun c10 => ?_)
        · replace h := (if_pos c10).symm.trans h
          exact ih v1 x8 u9 h
        · replace h := (if_neg c10).symm.trans h
          refine g_aload_n (pc := 40) dX12_every_40 rfl ?_
          refine g_bipush (pc := 41) dX12_every_41 bp_38 ?_
          refine g_cS (pc := 43) dX12_every_43 cS_RX12_297 (M_X12_act (Nat.le_refl _) rfl) (as := [.int (38 : Int32)]) (st := [.ref 135]) rfl rfl (Nat.le_of_ble_eq_true rfl) (Nat.le_trans (Nat.le_of_ble_eq_true rfl) hd) rfl ?_
          obtain ⟨u12, e11, h⟩ := x_bind h
          refine g_cV (pc := 46) dX12_every_46 cV_RX12_276 (M_X12_marks (Nat.le_refl _) e11) xc_135 (as := [.int (f_X12_act (38 : Int32))]) (st := []) rfl rfl (Nat.le_of_ble_eq_true rfl) (Nat.le_trans (Nat.le_of_ble_eq_true rfl) hd) rfl ?_
          refine g_goto (tgt := 6) (pc := 49) dX12_every_49 (by decide) ?_
          exact ih v1 x8 u12 h
set_option maxRecDepth 100000 in
set_option maxHeartbeats 4000000 in
theorem G_X12_every_0 {sc : Nat × (Nat → Int32)} {d : Nat} (hd : 1 ≤ d) {r : Int32} {u' : xS} {dk : Nat} (hkd : dk + 1 ≤ d) {k_X12_compared : Int32 → xS → Option (Int32 × xS)} (hk_X12_compared : ∀ (a1 : Int32) (u u' : xS) (r : Int32), k_X12_compared a1 u = some (r, u') → xMt sc mX12_compared dk 0 0 [.ref 135, .int a1] (xL0, u) (some (.int r)) (xL0, u')) (v1 : Int32) (u : xS) (h : f_X12_every k_X12_compared v1 u = some (r, u')) : xG sc mX12_every d 0 0 (xR (some (.int r)) (xL0, u') 0 0) 0 0 0 [some (.ref 135), some (.int v1), none] [] (xL0, u) := by
  rw [f_X12_every] at h
  refine g_aload_n (pc := 0) dX12_every_0 rfl ?_
  refine g_iload_n (pc := 1) dX12_every_1 rfl ?_
  obtain ⟨⟨x2, u3⟩, e1, h⟩ := x_bind h
  dsimp only at h
  refine g_cV (pc := 2) dX12_every_2 cV_RX12_312 (hk_X12_compared _ _ _ _ e1) xc_135 (as := [.int v1]) (st := []) rfl rfl (Nat.le_of_ble_eq_true rfl) hkd rfl ?_
  refine g_istore_n (pc := 5) dX12_every_5 (Nat.le_of_ble_eq_true rfl) (L' := [some (.ref 135), some (.int v1), some (.int x2)]) rfl ?_
  exact G_X12_every_6 hd hkd hk_X12_compared xN v1 x2 u3 h
set_option maxRecDepth 100000 in
set_option maxHeartbeats 4000000 in
theorem M_X12_every {sc : Nat × (Nat → Int32)} {d : Nat} (hd : 1 ≤ d) {r : Int32} {u u' : xS} {dk : Nat} (hkd : dk + 1 ≤ d) {k_X12_compared : Int32 → xS → Option (Int32 × xS)} (hk_X12_compared : ∀ (a1 : Int32) (u u' : xS) (r : Int32), k_X12_compared a1 u = some (r, u') → xMt sc mX12_compared dk 0 0 [.ref 135, .int a1] (xL0, u) (some (.int r)) (xL0, u')) {a1 : Int32} (h : f_X12_every k_X12_compared a1 u = some (r, u')) : xMt sc mX12_every d 0 0 [.ref 135, .int a1] (xL0, u) (some (.int r)) (xL0, u') :=
  xMt.of (by decide +kernel) (by decide +kernel) (Nat.le_of_ble_eq_true rfl) (L := [some (.ref 135), some (.int a1), none]) rfl ((G_X12_every_0 hd hkd hk_X12_compared a1 u h))
