set_option maxRecDepth 100000 in
set_option maxHeartbeats 4000000 in
theorem G_J1_indexOfChar_4cfef_t2_7 {sc : Nat × (Nat → Int32)} {d : Nat} (hd : 0 ≤ d) {r : Int32} {u : xS} : ∀ (n : Nat) (v3 : Int32) (v4 : Int32) (v5 : Int32), f_J1_indexOfChar_4cfef_t2_7 n v3 v4 v5 = some r → xG sc mJ1_indexOfChar_4cfef d 0 0 (xR (some (.int r)) (xL0, u) 0 0) 0 0 7 [some (.ref (1020 + 2)), none, none, some (.int v3), some (.int v4), some (.int v5)] [] (xL0, u) := by
  intro n
  induction n with
  | zero =>
    intro v3 v4 v5 h
    rw [f_J1_indexOfChar_4cfef_t2_7] at h
    cases h
  | succ n ih =>
    intro v3 v4 v5 h
    rw [f_J1_indexOfChar_4cfef_t2_7] at h
    refine g_iload (pc := 7) dJ1_indexOfChar_4cfef_7 rfl ?_
    refine g_iload_n (pc := 9) dJ1_indexOfChar_4cfef_9 rfl ?_
    refine g_icmp_ge (tgt := 31) (pc := 10) dJ1_indexOfChar_4cfef_10 (by decide) (fun c1 => ?_) (fun c1 => ?_)
    · replace h := (if_pos c1).symm.trans h
      refine g_iconst (pc := 31) dJ1_indexOfChar_4cfef_31 ic_m1 ?_
      replace h := Option.some.inj h
      subst h
      exact g_iret (pc := 32) dJ1_indexOfChar_4cfef_32 rfl rfl rfl (Nat.le_refl _) (Nat.le_refl _)
    · replace h := (if_neg c1).symm.trans h
      refine g_aload_n (pc := 13) dJ1_indexOfChar_4cfef_13 rfl ?_
      refine g_iload (pc := 14) dJ1_indexOfChar_4cfef_14 rfl ?_
      obtain ⟨g2, h⟩ := x_gd h
      refine g_bload 2 (pc := 16) dJ1_indexOfChar_4cfef_16 (by decide) (xin_of g2) rfl ?_
      refine g_iload (pc := 17) dJ1_indexOfChar_4cfef_17 rfl ?_
      refine g_icmp_ne (tgt := 25) (pc := 19) dJ1_indexOfChar_4cfef_19 (by decide) (fun c3 => ?_) (fun c3 => ?_)
      · replace h := (if_neg c3).symm.trans h
        refine g_inc (pc := 25) dJ1_indexOfChar_4cfef_25 (Nat.le_of_ble_eq_true rfl) rfl ic_1 (L' := [some (.ref (1020 + 2)), none, none, some (.int v3), some (.int v4), some (.int (v5 + (1 : Int32)))]) rfl ?_
        refine g_goto (tgt := 7) (pc := 28) dJ1_indexOfChar_4cfef_28 (by decide) ?_
        exact ih v3 v4 (v5 + (1 : Int32)) h
      · replace h := (if_pos c3).symm.trans h
        refine g_iload (pc := 22) dJ1_indexOfChar_4cfef_22 rfl ?_
        replace h := Option.some.inj h
        subst h
        exact g_iret (pc := 24) dJ1_indexOfChar_4cfef_24 rfl rfl rfl (Nat.le_refl _) (Nat.le_refl _)
set_option maxRecDepth 100000 in
set_option maxHeartbeats 4000000 in
theorem G_J1_indexOfChar_4cfef_t2_0 {sc : Nat × (Nat → Int32)} {d : Nat} (hd : 0 ≤ d) {r : Int32} {u : xS} (v1 : Int32) (v2 : Int32) (v3 : Int32) (h : f_J1_indexOfChar_4cfef_t2 v1 v2 v3 = some r) : xG sc mJ1_indexOfChar_4cfef d 0 0 (xR (some (.int r)) (xL0, u) 0 0) 0 0 0 [some (.ref (1020 + 2)), some (.int v1), some (.int v2), some (.int v3), none, none] [] (xL0, u) := by
  rw [f_J1_indexOfChar_4cfef_t2] at h
  refine g_iload_n (pc := 0) dJ1_indexOfChar_4cfef_0 rfl ?_
  refine g_i2b (pc := 1) dJ1_indexOfChar_4cfef_1 rfl ?_
  refine g_istore (pc := 2) dJ1_indexOfChar_4cfef_2 (Nat.le_of_ble_eq_true rfl) (L' := [some (.ref (1020 + 2)), some (.int v1), some (.int v2), some (.int v3), some (.int (v1.toInt8.toInt32)), none]) rfl ?_
  refine g_iload_n (pc := 4) dJ1_indexOfChar_4cfef_4 rfl ?_
  refine g_istore (pc := 5) dJ1_indexOfChar_4cfef_5 (Nat.le_of_ble_eq_true rfl) (L' := [some (.ref (1020 + 2)), some (.int v1), some (.int v2), some (.int v3), some (.int (v1.toInt8.toInt32)), some (.int v2)]) rfl ?_
  refine g_L (L' := [some (.ref (1020 + 2)), none, none, some (.int v3), some (.int (v1.toInt8.toInt32)), some (.int v2)]) ⟨rfl, ⟨rfl, ⟨rfl, ⟨rfl, trivial⟩⟩⟩⟩ ?_
  exact G_J1_indexOfChar_4cfef_t2_7 hd xN v3 (v1.toInt8.toInt32) v2 h
set_option maxRecDepth 100000 in
set_option maxHeartbeats 4000000 in
theorem M_J1_indexOfChar_4cfef_t2 {sc : Nat × (Nat → Int32)} {d : Nat} (hd : 0 ≤ d) {r : Int32} {u : xS} {a1 : Int32} {a2 : Int32} {a3 : Int32} (h : f_J1_indexOfChar_4cfef_t2 a1 a2 a3 = some r) : xMt sc mJ1_indexOfChar_4cfef d 0 0 [.ref (1020 + 2), .int a1, .int a2, .int a3] (xL0, u) (some (.int r)) (xL0, u) :=
  xMt.of (by decide +kernel) (by decide +kernel) (Nat.le_of_ble_eq_true rfl) (L := [some (.ref (1020 + 2)), some (.int a1), some (.int a2), some (.int a3), none, none]) rfl ((G_J1_indexOfChar_4cfef_t2_0 hd a1 a2 a3 h))
set_option maxRecDepth 100000 in
set_option maxHeartbeats 4000000 in
theorem G_J1_indexOf_4cfef_t2_0 {sc : Nat × (Nat → Int32)} {d : Nat} (hd : 1 ≤ d) {r : Int32} {u : xS} (v1 : Int32) (v2 : Int32) (v3 : Int32) (h : f_J1_indexOf_4cfef_t2 v1 v2 v3 = some r) : xG sc mJ1_indexOf_4cfef d 0 0 (xR (some (.int r)) (xL0, u) 0 0) 0 0 0 [some (.ref (1020 + 2)), some (.int v1), some (.int v2), some (.int v3)] [] (xL0, u) := by
  rw [f_J1_indexOf_4cfef_t2] at h
  refine g_iload_n (pc := 0) dJ1_indexOf_4cfef_0 rfl ?_
  refine g_cS (pc := 1) dJ1_indexOf_4cfef_1 cS_RJ1_88 (M_J1_canEncode_9a6ad (Nat.le_refl _) rfl) (as := [.int v1]) (st := []) rfl rfl (Nat.le_of_ble_eq_true rfl) (Nat.le_trans (Nat.le_of_ble_eq_true rfl) hd) rfl ?_
  refine g_if_ne (tgt := 9) (pc := 4) dJ1_indexOf_4cfef_4 (by decide) (fun c1 => ?_) (fun c1 => ?_)
  · replace h := (if_neg c1).symm.trans h
    refine g_iload_n (pc := 9) dJ1_indexOf_4cfef_9 rfl ?_
    refine g_iconst (pc := 10) dJ1_indexOf_4cfef_10 ic_0 ?_
    refine g_max (pc := 11) dJ1_indexOf_4cfef_11 mK_RJ1_92 (Nat.le_of_ble_eq_true rfl) (Nat.le_trans (Nat.le_of_ble_eq_true rfl) hd) (Nat.zero_le _) (Nat.zero_le _) ?_
    refine g_istore_n (pc := 14) dJ1_indexOf_4cfef_14 (Nat.le_of_ble_eq_true rfl) (L' := [some (.ref (1020 + 2)), some (.int v1), some (.int (imax v2 (0 : Int32))), some (.int v3)]) rfl ?_
    refine g_iload_n (pc := 15) dJ1_indexOf_4cfef_15 rfl ?_
    refine g_aload_n (pc := 16) dJ1_indexOf_4cfef_16 rfl ?_
    refine g_blen 2 (pc := 17) dJ1_indexOf_4cfef_17 (by decide) (v := (2 : Int32)) rfl ?_
    refine g_min (pc := 18) dJ1_indexOf_4cfef_18 mK_RJ1_38 (Nat.le_of_ble_eq_true rfl) (Nat.le_trans (Nat.le_of_ble_eq_true rfl) hd) (Nat.zero_le _) (Nat.zero_le _) ?_
    refine g_istore_n (pc := 21) dJ1_indexOf_4cfef_21 (Nat.le_of_ble_eq_true rfl) (L' := [some (.ref (1020 + 2)), some (.int v1), some (.int (imax v2 (0 : Int32))), some (.int (imin v3 (2 : Int32)))]) rfl ?_
    refine g_iload_n (pc := 22) dJ1_indexOf_4cfef_22 rfl ?_
    refine g_iload_n (pc := 23) dJ1_indexOf_4cfef_23 rfl ?_
    refine g_icmp_lt (tgt := 29) (pc := 24) dJ1_indexOf_4cfef_24 (by decide) (fun c2 => ?_) (fun c2 => ?_)
    · replace h := (if_pos c2).symm.trans h
      refine g_aload_n (pc := 29) dJ1_indexOf_4cfef_29 rfl ?_
      refine g_iload_n (pc := 30) dJ1_indexOf_4cfef_30 rfl ?_
      refine g_iload_n (pc := 31) dJ1_indexOf_4cfef_31 rfl ?_
      refine g_iload_n (pc := 32) dJ1_indexOf_4cfef_32 rfl ?_
      obtain ⟨x4, e3, h⟩ := x_bind h
      refine g_cS (pc := 33) dJ1_indexOf_4cfef_33 cS_RJ1_95 (M_J1_indexOfChar_4cfef_t2 (Nat.le_refl _) e3) (as := [.ref (1020 + 2), .int v1, .int (imax v2 (0 : Int32)), .int (imin v3 (2 : Int32))]) (st := []) rfl rfl (Nat.le_of_ble_eq_true rfl) (Nat.le_trans (Nat.le_of_ble_eq_true rfl) hd) rfl ?_
      replace h := Option.some.inj h
      subst h
      exact g_iret (pc := 36) dJ1_indexOf_4cfef_36 rfl rfl rfl (Nat.le_refl _) (Nat.le_refl _)
    · replace h := (if_neg c2).symm.trans h
      refine g_iconst (pc := 27) dJ1_indexOf_4cfef_27 ic_m1 ?_
      replace h := Option.some.inj h
      subst h
      exact g_iret (pc := 28) dJ1_indexOf_4cfef_28 rfl rfl rfl (Nat.le_refl _) (Nat.le_refl _)
  · replace h := (if_pos c1).symm.trans h
    refine g_iconst (pc := 7) dJ1_indexOf_4cfef_7 ic_m1 ?_
    replace h := Option.some.inj h
    subst h
    exact g_iret (pc := 8) dJ1_indexOf_4cfef_8 rfl rfl rfl (Nat.le_refl _) (Nat.le_refl _)
set_option maxRecDepth 100000 in
set_option maxHeartbeats 4000000 in
theorem M_J1_indexOf_4cfef_t2 {sc : Nat × (Nat → Int32)} {d : Nat} (hd : 1 ≤ d) {r : Int32} {u : xS} {a1 : Int32} {a2 : Int32} {a3 : Int32} (h : f_J1_indexOf_4cfef_t2 a1 a2 a3 = some r) : xMt sc mJ1_indexOf_4cfef d 0 0 [.ref (1020 + 2), .int a1, .int a2, .int a3] (xL0, u) (some (.int r)) (xL0, u) :=
  xMt.of (by decide +kernel) (by decide +kernel) (Nat.le_of_ble_eq_true rfl) (L := [some (.ref (1020 + 2)), some (.int a1), some (.int a2), some (.int a3)]) rfl ((G_J1_indexOf_4cfef_t2_0 hd a1 a2 a3 h))
set_option maxRecDepth 100000 in
set_option maxHeartbeats 4000000 in
theorem G_J0_indexOf_7cf53_t2_0 {sc : Nat × (Nat → Int32)} {d : Nat} (hd : 2 ≤ d) {r : Int32} {u : xS} (v1 : Int32) (v2 : Int32) (h : f_J0_indexOf_7cf53_t2 v1 v2 = some r) : xG sc mJ0_indexOf_7cf53 d 0 0 (xR (some (.int r)) (xL0, u) 0 0) 0 0 0 [some (.ref (1010 + 2)), some (.int v1), some (.int v2)] [] (xL0, u) := by
  rw [f_J0_indexOf_7cf53_t2] at h
  refine g_aload_n (pc := 0) dJ0_indexOf_7cf53_0 rfl ?_
  refine g_cT 2 (pc := 1) dJ0_indexOf_7cf53_1 cT_RJ0_492 (M_J0_isLatin1_aae02_t2 (Nat.le_refl _) (rfl : f_J0_isLatin1_aae02_t2 = (1 : Int32))) (by decide) (as := []) (st := []) rfl rfl (Nat.le_of_ble_eq_true rfl) (Nat.le_trans (Nat.le_of_ble_eq_true rfl) hd) rfl ?_
  refine g_if_eq (tgt := 23) (pc := 4) dJ0_indexOf_7cf53_4 (by decide) (fun c1 => absurd c1 (by decide)) (fun _ => ?_)
  refine g_aload_n (pc := 7) dJ0_indexOf_7cf53_7 rfl ?_
  refine g_strV 2 (pc := 8) dJ0_indexOf_7cf53_8 fs_RJ0_9 (by decide) ?_
  refine g_iload_n (pc := 11) dJ0_indexOf_7cf53_11 rfl ?_
  refine g_iload_n (pc := 12) dJ0_indexOf_7cf53_12 rfl ?_
  refine g_aload_n (pc := 13) dJ0_indexOf_7cf53_13 rfl ?_
  refine g_cT 2 (pc := 14) dJ0_indexOf_7cf53_14 cT_RJ0_505 (M_J0_length_8abf5_t2 (Nat.le_refl _) rfl) (by decide) (as := []) (st := [.int v2, .int v1, .ref (1020 + 2)]) rfl rfl (Nat.le_of_ble_eq_true rfl) (Nat.le_trans (Nat.le_of_ble_eq_true rfl) hd) rfl ?_
  obtain ⟨x3, e2, h⟩ := x_bind h
  refine g_cS (pc := 17) dJ0_indexOf_7cf53_17 cS_RJ0_637 (M_J1_indexOf_4cfef_t2 (Nat.le_refl _) e2) (as := [.ref (1020 + 2), .int v1, .int v2, .int (f_J0_length_8abf5_t2)]) (st := []) rfl rfl (Nat.le_of_ble_eq_true rfl) (Nat.le_trans (Nat.le_of_ble_eq_true rfl) hd) rfl ?_
  refine g_goto (tgt := 36) (pc := 20) dJ0_indexOf_7cf53_20 (by decide) ?_
  replace h := Option.some.inj h
  subst h
  exact g_iret (pc := 36) dJ0_indexOf_7cf53_36 rfl rfl rfl (Nat.le_refl _) (Nat.le_refl _)
set_option maxRecDepth 100000 in
set_option maxHeartbeats 4000000 in
theorem M_J0_indexOf_7cf53_t2 {sc : Nat × (Nat → Int32)} {d : Nat} (hd : 2 ≤ d) {r : Int32} {u : xS} {a1 : Int32} {a2 : Int32} (h : f_J0_indexOf_7cf53_t2 a1 a2 = some r) : xMt sc mJ0_indexOf_7cf53 d 0 0 [.ref (1010 + 2), .int a1, .int a2] (xL0, u) (some (.int r)) (xL0, u) :=
  xMt.of (by decide +kernel) (by decide +kernel) (Nat.le_of_ble_eq_true rfl) (L := [some (.ref (1010 + 2)), some (.int a1), some (.int a2)]) rfl ((G_J0_indexOf_7cf53_t2_0 hd a1 a2 h))
set_option maxRecDepth 100000 in
set_option maxHeartbeats 4000000 in
theorem G_J0_indexOf_0f7a4_t2_0 {sc : Nat × (Nat → Int32)} {d : Nat} (hd : 3 ≤ d) {r : Int32} {u : xS} (v1 : Int32) (h : f_J0_indexOf_0f7a4_t2 v1 = some r) : xG sc mJ0_indexOf_0f7a4 d 0 0 (xR (some (.int r)) (xL0, u) 0 0) 0 0 0 [some (.ref (1010 + 2)), some (.int v1)] [] (xL0, u) := by
  rw [f_J0_indexOf_0f7a4_t2] at h
  refine g_aload_n (pc := 0) dJ0_indexOf_0f7a4_0 rfl ?_
  refine g_iload_n (pc := 1) dJ0_indexOf_0f7a4_1 rfl ?_
  refine g_iconst (pc := 2) dJ0_indexOf_0f7a4_2 ic_0 ?_
  obtain ⟨x2, e1, h⟩ := x_bind h
  refine g_cT 2 (pc := 3) dJ0_indexOf_0f7a4_3 cT_RJ0_633 (M_J0_indexOf_7cf53_t2 (Nat.le_refl _) e1) (by decide) (as := [.int v1, .int (0 : Int32)]) (st := []) rfl rfl (Nat.le_of_ble_eq_true rfl) (Nat.le_trans (Nat.le_of_ble_eq_true rfl) hd) rfl ?_
  replace h := Option.some.inj h
  subst h
  exact g_iret (pc := 6) dJ0_indexOf_0f7a4_6 rfl rfl rfl (Nat.le_refl _) (Nat.le_refl _)
set_option maxRecDepth 100000 in
set_option maxHeartbeats 4000000 in
theorem M_J0_indexOf_0f7a4_t2 {sc : Nat × (Nat → Int32)} {d : Nat} (hd : 3 ≤ d) {r : Int32} {u : xS} {a1 : Int32} (h : f_J0_indexOf_0f7a4_t2 a1 = some r) : xMt sc mJ0_indexOf_0f7a4 d 0 0 [.ref (1010 + 2), .int a1] (xL0, u) (some (.int r)) (xL0, u) :=
  xMt.of (by decide +kernel) (by decide +kernel) (Nat.le_of_ble_eq_true rfl) (L := [some (.ref (1010 + 2)), some (.int a1)]) rfl ((G_J0_indexOf_0f7a4_t2_0 hd a1 h))
set_option maxRecDepth 100000 in
set_option maxHeartbeats 4000000 in
theorem G_X12_isOf_t2_0 {sc : Nat × (Nat → Int32)} {d : Nat} (hd : 4 ≤ d) {r : Int32} {u : xS} (v1 : Int32) (h : f_X12_isOf_t2 u v1 = some r) : xG sc mX12_isOf d 0 0 (xR (some (.int r)) (xL0, u) 0 0) 0 0 0 [some (.ref 135), some (.int v1), some (.ref (1010 + 2))] [] (xL0, u) := by
  rw [f_X12_isOf_t2] at h
  refine g_aload_n (pc := 0) dX12_isOf_0 rfl ?_
  refine g_gI (pc := 1) dX12_isOf_1 fI_RX12_259 xc_135 (v := (rd u 135 33)) rfl ?_
  refine g_iload_n (pc := 4) dX12_isOf_4 rfl ?_
  refine g_icmp_ge (tgt := 40) (pc := 5) dX12_isOf_5 (by decide) (fun c1 => ?_) (fun c1 => ?_)
  · replace h := (if_pos c1).symm.trans h
    refine g_iconst (pc := 40) dX12_isOf_40 ic_0 ?_
    replace h := Option.some.inj h
    subst h
    exact g_zret (pc := 41) dX12_isOf_41 rfl (Or.inl rfl) rfl rfl (Nat.le_refl _) (Nat.le_refl _)
  · replace h := (if_neg c1).symm.trans h
    refine g_aload_n (pc := 8) dX12_isOf_8 rfl ?_
    refine g_gR (pc := 9) dX12_isOf_9 fR_RX12_84 xc_135 (v := 159) rfl ?_
    refine g_aload_n (pc := 12) dX12_isOf_12 rfl ?_
    refine g_gI (pc := 13) dX12_isOf_13 fI_RX12_259 xc_135 (v := (rd u 135 33)) rfl ?_
    obtain ⟨g2, h⟩ := x_gd h
    refine g_iaload (pc := 16) dX12_isOf_16 xc_159 (xin_of g2) (v := (rd u 159 (rd u 135 33).toNatClampNeg)) rfl ?_
    refine g_if_le (tgt := 40) (pc := 17) dX12_isOf_17 (by decide) (fun c3 => ?_) (fun c3 => ?_)
    · replace h := (if_pos c3).symm.trans h
      refine g_iconst (pc := 40) dX12_isOf_40 ic_0 ?_
      replace h := Option.some.inj h
      subst h
      exact g_zret (pc := 41) dX12_isOf_41 rfl (Or.inl rfl) rfl rfl (Nat.le_refl _) (Nat.le_refl _)
    · replace h := (if_neg c3).symm.trans h
      refine g_aload_n (pc := 20) dX12_isOf_20 rfl ?_
      refine g_aload_n (pc := 21) dX12_isOf_21 rfl ?_
      refine g_gR (pc := 22) dX12_isOf_22 fR_RX12_84 xc_135 (v := 159) rfl ?_
      refine g_aload_n (pc := 25) dX12_isOf_25 rfl ?_
      refine g_gI (pc := 26) dX12_isOf_26 fI_RX12_259 xc_135 (v := (rd u 135 33)) rfl ?_
      refine g_iaload (pc := 29) dX12_isOf_29 xc_159 (xin_of g2) (v := (rd u 159 (rd u 135 33).toNatClampNeg)) rfl ?_
      obtain ⟨x5, e4, h⟩ := x_bind h
      refine g_cT 2 (pc := 30) dX12_isOf_30 cT_RX12_262 (M_J0_indexOf_0f7a4_t2 (Nat.le_refl _) e4) (by decide) (as := [.int (rd u 159 (rd u 135 33).toNatClampNeg)]) (st := []) rfl rfl (Nat.le_of_ble_eq_true rfl) (Nat.le_trans (Nat.le_of_ble_eq_true rfl) hd) rfl ?_
      refine g_if_lt (tgt := 40) (pc := 33) dX12_isOf_33 (by decide) (fun c6 => ?_) (fun c6 => ?_)
      · replace h := (if_pos c6).symm.trans h
        refine g_iconst (pc := 40) dX12_isOf_40 ic_0 ?_
        replace h := Option.some.inj h
        subst h
        exact g_zret (pc := 41) dX12_isOf_41 rfl (Or.inl rfl) rfl rfl (Nat.le_refl _) (Nat.le_refl _)
      · replace h := (if_neg c6).symm.trans h
        refine g_iconst (pc := 36) dX12_isOf_36 ic_1 ?_
        refine g_goto (tgt := 41) (pc := 37) dX12_isOf_37 (by decide) ?_
        replace h := Option.some.inj h
        subst h
        exact g_zret (pc := 41) dX12_isOf_41 rfl (Or.inr rfl) rfl rfl (Nat.le_refl _) (Nat.le_refl _)
set_option maxRecDepth 100000 in
set_option maxHeartbeats 4000000 in
theorem M_X12_isOf_t2 {sc : Nat × (Nat → Int32)} {d : Nat} (hd : 4 ≤ d) {r : Int32} {u : xS} {a1 : Int32} (h : f_X12_isOf_t2 u a1 = some r) : xMt sc mX12_isOf d 0 0 [.ref 135, .int a1, .ref (1010 + 2)] (xL0, u) (some (.int r)) (xL0, u) :=
  xMt.of (by decide +kernel) (by decide +kernel) (Nat.le_of_ble_eq_true rfl) (L := [some (.ref 135), some (.int a1), some (.ref (1010 + 2))]) rfl ((G_X12_isOf_t2_0 hd a1 h))
set_option maxRecDepth 100000 in
set_option maxHeartbeats 4000000 in
theorem G_X12_unary_61 {sc : Nat × (Nat → Int32)} {d : Nat} (hd : 5 ≤ d) {r : Int32} {u' : xS} {dk : Nat} (hkd : dk + 1 ≤ d) {k_X12_unary : Int32 → xS → Option (Int32 × xS)} (hk_X12_unary : ∀ (a1 : Int32) (u u' : xS) (r : Int32), k_X12_unary a1 u = some (r, u') → xMt sc mX12_unary dk 0 0 [.ref 135, .int a1] (xL0, u) (some (.int r)) (xL0, u')) {k_X12_thing : Int32 → xS → Option (Int32 × xS)} (hk_X12_thing : ∀ (a1 : Int32) (u u' : xS) (r : Int32), k_X12_thing a1 u = some (r, u') → xMt sc mX12_thing dk 0 0 [.ref 135, .int a1] (xL0, u) (some (.int r)) (xL0, u')) (v3 : Int32) (s1 : Int32) (u : xS) (h : f_X12_unary_61 k_X12_unary k_X12_thing v3 s1 u = some (r, u')) : xG sc mX12_unary d 0 0 (xR (some (.int r)) (xL0, u') 0 0) 0 0 61 [none, none, none, some (.int v3)] [.int s1, .ref 135] (xL0, u) := by
  rw [f_X12_unary_61] at h
  refine g_cS (pc := 61) dX12_unary_61 cS_RX12_297 (M_X12_act (Nat.le_refl _) rfl) (as := [.int s1]) (st := [.ref 135]) rfl rfl (Nat.le_of_ble_eq_true rfl) (Nat.le_trans (Nat.le_of_ble_eq_true rfl) hd) rfl ?_
  obtain ⟨u2, e1, h⟩ := x_bind h
  refine g_cV (pc := 64) dX12_unary_64 cV_RX12_276 (M_X12_marks (Nat.le_refl _) e1) xc_135 (as := [.int (f_X12_act s1)]) (st := []) rfl rfl (Nat.le_of_ble_eq_true rfl) (Nat.le_trans (Nat.le_of_ble_eq_true rfl) hd) rfl ?_
  refine g_iload_n (pc := 67) dX12_unary_67 rfl ?_
  obtain ⟨g3, h⟩ := x_gd h
  obtain ⟨h1, h2⟩ := x_inj2 h
  subst h1
  subst h2
  exact g_zret (pc := 68) dX12_unary_68 rfl (xb_of g3) rfl rfl (Nat.le_refl _) (Nat.le_refl _)
set_option maxRecDepth 100000 in
set_option maxHeartbeats 4000000 in
theorem G_X12_unary_0 {sc : Nat × (Nat → Int32)} {d : Nat} (hd : 5 ≤ d) {r : Int32} {u' : xS} {dk : Nat} (hkd : dk + 1 ≤ d) {k_X12_unary : Int32 → xS → Option (Int32 × xS)} (hk_X12_unary : ∀ (a1 : Int32) (u u' : xS) (r : Int32), k_X12_unary a1 u = some (r, u') → xMt sc mX12_unary dk 0 0 [.ref 135, .int a1] (xL0, u) (some (.int r)) (xL0, u')) {k_X12_thing : Int32 → xS → Option (Int32 × xS)} (hk_X12_thing : ∀ (a1 : Int32) (u u' : xS) (r : Int32), k_X12_thing a1 u = some (r, u') → xMt sc mX12_thing dk 0 0 [.ref 135, .int a1] (xL0, u) (some (.int r)) (xL0, u')) (v1 : Int32) (u : xS) (h : f_X12_unary k_X12_unary k_X12_thing v1 u = some (r, u')) : xG sc mX12_unary d 0 0 (xR (some (.int r)) (xL0, u') 0 0) 0 0 0 [some (.ref 135), some (.int v1), none, none] [] (xL0, u) := by
  rw [f_X12_unary] at h
  refine g_aload_n (pc := 0) dX12_unary_0 rfl ?_
  refine g_iload_n (pc := 1) dX12_unary_1 rfl ?_
  refine g_ldcSw 2 (pc := 2) dX12_unary_2 rfl rfl ?_
  obtain ⟨x2, e1, h⟩ := x_bind h
  refine g_cV (pc := 5) dX12_unary_5 cV_RX12_272 (M_X12_isOf_t2 (Nat.le_refl _) e1) xc_135 (as := [.int v1, .ref (1010 + 2)]) (st := []) rfl rfl (Nat.le_of_ble_eq_true rfl) (Nat.le_trans (Nat.le_of_ble_eq_true rfl) hd) rfl ?_
  refine g_if_ne (tgt := 17) (pc := 8) dX12_unary_8 (by decide) (fun c3 => ?_) (fun c3 => ?_)
  · replace h := (if_neg c3).symm.trans h
    refine g_aload_n (pc := 17) dX12_unary_17 rfl ?_
    refine g_gR (pc := 18) dX12_unary_18 fR_RX12_84 xc_135 (v := 159) rfl ?_
    refine g_aload_n (pc := 21) dX12_unary_21 rfl ?_
    refine g_gI (pc := 22) dX12_unary_22 fI_RX12_259 xc_135 (v := (rd u 135 33)) rfl ?_
    obtain ⟨g4, h⟩ := x_gd h
    refine g_iaload (pc := 25) dX12_unary_25 xc_159 (xin_of g4) (v := (rd u 159 (rd u 135 33).toNatClampNeg)) rfl ?_
    refine g_istore_n (pc := 26) dX12_unary_26 (Nat.le_of_ble_eq_true rfl) (L' := [some (.ref 135), some (.int v1), some (.int (rd u 159 (rd u 135 33).toNatClampNeg)), none]) rfl ?_
    refine g_aload_n (pc := 27) dX12_unary_27 rfl ?_
    refine g_dup (pc := 28) dX12_unary_28 rfl ?_
    refine g_gI (pc := 29) dX12_unary_29 fI_RX12_259 xc_135 (v := (rd u 135 33)) rfl ?_
    refine g_iconst (pc := 32) dX12_unary_32 ic_1 ?_
    refine g_iadd (pc := 33) dX12_unary_33 rfl ?_
    refine g_pI (pc := 34) dX12_unary_34 pI_RX12_259 xc_135 (u' := (wr u 135 33 ((rd u 135 33) + (1 : Int32)))) rfl ?_
    refine g_aload_n (pc := 37) dX12_unary_37 rfl ?_
    refine g_iload_n (pc := 38) dX12_unary_38 rfl ?_
    obtain ⟨⟨x6, u7⟩, e5, h⟩ := x_bind h
    dsimp only at h
    refine g_cV (pc := 39) dX12_unary_39 cV_RX12_294 (hk_X12_unary _ _ _ _ e5) xc_135 (as := [.int v1]) (st := []) rfl rfl (Nat.le_of_ble_eq_true rfl) hkd rfl ?_
    refine g_istore_n (pc := 42) dX12_unary_42 (Nat.le_of_ble_eq_true rfl) (L' := [some (.ref 135), some (.int v1), some (.int (rd u 159 (rd u 135 33).toNatClampNeg)), some (.int x6)]) rfl ?_
    refine g_iload_n (pc := 43) dX12_unary_43 rfl ?_
    refine g_if_eq (tgt := 67) (pc := 44) dX12_unary_44 (by decide) (fun c8 => ?_) (fun c8 => ?_)
    · replace h := (if_pos c8).symm.trans h
      refine g_iload_n (pc := 67) dX12_unary_67 rfl ?_
      obtain ⟨g9, h⟩ := x_gd h
      obtain ⟨h1, h2⟩ := x_inj2 h
      subst h1
      subst h2
      exact g_zret (pc := 68) dX12_unary_68 rfl (xb_of g9) rfl rfl (Nat.le_refl _) (Nat.le_refl _)
    · replace h := (if_neg c8).symm.trans h
      refine g_aload_n (pc := 47) dX12_unary_47 rfl ?_
      refine g_iload_n (pc := 48) dX12_unary_48 rfl ?_
      refine g_bipush (pc := 49) dX12_unary_49 bp_33 ?_
      refine g_icmp_ne (tgt := 59) (pc := 51) dX12_unary_51 (by decide) (fun c10 => ?_) (fun c10 => ?_)
      · replace h := (if_neg c10).symm.trans h
        refine g_bipush (pc := 59) dX12_unary_59 bp_126 ?_
        refine g_L (L' := [none, none, none, some (.int x6)]) ⟨rfl, trivial⟩ ?_
        exact G_X12_unary_61 hd hkd hk_X12_unary hk_X12_thing x6 (126 : Int32) u7 h
      · replace h := (if_pos c10).symm.trans h
        refine g_bipush (pc := 54) dX12_unary_54 bp_33 ?_
        refine g_goto (tgt := 61) (pc := 56) dX12_unary_56 (by decide) ?_
        refine g_L (L' := [none, none, none, some (.int x6)]) ⟨rfl, trivial⟩ ?_
        exact G_X12_unary_61 hd hkd hk_X12_unary hk_X12_thing x6 (33 : Int32) u7 h
  · replace h := (if_pos c3).symm.trans h
    refine g_aload_n (pc := 11) dX12_unary_11 rfl ?_
    refine g_iload_n (pc := 12) dX12_unary_12 rfl ?_
    obtain ⟨⟨x13, u14⟩, e12, h⟩ := x_bind h
    dsimp only at h
    refine g_cV (pc := 13) dX12_unary_13 cV_RX12_291 (hk_X12_thing _ _ _ _ e12) xc_135 (as := [.int v1]) (st := []) rfl rfl (Nat.le_of_ble_eq_true rfl) hkd rfl ?_
    obtain ⟨g15, h⟩ := x_gd h
    obtain ⟨h1, h2⟩ := x_inj2 h
    subst h1
    subst h2
    exact g_zret (pc := 16) dX12_unary_16 rfl (xb_of g15) rfl rfl (Nat.le_refl _) (Nat.le_refl _)
set_option maxRecDepth 100000 in
set_option maxHeartbeats 4000000 in
theorem M_X12_unary {sc : Nat × (Nat → Int32)} {d : Nat} (hd : 5 ≤ d) {r : Int32} {u u' : xS} {dk : Nat} (hkd : dk + 1 ≤ d) {k_X12_unary : Int32 → xS → Option (Int32 × xS)} (hk_X12_unary : ∀ (a1 : Int32) (u u' : xS) (r : Int32), k_X12_unary a1 u = some (r, u') → xMt sc mX12_unary dk 0 0 [.ref 135, .int a1] (xL0, u) (some (.int r)) (xL0, u')) {k_X12_thing : Int32 → xS → Option (Int32 × xS)} (hk_X12_thing : ∀ (a1 : Int32) (u u' : xS) (r : Int32), k_X12_thing a1 u = some (r, u') → xMt sc mX12_thing dk 0 0 [.ref 135, .int a1] (xL0, u) (some (.int r)) (xL0, u')) {a1 : Int32} (h : f_X12_unary k_X12_unary k_X12_thing a1 u = some (r, u')) : xMt sc mX12_unary d 0 0 [.ref 135, .int a1] (xL0, u) (some (.int r)) (xL0, u') :=
  xMt.of (by decide +kernel) (by decide +kernel) (Nat.le_of_ble_eq_true rfl) (L := [some (.ref 135), some (.int a1), none, none]) rfl ((G_X12_unary_0 hd hkd hk_X12_unary hk_X12_thing a1 u h))
theorem zb_J0_isLatin1_aae02_t3 : f_J0_isLatin1_aae02_t3 = 0 ∨ f_J0_isLatin1_aae02_t3 = 1 := by
  unfold f_J0_isLatin1_aae02_t3
  repeat' first | exact Or.inl rfl | exact Or.inr rfl | apply x_ite
set_option maxRecDepth 100000 in
set_option maxHeartbeats 4000000 in
theorem G_J0_isLatin1_aae02_t3_0 {sc : Nat × (Nat → Int32)} {d : Nat} (hd : 0 ≤ d) {r : Int32} {u : xS} (h : f_J0_isLatin1_aae02_t3 = r) : xG sc mJ0_isLatin1_aae02 d 0 0 (xR (some (.int r)) (xL0, u) 0 0) 0 0 0 [some (.ref (1010 + 3))] [] (xL0, u) := by
  rw [f_J0_isLatin1_aae02_t3] at h
  refine g_getsC (pc := 0) dJ0_isLatin1_aae02_0 fs_RJ0_38 ?_
  refine g_if_eq (tgt := 17) (pc := 3) dJ0_isLatin1_aae02_3 (by decide) (fun c1 => absurd c1 (by decide)) (fun _ => ?_)
  refine g_aload_n (pc := 6) dJ0_isLatin1_aae02_6 rfl ?_
  refine g_strC 3 (pc := 7) dJ0_isLatin1_aae02_7 fs_RJ0_15 (by decide) ?_
  refine g_if_ne (tgt := 17) (pc := 10) dJ0_isLatin1_aae02_10 (by decide) (fun c2 => absurd c2 (by decide)) (fun _ => ?_)
  refine g_iconst (pc := 13) dJ0_isLatin1_aae02_13 ic_1 ?_
  refine g_goto (tgt := 18) (pc := 14) dJ0_isLatin1_aae02_14 (by decide) ?_
  subst h
  exact g_zret (pc := 18) dJ0_isLatin1_aae02_18 rfl (Or.inr rfl) rfl rfl (Nat.le_refl _) (Nat.le_refl _)
set_option maxRecDepth 100000 in
set_option maxHeartbeats 4000000 in
theorem M_J0_isLatin1_aae02_t3 {sc : Nat × (Nat → Int32)} {d : Nat} (hd : 0 ≤ d) {r : Int32} {u : xS} (h : f_J0_isLatin1_aae02_t3 = r) : xMt sc mJ0_isLatin1_aae02 d 0 0 [.ref (1010 + 3)] (xL0, u) (some (.int r)) (xL0, u) :=
  xMt.of (by decide +kernel) (by decide +kernel) (Nat.le_of_ble_eq_true rfl) (L := [some (.ref (1010 + 3))]) rfl ((G_J0_isLatin1_aae02_t3_0 hd h))
set_option maxRecDepth 100000 in
set_option maxHeartbeats 4000000 in
theorem G_J0_coder_7d493_t3_0 {sc : Nat × (Nat → Int32)} {d : Nat} (hd : 0 ≤ d) {r : Int32} {u : xS} (h : f_J0_coder_7d493_t3 = r) : xG sc mJ0_coder_7d493 d 0 0 (xR (some (.int r)) (xL0, u) 0 0) 0 0 0 [some (.ref (1010 + 3))] [] (xL0, u) := by
  rw [f_J0_coder_7d493_t3] at h
  refine g_getsC (pc := 0) dJ0_coder_7d493_0 fs_RJ0_38 ?_
  refine g_if_eq (tgt := 13) (pc := 3) dJ0_coder_7d493_3 (by decide) (fun c1 => absurd c1 (by decide)) (fun _ => ?_)
  refine g_aload_n (pc := 6) dJ0_coder_7d493_6 rfl ?_
  refine g_strC 3 (pc := 7) dJ0_coder_7d493_7 fs_RJ0_15 (by decide) ?_
  refine g_goto (tgt := 14) (pc := 10) dJ0_coder_7d493_10 (by decide) ?_
  subst h
  exact g_bret (pc := 14) dJ0_coder_7d493_14 rfl rfl rfl rfl (Nat.le_refl _) (Nat.le_refl _)
set_option maxRecDepth 100000 in
set_option maxHeartbeats 4000000 in
theorem M_J0_coder_7d493_t3 {sc : Nat × (Nat → Int32)} {d : Nat} (hd : 0 ≤ d) {r : Int32} {u : xS} (h : f_J0_coder_7d493_t3 = r) : xMt sc mJ0_coder_7d493 d 0 0 [.ref (1010 + 3)] (xL0, u) (some (.int r)) (xL0, u) :=
  xMt.of (by decide +kernel) (by decide +kernel) (Nat.le_of_ble_eq_true rfl) (L := [some (.ref (1010 + 3))]) rfl ((G_J0_coder_7d493_t3_0 hd h))
set_option maxRecDepth 100000 in
set_option maxHeartbeats 4000000 in
theorem G_J0_length_8abf5_t3_0 {sc : Nat × (Nat → Int32)} {d : Nat} (hd : 1 ≤ d) {r : Int32} {u : xS} (h : f_J0_length_8abf5_t3 = r) : xG sc mJ0_length_8abf5 d 0 0 (xR (some (.int r)) (xL0, u) 0 0) 0 0 0 [some (.ref (1010 + 3))] [] (xL0, u) := by
  rw [f_J0_length_8abf5_t3] at h
  refine g_aload_n (pc := 0) dJ0_length_8abf5_0 rfl ?_
  refine g_strV 3 (pc := 1) dJ0_length_8abf5_1 fs_RJ0_9 (by decide) ?_
  refine g_blen 3 (pc := 4) dJ0_length_8abf5_4 (by decide) (v := (3 : Int32)) rfl ?_
  refine g_aload_n (pc := 5) dJ0_length_8abf5_5 rfl ?_
  refine g_cT 3 (pc := 6) dJ0_length_8abf5_6 cT_RJ0_335 (M_J0_coder_7d493_t3 (Nat.le_refl _) (rfl : f_J0_coder_7d493_t3 = (0 : Int32))) (by decide) (as := []) (st := [.int (3 : Int32)]) rfl rfl (Nat.le_of_ble_eq_true rfl) (Nat.le_trans (Nat.le_of_ble_eq_true rfl) hd) rfl ?_
  refine g_ishr (pc := 9) dJ0_length_8abf5_9 rfl ?_
  subst h
  exact g_iret (pc := 10) dJ0_length_8abf5_10 rfl rfl rfl (Nat.le_refl _) (Nat.le_refl _)
set_option maxRecDepth 100000 in
set_option maxHeartbeats 4000000 in
theorem M_J0_length_8abf5_t3 {sc : Nat × (Nat → Int32)} {d : Nat} (hd : 1 ≤ d) {r : Int32} {u : xS} (h : f_J0_length_8abf5_t3 = r) : xMt sc mJ0_length_8abf5 d 0 0 [.ref (1010 + 3)] (xL0, u) (some (.int r)) (xL0, u) :=
  xMt.of (by decide +kernel) (by decide +kernel) (Nat.le_of_ble_eq_true rfl) (L := [some (.ref (1010 + 3))]) rfl ((G_J0_length_8abf5_t3_0 hd h))
set_option maxRecDepth 100000 in
set_option maxHeartbeats 4000000 in
theorem G_J1_indexOfChar_4cfef_t3_7 {sc : Nat × (Nat → Int32)} {d : Nat} (hd : 0 ≤ d) {r : Int32} {u : xS} : ∀ (n : Nat) (v3 : Int32) (v4 : Int32) (v5 : Int32), f_J1_indexOfChar_4cfef_t3_7 n v3 v4 v5 = some r → xG sc mJ1_indexOfChar_4cfef d 0 0 (xR (some (.int r)) (xL0, u) 0 0) 0 0 7 [some (.ref (1020 + 3)), none, none, some (.int v3), some (.int v4), some (.int v5)] [] (xL0, u) := by
  intro n
  induction n with
  | zero =>
    intro v3 v4 v5 h
    rw [f_J1_indexOfChar_4cfef_t3_7] at h
    cases h
  | succ n ih =>
    intro v3 v4 v5 h
    rw [f_J1_indexOfChar_4cfef_t3_7] at h
    refine g_iload (pc := 7) dJ1_indexOfChar_4cfef_7 rfl ?_
    refine g_iload_n (pc := 9) dJ1_indexOfChar_4cfef_9 rfl ?_
    refine g_icmp_ge (tgt := 31) (pc := 10) dJ1_indexOfChar_4cfef_10 (by decide) (fun c1 => ?_) (fun c1 => ?_)
    · replace h := (if_pos c1).symm.trans h
      refine g_iconst (pc := 31) dJ1_indexOfChar_4cfef_31 ic_m1 ?_
      replace h := Option.some.inj h
      subst h
      exact g_iret (pc := 32) dJ1_indexOfChar_4cfef_32 rfl rfl rfl (Nat.le_refl _) (Nat.le_refl _)
    · replace h := (if_neg c1).symm.trans h
      refine g_aload_n (pc := 13) dJ1_indexOfChar_4cfef_13 rfl ?_
      refine g_iload (pc := 14) dJ1_indexOfChar_4cfef_14 rfl ?_
      obtain ⟨g2, h⟩ := x_gd h
      refine g_bload 3 (pc := 16) dJ1_indexOfChar_4cfef_16 (by decide) (xin_of g2) rfl ?_
      refine g_iload (pc := 17) dJ1_indexOfChar_4cfef_17 rfl ?_
      refine g_icmp_ne (tgt := 25) (pc := 19) dJ1_indexOfChar_4cfef_19 (by decide) (fun c3 => ?_) (fun c3 => ?_)
      · replace h := (if_neg c3).symm.trans h
        refine g_inc (pc := 25) dJ1_indexOfChar_4cfef_25 (Nat.le_of_ble_eq_true rfl) rfl ic_1 (L' := [some (.ref (1020 + 3)), none, none, some (.int v3), some (.int v4), some (.int (v5 + (1 : Int32)))]) rfl ?_
        refine g_goto (tgt := 7) (pc := 28) dJ1_indexOfChar_4cfef_28 (by decide) ?_
        exact ih v3 v4 (v5 + (1 : Int32)) h
      · replace h := (if_pos c3).symm.trans h
        refine g_iload (pc := 22) dJ1_indexOfChar_4cfef_22 rfl ?_
        replace h := Option.some.inj h
        subst h
        exact g_iret (pc := 24) dJ1_indexOfChar_4cfef_24 rfl rfl rfl (Nat.le_refl _) (Nat.le_refl _)
set_option maxRecDepth 100000 in
set_option maxHeartbeats 4000000 in
theorem G_J1_indexOfChar_4cfef_t3_0 {sc : Nat × (Nat → Int32)} {d : Nat} (hd : 0 ≤ d) {r : Int32} {u : xS} (v1 : Int32) (v2 : Int32) (v3 : Int32) (h : f_J1_indexOfChar_4cfef_t3 v1 v2 v3 = some r) : xG sc mJ1_indexOfChar_4cfef d 0 0 (xR (some (.int r)) (xL0, u) 0 0) 0 0 0 [some (.ref (1020 + 3)), some (.int v1), some (.int v2), some (.int v3), none, none] [] (xL0, u) := by
  rw [f_J1_indexOfChar_4cfef_t3] at h
  refine g_iload_n (pc := 0) dJ1_indexOfChar_4cfef_0 rfl ?_
  refine g_i2b (pc := 1) dJ1_indexOfChar_4cfef_1 rfl ?_
  refine g_istore (pc := 2) dJ1_indexOfChar_4cfef_2 (Nat.le_of_ble_eq_true rfl) (L' := [some (.ref (1020 + 3)), some (.int v1), some (.int v2), some (.int v3), some (.int (v1.toInt8.toInt32)), none]) rfl ?_
  refine g_iload_n (pc := 4) dJ1_indexOfChar_4cfef_4 rfl ?_
  refine g_istore (pc := 5) dJ1_indexOfChar_4cfef_5 (Nat.le_of_ble_eq_true rfl) (L' := [some (.ref (1020 + 3)), some (.int v1), some (.int v2), some (.int v3), some (.int (v1.toInt8.toInt32)), some (.int v2)]) rfl ?_
  refine g_L (L' := [some (.ref (1020 + 3)), none, none, some (.int v3), some (.int (v1.toInt8.toInt32)), some (.int v2)]) ⟨rfl, ⟨rfl, ⟨rfl, ⟨rfl, trivial⟩⟩⟩⟩ ?_
  exact G_J1_indexOfChar_4cfef_t3_7 hd xN v3 (v1.toInt8.toInt32) v2 h
set_option maxRecDepth 100000 in
set_option maxHeartbeats 4000000 in
theorem M_J1_indexOfChar_4cfef_t3 {sc : Nat × (Nat → Int32)} {d : Nat} (hd : 0 ≤ d) {r : Int32} {u : xS} {a1 : Int32} {a2 : Int32} {a3 : Int32} (h : f_J1_indexOfChar_4cfef_t3 a1 a2 a3 = some r) : xMt sc mJ1_indexOfChar_4cfef d 0 0 [.ref (1020 + 3), .int a1, .int a2, .int a3] (xL0, u) (some (.int r)) (xL0, u) :=
  xMt.of (by decide +kernel) (by decide +kernel) (Nat.le_of_ble_eq_true rfl) (L := [some (.ref (1020 + 3)), some (.int a1), some (.int a2), some (.int a3), none, none]) rfl ((G_J1_indexOfChar_4cfef_t3_0 hd a1 a2 a3 h))
set_option maxRecDepth 100000 in
set_option maxHeartbeats 4000000 in
theorem G_J1_indexOf_4cfef_t3_0 {sc : Nat × (Nat → Int32)} {d : Nat} (hd : 1 ≤ d) {r : Int32} {u : xS} (v1 : Int32) (v2 : Int32) (v3 : Int32) (h : f_J1_indexOf_4cfef_t3 v1 v2 v3 = some r) : xG sc mJ1_indexOf_4cfef d 0 0 (xR (some (.int r)) (xL0, u) 0 0) 0 0 0 [some (.ref (1020 + 3)), some (.int v1), some (.int v2), some (.int v3)] [] (xL0, u) := by
  rw [f_J1_indexOf_4cfef_t3] at h
  refine g_iload_n (pc := 0) dJ1_indexOf_4cfef_0 rfl ?_
  refine g_cS (pc := 1) dJ1_indexOf_4cfef_1 cS_RJ1_88 (M_J1_canEncode_9a6ad (Nat.le_refl _) rfl) (as := [.int v1]) (st := []) rfl rfl (Nat.le_of_ble_eq_true rfl) (Nat.le_trans (Nat.le_of_ble_eq_true rfl) hd) rfl ?_
  refine g_if_ne (tgt := 9) (pc := 4) dJ1_indexOf_4cfef_4 (by decide) (fun c1 => ?_) (fun c1 => ?_)
  · replace h := (if_neg c1).symm.trans h
    refine g_iload_n (pc := 9) dJ1_indexOf_4cfef_9 rfl ?_
    refine g_iconst (pc := 10) dJ1_indexOf_4cfef_10 ic_0 ?_
    refine g_max (pc := 11) dJ1_indexOf_4cfef_11 mK_RJ1_92 (Nat.le_of_ble_eq_true rfl) (Nat.le_trans (Nat.le_of_ble_eq_true rfl) hd) (Nat.zero_le _) (Nat.zero_le _) ?_
    refine g_istore_n (pc := 14) dJ1_indexOf_4cfef_14 (Nat.le_of_ble_eq_true rfl) (L' := [some (.ref (1020 + 3)), some (.int v1), some (.int (imax v2 (0 : Int32))), some (.int v3)]) rfl ?_
    refine g_iload_n (pc := 15) dJ1_indexOf_4cfef_15 rfl ?_
    refine g_aload_n (pc := 16) dJ1_indexOf_4cfef_16 rfl ?_
    refine g_blen 3 (pc := 17) dJ1_indexOf_4cfef_17 (by decide) (v := (3 : Int32)) rfl ?_
    refine g_min (pc := 18) dJ1_indexOf_4cfef_18 mK_RJ1_38 (Nat.le_of_ble_eq_true rfl) (Nat.le_trans (Nat.le_of_ble_eq_true rfl) hd) (Nat.zero_le _) (Nat.zero_le _) ?_
    refine g_istore_n (pc := 21) dJ1_indexOf_4cfef_21 (Nat.le_of_ble_eq_true rfl) (L' := [some (.ref (1020 + 3)), some (.int v1), some (.int (imax v2 (0 : Int32))), some (.int (imin v3 (3 : Int32)))]) rfl ?_
    refine g_iload_n (pc := 22) dJ1_indexOf_4cfef_22 rfl ?_
    refine g_iload_n (pc := 23) dJ1_indexOf_4cfef_23 rfl ?_
    refine g_icmp_lt (tgt := 29) (pc := 24) dJ1_indexOf_4cfef_24 (by decide) (fun c2 => ?_) (fun c2 => ?_)
    · replace h := (if_pos c2).symm.trans h
      refine g_aload_n (pc := 29) dJ1_indexOf_4cfef_29 rfl ?_
      refine g_iload_n (pc := 30) dJ1_indexOf_4cfef_30 rfl ?_
      refine g_iload_n (pc := 31) dJ1_indexOf_4cfef_31 rfl ?_
      refine g_iload_n (pc := 32) dJ1_indexOf_4cfef_32 rfl ?_
      obtain ⟨x4, e3, h⟩ := x_bind h
      refine g_cS (pc := 33) dJ1_indexOf_4cfef_33 cS_RJ1_95 (M_J1_indexOfChar_4cfef_t3 (Nat.le_refl _) e3) (as := [.ref (1020 + 3), .int v1, .int (imax v2 (0 : Int32)), .int (imin v3 (3 : Int32))]) (st := []) rfl rfl (Nat.le_of_ble_eq_true rfl) (Nat.le_trans (Nat.le_of_ble_eq_true rfl) hd) rfl ?_
      replace h := Option.some.inj h
      subst h
      exact g_iret (pc := 36) dJ1_indexOf_4cfef_36 rfl rfl rfl (Nat.le_refl _) (Nat.le_refl _)
    · replace h := (if_neg c2).symm.trans h
      refine g_iconst (pc := 27) dJ1_indexOf_4cfef_27 ic_m1 ?_
      replace h := Option.some.inj h
      subst h
      exact g_iret (pc := 28) dJ1_indexOf_4cfef_28 rfl rfl rfl (Nat.le_refl _) (Nat.le_refl _)
  · replace h := (if_pos c1).symm.trans h
    refine g_iconst (pc := 7) dJ1_indexOf_4cfef_7 ic_m1 ?_
    replace h := Option.some.inj h
    subst h
    exact g_iret (pc := 8) dJ1_indexOf_4cfef_8 rfl rfl rfl (Nat.le_refl _) (Nat.le_refl _)
set_option maxRecDepth 100000 in
set_option maxHeartbeats 4000000 in
theorem M_J1_indexOf_4cfef_t3 {sc : Nat × (Nat → Int32)} {d : Nat} (hd : 1 ≤ d) {r : Int32} {u : xS} {a1 : Int32} {a2 : Int32} {a3 : Int32} (h : f_J1_indexOf_4cfef_t3 a1 a2 a3 = some r) : xMt sc mJ1_indexOf_4cfef d 0 0 [.ref (1020 + 3), .int a1, .int a2, .int a3] (xL0, u) (some (.int r)) (xL0, u) :=
  xMt.of (by decide +kernel) (by decide +kernel) (Nat.le_of_ble_eq_true rfl) (L := [some (.ref (1020 + 3)), some (.int a1), some (.int a2), some (.int a3)]) rfl ((G_J1_indexOf_4cfef_t3_0 hd a1 a2 a3 h))
set_option maxRecDepth 100000 in
set_option maxHeartbeats 4000000 in
theorem G_J0_indexOf_7cf53_t3_0 {sc : Nat × (Nat → Int32)} {d : Nat} (hd : 2 ≤ d) {r : Int32} {u : xS} (v1 : Int32) (v2 : Int32) (h : f_J0_indexOf_7cf53_t3 v1 v2 = some r) : xG sc mJ0_indexOf_7cf53 d 0 0 (xR (some (.int r)) (xL0, u) 0 0) 0 0 0 [some (.ref (1010 + 3)), some (.int v1), some (.int v2)] [] (xL0, u) := by
  rw [f_J0_indexOf_7cf53_t3] at h
  refine g_aload_n (pc := 0) dJ0_indexOf_7cf53_0 rfl ?_
  refine g_cT 3 (pc := 1) dJ0_indexOf_7cf53_1 cT_RJ0_492 (M_J0_isLatin1_aae02_t3 (Nat.le_refl _) (rfl : f_J0_isLatin1_aae02_t3 = (1 : Int32))) (by decide) (as := []) (st := []) rfl rfl (Nat.le_of_ble_eq_true rfl) (Nat.le_trans (Nat.le_of_ble_eq_true rfl) hd) rfl ?_
  refine g_if_eq (tgt := 23) (pc := 4) dJ0_indexOf_7cf53_4 (by decide) (fun c1 => absurd c1 (by decide)) (fun _ => ?_)
  refine g_aload_n (pc := 7) dJ0_indexOf_7cf53_7 rfl ?_
  refine g_strV 3 (pc := 8) dJ0_indexOf_7cf53_8 fs_RJ0_9 (by decide) ?_
  refine g_iload_n (pc := 11) dJ0_indexOf_7cf53_11 rfl ?_
  refine g_iload_n (pc := 12) dJ0_indexOf_7cf53_12 rfl ?_
  refine g_aload_n (pc := 13) dJ0_indexOf_7cf53_13 rfl ?_
  refine g_cT 3 (pc := 14) dJ0_indexOf_7cf53_14 cT_RJ0_505 (M_J0_length_8abf5_t3 (Nat.le_refl _) rfl) (by decide) (as := []) (st := [.int v2, .int v1, .ref (1020 + 3)]) rfl rfl (Nat.le_of_ble_eq_true rfl) (Nat.le_trans (Nat.le_of_ble_eq_true rfl) hd) rfl ?_
  obtain ⟨x3, e2, h⟩ := x_bind h
  refine g_cS (pc := 17) dJ0_indexOf_7cf53_17 cS_RJ0_637 (M_J1_indexOf_4cfef_t3 (Nat.le_refl _) e2) (as := [.ref (1020 + 3), .int v1, .int v2, .int (f_J0_length_8abf5_t3)]) (st := []) rfl rfl (Nat.le_of_ble_eq_true rfl) (Nat.le_trans (Nat.le_of_ble_eq_true rfl) hd) rfl ?_
  refine g_goto (tgt := 36) (pc := 20) dJ0_indexOf_7cf53_20 (by decide) ?_
  replace h := Option.some.inj h
  subst h
  exact g_iret (pc := 36) dJ0_indexOf_7cf53_36 rfl rfl rfl (Nat.le_refl _) (Nat.le_refl _)
set_option maxRecDepth 100000 in
set_option maxHeartbeats 4000000 in
theorem M_J0_indexOf_7cf53_t3 {sc : Nat × (Nat → Int32)} {d : Nat} (hd : 2 ≤ d) {r : Int32} {u : xS} {a1 : Int32} {a2 : Int32} (h : f_J0_indexOf_7cf53_t3 a1 a2 = some r) : xMt sc mJ0_indexOf_7cf53 d 0 0 [.ref (1010 + 3), .int a1, .int a2] (xL0, u) (some (.int r)) (xL0, u) :=
  xMt.of (by decide +kernel) (by decide +kernel) (Nat.le_of_ble_eq_true rfl) (L := [some (.ref (1010 + 3)), some (.int a1), some (.int a2)]) rfl ((G_J0_indexOf_7cf53_t3_0 hd a1 a2 h))
set_option maxRecDepth 100000 in
set_option maxHeartbeats 4000000 in
theorem G_J0_indexOf_0f7a4_t3_0 {sc : Nat × (Nat → Int32)} {d : Nat} (hd : 3 ≤ d) {r : Int32} {u : xS} (v1 : Int32) (h : f_J0_indexOf_0f7a4_t3 v1 = some r) : xG sc mJ0_indexOf_0f7a4 d 0 0 (xR (some (.int r)) (xL0, u) 0 0) 0 0 0 [some (.ref (1010 + 3)), some (.int v1)] [] (xL0, u) := by
  rw [f_J0_indexOf_0f7a4_t3] at h
  refine g_aload_n (pc := 0) dJ0_indexOf_0f7a4_0 rfl ?_
  refine g_iload_n (pc := 1) dJ0_indexOf_0f7a4_1 rfl ?_
  refine g_iconst (pc := 2) dJ0_indexOf_0f7a4_2 ic_0 ?_
  obtain ⟨x2, e1, h⟩ := x_bind h
  refine g_cT 3 (pc := 3) dJ0_indexOf_0f7a4_3 cT_RJ0_633 (M_J0_indexOf_7cf53_t3 (Nat.le_refl _) e1) (by decide) (as := [.int v1, .int (0 : Int32)]) (st := []) rfl rfl (Nat.le_of_ble_eq_true rfl) (Nat.le_trans (Nat.le_of_ble_eq_true rfl) hd) rfl ?_
  replace h := Option.some.inj h
  subst h
  exact g_iret (pc := 6) dJ0_indexOf_0f7a4_6 rfl rfl rfl (Nat.le_refl _) (Nat.le_refl _)
set_option maxRecDepth 100000 in
set_option maxHeartbeats 4000000 in
theorem M_J0_indexOf_0f7a4_t3 {sc : Nat × (Nat → Int32)} {d : Nat} (hd : 3 ≤ d) {r : Int32} {u : xS} {a1 : Int32} (h : f_J0_indexOf_0f7a4_t3 a1 = some r) : xMt sc mJ0_indexOf_0f7a4 d 0 0 [.ref (1010 + 3), .int a1] (xL0, u) (some (.int r)) (xL0, u) :=
  xMt.of (by decide +kernel) (by decide +kernel) (Nat.le_of_ble_eq_true rfl) (L := [some (.ref (1010 + 3)), some (.int a1)]) rfl ((G_J0_indexOf_0f7a4_t3_0 hd a1 h))
set_option maxRecDepth 100000 in
set_option maxHeartbeats 4000000 in
theorem G_X12_isOf_t3_0 {sc : Nat × (Nat → Int32)} {d : Nat} (hd : 4 ≤ d) {r : Int32} {u : xS} (v1 : Int32) (h : f_X12_isOf_t3 u v1 = some r) : xG sc mX12_isOf d 0 0 (xR (some (.int r)) (xL0, u) 0 0) 0 0 0 [some (.ref 135), some (.int v1), some (.ref (1010 + 3))] [] (xL0, u) := by
  rw [f_X12_isOf_t3] at h
  refine g_aload_n (pc := 0) dX12_isOf_0 rfl ?_
  refine g_gI (pc := 1) dX12_isOf_1 fI_RX12_259 xc_135 (v := (rd u 135 33)) rfl ?_
  refine g_iload_n (pc := 4) dX12_isOf_4 rfl ?_
  refine g_icmp_ge (tgt := 40) (pc := 5) dX12_isOf_5 (by decide) (fun c1 => ?_) (fun c1 => ?_)
  · replace h := (if_pos c1).symm.trans h
    refine g_iconst (pc := 40) dX12_isOf_40 ic_0 ?_
    replace h := Option.some.inj h
    subst h
    exact g_zret (pc := 41) dX12_isOf_41 rfl (Or.inl rfl) rfl rfl (Nat.le_refl _) (Nat.le_refl _)
  · replace h := (if_neg c1).symm.trans h
    refine g_aload_n (pc := 8) dX12_isOf_8 rfl ?_
    refine g_gR (pc := 9) dX12_isOf_9 fR_RX12_84 xc_135 (v := 159) rfl ?_
    refine g_aload_n (pc := 12) dX12_isOf_12 rfl ?_
    refine g_gI (pc := 13) dX12_isOf_13 fI_RX12_259 xc_135 (v := (rd u 135 33)) rfl ?_
    obtain ⟨g2, h⟩ := x_gd h
    refine g_iaload (pc := 16) dX12_isOf_16 xc_159 (xin_of g2) (v := (rd u 159 (rd u 135 33).toNatClampNeg)) rfl ?_
    refine g_if_le (tgt := 40) (pc := 17) dX12_isOf_17 (by decide) (fun c3 => ?_) (fun c3 => ?_)
    · replace h := (if_pos c3).symm.trans h
      refine g_iconst (pc := 40) dX12_isOf_40 ic_0 ?_
      replace h := Option.some.inj h
      subst h
      exact g_zret (pc := 41) dX12_isOf_41 rfl (Or.inl rfl) rfl rfl (Nat.le_refl _) (Nat.le_refl _)
    · replace h := (if_neg c3).symm.trans h
      refine g_aload_n (pc := 20) dX12_isOf_20 rfl ?_
      refine g_aload_n (pc := 21) dX12_isOf_21 rfl ?_
      refine g_gR (pc := 22) dX12_isOf_22 fR_RX12_84 xc_135 (v := 159) rfl ?_
      refine g_aload_n (pc := 25) dX12_isOf_25 rfl ?_
      refine g_gI (pc := 26) dX12_isOf_26 fI_RX12_259 xc_135 (v := (rd u 135 33)) rfl ?_
      refine g_iaload (pc := 29) dX12_isOf_29 xc_159 (xin_of g2) (v := (rd u 159 (rd u 135 33).toNatClampNeg)) rfl ?_
      obtain ⟨x5, e4, h⟩ := x_bind h
      refine g_cT 3 (pc := 30) dX12_isOf_30 cT_RX12_262 (M_J0_indexOf_0f7a4_t3 (Nat.le_refl _) e4) (by decide) (as := [.int (rd u 159 (rd u 135 33).toNatClampNeg)]) (st := []) rfl rfl (Nat.le_of_ble_eq_true rfl) (Nat.le_trans (Nat.le_of_ble_eq_true rfl) hd) rfl ?_
      refine g_if_lt (tgt := 40) (pc := 33) dX12_isOf_33 (by decide) (fun c6 => ?_) (fun c6 => ?_)
      · replace h := (if_pos c6).symm.trans h
        refine g_iconst (pc := 40) dX12_isOf_40 ic_0 ?_
        replace h := Option.some.inj h
        subst h
        exact g_zret (pc := 41) dX12_isOf_41 rfl (Or.inl rfl) rfl rfl (Nat.le_refl _) (Nat.le_refl _)
      · replace h := (if_neg c6).symm.trans h
        refine g_iconst (pc := 36) dX12_isOf_36 ic_1 ?_
        refine g_goto (tgt := 41) (pc := 37) dX12_isOf_37 (by decide) ?_
        replace h := Option.some.inj h
        subst h
        exact g_zret (pc := 41) dX12_isOf_41 rfl (Or.inr rfl) rfl rfl (Nat.le_refl _) (Nat.le_refl _)
set_option maxRecDepth 100000 in
set_option maxHeartbeats 4000000 in
theorem M_X12_isOf_t3 {sc : Nat × (Nat → Int32)} {d : Nat} (hd : 4 ≤ d) {r : Int32} {u : xS} {a1 : Int32} (h : f_X12_isOf_t3 u a1 = some r) : xMt sc mX12_isOf d 0 0 [.ref 135, .int a1, .ref (1010 + 3)] (xL0, u) (some (.int r)) (xL0, u) :=
  xMt.of (by decide +kernel) (by decide +kernel) (Nat.le_of_ble_eq_true rfl) (L := [some (.ref 135), some (.int a1), some (.ref (1010 + 3))]) rfl ((G_X12_isOf_t3_0 hd a1 h))
set_option maxRecDepth 100000 in
set_option maxHeartbeats 4000000 in
theorem G_X12_product_59 {sc : Nat × (Nat → Int32)} {d : Nat} (hd : 5 ≤ d) {r : Int32} {u' : xS} {dk : Nat} (hkd : dk + 1 ≤ d) {k_X12_unary : Int32 → xS → Option (Int32 × xS)} (hk_X12_unary : ∀ (a1 : Int32) (u u' : xS) (r : Int32), k_X12_unary a1 u = some (r, u') → xMt sc mX12_unary dk 0 0 [.ref 135, .int a1] (xL0, u) (some (.int r)) (xL0, u')) {k6 : Int32 → Int32 → xS → Option (Int32 × xS)} (hk6 : ∀ (v1 : Int32) (v2 : Int32) (u : xS), k6 v1 v2 u = some (r, u') → xG sc mX12_product d 0 0 (xR (some (.int r)) (xL0, u') 0 0) 0 0 6 [some (.ref 135), some (.int v1), some (.int v2), none] [] (xL0, u)) (v1 : Int32) (v2 : Int32) (u : xS) (h : f_X12_product_59 k_X12_unary k6 v1 v2 u = some (r, u')) : xG sc mX12_product d 0 0 (xR (some (.int r)) (xL0, u') 0 0) 0 0 59 [some (.ref 135), some (.int v1), some (.int v2), none] [] (xL0, u) := by
  rw [f_X12_product_59] at h
  refine g_goto (tgt := 6) (pc := 59) dX12_product_59 (by decide) ?_
  exact hk6 v1 v2 u h
set_option maxRecDepth 100000 in
set_option maxHeartbeats 4000000 in
theorem G_X12_product_6 {sc : Nat × (Nat → Int32)} {d : Nat} (hd : 5 ≤ d) {r : Int32} {u' : xS} {dk : Nat} (hkd : dk + 1 ≤ d) {k_X12_unary : Int32 → xS → Option (Int32 × xS)} (hk_X12_unary : ∀ (a1 : Int32) (u u' : xS) (r : Int32), k_X12_unary a1 u = some (r, u') → xMt sc mX12_unary dk 0 0 [.ref 135, .int a1] (xL0, u) (some (.int r)) (xL0, u')) : ∀ (n : Nat) (v1 : Int32) (v2 : Int32) (u : xS), f_X12_product_6 k_X12_unary n v1 v2 u = some (r, u') → xG sc mX12_product d 0 0 (xR (some (.int r)) (xL0, u') 0 0) 0 0 6 [some (.ref 135), some (.int v1), some (.int v2), none] [] (xL0, u) := by
  intro n
  induction n with
  | zero =>
    intro v1 v2 u h
    rw [f_X12_product_6] at h
    cases h
  | succ n ih =>
    intro v1 v2 u h
    rw [f_X12_product_6] at h
    refine g_iload_n (pc := 6) dX12_product_6 rfl ?_
    refine g_if_eq (tgt := 62) (pc := 7) dX12_product_7 (by decide) (fun c1 => ?_) (fun c1 => ?_)
    · replace h := (if_pos c1).symm.trans h
      refine g_iload_n (pc := 62) dX12_product_62 rfl ?_
      obtain ⟨g2, h⟩ := x_gd h
      obtain ⟨h1, h2⟩ := x_inj2 h
      subst h1
      subst h2
      exact g_zret (pc := 63) dX12_product_63 rfl (xb_of g2) rfl rfl (Nat.le_refl _) (Nat.le_refl _)
    · replace h := (if_neg c1).symm.trans h
      refine g_aload_n (pc := 10) dX12_product_10 rfl ?_
      refine g_iload_n (pc := 11) dX12_product_11 rfl ?_
      refine g_ldcSw 3 (pc := 12) dX12_product_12 rfl rfl ?_
      obtain ⟨x4, e3, h⟩ := x_bind h
      refine g_cV (pc := 15) dX12_product_15 cV_RX12_272 (M_X12_isOf_t3 (Nat.le_refl _) e3) xc_135 (as := [.int v1, .ref (1010 + 3)]) (st := []) rfl rfl (Nat.le_of_ble_eq_true rfl) (Nat.le_trans (Nat.le_of_ble_eq_true rfl) hd) rfl ?_
      refine g_if_eq (tgt := 62) (pc := 18) dX12_product_18 (by decide) (fun c5 => ?_) (fun c5 => ?_)
      · replace h := (if_pos c5).symm.trans h
        refine g_iload_n (pc := 62) dX12_product_62 rfl ?_
        obtain ⟨g6, h⟩ := x_gd h
        obtain ⟨h1, h2⟩ := x_inj2 h
        subst h1
        subst h2
        exact g_zret (pc := 63) dX12_product_63 rfl (xb_of g6) rfl rfl (Nat.le_refl _) (Nat.le_refl _)
      · replace h := (if_neg c5).symm.trans h
        refine g_aload_n (pc := 21) dX12_product_21 rfl ?_
        refine g_gR (pc := 22) dX12_product_22 fR_RX12_84 xc_135 (v := 159) rfl ?_
        refine g_aload_n (pc := 25) dX12_product_25 rfl ?_
        refine g_gI (pc := 26) dX12_product_26 fI_RX12_259 xc_135 (v := (rd u 135 33)) rfl ?_
        obtain ⟨g7, h⟩ := x_gd h
        refine g_iaload (pc := 29) dX12_product_29 xc_159 (xin_of g7) (v := (rd u 159 (rd u 135 33).toNatClampNeg)) rfl ?_
        refine g_istore_n (pc := 30) dX12_product_30 (Nat.le_of_ble_eq_true rfl) (L' := [some (.ref 135), some (.int v1), some (.int v2), some (.int (rd u 159 (rd u 135 33).toNatClampNeg))]) rfl ?_
        refine g_aload_n (pc := 31) dX12_product_31 rfl ?_
        refine g_dup (pc := 32) dX12_product_32 rfl ?_
        refine g_gI (pc := 33) dX12_product_33 fI_RX12_259 xc_135 (v := (rd u 135 33)) rfl ?_
        refine g_iconst (pc := 36) dX12_product_36 ic_1 ?_
        refine g_iadd (pc := 37) dX12_product_37 rfl ?_
        refine g_pI (pc := 38) dX12_product_38 pI_RX12_259 xc_135 (u' := (wr u 135 33 ((rd u 135 33) + (1 : Int32)))) rfl ?_
        refine g_aload_n (pc := 41) dX12_product_41 rfl ?_
        refine g_iload_n (pc := 42) dX12_product_42 rfl ?_
        obtain ⟨⟨x9, u10⟩, e8, h⟩ := x_bind h
        dsimp only at h
        refine g_cV (pc := 43) dX12_product_43 cV_RX12_294 (hk_X12_unary _ _ _ _ e8) xc_135 (as := [.int v1]) (st := []) rfl rfl (Nat.le_of_ble_eq_true rfl) hkd rfl ?_
        refine g_istore_n (pc := 46) dX12_product_46 (Nat.le_of_ble_eq_true rfl) (L' := [some (.ref 135), some (.int v1), some (.int x9), some (.int (rd u 159 (rd u 135 33).toNatClampNeg))]) rfl ?_
        refine g_iload_n (pc := 47) dX12_product_47 rfl ?_
        refine g_if_eq (tgt := 59) (pc := 48) dX12_product_48 (by decide) (fun c11 => ?_) (fun c11 => ?_)
        · replace h := (if_pos c11).symm.trans h
          refine g_L (L' := [some (.ref 135), some (.int v1), some (.int x9), none]) ⟨rfl, ⟨rfl, ⟨rfl, trivial⟩⟩⟩ ?_
          exact G_X12_product_59 hd hkd hk_X12_unary ih v1 x9 u10 h
        · replace h := (if_neg c11).symm.trans h
          refine g_aload_n (pc := 51) dX12_product_51 rfl ?_
          refine g_iload_n (pc := 52) dX12_product_52 rfl ?_
          refine g_cS (pc := 53) dX12_product_53 cS_RX12_297 (M_X12_act (Nat.le_refl _) rfl) (as := [.int (rd u 159 (rd u 135 33).toNatClampNeg)]) (st := [.ref 135]) rfl rfl (Nat.le_of_ble_eq_true rfl) (Nat.le_trans (Nat.le_of_ble_eq_true rfl) hd) rfl ?_
          obtain ⟨u13, e12, h⟩ := x_bind h
          refine g_cV (pc := 56) dX12_product_56 cV_RX12_276 (M_X12_marks (Nat.le_refl _) e12) xc_135 (as := [.int (f_X12_act (rd u 159 (rd u 135 33).toNatClampNeg))]) (st := []) rfl rfl (Nat.le_of_ble_eq_true rfl) (Nat.le_trans (Nat.le_of_ble_eq_true rfl) hd) rfl ?_
          refine g_L (L' := [some (.ref 135), some (.int v1), some (.int x9), none]) ⟨rfl, ⟨rfl, ⟨rfl, trivial⟩⟩⟩ ?_
          exact G_X12_product_59 hd hkd hk_X12_unary ih v1 x9 u13 h
set_option maxRecDepth 100000 in
set_option maxHeartbeats 4000000 in
theorem G_X12_product_0 {sc : Nat × (Nat → Int32)} {d : Nat} (hd : 5 ≤ d) {r : Int32} {u' : xS} {dk : Nat} (hkd : dk + 1 ≤ d) {k_X12_unary : Int32 → xS → Option (Int32 × xS)} (hk_X12_unary : ∀ (a1 : Int32) (u u' : xS) (r : Int32), k_X12_unary a1 u = some (r, u') → xMt sc mX12_unary dk 0 0 [.ref 135, .int a1] (xL0, u) (some (.int r)) (xL0, u')) (v1 : Int32) (u : xS) (h : f_X12_product k_X12_unary v1 u = some (r, u')) : xG sc mX12_product d 0 0 (xR (some (.int r)) (xL0, u') 0 0) 0 0 0 [some (.ref 135), some (.int v1), none, none] [] (xL0, u) := by
  rw [f_X12_product] at h
  refine g_aload_n (pc := 0) dX12_product_0 rfl ?_
  refine g_iload_n (pc := 1) dX12_product_1 rfl ?_
  obtain ⟨⟨x2, u3⟩, e1, h⟩ := x_bind h
  dsimp only at h
  refine g_cV (pc := 2) dX12_product_2 cV_RX12_294 (hk_X12_unary _ _ _ _ e1) xc_135 (as := [.int v1]) (st := []) rfl rfl (Nat.le_of_ble_eq_true rfl) hkd rfl ?_
  refine g_istore_n (pc := 5) dX12_product_5 (Nat.le_of_ble_eq_true rfl) (L' := [some (.ref 135), some (.int v1), some (.int x2), none]) rfl ?_
  exact G_X12_product_6 hd hkd hk_X12_unary xN v1 x2 u3 h
set_option maxRecDepth 100000 in
set_option maxHeartbeats 4000000 in
theorem M_X12_product {sc : Nat × (Nat → Int32)} {d : Nat} (hd : 5 ≤ d) {r : Int32} {u u' : xS} {dk : Nat} (hkd : dk + 1 ≤ d) {k_X12_unary : Int32 → xS → Option (Int32 × xS)} (hk_X12_unary : ∀ (a1 : Int32) (u u' : xS) (r : Int32), k_X12_unary a1 u = some (r, u') → xMt sc mX12_unary dk 0 0 [.ref 135, .int a1] (xL0, u) (some (.int r)) (xL0, u')) {a1 : Int32} (h : f_X12_product k_X12_unary a1 u = some (r, u')) : xMt sc mX12_product d 0 0 [.ref 135, .int a1] (xL0, u) (some (.int r)) (xL0, u') :=
  xMt.of (by decide +kernel) (by decide +kernel) (Nat.le_of_ble_eq_true rfl) (L := [some (.ref 135), some (.int a1), none, none]) rfl ((G_X12_product_0 hd hkd hk_X12_unary a1 u h))
theorem zb_J0_isLatin1_aae02_t4 : f_J0_isLatin1_aae02_t4 = 0 ∨ f_J0_isLatin1_aae02_t4 = 1 := by
  unfold f_J0_isLatin1_aae02_t4
  repeat' first | exact Or.inl rfl | exact Or.inr rfl | apply x_ite
set_option maxRecDepth 100000 in
set_option maxHeartbeats 4000000 in
theorem G_J0_isLatin1_aae02_t4_0 {sc : Nat × (Nat → Int32)} {d : Nat} (hd : 0 ≤ d) {r : Int32} {u : xS} (h : f_J0_isLatin1_aae02_t4 = r) : xG sc mJ0_isLatin1_aae02 d 0 0 (xR (some (.int r)) (xL0, u) 0 0) 0 0 0 [some (.ref (1010 + 4))] [] (xL0, u) := by
  rw [f_J0_isLatin1_aae02_t4] at h
  refine g_getsC (pc := 0) dJ0_isLatin1_aae02_0 fs_RJ0_38 ?_
  refine g_if_eq (tgt := 17) (pc := 3) dJ0_isLatin1_aae02_3 (by decide) (fun c1 => absurd c1 (by decide)) (fun _ => ?_)
  refine g_aload_n (pc := 6) dJ0_isLatin1_aae02_6 rfl ?_
  refine g_strC 4 (pc := 7) dJ0_isLatin1_aae02_7 fs_RJ0_15 (by decide) ?_
  refine g_if_ne (tgt := 17) (pc := 10) dJ0_isLatin1_aae02_10 (by decide) (fun c2 => absurd c2 (by decide)) (fun _ => ?_)
  refine g_iconst (pc := 13) dJ0_isLatin1_aae02_13 ic_1 ?_
  refine g_goto (tgt := 18) (pc := 14) dJ0_isLatin1_aae02_14 (by decide) ?_
  subst h
  exact g_zret (pc := 18) dJ0_isLatin1_aae02_18 rfl (Or.inr rfl) rfl rfl (Nat.le_refl _) (Nat.le_refl _)
set_option maxRecDepth 100000 in
set_option maxHeartbeats 4000000 in
theorem M_J0_isLatin1_aae02_t4 {sc : Nat × (Nat → Int32)} {d : Nat} (hd : 0 ≤ d) {r : Int32} {u : xS} (h : f_J0_isLatin1_aae02_t4 = r) : xMt sc mJ0_isLatin1_aae02 d 0 0 [.ref (1010 + 4)] (xL0, u) (some (.int r)) (xL0, u) :=
  xMt.of (by decide +kernel) (by decide +kernel) (Nat.le_of_ble_eq_true rfl) (L := [some (.ref (1010 + 4))]) rfl ((G_J0_isLatin1_aae02_t4_0 hd h))
set_option maxRecDepth 100000 in
set_option maxHeartbeats 4000000 in
theorem G_J0_coder_7d493_t4_0 {sc : Nat × (Nat → Int32)} {d : Nat} (hd : 0 ≤ d) {r : Int32} {u : xS} (h : f_J0_coder_7d493_t4 = r) : xG sc mJ0_coder_7d493 d 0 0 (xR (some (.int r)) (xL0, u) 0 0) 0 0 0 [some (.ref (1010 + 4))] [] (xL0, u) := by
  rw [f_J0_coder_7d493_t4] at h
  refine g_getsC (pc := 0) dJ0_coder_7d493_0 fs_RJ0_38 ?_
  refine g_if_eq (tgt := 13) (pc := 3) dJ0_coder_7d493_3 (by decide) (fun c1 => absurd c1 (by decide)) (fun _ => ?_)
  refine g_aload_n (pc := 6) dJ0_coder_7d493_6 rfl ?_
  refine g_strC 4 (pc := 7) dJ0_coder_7d493_7 fs_RJ0_15 (by decide) ?_
  refine g_goto (tgt := 14) (pc := 10) dJ0_coder_7d493_10 (by decide) ?_
  subst h
  exact g_bret (pc := 14) dJ0_coder_7d493_14 rfl rfl rfl rfl (Nat.le_refl _) (Nat.le_refl _)
set_option maxRecDepth 100000 in
set_option maxHeartbeats 4000000 in
theorem M_J0_coder_7d493_t4 {sc : Nat × (Nat → Int32)} {d : Nat} (hd : 0 ≤ d) {r : Int32} {u : xS} (h : f_J0_coder_7d493_t4 = r) : xMt sc mJ0_coder_7d493 d 0 0 [.ref (1010 + 4)] (xL0, u) (some (.int r)) (xL0, u) :=
  xMt.of (by decide +kernel) (by decide +kernel) (Nat.le_of_ble_eq_true rfl) (L := [some (.ref (1010 + 4))]) rfl ((G_J0_coder_7d493_t4_0 hd h))
set_option maxRecDepth 100000 in
set_option maxHeartbeats 4000000 in
theorem G_J0_length_8abf5_t4_0 {sc : Nat × (Nat → Int32)} {d : Nat} (hd : 1 ≤ d) {r : Int32} {u : xS} (h : f_J0_length_8abf5_t4 = r) : xG sc mJ0_length_8abf5 d 0 0 (xR (some (.int r)) (xL0, u) 0 0) 0 0 0 [some (.ref (1010 + 4))] [] (xL0, u) := by
  rw [f_J0_length_8abf5_t4] at h
  refine g_aload_n (pc := 0) dJ0_length_8abf5_0 rfl ?_
  refine g_strV 4 (pc := 1) dJ0_length_8abf5_1 fs_RJ0_9 (by decide) ?_
  refine g_blen 4 (pc := 4) dJ0_length_8abf5_4 (by decide) (v := (2 : Int32)) rfl ?_
  refine g_aload_n (pc := 5) dJ0_length_8abf5_5 rfl ?_
  refine g_cT 4 (pc := 6) dJ0_length_8abf5_6 cT_RJ0_335 (M_J0_coder_7d493_t4 (Nat.le_refl _) (rfl : f_J0_coder_7d493_t4 = (0 : Int32))) (by decide) (as := []) (st := [.int (2 : Int32)]) rfl rfl (Nat.le_of_ble_eq_true rfl) (Nat.le_trans (Nat.le_of_ble_eq_true rfl) hd) rfl ?_
  refine g_ishr (pc := 9) dJ0_length_8abf5_9 rfl ?_
  subst h
  exact g_iret (pc := 10) dJ0_length_8abf5_10 rfl rfl rfl (Nat.le_refl _) (Nat.le_refl _)
set_option maxRecDepth 100000 in
set_option maxHeartbeats 4000000 in
theorem M_J0_length_8abf5_t4 {sc : Nat × (Nat → Int32)} {d : Nat} (hd : 1 ≤ d) {r : Int32} {u : xS} (h : f_J0_length_8abf5_t4 = r) : xMt sc mJ0_length_8abf5 d 0 0 [.ref (1010 + 4)] (xL0, u) (some (.int r)) (xL0, u) :=
  xMt.of (by decide +kernel) (by decide +kernel) (Nat.le_of_ble_eq_true rfl) (L := [some (.ref (1010 + 4))]) rfl ((G_J0_length_8abf5_t4_0 hd h))
