set_option maxRecDepth 100000 in
set_option maxHeartbeats 4000000 in
theorem G_J0_coder_7d493_t1_0 {sc : Nat × (Nat → Int32)} {d : Nat} (hd : 0 ≤ d) {r : Int32} {u : xS} (h : f_J0_coder_7d493_t1 = r) : xG sc mJ0_coder_7d493 d 0 0 (xR (some (.int r)) (xL0, u) 0 0) 0 0 0 [some (.ref (1010 + 1))] [] (xL0, u) := by
  rw [f_J0_coder_7d493_t1] at h
  refine g_getsC (pc := 0) dJ0_coder_7d493_0 fs_RJ0_38 ?_
  refine g_if_eq (tgt := 13) (pc := 3) dJ0_coder_7d493_3 (by decide) (fun c1 => absurd c1 (by decide)) (fun _ => ?_)
  refine g_aload_n (pc := 6) dJ0_coder_7d493_6 rfl ?_
  refine g_strC 1 (pc := 7) dJ0_coder_7d493_7 fs_RJ0_15 (by decide) ?_
  refine g_goto (tgt := 14) (pc := 10) dJ0_coder_7d493_10 (by decide) ?_
  subst h
  exact g_bret (pc := 14) dJ0_coder_7d493_14 rfl rfl rfl rfl (Nat.le_refl _) (Nat.le_refl _)
set_option maxRecDepth 100000 in
set_option maxHeartbeats 4000000 in
theorem M_J0_coder_7d493_t1 {sc : Nat × (Nat → Int32)} {d : Nat} (hd : 0 ≤ d) {r : Int32} {u : xS} (h : f_J0_coder_7d493_t1 = r) : xMt sc mJ0_coder_7d493 d 0 0 [.ref (1010 + 1)] (xL0, u) (some (.int r)) (xL0, u) :=
  xMt.of (by decide +kernel) (by decide +kernel) (Nat.le_of_ble_eq_true rfl) (L := [some (.ref (1010 + 1))]) rfl ((G_J0_coder_7d493_t1_0 hd h))
set_option maxRecDepth 100000 in
set_option maxHeartbeats 4000000 in
theorem G_J0_length_8abf5_t1_0 {sc : Nat × (Nat → Int32)} {d : Nat} (hd : 1 ≤ d) {r : Int32} {u : xS} (h : f_J0_length_8abf5_t1 = r) : xG sc mJ0_length_8abf5 d 0 0 (xR (some (.int r)) (xL0, u) 0 0) 0 0 0 [some (.ref (1010 + 1))] [] (xL0, u) := by
  rw [f_J0_length_8abf5_t1] at h
  refine g_aload_n (pc := 0) dJ0_length_8abf5_0 rfl ?_
  refine g_strV 1 (pc := 1) dJ0_length_8abf5_1 fs_RJ0_9 (by decide) ?_
  refine g_blen 1 (pc := 4) dJ0_length_8abf5_4 (by decide) (v := (10 : Int32)) rfl ?_
  refine g_aload_n (pc := 5) dJ0_length_8abf5_5 rfl ?_
  refine g_cT 1 (pc := 6) dJ0_length_8abf5_6 cT_RJ0_335 (M_J0_coder_7d493_t1 (Nat.le_refl _) (rfl : f_J0_coder_7d493_t1 = (0 : Int32))) (by decide) (as := []) (st := [.int (10 : Int32)]) rfl rfl (Nat.le_of_ble_eq_true rfl) (Nat.le_trans (Nat.le_of_ble_eq_true rfl) hd) rfl ?_
  refine g_ishr (pc := 9) dJ0_length_8abf5_9 rfl ?_
  subst h
  exact g_iret (pc := 10) dJ0_length_8abf5_10 rfl rfl rfl (Nat.le_refl _) (Nat.le_refl _)
set_option maxRecDepth 100000 in
set_option maxHeartbeats 4000000 in
theorem M_J0_length_8abf5_t1 {sc : Nat × (Nat → Int32)} {d : Nat} (hd : 1 ≤ d) {r : Int32} {u : xS} (h : f_J0_length_8abf5_t1 = r) : xMt sc mJ0_length_8abf5 d 0 0 [.ref (1010 + 1)] (xL0, u) (some (.int r)) (xL0, u) :=
  xMt.of (by decide +kernel) (by decide +kernel) (Nat.le_of_ble_eq_true rfl) (L := [some (.ref (1010 + 1))]) rfl ((G_J0_length_8abf5_t1_0 hd h))
theorem zb_J1_canEncode_9a6ad (v0 : Int32) : f_J1_canEncode_9a6ad v0 = 0 ∨ f_J1_canEncode_9a6ad v0 = 1 := by
  unfold f_J1_canEncode_9a6ad
  repeat' first | exact Or.inl rfl | exact Or.inr rfl | apply x_ite
set_option maxRecDepth 100000 in
set_option maxHeartbeats 4000000 in
theorem G_J1_canEncode_9a6ad_0 {sc : Nat × (Nat → Int32)} {d : Nat} (hd : 0 ≤ d) {r : Int32} {u : xS} (v0 : Int32) (h : f_J1_canEncode_9a6ad v0 = r) : xG sc mJ1_canEncode_9a6ad d 0 0 (xR (some (.int r)) (xL0, u) 0 0) 0 0 0 [some (.int v0)] [] (xL0, u) := by
  rw [f_J1_canEncode_9a6ad] at h
  refine g_iload_n (pc := 0) dJ1_canEncode_9a6ad_0 rfl ?_
  refine g_if_lt (tgt := 15) (pc := 1) dJ1_canEncode_9a6ad_1 (by decide) (fun c1 => ?_) (fun c1 => ?_)
  · replace h := (if_pos c1).symm.trans h
    refine g_iconst (pc := 15) dJ1_canEncode_9a6ad_15 ic_0 ?_
    subst h
    exact g_zret (pc := 16) dJ1_canEncode_9a6ad_16 rfl (Or.inl rfl) rfl rfl (Nat.le_refl _) (Nat.le_refl _)
  · replace h := (if_neg c1).symm.trans h
    refine g_iload_n (pc := 4) dJ1_canEncode_9a6ad_4 rfl ?_
    refine g_sipush (pc := 5) dJ1_canEncode_9a6ad_5 sp_255 ?_
    refine g_icmp_gt (tgt := 15) (pc := 8) dJ1_canEncode_9a6ad_8 (by decide) (fun c2 => ?_) (fun c2 => ?_)
    · replace h := (if_pos c2).symm.trans h
      refine g_iconst (pc := 15) dJ1_canEncode_9a6ad_15 ic_0 ?_
      subst h
      exact g_zret (pc := 16) dJ1_canEncode_9a6ad_16 rfl (Or.inl rfl) rfl rfl (Nat.le_refl _) (Nat.le_refl _)
    · replace h := (if_neg c2).symm.trans h
      refine g_iconst (pc := 11) dJ1_canEncode_9a6ad_11 ic_1 ?_
      refine g_goto (tgt := 16) (pc := 12) dJ1_canEncode_9a6ad_12 (by decide) ?_
      subst h
      exact g_zret (pc := 16) dJ1_canEncode_9a6ad_16 rfl (Or.inr rfl) rfl rfl (Nat.le_refl _) (Nat.le_refl _)
set_option maxRecDepth 100000 in
set_option maxHeartbeats 4000000 in
theorem M_J1_canEncode_9a6ad {sc : Nat × (Nat → Int32)} {d : Nat} (hd : 0 ≤ d) {r : Int32} {u : xS} {a0 : Int32} (h : f_J1_canEncode_9a6ad a0 = r) : xMt sc mJ1_canEncode_9a6ad d 0 0 [.int a0] (xL0, u) (some (.int r)) (xL0, u) :=
  xMt.of (by decide +kernel) (by decide +kernel) (Nat.le_of_ble_eq_true rfl) (L := [some (.int a0)]) rfl ((G_J1_canEncode_9a6ad_0 hd a0 h))
set_option maxRecDepth 100000 in
set_option maxHeartbeats 4000000 in
theorem G_J1_indexOfChar_4cfef_t1_7 {sc : Nat × (Nat → Int32)} {d : Nat} (hd : 0 ≤ d) {r : Int32} {u : xS} : ∀ (n : Nat) (v3 : Int32) (v4 : Int32) (v5 : Int32), f_J1_indexOfChar_4cfef_t1_7 n v3 v4 v5 = some r → xG sc mJ1_indexOfChar_4cfef d 0 0 (xR (some (.int r)) (xL0, u) 0 0) 0 0 7 [some (.ref (1020 + 1)), none, none, some (.int v3), some (.int v4), some (.int v5)] [] (xL0, u) := by
  intro n
  induction n with
  | zero =>
    intro v3 v4 v5 h
    rw [f_J1_indexOfChar_4cfef_t1_7] at h
    cases h
  | succ n ih =>
    intro v3 v4 v5 h
    rw [f_J1_indexOfChar_4cfef_t1_7] at h
    refine g_iload (pc := 7) dJ1_indexOfChar_4cfef_7 rfl ?_
    refine g_iload_n (pc := 9) dJ1_indexOfChar_4cfef_9 rfl ?_
    refine g_icmp_ge (tgt := 31) (pc := 10) dJ1_indexOfChar_4cfef_10 (by decide) (fun c1 => ?_) (fun c1 => ?_)
    · replace h := (if_pos c1).symm.trans h
      refine g_iconst (pc := 31) dJ1_indexOfChar_4cfef_31 ic_m1 ?_
      replace h := Option.some.inj h
      subst h
      exact g_iret (pc := 32) dJ1_indexOfChar_4cfef_32 rfl rfl rfl (Nat.le_refl _) (Nat.le_refl _)
    · replace h := (if_neg c1).symm.trans h
      refine g_aload_n (pc := 13) dJ1_indexOfChar_4cfef_13 rfl ?_
      refine g_iload (pc := 14) dJ1_indexOfChar_4cfef_14 rfl ?_
      obtain ⟨g2, h⟩ := x_gd h
      refine g_bload 1 (pc := 16) dJ1_indexOfChar_4cfef_16 (by decide) (xin_of g2) rfl ?_
      refine g_iload (pc := 17) dJ1_indexOfChar_4cfef_17 rfl ?_
      refine g_icmp_ne (tgt := 25) (pc := 19) dJ1_indexOfChar_4cfef_19 (by decide) (fun c3 => ?_) (fun c3 => ?_)
      · replace h := (if_neg c3).symm.trans h
        refine g_inc (pc := 25) dJ1_indexOfChar_4cfef_25 (Nat.le_of_ble_eq_true rfl) rfl ic_1 (L' := [some (.ref (1020 + 1)), none, none, some (.int v3), some (.int v4), some (.int (v5 + (1 : Int32)))]) rfl ?_
        refine g_goto (tgt := 7) (pc := 28) dJ1_indexOfChar_4cfef_28 (by decide) ?_
        exact ih v3 v4 (v5 + (1 : Int32)) h
      · replace h := (if_pos c3).symm.trans h
        refine g_iload (pc := 22) dJ1_indexOfChar_4cfef_22 rfl ?_
        replace h := Option.some.inj h
        subst h
        exact g_iret (pc := 24) dJ1_indexOfChar_4cfef_24 rfl rfl rfl (Nat.le_refl _) (Nat.le_refl _)
set_option maxRecDepth 100000 in
set_option maxHeartbeats 4000000 in
theorem G_J1_indexOfChar_4cfef_t1_0 {sc : Nat × (Nat → Int32)} {d : Nat} (hd : 0 ≤ d) {r : Int32} {u : xS} (v1 : Int32) (v2 : Int32) (v3 : Int32) (h : f_J1_indexOfChar_4cfef_t1 v1 v2 v3 = some r) : xG sc mJ1_indexOfChar_4cfef d 0 0 (xR (some (.int r)) (xL0, u) 0 0) 0 0 0 [some (.ref (1020 + 1)), some (.int v1), some (.int v2), some (.int v3), none, none] [] (xL0, u) := by
  rw [f_J1_indexOfChar_4cfef_t1] at h
  refine g_iload_n (pc := 0) dJ1_indexOfChar_4cfef_0 rfl ?_
  refine g_i2b (pc := 1) dJ1_indexOfChar_4cfef_1 rfl ?_
  refine g_istore (pc := 2) dJ1_indexOfChar_4cfef_2 (Nat.le_of_ble_eq_true rfl) (L' := [some (.ref (1020 + 1)), some (.int v1), some (.int v2), some (.int v3), some (.int (v1.toInt8.toInt32)), none]) rfl ?_
  refine g_iload_n (pc := 4) dJ1_indexOfChar_4cfef_4 rfl ?_
  refine g_istore (pc := 5) dJ1_indexOfChar_4cfef_5 (Nat.le_of_ble_eq_true rfl) (L' := [some (.ref (1020 + 1)), some (.int v1), some (.int v2), some (.int v3), some (.int (v1.toInt8.toInt32)), some (.int v2)]) rfl ?_
  refine g_L (L' := [some (.ref (1020 + 1)), none, none, some (.int v3), some (.int (v1.toInt8.toInt32)), some (.int v2)]) ⟨rfl, ⟨rfl, ⟨rfl, ⟨rfl, trivial⟩⟩⟩⟩ ?_
  exact G_J1_indexOfChar_4cfef_t1_7 hd xN v3 (v1.toInt8.toInt32) v2 h
set_option maxRecDepth 100000 in
set_option maxHeartbeats 4000000 in
theorem M_J1_indexOfChar_4cfef_t1 {sc : Nat × (Nat → Int32)} {d : Nat} (hd : 0 ≤ d) {r : Int32} {u : xS} {a1 : Int32} {a2 : Int32} {a3 : Int32} (h : f_J1_indexOfChar_4cfef_t1 a1 a2 a3 = some r) : xMt sc mJ1_indexOfChar_4cfef d 0 0 [.ref (1020 + 1), .int a1, .int a2, .int a3] (xL0, u) (some (.int r)) (xL0, u) :=
  xMt.of (by decide +kernel) (by decide +kernel) (Nat.le_of_ble_eq_true rfl) (L := [some (.ref (1020 + 1)), some (.int a1), some (.int a2), some (.int a3), none, none]) rfl ((G_J1_indexOfChar_4cfef_t1_0 hd a1 a2 a3 h))
set_option maxRecDepth 100000 in
set_option maxHeartbeats 4000000 in
theorem G_J1_indexOf_4cfef_t1_0 {sc : Nat × (Nat → Int32)} {d : Nat} (hd : 1 ≤ d) {r : Int32} {u : xS} (v1 : Int32) (v2 : Int32) (v3 : Int32) (h : f_J1_indexOf_4cfef_t1 v1 v2 v3 = some r) : xG sc mJ1_indexOf_4cfef d 0 0 (xR (some (.int r)) (xL0, u) 0 0) 0 0 0 [some (.ref (1020 + 1)), some (.int v1), some (.int v2), some (.int v3)] [] (xL0, u) := by
  rw [f_J1_indexOf_4cfef_t1] at h
  refine g_iload_n (pc := 0) dJ1_indexOf_4cfef_0 rfl ?_
  refine g_cS (pc := 1) dJ1_indexOf_4cfef_1 cS_RJ1_88 (M_J1_canEncode_9a6ad (Nat.le_refl _) rfl) (as := [.int v1]) (st := []) rfl rfl (Nat.le_of_ble_eq_true rfl) (Nat.le_trans (Nat.le_of_ble_eq_true rfl) hd) rfl ?_
  refine g_if_ne (tgt := 9) (pc := 4) dJ1_indexOf_4cfef_4 (by decide) (fun c1 => ?_) (fun c1 => ?_)
  · replace h := (if_neg c1).symm.trans h
    refine g_iload_n (pc := 9) dJ1_indexOf_4cfef_9 rfl ?_
    refine g_iconst (pc := 10) dJ1_indexOf_4cfef_10 ic_0 ?_
    refine g_max (pc := 11) dJ1_indexOf_4cfef_11 mK_RJ1_92 (Nat.le_of_ble_eq_true rfl) (Nat.le_trans (Nat.le_of_ble_eq_true rfl) hd) (Nat.zero_le _) (Nat.zero_le _) ?_
    refine g_istore_n (pc := 14) dJ1_indexOf_4cfef_14 (Nat.le_of_ble_eq_true rfl) (L' := [some (.ref (1020 + 1)), some (.int v1), some (.int (imax v2 (0 : Int32))), some (.int v3)]) rfl ?_
    refine g_iload_n (pc := 15) dJ1_indexOf_4cfef_15 rfl ?_
    refine g_aload_n (pc := 16) dJ1_indexOf_4cfef_16 rfl ?_
    refine g_blen 1 (pc := 17) dJ1_indexOf_4cfef_17 (by decide) (v := (10 : Int32)) rfl ?_
    refine g_min (pc := 18) dJ1_indexOf_4cfef_18 mK_RJ1_38 (Nat.le_of_ble_eq_true rfl) (Nat.le_trans (Nat.le_of_ble_eq_true rfl) hd) (Nat.zero_le _) (Nat.zero_le _) ?_
    refine g_istore_n (pc := 21) dJ1_indexOf_4cfef_21 (Nat.le_of_ble_eq_true rfl) (L' := [some (.ref (1020 + 1)), some (.int v1), some (.int (imax v2 (0 : Int32))), some (.int (imin v3 (10 : Int32)))]) rfl ?_
    refine g_iload_n (pc := 22) dJ1_indexOf_4cfef_22 rfl ?_
    refine g_iload_n (pc := 23) dJ1_indexOf_4cfef_23 rfl ?_
    refine g_icmp_lt (tgt := 29) (pc := 24) dJ1_indexOf_4cfef_24 (by decide) (fun c2 => ?_) (fun c2 => ?_)
    · replace h := (if_pos c2).symm.trans h
      refine g_aload_n (pc := 29) dJ1_indexOf_4cfef_29 rfl ?_
      refine g_iload_n (pc := 30) dJ1_indexOf_4cfef_30 rfl ?_
      refine g_iload_n (pc := 31) dJ1_indexOf_4cfef_31 rfl ?_
      refine g_iload_n (pc := 32) dJ1_indexOf_4cfef_32 rfl ?_
      obtain ⟨x4, e3, h⟩ := x_bind h
      refine g_cS (pc := 33) dJ1_indexOf_4cfef_33 cS_RJ1_95 (M_J1_indexOfChar_4cfef_t1 (Nat.le_refl _) e3) (as := [.ref (1020 + 1), .int v1, .int (imax v2 (0 : Int32)), .int (imin v3 (10 : Int32))]) (st := []) rfl rfl (Nat.le_of_ble_eq_true rfl) (Nat.le_trans (Nat.le_of_ble_eq_true rfl) hd) rfl ?_
      replace h := Option.some.inj h
      subst h
      exact g_iret (pc := 36) dJ1_indexOf_4cfef_36 rfl rfl rfl (Nat.le_refl _) (Nat.le_refl _)
    · replace h := (if_neg c2).symm.trans h
      refine g_iconst (pc := 27) dJ1_indexOf_4cfef_27 ic_m1 ?_
      replace h := Option.some.inj h
      subst h
      exact g_iret (pc := 28) dJ1_indexOf_4cfef_28 rfl rfl rfl (Nat.le_refl _) (Nat.le_refl _)
  · replace h := (if_pos c1).symm.trans h
    refine g_iconst (pc := 7) dJ1_indexOf_4cfef_7 ic_m1 ?_
    replace h := Option.some.inj h
    subst h
    exact g_iret (pc := 8) dJ1_indexOf_4cfef_8 rfl rfl rfl (Nat.le_refl _) (Nat.le_refl _)
set_option maxRecDepth 100000 in
set_option maxHeartbeats 4000000 in
theorem M_J1_indexOf_4cfef_t1 {sc : Nat × (Nat → Int32)} {d : Nat} (hd : 1 ≤ d) {r : Int32} {u : xS} {a1 : Int32} {a2 : Int32} {a3 : Int32} (h : f_J1_indexOf_4cfef_t1 a1 a2 a3 = some r) : xMt sc mJ1_indexOf_4cfef d 0 0 [.ref (1020 + 1), .int a1, .int a2, .int a3] (xL0, u) (some (.int r)) (xL0, u) :=
  xMt.of (by decide +kernel) (by decide +kernel) (Nat.le_of_ble_eq_true rfl) (L := [some (.ref (1020 + 1)), some (.int a1), some (.int a2), some (.int a3)]) rfl ((G_J1_indexOf_4cfef_t1_0 hd a1 a2 a3 h))
set_option maxRecDepth 100000 in
set_option maxHeartbeats 4000000 in
theorem G_J0_indexOf_7cf53_t1_0 {sc : Nat × (Nat → Int32)} {d : Nat} (hd : 2 ≤ d) {r : Int32} {u : xS} (v1 : Int32) (v2 : Int32) (h : f_J0_indexOf_7cf53_t1 v1 v2 = some r) : xG sc mJ0_indexOf_7cf53 d 0 0 (xR (some (.int r)) (xL0, u) 0 0) 0 0 0 [some (.ref (1010 + 1)), some (.int v1), some (.int v2)] [] (xL0, u) := by
  rw [f_J0_indexOf_7cf53_t1] at h
  refine g_aload_n (pc := 0) dJ0_indexOf_7cf53_0 rfl ?_
  refine g_cT 1 (pc := 1) dJ0_indexOf_7cf53_1 cT_RJ0_492 (M_J0_isLatin1_aae02_t1 (Nat.le_refl _) (rfl : f_J0_isLatin1_aae02_t1 = (1 : Int32))) (by decide) (as := []) (st := []) rfl rfl (Nat.le_of_ble_eq_true rfl) (Nat.le_trans (Nat.le_of_ble_eq_true rfl) hd) rfl ?_
  refine g_if_eq (tgt := 23) (pc := 4) dJ0_indexOf_7cf53_4 (by decide) (fun c1 => absurd c1 (by decide)) (fun _ => ?_)
  refine g_aload_n (pc := 7) dJ0_indexOf_7cf53_7 rfl ?_
  refine g_strV 1 (pc := 8) dJ0_indexOf_7cf53_8 fs_RJ0_9 (by decide) ?_
  refine g_iload_n (pc := 11) dJ0_indexOf_7cf53_11 rfl ?_
  refine g_iload_n (pc := 12) dJ0_indexOf_7cf53_12 rfl ?_
  refine g_aload_n (pc := 13) dJ0_indexOf_7cf53_13 rfl ?_
  refine g_cT 1 (pc := 14) dJ0_indexOf_7cf53_14 cT_RJ0_505 (M_J0_length_8abf5_t1 (Nat.le_refl _) rfl) (by decide) (as := []) (st := [.int v2, .int v1, .ref (1020 + 1)]) rfl rfl (Nat.le_of_ble_eq_true rfl) (Nat.le_trans (Nat.le_of_ble_eq_true rfl) hd) rfl ?_
  obtain ⟨x3, e2, h⟩ := x_bind h
  refine g_cS (pc := 17) dJ0_indexOf_7cf53_17 cS_RJ0_637 (M_J1_indexOf_4cfef_t1 (Nat.le_refl _) e2) (as := [.ref (1020 + 1), .int v1, .int v2, .int (f_J0_length_8abf5_t1)]) (st := []) rfl rfl (Nat.le_of_ble_eq_true rfl) (Nat.le_trans (Nat.le_of_ble_eq_true rfl) hd) rfl ?_
  refine g_goto (tgt := 36) (pc := 20) dJ0_indexOf_7cf53_20 (by decide) ?_
  replace h := Option.some.inj h
  subst h
  exact g_iret (pc := 36) dJ0_indexOf_7cf53_36 rfl rfl rfl (Nat.le_refl _) (Nat.le_refl _)
set_option maxRecDepth 100000 in
set_option maxHeartbeats 4000000 in
theorem M_J0_indexOf_7cf53_t1 {sc : Nat × (Nat → Int32)} {d : Nat} (hd : 2 ≤ d) {r : Int32} {u : xS} {a1 : Int32} {a2 : Int32} (h : f_J0_indexOf_7cf53_t1 a1 a2 = some r) : xMt sc mJ0_indexOf_7cf53 d 0 0 [.ref (1010 + 1), .int a1, .int a2] (xL0, u) (some (.int r)) (xL0, u) :=
  xMt.of (by decide +kernel) (by decide +kernel) (Nat.le_of_ble_eq_true rfl) (L := [some (.ref (1010 + 1)), some (.int a1), some (.int a2)]) rfl ((G_J0_indexOf_7cf53_t1_0 hd a1 a2 h))
set_option maxRecDepth 100000 in
set_option maxHeartbeats 4000000 in
theorem G_J0_indexOf_0f7a4_t1_0 {sc : Nat × (Nat → Int32)} {d : Nat} (hd : 3 ≤ d) {r : Int32} {u : xS} (v1 : Int32) (h : f_J0_indexOf_0f7a4_t1 v1 = some r) : xG sc mJ0_indexOf_0f7a4 d 0 0 (xR (some (.int r)) (xL0, u) 0 0) 0 0 0 [some (.ref (1010 + 1)), some (.int v1)] [] (xL0, u) := by
  rw [f_J0_indexOf_0f7a4_t1] at h
  refine g_aload_n (pc := 0) dJ0_indexOf_0f7a4_0 rfl ?_
  refine g_iload_n (pc := 1) dJ0_indexOf_0f7a4_1 rfl ?_
  refine g_iconst (pc := 2) dJ0_indexOf_0f7a4_2 ic_0 ?_
  obtain ⟨x2, e1, h⟩ := x_bind h
  refine g_cT 1 (pc := 3) dJ0_indexOf_0f7a4_3 cT_RJ0_633 (M_J0_indexOf_7cf53_t1 (Nat.le_refl _) e1) (by decide) (as := [.int v1, .int (0 : Int32)]) (st := []) rfl rfl (Nat.le_of_ble_eq_true rfl) (Nat.le_trans (Nat.le_of_ble_eq_true rfl) hd) rfl ?_
  replace h := Option.some.inj h
  subst h
  exact g_iret (pc := 6) dJ0_indexOf_0f7a4_6 rfl rfl rfl (Nat.le_refl _) (Nat.le_refl _)
set_option maxRecDepth 100000 in
set_option maxHeartbeats 4000000 in
theorem M_J0_indexOf_0f7a4_t1 {sc : Nat × (Nat → Int32)} {d : Nat} (hd : 3 ≤ d) {r : Int32} {u : xS} {a1 : Int32} (h : f_J0_indexOf_0f7a4_t1 a1 = some r) : xMt sc mJ0_indexOf_0f7a4 d 0 0 [.ref (1010 + 1), .int a1] (xL0, u) (some (.int r)) (xL0, u) :=
  xMt.of (by decide +kernel) (by decide +kernel) (Nat.le_of_ble_eq_true rfl) (L := [some (.ref (1010 + 1)), some (.int a1)]) rfl ((G_J0_indexOf_0f7a4_t1_0 hd a1 h))
set_option maxRecDepth 100000 in
set_option maxHeartbeats 4000000 in
theorem G_X12_isOf_t1_0 {sc : Nat × (Nat → Int32)} {d : Nat} (hd : 4 ≤ d) {r : Int32} {u : xS} (v1 : Int32) (h : f_X12_isOf_t1 u v1 = some r) : xG sc mX12_isOf d 0 0 (xR (some (.int r)) (xL0, u) 0 0) 0 0 0 [some (.ref 135), some (.int v1), some (.ref (1010 + 1))] [] (xL0, u) := by
  rw [f_X12_isOf_t1] at h
  refine g_aload_n (pc := 0) dX12_isOf_0 rfl ?_
  refine g_gI (pc := 1) dX12_isOf_1 fI_RX12_259 xc_135 (v := (rd u 135 33)) rfl ?_
  refine g_iload_n (pc := 4) dX12_isOf_4 rfl ?_
  refine g_icmp_ge (tgt := 40) (pc := 5) dX12_isOf_5 (by decide) (fun c1 => ?_) (fun c1 => ?_)
  · replace h := (if_pos c1).symm.trans h
    refine g_iconst (pc := 40) dX12_isOf_40 ic_0 ?_
    replace h := Option.some.inj h
    subst h
    exact g_zret (pc := 41) dX12_isOf_41 rfl (Or.inl rfl) rfl rfl (Nat.le_refl _) (Nat.le_refl _)
  · replace h := (if_neg c1).symm.trans h
    refine g_aload_n (pc := 8) dX12_isOf_8 rfl ?_
    refine g_gR (pc := 9) dX12_isOf_9 fR_RX12_84 xc_135 (v := 159) rfl ?_
    refine g_aload_n (pc := 12) dX12_isOf_12 rfl ?_
    refine g_gI (pc := 13) dX12_isOf_13 fI_RX12_259 xc_135 (v := (rd u 135 33)) rfl ?_
    obtain ⟨g2, h⟩ := x_gd h
    refine g_iaload (pc := 16) dX12_isOf_16 xc_159 (xin_of g2) (v := (rd u 159 (rd u 135 33).toNatClampNeg)) rfl ?_
    refine g_if_le (tgt := 40) (pc := 17) dX12_isOf_17 (by decide) (fun c3 => ?_) (fun c3 => ?_)
    · replace h := (if_pos c3).symm.trans h
      refine g_iconst (pc := 40) dX12_isOf_40 ic_0 ?_
      replace h := Option.some.inj h
      subst h
      exact g_zret (pc := 41) dX12_isOf_41 rfl (Or.inl rfl) rfl rfl (Nat.le_refl _) (Nat.le_refl _)
    · replace h := (if_neg c3).symm.trans h
      refine g_aload_n (pc := 20) dX12_isOf_20 rfl ?_
      refine g_aload_n (pc := 21) dX12_isOf_21 rfl ?_
      refine g_gR (pc := 22) dX12_isOf_22 fR_RX12_84 xc_135 (v := 159) rfl ?_
      refine g_aload_n (pc := 25) dX12_isOf_25 rfl ?_
      refine g_gI (pc := 26) dX12_isOf_26 fI_RX12_259 xc_135 (v := (rd u 135 33)) rfl ?_
      refine g_iaload (pc := 29) dX12_isOf_29 xc_159 (xin_of g2) (v := (rd u 159 (rd u 135 33).toNatClampNeg)) rfl ?_
      obtain ⟨x5, e4, h⟩ := x_bind h
      refine g_cT 1 (pc := 30) dX12_isOf_30 cT_RX12_262 (M_J0_indexOf_0f7a4_t1 (Nat.le_refl _) e4) (by decide) (as := [.int (rd u 159 (rd u 135 33).toNatClampNeg)]) (st := []) rfl rfl (Nat.le_of_ble_eq_true rfl) (Nat.le_trans (Nat.le_of_ble_eq_true rfl) hd) rfl ?_
      refine g_if_lt (tgt := 40) (pc := 33) dX12_isOf_33 (by decide) (fun c6 => ?_) (fun c6 => ?_)
      · replace h := (if_pos c6).symm.trans h
        refine g_iconst (pc := 40) dX12_isOf_40 ic_0 ?_
        replace h := Option.some.inj h
        subst h
        exact g_zret (pc := 41) dX12_isOf_41 rfl (Or.inl rfl) rfl rfl (Nat.le_refl _) (Nat.le_refl _)
      · replace h := (if_neg c6).symm.trans h
        refine g_iconst (pc := 36) dX12_isOf_36 ic_1 ?_
        refine g_goto (tgt := 41) (pc := 37) dX12_isOf_37 (by decide) ?_
        replace h := Option.some.inj h
        subst h
        exact g_zret (pc := 41) dX12_isOf_41 rfl (Or.inr rfl) rfl rfl (Nat.le_refl _) (Nat.le_refl _)
set_option maxRecDepth 100000 in
set_option maxHeartbeats 4000000 in
theorem M_X12_isOf_t1 {sc : Nat × (Nat → Int32)} {d : Nat} (hd : 4 ≤ d) {r : Int32} {u : xS} {a1 : Int32} (h : f_X12_isOf_t1 u a1 = some r) : xMt sc mX12_isOf d 0 0 [.ref 135, .int a1, .ref (1010 + 1)] (xL0, u) (some (.int r)) (xL0, u) :=
  xMt.of (by decide +kernel) (by decide +kernel) (Nat.le_of_ble_eq_true rfl) (L := [some (.ref 135), some (.int a1), some (.ref (1010 + 1))]) rfl ((G_X12_isOf_t1_0 hd a1 h))
theorem zb_J0_isLatin1_aae02_t0 : f_J0_isLatin1_aae02_t0 = 0 ∨ f_J0_isLatin1_aae02_t0 = 1 := by
  unfold f_J0_isLatin1_aae02_t0
  repeat' first | exact Or.inl rfl | exact Or.inr rfl | apply x_ite
set_option maxRecDepth 100000 in
set_option maxHeartbeats 4000000 in
theorem G_J0_isLatin1_aae02_t0_0 {sc : Nat × (Nat → Int32)} {d : Nat} (hd : 0 ≤ d) {r : Int32} {u : xS} (h : f_J0_isLatin1_aae02_t0 = r) : xG sc mJ0_isLatin1_aae02 d 0 0 (xR (some (.int r)) (xL0, u) 0 0) 0 0 0 [some (.ref (1010 + 0))] [] (xL0, u) := by
  rw [f_J0_isLatin1_aae02_t0] at h
  refine g_getsC (pc := 0) dJ0_isLatin1_aae02_0 fs_RJ0_38 ?_
  refine g_if_eq (tgt := 17) (pc := 3) dJ0_isLatin1_aae02_3 (by decide) (fun c1 => absurd c1 (by decide)) (fun _ => ?_)
  refine g_aload_n (pc := 6) dJ0_isLatin1_aae02_6 rfl ?_
  refine g_strC 0 (pc := 7) dJ0_isLatin1_aae02_7 fs_RJ0_15 (by decide) ?_
  refine g_if_ne (tgt := 17) (pc := 10) dJ0_isLatin1_aae02_10 (by decide) (fun c2 => absurd c2 (by decide)) (fun _ => ?_)
  refine g_iconst (pc := 13) dJ0_isLatin1_aae02_13 ic_1 ?_
  refine g_goto (tgt := 18) (pc := 14) dJ0_isLatin1_aae02_14 (by decide) ?_
  subst h
  exact g_zret (pc := 18) dJ0_isLatin1_aae02_18 rfl (Or.inr rfl) rfl rfl (Nat.le_refl _) (Nat.le_refl _)
set_option maxRecDepth 100000 in
set_option maxHeartbeats 4000000 in
theorem M_J0_isLatin1_aae02_t0 {sc : Nat × (Nat → Int32)} {d : Nat} (hd : 0 ≤ d) {r : Int32} {u : xS} (h : f_J0_isLatin1_aae02_t0 = r) : xMt sc mJ0_isLatin1_aae02 d 0 0 [.ref (1010 + 0)] (xL0, u) (some (.int r)) (xL0, u) :=
  xMt.of (by decide +kernel) (by decide +kernel) (Nat.le_of_ble_eq_true rfl) (L := [some (.ref (1010 + 0))]) rfl ((G_J0_isLatin1_aae02_t0_0 hd h))
set_option maxRecDepth 100000 in
set_option maxHeartbeats 4000000 in
theorem G_J0_coder_7d493_t0_0 {sc : Nat × (Nat → Int32)} {d : Nat} (hd : 0 ≤ d) {r : Int32} {u : xS} (h : f_J0_coder_7d493_t0 = r) : xG sc mJ0_coder_7d493 d 0 0 (xR (some (.int r)) (xL0, u) 0 0) 0 0 0 [some (.ref (1010 + 0))] [] (xL0, u) := by
  rw [f_J0_coder_7d493_t0] at h
  refine g_getsC (pc := 0) dJ0_coder_7d493_0 fs_RJ0_38 ?_
  refine g_if_eq (tgt := 13) (pc := 3) dJ0_coder_7d493_3 (by decide) (fun c1 => absurd c1 (by decide)) (fun _ => ?_)
  refine g_aload_n (pc := 6) dJ0_coder_7d493_6 rfl ?_
  refine g_strC 0 (pc := 7) dJ0_coder_7d493_7 fs_RJ0_15 (by decide) ?_
  refine g_goto (tgt := 14) (pc := 10) dJ0_coder_7d493_10 (by decide) ?_
  subst h
  exact g_bret (pc := 14) dJ0_coder_7d493_14 rfl rfl rfl rfl (Nat.le_refl _) (Nat.le_refl _)
set_option maxRecDepth 100000 in
set_option maxHeartbeats 4000000 in
theorem M_J0_coder_7d493_t0 {sc : Nat × (Nat → Int32)} {d : Nat} (hd : 0 ≤ d) {r : Int32} {u : xS} (h : f_J0_coder_7d493_t0 = r) : xMt sc mJ0_coder_7d493 d 0 0 [.ref (1010 + 0)] (xL0, u) (some (.int r)) (xL0, u) :=
  xMt.of (by decide +kernel) (by decide +kernel) (Nat.le_of_ble_eq_true rfl) (L := [some (.ref (1010 + 0))]) rfl ((G_J0_coder_7d493_t0_0 hd h))
set_option maxRecDepth 100000 in
set_option maxHeartbeats 4000000 in
theorem G_J0_length_8abf5_t0_0 {sc : Nat × (Nat → Int32)} {d : Nat} (hd : 1 ≤ d) {r : Int32} {u : xS} (h : f_J0_length_8abf5_t0 = r) : xG sc mJ0_length_8abf5 d 0 0 (xR (some (.int r)) (xL0, u) 0 0) 0 0 0 [some (.ref (1010 + 0))] [] (xL0, u) := by
  rw [f_J0_length_8abf5_t0] at h
  refine g_aload_n (pc := 0) dJ0_length_8abf5_0 rfl ?_
  refine g_strV 0 (pc := 1) dJ0_length_8abf5_1 fs_RJ0_9 (by decide) ?_
  refine g_blen 0 (pc := 4) dJ0_length_8abf5_4 (by decide) (v := (16 : Int32)) rfl ?_
  refine g_aload_n (pc := 5) dJ0_length_8abf5_5 rfl ?_
  refine g_cT 0 (pc := 6) dJ0_length_8abf5_6 cT_RJ0_335 (M_J0_coder_7d493_t0 (Nat.le_refl _) (rfl : f_J0_coder_7d493_t0 = (0 : Int32))) (by decide) (as := []) (st := [.int (16 : Int32)]) rfl rfl (Nat.le_of_ble_eq_true rfl) (Nat.le_trans (Nat.le_of_ble_eq_true rfl) hd) rfl ?_
  refine g_ishr (pc := 9) dJ0_length_8abf5_9 rfl ?_
  subst h
  exact g_iret (pc := 10) dJ0_length_8abf5_10 rfl rfl rfl (Nat.le_refl _) (Nat.le_refl _)
set_option maxRecDepth 100000 in
set_option maxHeartbeats 4000000 in
theorem M_J0_length_8abf5_t0 {sc : Nat × (Nat → Int32)} {d : Nat} (hd : 1 ≤ d) {r : Int32} {u : xS} (h : f_J0_length_8abf5_t0 = r) : xMt sc mJ0_length_8abf5 d 0 0 [.ref (1010 + 0)] (xL0, u) (some (.int r)) (xL0, u) :=
  xMt.of (by decide +kernel) (by decide +kernel) (Nat.le_of_ble_eq_true rfl) (L := [some (.ref (1010 + 0))]) rfl ((G_J0_length_8abf5_t0_0 hd h))
set_option maxRecDepth 100000 in
set_option maxHeartbeats 4000000 in
theorem G_J1_indexOfChar_4cfef_t0_7 {sc : Nat × (Nat → Int32)} {d : Nat} (hd : 0 ≤ d) {r : Int32} {u : xS} : ∀ (n : Nat) (v3 : Int32) (v4 : Int32) (v5 : Int32), f_J1_indexOfChar_4cfef_t0_7 n v3 v4 v5 = some r → xG sc mJ1_indexOfChar_4cfef d 0 0 (xR (some (.int r)) (xL0, u) 0 0) 0 0 7 [some (.ref (1020 + 0)), none, none, some (.int v3), some (.int v4), some (.int v5)] [] (xL0, u) := by
  intro n
  induction n with
  | zero =>
    intro v3 v4 v5 h
    rw [f_J1_indexOfChar_4cfef_t0_7] at h
    cases h
  | succ n ih =>
    intro v3 v4 v5 h
    rw [f_J1_indexOfChar_4cfef_t0_7] at h
    refine g_iload (pc := 7) dJ1_indexOfChar_4cfef_7 rfl ?_
    refine g_iload_n (pc := 9) dJ1_indexOfChar_4cfef_9 rfl ?_
    refine g_icmp_ge (tgt := 31) (pc := 10) dJ1_indexOfChar_4cfef_10 (by decide) (fun c1 => ?_) (fun c1 => ?_)
    · replace h := (if_pos c1).symm.trans h
      refine g_iconst (pc := 31) dJ1_indexOfChar_4cfef_31 ic_m1 ?_
      replace h := Option.some.inj h
      subst h
      exact g_iret (pc := 32) dJ1_indexOfChar_4cfef_32 rfl rfl rfl (Nat.le_refl _) (Nat.le_refl _)
    · replace h := (if_neg c1).symm.trans h
      refine g_aload_n (pc := 13) dJ1_indexOfChar_4cfef_13 rfl ?_
      refine g_iload (pc := 14) dJ1_indexOfChar_4cfef_14 rfl ?_
      obtain ⟨g2, h⟩ := x_gd h
      refine g_bload 0 (pc := 16) dJ1_indexOfChar_4cfef_16 (by decide) (xin_of g2) rfl ?_
      refine g_iload (pc := 17) dJ1_indexOfChar_4cfef_17 rfl ?_
      refine g_icmp_ne (tgt := 25) (pc := 19) dJ1_indexOfChar_4cfef_19 (by decide) (fun c3 => ?_) (fun c3 => ?_)
      · replace h := (if_neg c3).symm.trans h
        refine g_inc (pc := 25) dJ1_indexOfChar_4cfef_25 (Nat.le_of_ble_eq_true rfl) rfl ic_1 (L' := [some (.ref (1020 + 0)), none, none, some (.int v3), some (.int v4), some (.int (v5 + (1 : Int32)))]) rfl ?_
        refine g_goto (tgt := 7) (pc := 28) dJ1_indexOfChar_4cfef_28 (by decide) ?_
        exact ih v3 v4 (v5 + (1 : Int32)) h
      · replace h := (if_pos c3).symm.trans h
        refine g_iload (pc := 22) dJ1_indexOfChar_4cfef_22 rfl ?_
        replace h := Option.some.inj h
        subst h
        exact g_iret (pc := 24) dJ1_indexOfChar_4cfef_24 rfl rfl rfl (Nat.le_refl _) (Nat.le_refl _)
set_option maxRecDepth 100000 in
set_option maxHeartbeats 4000000 in
theorem G_J1_indexOfChar_4cfef_t0_0 {sc : Nat × (Nat → Int32)} {d : Nat} (hd : 0 ≤ d) {r : Int32} {u : xS} (v1 : Int32) (v2 : Int32) (v3 : Int32) (h : f_J1_indexOfChar_4cfef_t0 v1 v2 v3 = some r) : xG sc mJ1_indexOfChar_4cfef d 0 0 (xR (some (.int r)) (xL0, u) 0 0) 0 0 0 [some (.ref (1020 + 0)), some (.int v1), some (.int v2), some (.int v3), none, none] [] (xL0, u) := by
  rw [f_J1_indexOfChar_4cfef_t0] at h
  refine g_iload_n (pc := 0) dJ1_indexOfChar_4cfef_0 rfl ?_
  refine g_i2b (pc := 1) dJ1_indexOfChar_4cfef_1 rfl ?_
  refine g_istore (pc := 2) dJ1_indexOfChar_4cfef_2 (Nat.le_of_ble_eq_true rfl) (L' := [some (.ref (1020 + 0)), some (.int v1), some (.int v2), some (.int v3), some (.int (v1.toInt8.toInt32)), none]) rfl ?_
  refine g_iload_n (pc := 4) dJ1_indexOfChar_4cfef_4 rfl ?_
  refine g_istore (pc := 5) dJ1_indexOfChar_4cfef_5 (Nat.le_of_ble_eq_true rfl) (L' := [some (.ref (1020 + 0)), some (.int v1), some (.int v2), some (.int v3), some (.int (v1.toInt8.toInt32)), some (.int v2)]) rfl ?_
  refine g_L (L' := [some (.ref (1020 + 0)), none, none, some (.int v3), some (.int (v1.toInt8.toInt32)), some (.int v2)]) ⟨rfl, ⟨rfl, ⟨rfl, ⟨rfl, trivial⟩⟩⟩⟩ ?_
  exact G_J1_indexOfChar_4cfef_t0_7 hd xN v3 (v1.toInt8.toInt32) v2 h
set_option maxRecDepth 100000 in
set_option maxHeartbeats 4000000 in
theorem M_J1_indexOfChar_4cfef_t0 {sc : Nat × (Nat → Int32)} {d : Nat} (hd : 0 ≤ d) {r : Int32} {u : xS} {a1 : Int32} {a2 : Int32} {a3 : Int32} (h : f_J1_indexOfChar_4cfef_t0 a1 a2 a3 = some r) : xMt sc mJ1_indexOfChar_4cfef d 0 0 [.ref (1020 + 0), .int a1, .int a2, .int a3] (xL0, u) (some (.int r)) (xL0, u) :=
  xMt.of (by decide +kernel) (by decide +kernel) (Nat.le_of_ble_eq_true rfl) (L := [some (.ref (1020 + 0)), some (.int a1), some (.int a2), some (.int a3), none, none]) rfl ((G_J1_indexOfChar_4cfef_t0_0 hd a1 a2 a3 h))
set_option maxRecDepth 100000 in
set_option maxHeartbeats 4000000 in
theorem G_J1_indexOf_4cfef_t0_0 {sc : Nat × (Nat → Int32)} {d : Nat} (hd : 1 ≤ d) {r : Int32} {u : xS} (v1 : Int32) (v2 : Int32) (v3 : Int32) (h : f_J1_indexOf_4cfef_t0 v1 v2 v3 = some r) : xG sc mJ1_indexOf_4cfef d 0 0 (xR (some (.int r)) (xL0, u) 0 0) 0 0 0 [some (.ref (1020 + 0)), some (.int v1), some (.int v2), some (.int v3)] [] (xL0, u) := by
  rw [f_J1_indexOf_4cfef_t0] at h
  refine g_iload_n (pc := 0) dJ1_indexOf_4cfef_0 rfl ?_
  refine g_cS (pc := 1) dJ1_indexOf_4cfef_1 cS_RJ1_88 (M_J1_canEncode_9a6ad (Nat.le_refl _) rfl) (as := [.int v1]) (st := []) rfl rfl (Nat.le_of_ble_eq_true rfl) (Nat.le_trans (Nat.le_of_ble_eq_true rfl) hd) rfl ?_
  refine g_if_ne (tgt := 9) (pc := 4) dJ1_indexOf_4cfef_4 (by decide) (fun c1 => ?_) (fun c1 => ?_)
  · replace h := (if_neg c1).symm.trans h
    refine g_iload_n (pc := 9) dJ1_indexOf_4cfef_9 rfl ?_
    refine g_iconst (pc := 10) dJ1_indexOf_4cfef_10 ic_0 ?_
    refine g_max (pc := 11) dJ1_indexOf_4cfef_11 mK_RJ1_92 (Nat.le_of_ble_eq_true rfl) (Nat.le_trans (Nat.le_of_ble_eq_true rfl) hd) (Nat.zero_le _) (Nat.zero_le _) ?_
    refine g_istore_n (pc := 14) dJ1_indexOf_4cfef_14 (Nat.le_of_ble_eq_true rfl) (L' := [some (.ref (1020 + 0)), some (.int v1), some (.int (imax v2 (0 : Int32))), some (.int v3)]) rfl ?_
    refine g_iload_n (pc := 15) dJ1_indexOf_4cfef_15 rfl ?_
    refine g_aload_n (pc := 16) dJ1_indexOf_4cfef_16 rfl ?_
    refine g_blen 0 (pc := 17) dJ1_indexOf_4cfef_17 (by decide) (v := (16 : Int32)) rfl ?_
    refine g_min (pc := 18) dJ1_indexOf_4cfef_18 mK_RJ1_38 (Nat.le_of_ble_eq_true rfl) (Nat.le_trans (Nat.le_of_ble_eq_true rfl) hd) (Nat.zero_le _) (Nat.zero_le _) ?_
    refine g_istore_n (pc := 21) dJ1_indexOf_4cfef_21 (Nat.le_of_ble_eq_true rfl) (L' := [some (.ref (1020 + 0)), some (.int v1), some (.int (imax v2 (0 : Int32))), some (.int (imin v3 (16 : Int32)))]) rfl ?_
    refine g_iload_n (pc := 22) dJ1_indexOf_4cfef_22 rfl ?_
    refine g_iload_n (pc := 23) dJ1_indexOf_4cfef_23 rfl ?_
    refine g_icmp_lt (tgt := 29) (pc := 24) dJ1_indexOf_4cfef_24 (by decide) (fun c2 => ?_) (fun c2 => ?_)
    · replace h := (if_pos c2).symm.trans h
      refine g_aload_n (pc := 29) dJ1_indexOf_4cfef_29 rfl ?_
      refine g_iload_n (pc := 30) dJ1_indexOf_4cfef_30 rfl ?_
      refine g_iload_n (pc := 31) dJ1_indexOf_4cfef_31 rfl ?_
      refine g_iload_n (pc := 32) dJ1_indexOf_4cfef_32 rfl ?_
      obtain ⟨x4, e3, h⟩ := x_bind h
      refine g_cS (pc := 33) dJ1_indexOf_4cfef_33 cS_RJ1_95 (M_J1_indexOfChar_4cfef_t0 (Nat.le_refl _) e3) (as := [.ref (1020 + 0), .int v1, .int (imax v2 (0 : Int32)), .int (imin v3 (16 : Int32))]) (st := []) rfl rfl (Nat.le_of_ble_eq_true rfl) (Nat.le_trans (Nat.le_of_ble_eq_true rfl) hd) rfl ?_
      replace h := Option.some.inj h
      subst h
      exact g_iret (pc := 36) dJ1_indexOf_4cfef_36 rfl rfl rfl (Nat.le_refl _) (Nat.le_refl _)
    · replace h := (if_neg c2).symm.trans h
      refine g_iconst (pc := 27) dJ1_indexOf_4cfef_27 ic_m1 ?_
      replace h := Option.some.inj h
      subst h
      exact g_iret (pc := 28) dJ1_indexOf_4cfef_28 rfl rfl rfl (Nat.le_refl _) (Nat.le_refl _)
  · replace h := (if_pos c1).symm.trans h
    refine g_iconst (pc := 7) dJ1_indexOf_4cfef_7 ic_m1 ?_
    replace h := Option.some.inj h
    subst h
    exact g_iret (pc := 8) dJ1_indexOf_4cfef_8 rfl rfl rfl (Nat.le_refl _) (Nat.le_refl _)
set_option maxRecDepth 100000 in
set_option maxHeartbeats 4000000 in
theorem M_J1_indexOf_4cfef_t0 {sc : Nat × (Nat → Int32)} {d : Nat} (hd : 1 ≤ d) {r : Int32} {u : xS} {a1 : Int32} {a2 : Int32} {a3 : Int32} (h : f_J1_indexOf_4cfef_t0 a1 a2 a3 = some r) : xMt sc mJ1_indexOf_4cfef d 0 0 [.ref (1020 + 0), .int a1, .int a2, .int a3] (xL0, u) (some (.int r)) (xL0, u) :=
  xMt.of (by decide +kernel) (by decide +kernel) (Nat.le_of_ble_eq_true rfl) (L := [some (.ref (1020 + 0)), some (.int a1), some (.int a2), some (.int a3)]) rfl ((G_J1_indexOf_4cfef_t0_0 hd a1 a2 a3 h))
set_option maxRecDepth 100000 in
set_option maxHeartbeats 4000000 in
theorem G_J0_indexOf_7cf53_t0_0 {sc : Nat × (Nat → Int32)} {d : Nat} (hd : 2 ≤ d) {r : Int32} {u : xS} (v1 : Int32) (v2 : Int32) (h : f_J0_indexOf_7cf53_t0 v1 v2 = some r) : xG sc mJ0_indexOf_7cf53 d 0 0 (xR (some (.int r)) (xL0, u) 0 0) 0 0 0 [some (.ref (1010 + 0)), some (.int v1), some (.int v2)] [] (xL0, u) := by
  rw [f_J0_indexOf_7cf53_t0] at h
  refine g_aload_n (pc := 0) dJ0_indexOf_7cf53_0 rfl ?_
  refine g_cT 0 (pc := 1) dJ0_indexOf_7cf53_1 cT_RJ0_492 (M_J0_isLatin1_aae02_t0 (Nat.le_refl _) (rfl : f_J0_isLatin1_aae02_t0 = (1 : Int32))) (by decide) (as := []) (st := []) rfl rfl (Nat.le_of_ble_eq_true rfl) (Nat.le_trans (Nat.le_of_ble_eq_true rfl) hd) rfl ?_
  refine g_if_eq (tgt := 23) (pc := 4) dJ0_indexOf_7cf53_4 (by decide) (fun c1 => absurd c1 (by decide)) (fun _ => ?_)
  refine g_aload_n (pc := 7) dJ0_indexOf_7cf53_7 rfl ?_
  refine g_strV 0 (pc := 8) dJ0_indexOf_7cf53_8 fs_RJ0_9 (by decide) ?_
  refine g_iload_n (pc := 11) dJ0_indexOf_7cf53_11 rfl ?_
  refine g_iload_n (pc := 12) dJ0_indexOf_7cf53_12 rfl ?_
  refine g_aload_n (pc := 13) dJ0_indexOf_7cf53_13 rfl ?_
  refine g_cT 0 (pc := 14) dJ0_indexOf_7cf53_14 cT_RJ0_505 (M_J0_length_8abf5_t0 (Nat.le_refl _) rfl) (by decide) (as := []) (st := [.int v2, .int v1, .ref (1020 + 0)]) rfl rfl (Nat.le_of_ble_eq_true rfl) (Nat.le_trans (Nat.le_of_ble_eq_true rfl) hd) rfl ?_
  obtain ⟨x3, e2, h⟩ := x_bind h
  refine g_cS (pc := 17) dJ0_indexOf_7cf53_17 cS_RJ0_637 (M_J1_indexOf_4cfef_t0 (Nat.le_refl _) e2) (as := [.ref (1020 + 0), .int v1, .int v2, .int (f_J0_length_8abf5_t0)]) (st := []) rfl rfl (Nat.le_of_ble_eq_true rfl) (Nat.le_trans (Nat.le_of_ble_eq_true rfl) hd) rfl ?_
  refine g_goto (tgt := 36) (pc := 20) dJ0_indexOf_7cf53_20 (by decide) ?_
  replace h := Option.some.inj h
  subst h
  exact g_iret (pc := 36) dJ0_indexOf_7cf53_36 rfl rfl rfl (Nat.le_refl _) (Nat.le_refl _)
set_option maxRecDepth 100000 in
set_option maxHeartbeats 4000000 in
theorem M_J0_indexOf_7cf53_t0 {sc : Nat × (Nat → Int32)} {d : Nat} (hd : 2 ≤ d) {r : Int32} {u : xS} {a1 : Int32} {a2 : Int32} (h : f_J0_indexOf_7cf53_t0 a1 a2 = some r) : xMt sc mJ0_indexOf_7cf53 d 0 0 [.ref (1010 + 0), .int a1, .int a2] (xL0, u) (some (.int r)) (xL0, u) :=
  xMt.of (by decide +kernel) (by decide +kernel) (Nat.le_of_ble_eq_true rfl) (L := [some (.ref (1010 + 0)), some (.int a1), some (.int a2)]) rfl ((G_J0_indexOf_7cf53_t0_0 hd a1 a2 h))
set_option maxRecDepth 100000 in
set_option maxHeartbeats 4000000 in
theorem G_J0_indexOf_0f7a4_t0_0 {sc : Nat × (Nat → Int32)} {d : Nat} (hd : 3 ≤ d) {r : Int32} {u : xS} (v1 : Int32) (h : f_J0_indexOf_0f7a4_t0 v1 = some r) : xG sc mJ0_indexOf_0f7a4 d 0 0 (xR (some (.int r)) (xL0, u) 0 0) 0 0 0 [some (.ref (1010 + 0)), some (.int v1)] [] (xL0, u) := by
  rw [f_J0_indexOf_0f7a4_t0] at h
  refine g_aload_n (pc := 0) dJ0_indexOf_0f7a4_0 rfl ?_
  refine g_iload_n (pc := 1) dJ0_indexOf_0f7a4_1 rfl ?_
  refine g_iconst (pc := 2) dJ0_indexOf_0f7a4_2 ic_0 ?_
  obtain ⟨x2, e1, h⟩ := x_bind h
  refine g_cT 0 (pc := 3) dJ0_indexOf_0f7a4_3 cT_RJ0_633 (M_J0_indexOf_7cf53_t0 (Nat.le_refl _) e1) (by decide) (as := [.int v1, .int (0 : Int32)]) (st := []) rfl rfl (Nat.le_of_ble_eq_true rfl) (Nat.le_trans (Nat.le_of_ble_eq_true rfl) hd) rfl ?_
  replace h := Option.some.inj h
  subst h
  exact g_iret (pc := 6) dJ0_indexOf_0f7a4_6 rfl rfl rfl (Nat.le_refl _) (Nat.le_refl _)
set_option maxRecDepth 100000 in
set_option maxHeartbeats 4000000 in
theorem M_J0_indexOf_0f7a4_t0 {sc : Nat × (Nat → Int32)} {d : Nat} (hd : 3 ≤ d) {r : Int32} {u : xS} {a1 : Int32} (h : f_J0_indexOf_0f7a4_t0 a1 = some r) : xMt sc mJ0_indexOf_0f7a4 d 0 0 [.ref (1010 + 0), .int a1] (xL0, u) (some (.int r)) (xL0, u) :=
  xMt.of (by decide +kernel) (by decide +kernel) (Nat.le_of_ble_eq_true rfl) (L := [some (.ref (1010 + 0)), some (.int a1)]) rfl ((G_J0_indexOf_0f7a4_t0_0 hd a1 h))
set_option maxRecDepth 100000 in
set_option maxHeartbeats 4000000 in
theorem G_X12_isOf_t0_0 {sc : Nat × (Nat → Int32)} {d : Nat} (hd : 4 ≤ d) {r : Int32} {u : xS} (v1 : Int32) (h : f_X12_isOf_t0 u v1 = some r) : xG sc mX12_isOf d 0 0 (xR (some (.int r)) (xL0, u) 0 0) 0 0 0 [some (.ref 135), some (.int v1), some (.ref (1010 + 0))] [] (xL0, u) := by
  rw [f_X12_isOf_t0] at h
  refine g_aload_n (pc := 0) dX12_isOf_0 rfl ?_
  refine g_gI (pc := 1) dX12_isOf_1 fI_RX12_259 xc_135 (v := (rd u 135 33)) rfl ?_
  refine g_iload_n (pc := 4) dX12_isOf_4 rfl ?_
  refine g_icmp_ge (tgt := 40) (pc := 5) dX12_isOf_5 (by decide) (fun c1 => ?_) (fun c1 => ?_)
  · replace h := (if_pos c1).symm.trans h
    refine g_iconst (pc := 40) dX12_isOf_40 ic_0 ?_
    replace h := Option.some.inj h
    subst h
    exact g_zret (pc := 41) dX12_isOf_41 rfl (Or.inl rfl) rfl rfl (Nat.le_refl _) (Nat.le_refl _)
  · replace h := (if_neg c1).symm.trans h
    refine g_aload_n (pc := 8) dX12_isOf_8 rfl ?_
    refine g_gR (pc := 9) dX12_isOf_9 fR_RX12_84 xc_135 (v := 159) rfl ?_
    refine g_aload_n (pc := 12) dX12_isOf_12 rfl ?_
    refine g_gI (pc := 13) dX12_isOf_13 fI_RX12_259 xc_135 (v := (rd u 135 33)) rfl ?_
    obtain ⟨g2, h⟩ := x_gd h
    refine g_iaload (pc := 16) dX12_isOf_16 xc_159 (xin_of g2) (v := (rd u 159 (rd u 135 33).toNatClampNeg)) rfl ?_
    refine g_if_le (tgt := 40) (pc := 17) dX12_isOf_17 (by decide) (fun c3 => ?_) (fun c3 => ?_)
    · replace h := (if_pos c3).symm.trans h
      refine g_iconst (pc := 40) dX12_isOf_40 ic_0 ?_
      replace h := Option.some.inj h
      subst h
      exact g_zret (pc := 41) dX12_isOf_41 rfl (Or.inl rfl) rfl rfl (Nat.le_refl _) (Nat.le_refl _)
    · replace h := (if_neg c3).symm.trans h
      refine g_aload_n (pc := 20) dX12_isOf_20 rfl ?_
      refine g_aload_n (pc := 21) dX12_isOf_21 rfl ?_
      refine g_gR (pc := 22) dX12_isOf_22 fR_RX12_84 xc_135 (v := 159) rfl ?_
      refine g_aload_n (pc := 25) dX12_isOf_25 rfl ?_
      refine g_gI (pc := 26) dX12_isOf_26 fI_RX12_259 xc_135 (v := (rd u 135 33)) rfl ?_
      refine g_iaload (pc := 29) dX12_isOf_29 xc_159 (xin_of g2) (v := (rd u 159 (rd u 135 33).toNatClampNeg)) rfl ?_
      obtain ⟨x5, e4, h⟩ := x_bind h
      refine g_cT 0 (pc := 30) dX12_isOf_30 cT_RX12_262 (M_J0_indexOf_0f7a4_t0 (Nat.le_refl _) e4) (by decide) (as := [.int (rd u 159 (rd u 135 33).toNatClampNeg)]) (st := []) rfl rfl (Nat.le_of_ble_eq_true rfl) (Nat.le_trans (Nat.le_of_ble_eq_true rfl) hd) rfl ?_
      refine g_if_lt (tgt := 40) (pc := 33) dX12_isOf_33 (by decide) (fun c6 => ?_) (fun c6 => ?_)
      · replace h := (if_pos c6).symm.trans h
        refine g_iconst (pc := 40) dX12_isOf_40 ic_0 ?_
        replace h := Option.some.inj h
        subst h
        exact g_zret (pc := 41) dX12_isOf_41 rfl (Or.inl rfl) rfl rfl (Nat.le_refl _) (Nat.le_refl _)
      · replace h := (if_neg c6).symm.trans h
        refine g_iconst (pc := 36) dX12_isOf_36 ic_1 ?_
        refine g_goto (tgt := 41) (pc := 37) dX12_isOf_37 (by decide) ?_
        replace h := Option.some.inj h
        subst h
        exact g_zret (pc := 41) dX12_isOf_41 rfl (Or.inr rfl) rfl rfl (Nat.le_refl _) (Nat.le_refl _)
set_option maxRecDepth 100000 in
set_option maxHeartbeats 4000000 in
theorem M_X12_isOf_t0 {sc : Nat × (Nat → Int32)} {d : Nat} (hd : 4 ≤ d) {r : Int32} {u : xS} {a1 : Int32} (h : f_X12_isOf_t0 u a1 = some r) : xMt sc mX12_isOf d 0 0 [.ref 135, .int a1, .ref (1010 + 0)] (xL0, u) (some (.int r)) (xL0, u) :=
  xMt.of (by decide +kernel) (by decide +kernel) (Nat.le_of_ble_eq_true rfl) (L := [some (.ref 135), some (.int a1), some (.ref (1010 + 0))]) rfl ((G_X12_isOf_t0_0 hd a1 h))
set_option maxRecDepth 100000 in
set_option maxHeartbeats 4000000 in
theorem G_X12_thing_109 {sc : Nat × (Nat → Int32)} {d : Nat} (hd : 5 ≤ d) {r : Int32} {u' : xS} {dk : Nat} (hkd : dk + 1 ≤ d) {k_X12_some : Int32 → xS → Option (Int32 × xS)} (hk_X12_some : ∀ (a1 : Int32) (u u' : xS) (r : Int32), k_X12_some a1 u = some (r, u') → xMt sc mX12_some dk 0 0 [.ref 135, .int a1] (xL0, u) (some (.int r)) (xL0, u')) (v2 : Int32) (u : xS) (h : f_X12_thing_109 k_X12_some v2 u = some (r, u')) : xG sc mX12_thing d 0 0 (xR (some (.int r)) (xL0, u') 0 0) 0 0 109 [some (.ref 135), none, some (.int v2), none] [] (xL0, u) := by
  rw [f_X12_thing_109] at h
  refine g_aload_n (pc := 109) dX12_thing_109 rfl ?_
  refine g_iload_n (pc := 110) dX12_thing_110 rfl ?_
  obtain ⟨u2, e1, h⟩ := x_bind h
  refine g_cV (pc := 111) dX12_thing_111 cV_RX12_276 (M_X12_marks (Nat.le_refl _) e1) xc_135 (as := [.int v2]) (st := []) rfl rfl (Nat.le_of_ble_eq_true rfl) (Nat.le_trans (Nat.le_of_ble_eq_true rfl) hd) rfl ?_
  refine g_iconst (pc := 114) dX12_thing_114 ic_1 ?_
  obtain ⟨h1, h2⟩ := x_inj2 h
  subst h1
  subst h2
  exact g_zret (pc := 115) dX12_thing_115 rfl (Or.inr rfl) rfl rfl (Nat.le_refl _) (Nat.le_refl _)
set_option maxRecDepth 100000 in
set_option maxHeartbeats 4000000 in
theorem G_X12_thing_59 {sc : Nat × (Nat → Int32)} {d : Nat} (hd : 5 ≤ d) {r : Int32} {u' : xS} {dk : Nat} (hkd : dk + 1 ≤ d) {k_X12_some : Int32 → xS → Option (Int32 × xS)} (hk_X12_some : ∀ (a1 : Int32) (u u' : xS) (r : Int32), k_X12_some a1 u = some (r, u') → xMt sc mX12_some dk 0 0 [.ref 135, .int a1] (xL0, u) (some (.int r)) (xL0, u')) : ∀ (n : Nat) (v1 : Int32) (v2 : Int32) (v3 : Int32) (u : xS), f_X12_thing_59 k_X12_some n v1 v2 v3 u = some (r, u') → xG sc mX12_thing d 0 0 (xR (some (.int r)) (xL0, u') 0 0) 0 0 59 [some (.ref 135), some (.int v1), some (.int v2), some (.int v3)] [] (xL0, u) := by
  intro n
  induction n with
  | zero =>
    intro v1 v2 v3 u h
    rw [f_X12_thing_59] at h
    cases h
  | succ n ih =>
    intro v1 v2 v3 u h
    rw [f_X12_thing_59] at h
    refine g_iload_n (pc := 59) dX12_thing_59 rfl ?_
    refine g_iconst (pc := 60) dX12_thing_60 ic_4 ?_
    refine g_icmp_ge (tgt := 109) (pc := 61) dX12_thing_61 (by decide) (fun c1 => ?_) (fun c1 => ?_)
    · replace h := (if_pos c1).symm.trans h
      refine g_L (L' := [some (.ref 135), none, some (.int v2), none]) ⟨rfl, ⟨rfl, trivial⟩⟩ ?_
      exact G_X12_thing_109 hd hkd hk_X12_some v2 u h
    · replace h := (if_neg c1).symm.trans h
      refine g_aload_n (pc := 64) dX12_thing_64 rfl ?_
      refine g_iload_n (pc := 65) dX12_thing_65 rfl ?_
      refine g_ldcSw 1 (pc := 66) dX12_thing_66 rfl rfl ?_
      obtain ⟨x3, e2, h⟩ := x_bind h
      refine g_cV (pc := 69) dX12_thing_69 cV_RX12_272 (M_X12_isOf_t1 (Nat.le_refl _) e2) xc_135 (as := [.int v1, .ref (1010 + 1)]) (st := []) rfl rfl (Nat.le_of_ble_eq_true rfl) (Nat.le_trans (Nat.le_of_ble_eq_true rfl) hd) rfl ?_
      refine g_if_eq (tgt := 109) (pc := 72) dX12_thing_72 (by decide) (fun c4 => ?_) (fun c4 => ?_)
      · replace h := (if_pos c4).symm.trans h
        refine g_L (L' := [some (.ref 135), none, some (.int v2), none]) ⟨rfl, ⟨rfl, trivial⟩⟩ ?_
        exact G_X12_thing_109 hd hkd hk_X12_some v2 u h
      · replace h := (if_neg c4).symm.trans h
        refine g_bipush (pc := 75) dX12_thing_75 bp_10 ?_
        refine g_iload_n (pc := 77) dX12_thing_77 rfl ?_
        refine g_imul (pc := 78) dX12_thing_78 rfl ?_
        refine g_aload_n (pc := 79) dX12_thing_79 rfl ?_
        refine g_gR (pc := 80) dX12_thing_80 fR_RX12_84 xc_135 (v := 159) rfl ?_
        refine g_aload_n (pc := 83) dX12_thing_83 rfl ?_
        refine g_gI (pc := 84) dX12_thing_84 fI_RX12_259 xc_135 (v := (rd u 135 33)) rfl ?_
        obtain ⟨g5, h⟩ := x_gd h
        refine g_iaload (pc := 87) dX12_thing_87 xc_159 (xin_of g5) (v := (rd u 159 (rd u 135 33).toNatClampNeg)) rfl ?_
        refine g_iadd (pc := 88) dX12_thing_88 rfl ?_
        refine g_bipush (pc := 89) dX12_thing_89 bp_48 ?_
        refine g_isub (pc := 91) dX12_thing_91 rfl ?_
        refine g_istore_n (pc := 92) dX12_thing_92 (Nat.le_of_ble_eq_true rfl) (L' := [some (.ref 135), some (.int v1), some (.int ((((10 : Int32) * v2) + (rd u 159 (rd u 135 33).toNatClampNeg)) - (48 : Int32))), some (.int v3)]) rfl ?_
        refine g_aload_n (pc := 93) dX12_thing_93 rfl ?_
        refine g_dup (pc := 94) dX12_thing_94 rfl ?_
        refine g_gI (pc := 95) dX12_thing_95 fI_RX12_259 xc_135 (v := (rd u 135 33)) rfl ?_
        refine g_iconst (pc := 98) dX12_thing_98 ic_1 ?_
        refine g_iadd (pc := 99) dX12_thing_99 rfl ?_
        refine g_pI (pc := 100) dX12_thing_100 pI_RX12_259 xc_135 (u' := (wr u 135 33 ((rd u 135 33) + (1 : Int32)))) rfl ?_
        refine g_inc (pc := 103) dX12_thing_103 (Nat.le_of_ble_eq_true rfl) rfl ic_1 (L' := [some (.ref 135), some (.int v1), some (.int ((((10 : Int32) * v2) + (rd u 159 (rd u 135 33).toNatClampNeg)) - (48 : Int32))), some (.int (v3 + (1 : Int32)))]) rfl ?_
        refine g_goto (tgt := 59) (pc := 106) dX12_thing_106 (by decide) ?_
        exact ih v1 ((((10 : Int32) * v2) + (rd u 159 (rd u 135 33).toNatClampNeg)) - (48 : Int32)) (v3 + (1 : Int32)) (wr u 135 33 ((rd u 135 33) + (1 : Int32))) h
set_option maxRecDepth 100000 in
set_option maxHeartbeats 4000000 in
theorem G_X12_thing_0 {sc : Nat × (Nat → Int32)} {d : Nat} (hd : 5 ≤ d) {r : Int32} {u' : xS} {dk : Nat} (hkd : dk + 1 ≤ d) {k_X12_some : Int32 → xS → Option (Int32 × xS)} (hk_X12_some : ∀ (a1 : Int32) (u u' : xS) (r : Int32), k_X12_some a1 u = some (r, u') → xMt sc mX12_some dk 0 0 [.ref 135, .int a1] (xL0, u) (some (.int r)) (xL0, u')) (v1 : Int32) (u : xS) (h : f_X12_thing k_X12_some v1 u = some (r, u')) : xG sc mX12_thing d 0 0 (xR (some (.int r)) (xL0, u') 0 0) 0 0 0 [some (.ref 135), some (.int v1), none, none] [] (xL0, u) := by
  rw [f_X12_thing] at h
  refine g_aload_n (pc := 0) dX12_thing_0 rfl ?_
  refine g_iload_n (pc := 1) dX12_thing_1 rfl ?_
  refine g_ldcSw 0 (pc := 2) dX12_thing_2 rfl rfl ?_
  obtain ⟨x2, e1, h⟩ := x_bind h
  refine g_cV (pc := 5) dX12_thing_5 cV_RX12_272 (M_X12_isOf_t0 (Nat.le_refl _) e1) xc_135 (as := [.int v1, .ref (1010 + 0)]) (st := []) rfl rfl (Nat.le_of_ble_eq_true rfl) (Nat.le_trans (Nat.le_of_ble_eq_true rfl) hd) rfl ?_
  refine g_if_eq (tgt := 44) (pc := 8) dX12_thing_8 (by decide) (fun c3 => ?_) (fun c3 => ?_)
  · replace h := (if_pos c3).symm.trans h
    refine g_aload_n (pc := 44) dX12_thing_44 rfl ?_
    refine g_iload_n (pc := 45) dX12_thing_45 rfl ?_
    refine g_ldcSw 1 (pc := 46) dX12_thing_46 rfl rfl ?_
    obtain ⟨x5, e4, h⟩ := x_bind h
    refine g_cV (pc := 49) dX12_thing_49 cV_RX12_272 (M_X12_isOf_t1 (Nat.le_refl _) e4) xc_135 (as := [.int v1, .ref (1010 + 1)]) (st := []) rfl rfl (Nat.le_of_ble_eq_true rfl) (Nat.le_trans (Nat.le_of_ble_eq_true rfl) hd) rfl ?_
    refine g_if_eq (tgt := 116) (pc := 52) dX12_thing_52 (by decide) (fun c6 => ?_) (fun c6 => ?_)
    · replace h := (if_pos c6).symm.trans h
      refine g_aload_n (pc := 116) dX12_thing_116 rfl ?_
      refine g_iload_n (pc := 117) dX12_thing_117 rfl ?_
      refine g_bipush (pc := 118) dX12_thing_118 bp_40 ?_
      obtain ⟨x8, e7, h⟩ := x_bind h
      refine g_cV (pc := 120) dX12_thing_120 cV_RX12_282 (M_X12_isSign (Nat.le_refl _) e7) xc_135 (as := [.int v1, .int (40 : Int32)]) (st := []) rfl rfl (Nat.le_of_ble_eq_true rfl) (Nat.le_trans (Nat.le_of_ble_eq_true rfl) hd) rfl ?_
      refine g_if_ne (tgt := 128) (pc := 123) dX12_thing_123 (by decide) (fun c9 => ?_) (fun c9 => ?_)
      · replace h := (if_neg c9).symm.trans h
        refine g_aload_n (pc := 128) dX12_thing_128 rfl ?_
        refine g_dup (pc := 129) dX12_thing_129 rfl ?_
        refine g_gI (pc := 130) dX12_thing_130 fI_RX12_259 xc_135 (v := (rd u 135 33)) rfl ?_
        refine g_iconst (pc := 133) dX12_thing_133 ic_1 ?_
        refine g_iadd (pc := 134) dX12_thing_134 rfl ?_
        refine g_pI (pc := 135) dX12_thing_135 pI_RX12_259 xc_135 (u' := (wr u 135 33 ((rd u 135 33) + (1 : Int32)))) rfl ?_
        refine g_aload_n (pc := 138) dX12_thing_138 rfl ?_
        refine g_iload_n (pc := 139) dX12_thing_139 rfl ?_
        obtain ⟨⟨x11, u12⟩, e10, h⟩ := x_bind h
        dsimp only at h
        refine g_cV (pc := 140) dX12_thing_140 cV_RX12_286 (hk_X12_some _ _ _ _ e10) xc_135 (as := [.int v1]) (st := []) rfl rfl (Nat.le_of_ble_eq_true rfl) hkd rfl ?_
        refine g_if_eq (tgt := 156) (pc := 143) dX12_thing_143 (by decide) (fun c13 => ?_) (fun c13 => ?_)
        · replace h := (if_pos c13).symm.trans h
          refine g_iconst (pc := 156) dX12_thing_156 ic_0 ?_
          obtain ⟨h1, h2⟩ := x_inj2 h
          subst h1
          subst h2
          exact g_zret (pc := 157) dX12_thing_157 rfl (Or.inl rfl) rfl rfl (Nat.le_refl _) (Nat.le_refl _)
        · replace h := (if_neg c13).symm.trans h
          refine g_aload_n (pc := 146) dX12_thing_146 rfl ?_
          refine g_iload_n (pc := 147) dX12_thing_147 rfl ?_
          refine g_bipush (pc := 148) dX12_thing_148 bp_41 ?_
          obtain ⟨x15, e14, h⟩ := x_bind h
          refine g_cV (pc := 150) dX12_thing_150 cV_RX12_282 (M_X12_isSign (Nat.le_refl _) e14) xc_135 (as := [.int v1, .int (41 : Int32)]) (st := []) rfl rfl (Nat.le_of_ble_eq_true rfl) (Nat.le_trans (Nat.le_of_ble_eq_true rfl) hd) rfl ?_
          refine g_if_ne (tgt := 158) (pc := 153) dX12_thing_153 (by decide) (fun c16 => ?_) (fun c16 => ?_)
          · replace h := (if_neg c16).symm.trans h
            refine g_aload_n (pc := 158) dX12_thing_158 rfl ?_
            refine g_dup (pc := 159) dX12_thing_159 rfl ?_
            refine g_gI (pc := 160) dX12_thing_160 fI_RX12_259 xc_135 (v := (rd u12 135 33)) rfl ?_
            refine g_iconst (pc := 163) dX12_thing_163 ic_1 ?_
            refine g_iadd (pc := 164) dX12_thing_164 rfl ?_
            refine g_pI (pc := 165) dX12_thing_165 pI_RX12_259 xc_135 (u' := (wr u12 135 33 ((rd u12 135 33) + (1 : Int32)))) rfl ?_
            refine g_iconst (pc := 168) dX12_thing_168 ic_1 ?_
            obtain ⟨h1, h2⟩ := x_inj2 h
            subst h1
            subst h2
            exact g_zret (pc := 169) dX12_thing_169 rfl (Or.inr rfl) rfl rfl (Nat.le_refl _) (Nat.le_refl _)
          · replace h := (if_pos c16).symm.trans h
            refine g_iconst (pc := 156) dX12_thing_156 ic_0 ?_
            obtain ⟨h1, h2⟩ := x_inj2 h
            subst h1
            subst h2
            exact g_zret (pc := 157) dX12_thing_157 rfl (Or.inl rfl) rfl rfl (Nat.le_refl _) (Nat.le_refl _)
      · replace h := (if_pos c9).symm.trans h
        refine g_iconst (pc := 126) dX12_thing_126 ic_0 ?_
        obtain ⟨h1, h2⟩ := x_inj2 h
        subst h1
        subst h2
        exact g_zret (pc := 127) dX12_thing_127 rfl (Or.inl rfl) rfl rfl (Nat.le_refl _) (Nat.le_refl _)
    · replace h := (if_neg c6).symm.trans h
      refine g_iconst (pc := 55) dX12_thing_55 ic_0 ?_
      refine g_istore_n (pc := 56) dX12_thing_56 (Nat.le_of_ble_eq_true rfl) (L' := [some (.ref 135), some (.int v1), some (.int (0 : Int32)), none]) rfl ?_
      refine g_iconst (pc := 57) dX12_thing_57 ic_0 ?_
      refine g_istore_n (pc := 58) dX12_thing_58 (Nat.le_of_ble_eq_true rfl) (L' := [some (.ref 135), some (.int v1), some (.int (0 : Int32)), some (.int (0 : Int32))]) rfl ?_
      exact G_X12_thing_59 hd hkd hk_X12_some xN v1 (0 : Int32) (0 : Int32) u h
  · replace h := (if_neg c3).symm.trans h
    refine g_aload_n (pc := 11) dX12_thing_11 rfl ?_
    refine g_iconst (pc := 12) dX12_thing_12 ic_m1 ?_
    refine g_ldcSw 0 (pc := 13) dX12_thing_13 rfl rfl ?_
    refine g_aload_n (pc := 16) dX12_thing_16 rfl ?_
    refine g_gR (pc := 17) dX12_thing_17 fR_RX12_84 xc_135 (v := 159) rfl ?_
    refine g_aload_n (pc := 20) dX12_thing_20 rfl ?_
    refine g_gI (pc := 21) dX12_thing_21 fI_RX12_259 xc_135 (v := (rd u 135 33)) rfl ?_
    obtain ⟨g18, h⟩ := x_gd h
    refine g_iaload (pc := 24) dX12_thing_24 xc_159 (xin_of g18) (v := (rd u 159 (rd u 135 33).toNatClampNeg)) rfl ?_
    obtain ⟨x20, e19, h⟩ := x_bind h
    refine g_cT 0 (pc := 25) dX12_thing_25 cT_RX12_262 (M_J0_indexOf_0f7a4_t0 (Nat.le_refl _) e19) (by decide) (as := [.int (rd u 159 (rd u 135 33).toNatClampNeg)]) (st := [.int (-1 : Int32), .ref 135]) rfl rfl (Nat.le_of_ble_eq_true rfl) (Nat.le_trans (Nat.le_of_ble_eq_true rfl) hd) rfl ?_
    refine g_isub (pc := 28) dX12_thing_28 rfl ?_
    obtain ⟨u22, e21, h⟩ := x_bind h
    refine g_cV (pc := 29) dX12_thing_29 cV_RX12_276 (M_X12_marks (Nat.le_refl _) e21) xc_135 (as := [.int ((-1 : Int32) - x20)]) (st := []) rfl rfl (Nat.le_of_ble_eq_true rfl) (Nat.le_trans (Nat.le_of_ble_eq_true rfl) hd) rfl ?_
    refine g_aload_n (pc := 32) dX12_thing_32 rfl ?_
    refine g_dup (pc := 33) dX12_thing_33 rfl ?_
    refine g_gI (pc := 34) dX12_thing_34 fI_RX12_259 xc_135 (v := (rd u22 135 33)) rfl ?_
    refine g_iconst (pc := 37) dX12_thing_37 ic_1 ?_
    refine g_iadd (pc := 38) dX12_thing_38 rfl ?_
    refine g_pI (pc := 39) dX12_thing_39 pI_RX12_259 xc_135 (u' := (wr u22 135 33 ((rd u22 135 33) + (1 : Int32)))) rfl ?_
    refine g_iconst (pc := 42) dX12_thing_42 ic_1 ?_
    obtain ⟨h1, h2⟩ := x_inj2 h
    subst h1
    subst h2
    exact g_zret (pc := 43) dX12_thing_43 rfl (Or.inr rfl) rfl rfl (Nat.le_refl _) (Nat.le_refl _)
set_option maxRecDepth 100000 in
set_option maxHeartbeats 4000000 in
theorem M_X12_thing {sc : Nat × (Nat → Int32)} {d : Nat} (hd : 5 ≤ d) {r : Int32} {u u' : xS} {dk : Nat} (hkd : dk + 1 ≤ d) {k_X12_some : Int32 → xS → Option (Int32 × xS)} (hk_X12_some : ∀ (a1 : Int32) (u u' : xS) (r : Int32), k_X12_some a1 u = some (r, u') → xMt sc mX12_some dk 0 0 [.ref 135, .int a1] (xL0, u) (some (.int r)) (xL0, u')) {a1 : Int32} (h : f_X12_thing k_X12_some a1 u = some (r, u')) : xMt sc mX12_thing d 0 0 [.ref 135, .int a1] (xL0, u) (some (.int r)) (xL0, u') :=
  xMt.of (by decide +kernel) (by decide +kernel) (Nat.le_of_ble_eq_true rfl) (L := [some (.ref 135), some (.int a1), none, none]) rfl ((G_X12_thing_0 hd hkd hk_X12_some a1 u h))
theorem zb_J0_isLatin1_aae02_t2 : f_J0_isLatin1_aae02_t2 = 0 ∨ f_J0_isLatin1_aae02_t2 = 1 := by
  unfold f_J0_isLatin1_aae02_t2
  repeat' first | exact Or.inl rfl | exact Or.inr rfl | apply x_ite
set_option maxRecDepth 100000 in
set_option maxHeartbeats 4000000 in
theorem G_J0_isLatin1_aae02_t2_0 {sc : Nat × (Nat → Int32)} {d : Nat} (hd : 0 ≤ d) {r : Int32} {u : xS} (h : f_J0_isLatin1_aae02_t2 = r) : xG sc mJ0_isLatin1_aae02 d 0 0 (xR (some (.int r)) (xL0, u) 0 0) 0 0 0 [some (.ref (1010 + 2))] [] (xL0, u) := by
  rw [f_J0_isLatin1_aae02_t2] at h
  refine g_getsC (pc := 0) dJ0_isLatin1_aae02_0 fs_RJ0_38 ?_
  refine g_if_eq (tgt := 17) (pc := 3) dJ0_isLatin1_aae02_3 (by decide) (fun c1 => absurd c1 (by decide)) (fun _ => ?_)
  refine g_aload_n (pc := 6) dJ0_isLatin1_aae02_6 rfl ?_
  refine g_strC 2 (pc := 7) dJ0_isLatin1_aae02_7 fs_RJ0_15 (by decide) ?_
  refine g_if_ne (tgt := 17) (pc := 10) dJ0_isLatin1_aae02_10 (by decide) (fun c2 => absurd c2 (by decide)) (fun _ => ?_)
  refine g_iconst (pc := 13) dJ0_isLatin1_aae02_13 ic_1 ?_
  refine g_goto (tgt := 18) (pc := 14) dJ0_isLatin1_aae02_14 (by decide) ?_
  subst h
  exact g_zret (pc := 18) dJ0_isLatin1_aae02_18 rfl (Or.inr rfl) rfl rfl (Nat.le_refl _) (Nat.le_refl _)
set_option maxRecDepth 100000 in
set_option maxHeartbeats 4000000 in
theorem M_J0_isLatin1_aae02_t2 {sc : Nat × (Nat → Int32)} {d : Nat} (hd : 0 ≤ d) {r : Int32} {u : xS} (h : f_J0_isLatin1_aae02_t2 = r) : xMt sc mJ0_isLatin1_aae02 d 0 0 [.ref (1010 + 2)] (xL0, u) (some (.int r)) (xL0, u) :=
  xMt.of (by decide +kernel) (by decide +kernel) (Nat.le_of_ble_eq_true rfl) (L := [some (.ref (1010 + 2))]) rfl ((G_J0_isLatin1_aae02_t2_0 hd h))
set_option maxRecDepth 100000 in
set_option maxHeartbeats 4000000 in
theorem G_J0_coder_7d493_t2_0 {sc : Nat × (Nat → Int32)} {d : Nat} (hd : 0 ≤ d) {r : Int32} {u : xS} (h : f_J0_coder_7d493_t2 = r) : xG sc mJ0_coder_7d493 d 0 0 (xR (some (.int r)) (xL0, u) 0 0) 0 0 0 [some (.ref (1010 + 2))] [] (xL0, u) := by
  rw [f_J0_coder_7d493_t2] at h
  refine g_getsC (pc := 0) dJ0_coder_7d493_0 fs_RJ0_38 ?_
  refine g_if_eq (tgt := 13) (pc := 3) dJ0_coder_7d493_3 (by decide) (fun c1 => absurd c1 (by decide)) (fun _ => ?_)
  refine g_aload_n (pc := 6) dJ0_coder_7d493_6 rfl ?_
  refine g_strC 2 (pc := 7) dJ0_coder_7d493_7 fs_RJ0_15 (by decide) ?_
  refine g_goto (tgt := 14) (pc := 10) dJ0_coder_7d493_10 (by decide) ?_
  subst h
  exact g_bret (pc := 14) dJ0_coder_7d493_14 rfl rfl rfl rfl (Nat.le_refl _) (Nat.le_refl _)
set_option maxRecDepth 100000 in
set_option maxHeartbeats 4000000 in
theorem M_J0_coder_7d493_t2 {sc : Nat × (Nat → Int32)} {d : Nat} (hd : 0 ≤ d) {r : Int32} {u : xS} (h : f_J0_coder_7d493_t2 = r) : xMt sc mJ0_coder_7d493 d 0 0 [.ref (1010 + 2)] (xL0, u) (some (.int r)) (xL0, u) :=
  xMt.of (by decide +kernel) (by decide +kernel) (Nat.le_of_ble_eq_true rfl) (L := [some (.ref (1010 + 2))]) rfl ((G_J0_coder_7d493_t2_0 hd h))
set_option maxRecDepth 100000 in
set_option maxHeartbeats 4000000 in
theorem G_J0_length_8abf5_t2_0 {sc : Nat × (Nat → Int32)} {d : Nat} (hd : 1 ≤ d) {r : Int32} {u : xS} (h : f_J0_length_8abf5_t2 = r) : xG sc mJ0_length_8abf5 d 0 0 (xR (some (.int r)) (xL0, u) 0 0) 0 0 0 [some (.ref (1010 + 2))] [] (xL0, u) := by
  rw [f_J0_length_8abf5_t2] at h
  refine g_aload_n (pc := 0) dJ0_length_8abf5_0 rfl ?_
  refine g_strV 2 (pc := 1) dJ0_length_8abf5_1 fs_RJ0_9 (by decide) ?_
  refine g_blen 2 (pc := 4) dJ0_length_8abf5_4 (by decide) (v := (2 : Int32)) rfl ?_
  refine g_aload_n (pc := 5) dJ0_length_8abf5_5 rfl ?_
  refine g_cT 2 (pc := 6) dJ0_length_8abf5_6 cT_RJ0_335 (M_J0_coder_7d493_t2 (Nat.le_refl _) (rfl : f_J0_coder_7d493_t2 = (0 : Int32))) (by decide) (as := []) (st := [.int (2 : Int32)]) rfl rfl (Nat.le_of_ble_eq_true rfl) (Nat.le_trans (Nat.le_of_ble_eq_true rfl) hd) rfl ?_
  refine g_ishr (pc := 9) dJ0_length_8abf5_9 rfl ?_
  subst h
  exact g_iret (pc := 10) dJ0_length_8abf5_10 rfl rfl rfl (Nat.le_refl _) (Nat.le_refl _)
set_option maxRecDepth 100000 in
set_option maxHeartbeats 4000000 in
theorem M_J0_length_8abf5_t2 {sc : Nat × (Nat → Int32)} {d : Nat} (hd : 1 ≤ d) {r : Int32} {u : xS} (h : f_J0_length_8abf5_t2 = r) : xMt sc mJ0_length_8abf5 d 0 0 [.ref (1010 + 2)] (xL0, u) (some (.int r)) (xL0, u) :=
  xMt.of (by decide +kernel) (by decide +kernel) (Nat.le_of_ble_eq_true rfl) (L := [some (.ref (1010 + 2))]) rfl ((G_J0_length_8abf5_t2_0 hd h))
