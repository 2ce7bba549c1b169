set_option maxRecDepth 100000 in
set_option maxHeartbeats 4000000 in
theorem G_X12_wipe_0 {sc : Nat × (Nat → Int32)} {d : Nat} (hd : 2 ≤ d) {r : Int32} {u' : xS} (v1 : Int32) (v2 : Int32) (v3 : Int32) (u : xS) (h : f_X12_wipe v1 v2 v3 u = some (r, u')) : xG sc mX12_wipe d 0 0 (xR (some (.int r)) (xL0, u') 0 0) 0 0 0 [some (.ref 135), some (.int v1), some (.int v2), some (.int v3)] [] (xL0, u) := by
  rw [f_X12_wipe] at h
  refine g_aload_n (pc := 0) dX12_wipe_0 rfl ?_
  refine g_iconst (pc := 1) dX12_wipe_1 ic_0 ?_
  refine g_pI (pc := 2) dX12_wipe_2 pI_RX12_150 xc_135 (u' := (wr u 135 0 (0 : Int32))) rfl ?_
  refine g_aload_n (pc := 5) dX12_wipe_5 rfl ?_
  refine g_iload_n (pc := 6) dX12_wipe_6 rfl ?_
  refine g_cV (pc := 7) dX12_wipe_7 cV_RX12_166 (M_X12_isSort (Nat.le_refl _) rfl) xc_135 (as := [.int v1]) (st := []) rfl rfl (Nat.le_of_ble_eq_true rfl) (Nat.le_trans (Nat.le_of_ble_eq_true rfl) hd) rfl ?_
  refine g_if_eq (tgt := 46) (pc := 10) dX12_wipe_10 (by decide) (fun c1 => ?_) (fun c1 => ?_)
  · replace h := (if_pos c1).symm.trans h
    refine g_iconst (pc := 46) dX12_wipe_46 ic_m1 ?_
    obtain ⟨h1, h2⟩ := x_inj2 h
    subst h1
    subst h2
    exact g_iret (pc := 47) dX12_wipe_47 rfl rfl rfl (Nat.le_refl _) (Nat.le_refl _)
  · replace h := (if_neg c1).symm.trans h
    refine g_iload_n (pc := 13) dX12_wipe_13 rfl ?_
    refine g_i2l (pc := 14) dX12_wipe_14 rfl ?_
    refine g_lconst (v := (1 : Int64)) (pc := 15) dX12_wipe_15 rfl ?_
    refine g_ldc2 (pc := 16) dX12_wipe_16 kl_RX12_201 ?_
    refine g_cS (pc := 19) dX12_wipe_19 cS_RX12_156 (M_X12_in (Nat.le_refl _) rfl) (as := [.long ((v2).toInt64), .long (1 : Int64), .long (9999 : Int64)]) (st := []) rfl rfl (Nat.le_of_ble_eq_true rfl) (Nat.le_trans (Nat.le_of_ble_eq_true rfl) hd) rfl ?_
    refine g_if_eq (tgt := 46) (pc := 22) dX12_wipe_22 (by decide) (fun c2 => ?_) (fun c2 => ?_)
    · replace h := (if_pos c2).symm.trans h
      refine g_iconst (pc := 46) dX12_wipe_46 ic_m1 ?_
      obtain ⟨h1, h2⟩ := x_inj2 h
      subst h1
      subst h2
      exact g_iret (pc := 47) dX12_wipe_47 rfl rfl rfl (Nat.le_refl _) (Nat.le_refl _)
    · replace h := (if_neg c2).symm.trans h
      refine g_iload_n (pc := 25) dX12_wipe_25 rfl ?_
      refine g_i2l (pc := 26) dX12_wipe_26 rfl ?_
      refine g_lconst (v := (0 : Int64)) (pc := 27) dX12_wipe_27 rfl ?_
      refine g_ldc2 (pc := 28) dX12_wipe_28 kl_RX12_164 ?_
      refine g_cS (pc := 31) dX12_wipe_31 cS_RX12_156 (M_X12_in (Nat.le_refl _) rfl) (as := [.long ((v3).toInt64), .long (0 : Int64), .long (1000 : Int64)]) (st := []) rfl rfl (Nat.le_of_ble_eq_true rfl) (Nat.le_trans (Nat.le_of_ble_eq_true rfl) hd) rfl ?_
      refine g_if_eq (tgt := 46) (pc := 34) dX12_wipe_34 (by decide) (fun c3 => ?_) (fun c3 => ?_)
      · replace h := (if_pos c3).symm.trans h
        refine g_iconst (pc := 46) dX12_wipe_46 ic_m1 ?_
        obtain ⟨h1, h2⟩ := x_inj2 h
        subst h1
        subst h2
        exact g_iret (pc := 47) dX12_wipe_47 rfl rfl rfl (Nat.le_refl _) (Nat.le_refl _)
      · replace h := (if_neg c3).symm.trans h
        refine g_aload_n (pc := 37) dX12_wipe_37 rfl ?_
        refine g_iload_n (pc := 38) dX12_wipe_38 rfl ?_
        obtain ⟨x5, e4, h⟩ := x_bind h
        refine g_cV (pc := 39) dX12_wipe_39 cV_RX12_340 (M_X12_stored (Nat.le_refl _) e4) xc_135 (as := [.int v1]) (st := []) rfl rfl (Nat.le_of_ble_eq_true rfl) (Nat.le_trans (Nat.le_of_ble_eq_true rfl) hd) rfl ?_
        refine g_iload_n (pc := 42) dX12_wipe_42 rfl ?_
        refine g_icmp_ge (tgt := 48) (pc := 43) dX12_wipe_43 (by decide) (fun c6 => ?_) (fun c6 => ?_)
        · replace h := (if_pos c6).symm.trans h
          refine g_aload_n (pc := 48) dX12_wipe_48 rfl ?_
          refine g_iload_n (pc := 49) dX12_wipe_49 rfl ?_
          refine g_iload_n (pc := 50) dX12_wipe_50 rfl ?_
          refine g_iconst (pc := 51) dX12_wipe_51 ic_m1 ?_
          obtain ⟨u8, e7, h⟩ := x_bind h
          refine g_cV (pc := 52) dX12_wipe_52 cV_RX12_343 (M_X12_takesOf (Nat.le_refl _) e7) xc_135 (as := [.int v1, .int v2, .int (-1 : Int32)]) (st := []) rfl rfl (Nat.le_of_ble_eq_true rfl) (Nat.le_trans (Nat.le_of_ble_eq_true rfl) hd) rfl ?_
          refine g_iload_n (pc := 55) dX12_wipe_55 rfl ?_
          refine g_iload_n (pc := 56) dX12_wipe_56 rfl ?_
          refine g_imul (pc := 57) dX12_wipe_57 rfl ?_
          refine g_sipush (pc := 58) dX12_wipe_58 sp_1000 ?_
          refine g_idiv (pc := 61) dX12_wipe_61 (by decide) rfl ?_
          obtain ⟨h1, h2⟩ := x_inj2 h
          subst h1
          subst h2
          exact g_iret (pc := 62) dX12_wipe_62 rfl rfl rfl (Nat.le_refl _) (Nat.le_refl _)
        · replace h := (if_neg c6).symm.trans h
          refine g_iconst (pc := 46) dX12_wipe_46 ic_m1 ?_
          obtain ⟨h1, h2⟩ := x_inj2 h
          subst h1
          subst h2
          exact g_iret (pc := 47) dX12_wipe_47 rfl rfl rfl (Nat.le_refl _) (Nat.le_refl _)
set_option maxRecDepth 100000 in
set_option maxHeartbeats 4000000 in
theorem M_X12_wipe {sc : Nat × (Nat → Int32)} {d : Nat} (hd : 2 ≤ d) {r : Int32} {u u' : xS} {a1 : Int32} {a2 : Int32} {a3 : Int32} (h : f_X12_wipe a1 a2 a3 u = some (r, u')) : xMt sc mX12_wipe d 0 0 [.ref 135, .int a1, .int a2, .int a3] (xL0, u) (some (.int r)) (xL0, u') :=
  xMt.of (by decide +kernel) (by decide +kernel) (Nat.le_of_ble_eq_true rfl) (L := [some (.ref 135), some (.int a1), some (.int a2), some (.int a3)]) rfl ((G_X12_wipe_0 hd a1 a2 a3 u h))
set_option maxRecDepth 100000 in
set_option maxHeartbeats 4000000 in
theorem G_X12_wish_34 {sc : Nat × (Nat → Int32)} {d : Nat} (hd : 2 ≤ d) {r : Int32} {u' : xS} (u : xS) (h : f_X12_wish_34 u = some (r, u')) : xG sc mX12_wish d 0 0 (xR (some (.int r)) (xL0, u') 0 0) 0 0 34 [some (.ref 135), none, none, none, none] [] (xL0, u) := by
  rw [f_X12_wish_34] at h
  refine g_aload_n (pc := 34) dX12_wish_34 rfl ?_
  obtain ⟨⟨x2, u3⟩, e1, h⟩ := x_bind h
  dsimp only at h
  refine g_cV (pc := 35) dX12_wish_35 cV_RX12_347 (M_X12_refuse (Nat.le_refl _) e1) xc_135 (as := []) (st := []) rfl rfl (Nat.le_of_ble_eq_true rfl) (Nat.le_trans (Nat.le_of_ble_eq_true rfl) hd) rfl ?_
  obtain ⟨h1, h2⟩ := x_inj2 h
  subst h1
  subst h2
  exact g_iret (pc := 38) dX12_wish_38 rfl rfl rfl (Nat.le_refl _) (Nat.le_refl _)
set_option maxRecDepth 100000 in
set_option maxHeartbeats 4000000 in
theorem G_X12_wish_0 {sc : Nat × (Nat → Int32)} {d : Nat} (hd : 2 ≤ d) {r : Int32} {u' : xS} (v1 : Int32) (v2 : Int32) (v3 : Int32) (u : xS) (h : f_X12_wish v1 v2 v3 u = some (r, u')) : xG sc mX12_wish d 0 0 (xR (some (.int r)) (xL0, u') 0 0) 0 0 0 [some (.ref 135), some (.int v1), some (.int v2), some (.int v3), none] [] (xL0, u) := by
  rw [f_X12_wish] at h
  refine g_aload_n (pc := 0) dX12_wish_0 rfl ?_
  refine g_iconst (pc := 1) dX12_wish_1 ic_0 ?_
  refine g_pI (pc := 2) dX12_wish_2 pI_RX12_150 xc_135 (u' := (wr u 135 0 (0 : Int32))) rfl ?_
  refine g_iload_n (pc := 5) dX12_wish_5 rfl ?_
  refine g_cS (pc := 6) dX12_wish_6 cS_RX12_415 (M_X12_isLand (Nat.le_refl _) rfl) (as := [.int v1]) (st := []) rfl rfl (Nat.le_of_ble_eq_true rfl) (Nat.le_trans (Nat.le_of_ble_eq_true rfl) hd) rfl ?_
  refine g_if_eq (tgt := 34) (pc := 9) dX12_wish_9 (by decide) (fun c1 => ?_) (fun c1 => ?_)
  · replace h := (if_pos c1).symm.trans h
    refine g_L (L' := [some (.ref 135), none, none, none, none]) ⟨rfl, trivial⟩ ?_
    exact G_X12_wish_34 hd (wr u 135 0 (0 : Int32)) h
  · replace h := (if_neg c1).symm.trans h
    refine g_aload_n (pc := 12) dX12_wish_12 rfl ?_
    refine g_iload_n (pc := 13) dX12_wish_13 rfl ?_
    refine g_cV (pc := 14) dX12_wish_14 cV_RX12_166 (M_X12_isSort (Nat.le_refl _) rfl) xc_135 (as := [.int v2]) (st := []) rfl rfl (Nat.le_of_ble_eq_true rfl) (Nat.le_trans (Nat.le_of_ble_eq_true rfl) hd) rfl ?_
    refine g_if_eq (tgt := 34) (pc := 17) dX12_wish_17 (by decide) (fun c2 => ?_) (fun c2 => ?_)
    · replace h := (if_pos c2).symm.trans h
      refine g_L (L' := [some (.ref 135), none, none, none, none]) ⟨rfl, trivial⟩ ?_
      exact G_X12_wish_34 hd (wr u 135 0 (0 : Int32)) h
    · replace h := (if_neg c2).symm.trans h
      refine g_iload_n (pc := 20) dX12_wish_20 rfl ?_
      refine g_i2l (pc := 21) dX12_wish_21 rfl ?_
      refine g_ldc2 (pc := 22) dX12_wish_22 kl_RX12_407 ?_
      refine g_ldc2 (pc := 25) dX12_wish_25 kl_RX12_173 ?_
      refine g_cS (pc := 28) dX12_wish_28 cS_RX12_156 (M_X12_in (Nat.le_refl _) rfl) (as := [.long ((v3).toInt64), .long (-1 : Int64), .long (999 : Int64)]) (st := []) rfl rfl (Nat.le_of_ble_eq_true rfl) (Nat.le_trans (Nat.le_of_ble_eq_true rfl) hd) rfl ?_
      refine g_if_ne (tgt := 39) (pc := 31) dX12_wish_31 (by decide) (fun c3 => ?_) (fun c3 => ?_)
      · replace h := (if_neg c3).symm.trans h
        refine g_aload_n (pc := 39) dX12_wish_39 rfl ?_
        refine g_gR (pc := 40) dX12_wish_40 fR_RX12_123 xc_135 (v := 172) rfl ?_
        refine g_bipush (pc := 43) dX12_wish_43 bp_16 ?_
        refine g_iload_n (pc := 45) dX12_wish_45 rfl ?_
        refine g_imul (pc := 46) dX12_wish_46 rfl ?_
        refine g_iload_n (pc := 47) dX12_wish_47 rfl ?_
        refine g_iadd (pc := 48) dX12_wish_48 rfl ?_
        obtain ⟨g4, h⟩ := x_gd h
        refine g_iaload (pc := 49) dX12_wish_49 xc_172 (xin_of g4) (v := (rd u 172 (((16 : Int32) * v1) + v2).toNatClampNeg)) rfl ?_
        refine g_istore (pc := 50) dX12_wish_50 (Nat.le_of_ble_eq_true rfl) (L' := [some (.ref 135), some (.int v1), some (.int v2), some (.int v3), some (.int (rd u 172 (((16 : Int32) * v1) + v2).toNatClampNeg))]) rfl ?_
        refine g_aload_n (pc := 52) dX12_wish_52 rfl ?_
        refine g_gR (pc := 53) dX12_wish_53 fR_RX12_123 xc_135 (v := 172) rfl ?_
        refine g_bipush (pc := 56) dX12_wish_56 bp_16 ?_
        refine g_iload_n (pc := 58) dX12_wish_58 rfl ?_
        refine g_imul (pc := 59) dX12_wish_59 rfl ?_
        refine g_iload_n (pc := 60) dX12_wish_60 rfl ?_
        refine g_iadd (pc := 61) dX12_wish_61 rfl ?_
        refine g_iload_n (pc := 62) dX12_wish_62 rfl ?_
        refine g_iastore (pc := 63) dX12_wish_63 xc_172 (xin_of g4) (u' := (wr (wr u 135 0 (0 : Int32)) 172 (((16 : Int32) * v1) + v2).toNatClampNeg v3)) rfl ?_
        refine g_iload (pc := 64) dX12_wish_64 rfl ?_
        obtain ⟨h1, h2⟩ := x_inj2 h
        subst h1
        subst h2
        exact g_iret (pc := 66) dX12_wish_66 rfl rfl rfl (Nat.le_refl _) (Nat.le_refl _)
      · replace h := (if_pos c3).symm.trans h
        refine g_L (L' := [some (.ref 135), none, none, none, none]) ⟨rfl, trivial⟩ ?_
        exact G_X12_wish_34 hd (wr u 135 0 (0 : Int32)) h
set_option maxRecDepth 100000 in
set_option maxHeartbeats 4000000 in
theorem M_X12_wish {sc : Nat × (Nat → Int32)} {d : Nat} (hd : 2 ≤ d) {r : Int32} {u u' : xS} {a1 : Int32} {a2 : Int32} {a3 : Int32} (h : f_X12_wish a1 a2 a3 u = some (r, u')) : xMt sc mX12_wish d 0 0 [.ref 135, .int a1, .int a2, .int a3] (xL0, u) (some (.int r)) (xL0, u') :=
  xMt.of (by decide +kernel) (by decide +kernel) (Nat.le_of_ble_eq_true rfl) (L := [some (.ref 135), some (.int a1), some (.int a2), some (.int a3), none]) rfl ((G_X12_wish_0 hd a1 a2 a3 u h))
set_option maxRecDepth 100000 in
set_option maxHeartbeats 4000000 in
theorem G_X12_within_0 {sc : Nat × (Nat → Int32)} {d : Nat} (hd : 2 ≤ d) {r : Int32} {u' : xS} (v1 : Int32) (v2 : Int32) (u : xS) (h : f_X12_within v1 v2 u = some (r, u')) : xG sc mX12_within d 0 0 (xR (some (.int r)) (xL0, u') 0 0) 0 0 0 [some (.ref 135), some (.int v1), some (.int v2)] [] (xL0, u) := by
  rw [f_X12_within] at h
  refine g_aload_n (pc := 0) dX12_within_0 rfl ?_
  refine g_iconst (pc := 1) dX12_within_1 ic_0 ?_
  refine g_pI (pc := 2) dX12_within_2 pI_RX12_150 xc_135 (u' := (wr u 135 0 (0 : Int32))) rfl ?_
  refine g_aload_n (pc := 5) dX12_within_5 rfl ?_
  refine g_iload_n (pc := 6) dX12_within_6 rfl ?_
  refine g_cV (pc := 7) dX12_within_7 cV_RX12_166 (M_X12_isSort (Nat.le_refl _) rfl) xc_135 (as := [.int v1]) (st := []) rfl rfl (Nat.le_of_ble_eq_true rfl) (Nat.le_trans (Nat.le_of_ble_eq_true rfl) hd) rfl ?_
  refine g_if_eq (tgt := 33) (pc := 10) dX12_within_10 (by decide) (fun c1 => ?_) (fun c1 => ?_)
  · replace h := (if_pos c1).symm.trans h
    refine g_iconst (pc := 33) dX12_within_33 ic_m1 ?_
    obtain ⟨h1, h2⟩ := x_inj2 h
    subst h1
    subst h2
    exact g_iret (pc := 34) dX12_within_34 rfl rfl rfl (Nat.le_refl _) (Nat.le_refl _)
  · replace h := (if_neg c1).symm.trans h
    refine g_aload_n (pc := 13) dX12_within_13 rfl ?_
    refine g_iload_n (pc := 14) dX12_within_14 rfl ?_
    refine g_cV (pc := 15) dX12_within_15 cV_RX12_166 (M_X12_isSort (Nat.le_refl _) rfl) xc_135 (as := [.int v2]) (st := []) rfl rfl (Nat.le_of_ble_eq_true rfl) (Nat.le_trans (Nat.le_of_ble_eq_true rfl) hd) rfl ?_
    refine g_if_eq (tgt := 33) (pc := 18) dX12_within_18 (by decide) (fun c2 => ?_) (fun c2 => ?_)
    · replace h := (if_pos c2).symm.trans h
      refine g_iconst (pc := 33) dX12_within_33 ic_m1 ?_
      obtain ⟨h1, h2⟩ := x_inj2 h
      subst h1
      subst h2
      exact g_iret (pc := 34) dX12_within_34 rfl rfl rfl (Nat.le_refl _) (Nat.le_refl _)
    · replace h := (if_neg c2).symm.trans h
      refine g_aload_n (pc := 21) dX12_within_21 rfl ?_
      refine g_iload_n (pc := 22) dX12_within_22 rfl ?_
      refine g_iload_n (pc := 23) dX12_within_23 rfl ?_
      obtain ⟨x4, e3, h⟩ := x_bind h
      refine g_cV (pc := 24) dX12_within_24 cV_RX12_186 (M_X12_isWithin (Nat.le_refl _) e3) xc_135 (as := [.int v1, .int v2]) (st := []) rfl rfl (Nat.le_of_ble_eq_true rfl) (Nat.le_trans (Nat.le_of_ble_eq_true rfl) hd) rfl ?_
      refine g_cS (pc := 27) dX12_within_27 cS_RX12_190 (M_X12_truth (Nat.le_refl _) rfl) (as := [.int x4]) (st := []) rfl rfl (Nat.le_of_ble_eq_true rfl) (Nat.le_trans (Nat.le_of_ble_eq_true rfl) hd) rfl ?_
      refine g_goto (tgt := 34) (pc := 30) dX12_within_30 (by decide) ?_
      obtain ⟨h1, h2⟩ := x_inj2 h
      subst h1
      subst h2
      exact g_iret (pc := 34) dX12_within_34 rfl rfl rfl (Nat.le_refl _) (Nat.le_refl _)
set_option maxRecDepth 100000 in
set_option maxHeartbeats 4000000 in
theorem M_X12_within {sc : Nat × (Nat → Int32)} {d : Nat} (hd : 2 ≤ d) {r : Int32} {u u' : xS} {a1 : Int32} {a2 : Int32} (h : f_X12_within a1 a2 u = some (r, u')) : xMt sc mX12_within d 0 0 [.ref 135, .int a1, .int a2] (xL0, u) (some (.int r)) (xL0, u') :=
  xMt.of (by decide +kernel) (by decide +kernel) (Nat.le_of_ble_eq_true rfl) (L := [some (.ref 135), some (.int a1), some (.int a2)]) rfl ((G_X12_within_0 hd a1 a2 u h))
set_option maxRecDepth 100000 in
set_option maxHeartbeats 4000000 in
theorem G_X0_add_0 {sc : Nat × (Nat → Int32)} {d : Nat} (hd : 0 ≤ d) {r : Int32} {u' : xS} (v1 : Int32) (v2 : Int32) (v3 : Int32) (v4 : Int32) (u : xS) (h : f_X0_add v1 v2 v3 v4 u = some (r, u')) : xG sc mX0_add d 0 0 (xR (some (.int r)) (xL0, u') 0 0) 0 0 0 [some (.ref 13), some (.int v1), some (.int v2), some (.int v3), some (.int v4)] [] (xL0, u) := by
  rw [f_X0_add] at h
  refine g_aload_n (pc := 0) dX0_add_0 rfl ?_
  refine g_gI (pc := 1) dX0_add_1 fI_RX0_38 xc_13 (v := (rd u 13 8)) rfl ?_
  refine g_bipush (pc := 4) dX0_add_4 bp_24 ?_
  refine g_icmp_lt (tgt := 11) (pc := 6) dX0_add_6 (by decide) (fun c1 => ?_) (fun c1 => ?_)
  · replace h := (if_pos c1).symm.trans h
    refine g_aload_n (pc := 11) dX0_add_11 rfl ?_
    refine g_gR (pc := 12) dX0_add_12 fR_RX0_9 xc_13 (v := 14) rfl ?_
    refine g_aload_n (pc := 15) dX0_add_15 rfl ?_
    refine g_gI (pc := 16) dX0_add_16 fI_RX0_38 xc_13 (v := (rd u 13 8)) rfl ?_
    refine g_iload_n (pc := 19) dX0_add_19 rfl ?_
    obtain ⟨g2, h⟩ := x_gd h
    refine g_iastore (pc := 20) dX0_add_20 xc_14 (xin_of g2) (u' := (wr u 14 (rd u 13 8).toNatClampNeg v1)) rfl ?_
    refine g_aload_n (pc := 21) dX0_add_21 rfl ?_
    refine g_gR (pc := 22) dX0_add_22 fR_RX0_15 xc_13 (v := 15) rfl ?_
    refine g_aload_n (pc := 25) dX0_add_25 rfl ?_
    refine g_gI (pc := 26) dX0_add_26 fI_RX0_38 xc_13 (v := (rd u 13 8)) rfl ?_
    refine g_iload_n (pc := 29) dX0_add_29 rfl ?_
    refine g_iastore (pc := 30) dX0_add_30 xc_15 (xin_of g2) (u' := (wr (wr u 14 (rd u 13 8).toNatClampNeg v1) 15 (rd u 13 8).toNatClampNeg v2)) rfl ?_
    refine g_aload_n (pc := 31) dX0_add_31 rfl ?_
    refine g_gR (pc := 32) dX0_add_32 fR_RX0_18 xc_13 (v := 16) rfl ?_
    refine g_aload_n (pc := 35) dX0_add_35 rfl ?_
    refine g_gI (pc := 36) dX0_add_36 fI_RX0_38 xc_13 (v := (rd u 13 8)) rfl ?_
    refine g_iload_n (pc := 39) dX0_add_39 rfl ?_
    refine g_iastore (pc := 40) dX0_add_40 xc_16 (xin_of g2) (u' := (wr (wr (wr u 14 (rd u 13 8).toNatClampNeg v1) 15 (rd u 13 8).toNatClampNeg v2) 16 (rd u 13 8).toNatClampNeg v3)) rfl ?_
    refine g_aload_n (pc := 41) dX0_add_41 rfl ?_
    refine g_gR (pc := 42) dX0_add_42 fR_RX0_21 xc_13 (v := 17) rfl ?_
    refine g_aload_n (pc := 45) dX0_add_45 rfl ?_
    refine g_gI (pc := 46) dX0_add_46 fI_RX0_38 xc_13 (v := (rd u 13 8)) rfl ?_
    refine g_iload (pc := 49) dX0_add_49 rfl ?_
    refine g_iastore (pc := 51) dX0_add_51 xc_17 (xin_of g2) (u' := (wr (wr (wr (wr u 14 (rd u 13 8).toNatClampNeg v1) 15 (rd u 13 8).toNatClampNeg v2) 16 (rd u 13 8).toNatClampNeg v3) 17 (rd u 13 8).toNatClampNeg v4)) rfl ?_
    refine g_aload_n (pc := 52) dX0_add_52 rfl ?_
    refine g_gR (pc := 53) dX0_add_53 fR_RX0_24 xc_13 (v := 18) rfl ?_
    refine g_aload_n (pc := 56) dX0_add_56 rfl ?_
    refine g_gI (pc := 57) dX0_add_57 fI_RX0_38 xc_13 (v := (rd u 13 8)) rfl ?_
    refine g_iconst (pc := 60) dX0_add_60 ic_m1 ?_
    refine g_iastore (pc := 61) dX0_add_61 xc_18 (xin_of g2) (u' := (wr (wr (wr (wr (wr u 14 (rd u 13 8).toNatClampNeg v1) 15 (rd u 13 8).toNatClampNeg v2) 16 (rd u 13 8).toNatClampNeg v3) 17 (rd u 13 8).toNatClampNeg v4) 18 (rd u 13 8).toNatClampNeg (-1 : Int32))) rfl ?_
    refine g_aload_n (pc := 62) dX0_add_62 rfl ?_
    refine g_gR (pc := 63) dX0_add_63 fR_RX0_27 xc_13 (v := 19) rfl ?_
    refine g_aload_n (pc := 66) dX0_add_66 rfl ?_
    refine g_gI (pc := 67) dX0_add_67 fI_RX0_38 xc_13 (v := (rd u 13 8)) rfl ?_
    refine g_iconst (pc := 70) dX0_add_70 ic_m1 ?_
    refine g_iastore (pc := 71) dX0_add_71 xc_19 (xin_of g2) (u' := (wr (wr (wr (wr (wr (wr u 14 (rd u 13 8).toNatClampNeg v1) 15 (rd u 13 8).toNatClampNeg v2) 16 (rd u 13 8).toNatClampNeg v3) 17 (rd u 13 8).toNatClampNeg v4) 18 (rd u 13 8).toNatClampNeg (-1 : Int32)) 19 (rd u 13 8).toNatClampNeg (-1 : Int32))) rfl ?_
    refine g_aload_n (pc := 72) dX0_add_72 rfl ?_
    refine g_dup (pc := 73) dX0_add_73 rfl ?_
    refine g_gI (pc := 74) dX0_add_74 fI_RX0_38 xc_13 (v := (rd u 13 8)) rfl ?_
    refine g_dup_x1 (pc := 77) dX0_add_77 rfl rfl ?_
    refine g_iconst (pc := 78) dX0_add_78 ic_1 ?_
    refine g_iadd (pc := 79) dX0_add_79 rfl ?_
    refine g_pI (pc := 80) dX0_add_80 pI_RX0_38 xc_13 (u' := (wr (wr (wr (wr (wr (wr (wr u 14 (rd u 13 8).toNatClampNeg v1) 15 (rd u 13 8).toNatClampNeg v2) 16 (rd u 13 8).toNatClampNeg v3) 17 (rd u 13 8).toNatClampNeg v4) 18 (rd u 13 8).toNatClampNeg (-1 : Int32)) 19 (rd u 13 8).toNatClampNeg (-1 : Int32)) 13 8 ((rd u 13 8) + (1 : Int32)))) rfl ?_
    obtain ⟨h1, h2⟩ := x_inj2 h
    subst h1
    subst h2
    exact g_iret (pc := 83) dX0_add_83 rfl rfl rfl (Nat.le_refl _) (Nat.le_refl _)
  · replace h := (if_neg c1).symm.trans h
    refine g_iconst (pc := 9) dX0_add_9 ic_m1 ?_
    obtain ⟨h1, h2⟩ := x_inj2 h
    subst h1
    subst h2
    exact g_iret (pc := 10) dX0_add_10 rfl rfl rfl (Nat.le_refl _) (Nat.le_refl _)
set_option maxRecDepth 100000 in
set_option maxHeartbeats 4000000 in
theorem M_X0_add {sc : Nat × (Nat → Int32)} {d : Nat} (hd : 0 ≤ d) {r : Int32} {u u' : xS} {a1 : Int32} {a2 : Int32} {a3 : Int32} {a4 : Int32} (h : f_X0_add a1 a2 a3 a4 u = some (r, u')) : xMt sc mX0_add d 0 0 [.ref 13, .int a1, .int a2, .int a3, .int a4] (xL0, u) (some (.int r)) (xL0, u') :=
  xMt.of (by decide +kernel) (by decide +kernel) (Nat.le_of_ble_eq_true rfl) (L := [some (.ref 13), some (.int a1), some (.int a2), some (.int a3), some (.int a4)]) rfl ((G_X0_add_0 hd a1 a2 a3 a4 u h))
set_option maxRecDepth 100000 in
set_option maxHeartbeats 4000000 in
theorem G_X0_everOf_4 {sc : Nat × (Nat → Int32)} {d : Nat} (hd : 0 ≤ d) {r : Int32} {u : xS} : ∀ (n : Nat) (v1 : Int32) (v2 : Int32) (v3 : Int32), f_X0_everOf_4 u n v1 v2 v3 = some r → xG sc mX0_everOf d 0 0 (xR (some (.int r)) (xL0, u) 0 0) 0 0 4 [some (.ref 13), some (.int v1), some (.int v2), some (.int v3)] [] (xL0, u) := by
  intro n
  induction n with
  | zero =>
    intro v1 v2 v3 h
    rw [f_X0_everOf_4] at h
    cases h
  | succ n ih =>
    intro v1 v2 v3 h
    rw [f_X0_everOf_4] at h
    refine g_iload_n (pc := 4) dX0_everOf_4 rfl ?_
    refine g_aload_n (pc := 5) dX0_everOf_5 rfl ?_
    refine g_gI (pc := 6) dX0_everOf_6 fI_RX0_38 xc_13 (v := (rd u 13 8)) rfl ?_
    refine g_icmp_ge (tgt := 29) (pc := 9) dX0_everOf_9 (by decide) (fun c1 => ?_) (fun c1 => ?_)
    · replace h := (if_pos c1).symm.trans h
      refine g_iload_n (pc := 29) dX0_everOf_29 rfl ?_
      replace h := Option.some.inj h
      subst h
      exact g_iret (pc := 30) dX0_everOf_30 rfl rfl rfl (Nat.le_refl _) (Nat.le_refl _)
    · replace h := (if_neg c1).symm.trans h
      refine g_iload_n (pc := 12) dX0_everOf_12 rfl ?_
      refine g_aload_n (pc := 13) dX0_everOf_13 rfl ?_
      refine g_gR (pc := 14) dX0_everOf_14 fR_RX0_35 xc_13 (v := 21) rfl ?_
      refine g_iload_n (pc := 17) dX0_everOf_17 rfl ?_
      obtain ⟨g2, h⟩ := x_gd h
      refine g_aaload (pc := 18) dX0_everOf_18 xc_21 (xin_of g2) (v := (22 + v3.toNatClampNeg)) (xrf_21 _ (xin_lt g2)) ?_
      refine g_iload_n (pc := 19) dX0_everOf_19 rfl ?_
      obtain ⟨g3, h⟩ := x_gd h
      refine g_iaload (pc := 20) dX0_everOf_20 (xrow_21 _ (xin_lt g2)) (xin_of g3) (v := (rd u (22 + v3.toNatClampNeg) v1.toNatClampNeg)) rfl ?_
      refine g_iadd (pc := 21) dX0_everOf_21 rfl ?_
      refine g_istore_n (pc := 22) dX0_everOf_22 (Nat.le_of_ble_eq_true rfl) (L' := [some (.ref 13), some (.int v1), some (.int (v2 + (rd u (22 + v3.toNatClampNeg) v1.toNatClampNeg))), some (.int v3)]) rfl ?_
      refine g_inc (pc := 23) dX0_everOf_23 (Nat.le_of_ble_eq_true rfl) rfl ic_1 (L' := [some (.ref 13), some (.int v1), some (.int (v2 + (rd u (22 + v3.toNatClampNeg) v1.toNatClampNeg))), some (.int (v3 + (1 : Int32)))]) rfl ?_
      refine g_goto (tgt := 4) (pc := 26) dX0_everOf_26 (by decide) ?_
      exact ih v1 (v2 + (rd u (22 + v3.toNatClampNeg) v1.toNatClampNeg)) (v3 + (1 : Int32)) h
set_option maxRecDepth 100000 in
set_option maxHeartbeats 4000000 in
theorem G_X0_everOf_0 {sc : Nat × (Nat → Int32)} {d : Nat} (hd : 0 ≤ d) {r : Int32} {u : xS} (v1 : Int32) (h : f_X0_everOf u v1 = some r) : xG sc mX0_everOf d 0 0 (xR (some (.int r)) (xL0, u) 0 0) 0 0 0 [some (.ref 13), some (.int v1), none, none] [] (xL0, u) := by
  rw [f_X0_everOf] at h
  refine g_iconst (pc := 0) dX0_everOf_0 ic_0 ?_
  refine g_istore_n (pc := 1) dX0_everOf_1 (Nat.le_of_ble_eq_true rfl) (L' := [some (.ref 13), some (.int v1), some (.int (0 : Int32)), none]) rfl ?_
  refine g_iconst (pc := 2) dX0_everOf_2 ic_0 ?_
  refine g_istore_n (pc := 3) dX0_everOf_3 (Nat.le_of_ble_eq_true rfl) (L' := [some (.ref 13), some (.int v1), some (.int (0 : Int32)), some (.int (0 : Int32))]) rfl ?_
  exact G_X0_everOf_4 hd xN v1 (0 : Int32) (0 : Int32) h
set_option maxRecDepth 100000 in
set_option maxHeartbeats 4000000 in
theorem M_X0_everOf {sc : Nat × (Nat → Int32)} {d : Nat} (hd : 0 ≤ d) {r : Int32} {u : xS} {a1 : Int32} (h : f_X0_everOf u a1 = some r) : xMt sc mX0_everOf d 0 0 [.ref 13, .int a1] (xL0, u) (some (.int r)) (xL0, u) :=
  xMt.of (by decide +kernel) (by decide +kernel) (Nat.le_of_ble_eq_true rfl) (L := [some (.ref 13), some (.int a1), none, none]) rfl ((G_X0_everOf_0 hd a1 h))
theorem zb_X0_has (u : xS) (v1 : Int32) : f_X0_has u v1 = 0 ∨ f_X0_has u v1 = 1 := by
  unfold f_X0_has
  repeat' first | exact Or.inl rfl | exact Or.inr rfl | apply x_ite
set_option maxRecDepth 100000 in
set_option maxHeartbeats 4000000 in
theorem G_X0_has_0 {sc : Nat × (Nat → Int32)} {d : Nat} (hd : 0 ≤ d) {r : Int32} {u : xS} (v1 : Int32) (h : f_X0_has u v1 = r) : xG sc mX0_has d 0 0 (xR (some (.int r)) (xL0, u) 0 0) 0 0 0 [some (.ref 13), some (.int v1)] [] (xL0, u) := by
  rw [f_X0_has] at h
  refine g_iload_n (pc := 0) dX0_has_0 rfl ?_
  refine g_if_lt (tgt := 16) (pc := 1) dX0_has_1 (by decide) (fun c1 => ?_) (fun c1 => ?_)
  · replace h := (if_pos c1).symm.trans h
    refine g_iconst (pc := 16) dX0_has_16 ic_0 ?_
    subst h
    exact g_zret (pc := 17) dX0_has_17 rfl (Or.inl rfl) rfl rfl (Nat.le_refl _) (Nat.le_refl _)
  · replace h := (if_neg c1).symm.trans h
    refine g_iload_n (pc := 4) dX0_has_4 rfl ?_
    refine g_aload_n (pc := 5) dX0_has_5 rfl ?_
    refine g_gI (pc := 6) dX0_has_6 fI_RX0_38 xc_13 (v := (rd u 13 8)) rfl ?_
    refine g_icmp_ge (tgt := 16) (pc := 9) dX0_has_9 (by decide) (fun c2 => ?_) (fun c2 => ?_)
    · replace h := (if_pos c2).symm.trans h
      refine g_iconst (pc := 16) dX0_has_16 ic_0 ?_
      subst h
      exact g_zret (pc := 17) dX0_has_17 rfl (Or.inl rfl) rfl rfl (Nat.le_refl _) (Nat.le_refl _)
    · replace h := (if_neg c2).symm.trans h
      refine g_iconst (pc := 12) dX0_has_12 ic_1 ?_
      refine g_goto (tgt := 17) (pc := 13) dX0_has_13 (by decide) ?_
      subst h
      exact g_zret (pc := 17) dX0_has_17 rfl (Or.inr rfl) rfl rfl (Nat.le_refl _) (Nat.le_refl _)
set_option maxRecDepth 100000 in
set_option maxHeartbeats 4000000 in
theorem M_X0_has {sc : Nat × (Nat → Int32)} {d : Nat} (hd : 0 ≤ d) {r : Int32} {u : xS} {a1 : Int32} (h : f_X0_has u a1 = r) : xMt sc mX0_has d 0 0 [.ref 13, .int a1] (xL0, u) (some (.int r)) (xL0, u) :=
  xMt.of (by decide +kernel) (by decide +kernel) (Nat.le_of_ble_eq_true rfl) (L := [some (.ref 13), some (.int a1)]) rfl ((G_X0_has_0 hd a1 h))
set_option maxRecDepth 100000 in
set_option maxHeartbeats 4000000 in
theorem G_X0_isSorted_0 {sc : Nat × (Nat → Int32)} {d : Nat} (hd : 1 ≤ d) {r : Int32} {u : xS} (v1 : Int32) (h : f_X0_isSorted u v1 = some r) : xG sc mX0_isSorted d 0 0 (xR (some (.int r)) (xL0, u) 0 0) 0 0 0 [some (.ref 13), some (.int v1)] [] (xL0, u) := by
  rw [f_X0_isSorted] at h
  refine g_aload_n (pc := 0) dX0_isSorted_0 rfl ?_
  refine g_iload_n (pc := 1) dX0_isSorted_1 rfl ?_
  refine g_cV (pc := 2) dX0_isSorted_2 cV_RX0_42 (M_X0_has (Nat.le_refl _) rfl) xc_13 (as := [.int v1]) (st := []) rfl rfl (Nat.le_of_ble_eq_true rfl) (Nat.le_trans (Nat.le_of_ble_eq_true rfl) hd) rfl ?_
  refine g_if_eq (tgt := 22) (pc := 5) dX0_isSorted_5 (by decide) (fun c1 => ?_) (fun c1 => ?_)
  · replace h := (if_pos c1).symm.trans h
    refine g_iconst (pc := 22) dX0_isSorted_22 ic_0 ?_
    replace h := Option.some.inj h
    subst h
    exact g_zret (pc := 23) dX0_isSorted_23 rfl (Or.inl rfl) rfl rfl (Nat.le_refl _) (Nat.le_refl _)
  · replace h := (if_neg c1).symm.trans h
    refine g_aload_n (pc := 8) dX0_isSorted_8 rfl ?_
    refine g_gR (pc := 9) dX0_isSorted_9 fR_RX0_24 xc_13 (v := 18) rfl ?_
    refine g_iload_n (pc := 12) dX0_isSorted_12 rfl ?_
    obtain ⟨g2, h⟩ := x_gd h
    refine g_iaload (pc := 13) dX0_isSorted_13 xc_18 (xin_of g2) (v := (rd u 18 v1.toNatClampNeg)) rfl ?_
    refine g_iconst (pc := 14) dX0_isSorted_14 ic_m1 ?_
    refine g_icmp_eq (tgt := 22) (pc := 15) dX0_isSorted_15 (by decide) (fun c3 => ?_) (fun c3 => ?_)
    · replace h := (if_pos c3).symm.trans h
      refine g_iconst (pc := 22) dX0_isSorted_22 ic_0 ?_
      replace h := Option.some.inj h
      subst h
      exact g_zret (pc := 23) dX0_isSorted_23 rfl (Or.inl rfl) rfl rfl (Nat.le_refl _) (Nat.le_refl _)
    · replace h := (if_neg c3).symm.trans h
      refine g_iconst (pc := 18) dX0_isSorted_18 ic_1 ?_
      refine g_goto (tgt := 23) (pc := 19) dX0_isSorted_19 (by decide) ?_
      replace h := Option.some.inj h
      subst h
      exact g_zret (pc := 23) dX0_isSorted_23 rfl (Or.inr rfl) rfl rfl (Nat.le_refl _) (Nat.le_refl _)
set_option maxRecDepth 100000 in
set_option maxHeartbeats 4000000 in
theorem M_X0_isSorted {sc : Nat × (Nat → Int32)} {d : Nat} (hd : 1 ≤ d) {r : Int32} {u : xS} {a1 : Int32} (h : f_X0_isSorted u a1 = some r) : xMt sc mX0_isSorted d 0 0 [.ref 13, .int a1] (xL0, u) (some (.int r)) (xL0, u) :=
  xMt.of (by decide +kernel) (by decide +kernel) (Nat.le_of_ble_eq_true rfl) (L := [some (.ref 13), some (.int a1)]) rfl ((G_X0_isSorted_0 hd a1 h))
theorem zb_X11_lies (v0 : Int32) (v1 : Int32) (v2 : Int32) : f_X11_lies v0 v1 v2 = 0 ∨ f_X11_lies v0 v1 v2 = 1 := by
  unfold f_X11_lies
  repeat' first | exact Or.inl rfl | exact Or.inr rfl | apply x_ite
set_option maxRecDepth 100000 in
set_option maxHeartbeats 4000000 in
theorem G_X11_lies_0 {sc : Nat × (Nat → Int32)} {d : Nat} (hd : 0 ≤ d) {r : Int32} {u : xS} (v0 : Int32) (v1 : Int32) (v2 : Int32) (h : f_X11_lies v0 v1 v2 = r) : xG sc mX11_lies d 0 0 (xR (some (.int r)) (xL0, u) 0 0) 0 0 0 [some (.int v0), some (.int v1), some (.int v2)] [] (xL0, u) := by
  rw [f_X11_lies] at h
  refine g_iload_n (pc := 0) dX11_lies_0 rfl ?_
  refine g_iload_n (pc := 1) dX11_lies_1 rfl ?_
  refine g_icmp_lt (tgt := 14) (pc := 2) dX11_lies_2 (by decide) (fun c1 => ?_) (fun c1 => ?_)
  · replace h := (if_pos c1).symm.trans h
    refine g_iconst (pc := 14) dX11_lies_14 ic_0 ?_
    subst h
    exact g_zret (pc := 15) dX11_lies_15 rfl (Or.inl rfl) rfl rfl (Nat.le_refl _) (Nat.le_refl _)
  · replace h := (if_neg c1).symm.trans h
    refine g_iload_n (pc := 5) dX11_lies_5 rfl ?_
    refine g_iload_n (pc := 6) dX11_lies_6 rfl ?_
    refine g_icmp_gt (tgt := 14) (pc := 7) dX11_lies_7 (by decide) (fun c2 => ?_) (fun c2 => ?_)
    · replace h := (if_pos c2).symm.trans h
      refine g_iconst (pc := 14) dX11_lies_14 ic_0 ?_
      subst h
      exact g_zret (pc := 15) dX11_lies_15 rfl (Or.inl rfl) rfl rfl (Nat.le_refl _) (Nat.le_refl _)
    · replace h := (if_neg c2).symm.trans h
      refine g_iconst (pc := 10) dX11_lies_10 ic_1 ?_
      refine g_goto (tgt := 15) (pc := 11) dX11_lies_11 (by decide) ?_
      subst h
      exact g_zret (pc := 15) dX11_lies_15 rfl (Or.inr rfl) rfl rfl (Nat.le_refl _) (Nat.le_refl _)
set_option maxRecDepth 100000 in
set_option maxHeartbeats 4000000 in
theorem M_X11_lies {sc : Nat × (Nat → Int32)} {d : Nat} (hd : 0 ≤ d) {r : Int32} {u : xS} {a0 : Int32} {a1 : Int32} {a2 : Int32} (h : f_X11_lies a0 a1 a2 = r) : xMt sc mX11_lies d 0 0 [.int a0, .int a1, .int a2] (xL0, u) (some (.int r)) (xL0, u) :=
  xMt.of (by decide +kernel) (by decide +kernel) (Nat.le_of_ble_eq_true rfl) (L := [some (.int a0), some (.int a1), some (.int a2)]) rfl ((G_X11_lies_0 hd a0 a1 a2 h))
set_option maxRecDepth 100000 in
set_option maxHeartbeats 4000000 in
theorem G_X10_keep_0 {sc : Nat × (Nat → Int32)} {d : Nat} (hd : 1 ≤ d) {u' : xS} (v1 : Int32) (v2 : Nat) (v3 : Int32) (u : xS) (h : f_X10_keep v1 v2 v3 u = some u') : xG sc mX10_keep d 0 0 (xR none (xL0, u') 0 0) 0 0 0 [some (.ref 58), some (.int v1), some (.ref v2), some (.int v3)] [] (xL0, u) := by
  rw [f_X10_keep] at h
  refine g_iload_n (pc := 0) dX10_keep_0 rfl ?_
  refine g_iconst (pc := 1) dX10_keep_1 ic_0 ?_
  refine g_bipush (pc := 2) dX10_keep_2 bp_10 ?_
  refine g_cN (pc := 4) dX10_keep_4 cN_RX10_35 (M_X11_lies (Nat.le_refl _) rfl) (as := [.int v1, .int (0 : Int32), .int (10 : Int32)]) (st := []) rfl rfl (Nat.le_of_ble_eq_true rfl) (Nat.le_trans (Nat.le_of_ble_eq_true rfl) hd) rfl ?_
  refine g_if_eq (tgt := 25) (pc := 7) dX10_keep_7 (by decide) (fun c1 => ?_) (fun c1 => ?_)
  · replace h := (if_pos c1).symm.trans h
    replace h := Option.some.inj h
    subst h
    exact g_ret (pc := 25) dX10_keep_25 rfl rfl rfl (Nat.le_refl _) (Nat.le_refl _)
  · replace h := (if_neg c1).symm.trans h
    refine g_iload_n (pc := 10) dX10_keep_10 rfl ?_
    refine g_iconst (pc := 11) dX10_keep_11 ic_0 ?_
    refine g_aload_n (pc := 12) dX10_keep_12 rfl ?_
    obtain ⟨g2, h⟩ := x_gd h
    obtain ⟨q3, hq4⟩ := xisI_of g2
    refine g_alen (pc := 13) dX10_keep_13 hq4 (by decide) (v := (Int32.ofNat (xlen v2))) rfl ?_
    refine g_bipush (pc := 14) dX10_keep_14 bp_64 ?_
    refine g_min (pc := 16) dX10_keep_16 mK_RX10_39 (Nat.le_of_ble_eq_true rfl) (Nat.le_trans (Nat.le_of_ble_eq_true rfl) hd) (Nat.zero_le _) (Nat.zero_le _) ?_
    refine g_cN (pc := 19) dX10_keep_19 cN_RX10_35 (M_X11_lies (Nat.le_refl _) rfl) (as := [.int v3, .int (0 : Int32), .int (imin (Int32.ofNat (xlen v2)) (64 : Int32))]) (st := []) rfl rfl (Nat.le_of_ble_eq_true rfl) (Nat.le_trans (Nat.le_of_ble_eq_true rfl) hd) rfl ?_
    refine g_if_ne (tgt := 26) (pc := 22) dX10_keep_22 (by decide) (fun c5 => ?_) (fun c5 => ?_)
    · replace h := (if_neg c5).symm.trans h
      refine g_aload_n (pc := 26) dX10_keep_26 rfl ?_
      refine g_iconst (pc := 27) dX10_keep_27 ic_0 ?_
      refine g_aload_n (pc := 28) dX10_keep_28 rfl ?_
      refine g_gR (pc := 29) dX10_keep_29 fR_RX10_15 xc_58 (v := 59) rfl ?_
      refine g_iload_n (pc := 32) dX10_keep_32 rfl ?_
      obtain ⟨g6, h⟩ := x_gd h
      refine g_aaload (pc := 33) dX10_keep_33 xc_59 (xin_of g6) (v := (60 + v1.toNatClampNeg)) (xrf_59 _ (xin_lt g6)) ?_
      refine g_iconst (pc := 34) dX10_keep_34 ic_0 ?_
      refine g_iload_n (pc := 35) dX10_keep_35 rfl ?_
      obtain ⟨g7, h⟩ := x_gd h
      obtain ⟨q8, hq9⟩ := xisI_of g7
      obtain ⟨g10, h⟩ := x_gd h
      refine g_cp (pc := 36) dX10_keep_36 kcp_RX10_45 hq9 (xrow_59 _ (xin_lt g6)) (xcok_of g10) (Nat.le_of_ble_eq_true rfl) (Nat.le_trans (Nat.le_of_ble_eq_true rfl) hd) (u' := (xcpy u v2 (0 : Int32).toNatClampNeg (60 + v1.toNatClampNeg) (0 : Int32).toNatClampNeg v3.toNatClampNeg)) rfl ?_
      refine g_aload_n (pc := 39) dX10_keep_39 rfl ?_
      refine g_gR (pc := 40) dX10_keep_40 fR_RX10_18 xc_58 (v := 71) rfl ?_
      refine g_iload_n (pc := 43) dX10_keep_43 rfl ?_
      refine g_iload_n (pc := 44) dX10_keep_44 rfl ?_
      refine g_iastore (pc := 45) dX10_keep_45 xc_71 (xin_of g6) (u' := (wr (xcpy u v2 (0 : Int32).toNatClampNeg (60 + v1.toNatClampNeg) (0 : Int32).toNatClampNeg v3.toNatClampNeg) 71 v1.toNatClampNeg v3)) rfl ?_
      replace h := Option.some.inj h
      subst h
      exact g_ret (pc := 46) dX10_keep_46 rfl rfl rfl (Nat.le_refl _) (Nat.le_refl _)
    · replace h := (if_pos c5).symm.trans h
      replace h := Option.some.inj h
      subst h
      exact g_ret (pc := 25) dX10_keep_25 rfl rfl rfl (Nat.le_refl _) (Nat.le_refl _)
set_option maxRecDepth 100000 in
set_option maxHeartbeats 4000000 in
theorem M_X10_keep {sc : Nat × (Nat → Int32)} {d : Nat} (hd : 1 ≤ d) {u u' : xS} {a1 : Int32} {a2 : Nat} {a3 : Int32} (h : f_X10_keep a1 a2 a3 u = some u') : xMt sc mX10_keep d 0 0 [.ref 58, .int a1, .ref a2, .int a3] (xL0, u) none (xL0, u') :=
  xMt.of (by decide +kernel) (by decide +kernel) (Nat.le_of_ble_eq_true rfl) (L := [some (.ref 58), some (.int a1), some (.ref a2), some (.int a3)]) rfl ((G_X10_keep_0 hd a1 a2 a3 u h))
set_option maxRecDepth 100000 in
set_option maxHeartbeats 4000000 in
theorem G_X10_addRecipe_0 {sc : Nat × (Nat → Int32)} {d : Nat} (hd : 2 ≤ d) {r : Int32} {u' : xS} (v1 : Nat) (v2 : Int32) (u : xS) (h : f_X10_addRecipe v1 v2 u = some (r, u')) : xG sc mX10_addRecipe d 0 0 (xR (some (.int r)) (xL0, u') 0 0) 0 0 0 [some (.ref 58), some (.ref v1), some (.int v2)] [] (xL0, u) := by
  rw [f_X10_addRecipe] at h
  refine g_aload_n (pc := 0) dX10_addRecipe_0 rfl ?_
  refine g_gI (pc := 1) dX10_addRecipe_1 fI_RX10_32 xc_58 (v := (rd u 58 5)) rfl ?_
  refine g_bipush (pc := 4) dX10_addRecipe_4 bp_6 ?_
  refine g_icmp_lt (tgt := 11) (pc := 6) dX10_addRecipe_6 (by decide) (fun c1 => ?_) (fun c1 => ?_)
  · replace h := (if_pos c1).symm.trans h
    refine g_aload_n (pc := 11) dX10_addRecipe_11 rfl ?_
    refine g_iconst (pc := 12) dX10_addRecipe_12 ic_4 ?_
    refine g_aload_n (pc := 13) dX10_addRecipe_13 rfl ?_
    refine g_gI (pc := 14) dX10_addRecipe_14 fI_RX10_32 xc_58 (v := (rd u 58 5)) rfl ?_
    refine g_iadd (pc := 17) dX10_addRecipe_17 rfl ?_
    refine g_aload_n (pc := 18) dX10_addRecipe_18 rfl ?_
    refine g_iload_n (pc := 19) dX10_addRecipe_19 rfl ?_
    obtain ⟨u3, e2, h⟩ := x_bind h
    refine g_cV (pc := 20) dX10_addRecipe_20 cV_RX10_51 (M_X10_keep (Nat.le_refl _) e2) xc_58 (as := [.int ((4 : Int32) + (rd u 58 5)), .ref v1, .int v2]) (st := []) rfl rfl (Nat.le_of_ble_eq_true rfl) (Nat.le_trans (Nat.le_of_ble_eq_true rfl) hd) rfl ?_
    refine g_aload_n (pc := 23) dX10_addRecipe_23 rfl ?_
    refine g_dup (pc := 24) dX10_addRecipe_24 rfl ?_
    refine g_gI (pc := 25) dX10_addRecipe_25 fI_RX10_32 xc_58 (v := (rd u3 58 5)) rfl ?_
    refine g_dup_x1 (pc := 28) dX10_addRecipe_28 rfl rfl ?_
    refine g_iconst (pc := 29) dX10_addRecipe_29 ic_1 ?_
    refine g_iadd (pc := 30) dX10_addRecipe_30 rfl ?_
    refine g_pI (pc := 31) dX10_addRecipe_31 pI_RX10_32 xc_58 (u' := (wr u3 58 5 ((rd u3 58 5) + (1 : Int32)))) rfl ?_
    obtain ⟨h1, h2⟩ := x_inj2 h
    subst h1
    subst h2
    exact g_iret (pc := 34) dX10_addRecipe_34 rfl rfl rfl (Nat.le_refl _) (Nat.le_refl _)
  · replace h := (if_neg c1).symm.trans h
    refine g_iconst (pc := 9) dX10_addRecipe_9 ic_m1 ?_
    obtain ⟨h1, h2⟩ := x_inj2 h
    subst h1
    subst h2
    exact g_iret (pc := 10) dX10_addRecipe_10 rfl rfl rfl (Nat.le_refl _) (Nat.le_refl _)
set_option maxRecDepth 100000 in
set_option maxHeartbeats 4000000 in
theorem M_X10_addRecipe {sc : Nat × (Nat → Int32)} {d : Nat} (hd : 2 ≤ d) {r : Int32} {u u' : xS} {a1 : Nat} {a2 : Int32} (h : f_X10_addRecipe a1 a2 u = some (r, u')) : xMt sc mX10_addRecipe d 0 0 [.ref 58, .ref a1, .int a2] (xL0, u) (some (.int r)) (xL0, u') :=
  xMt.of (by decide +kernel) (by decide +kernel) (Nat.le_of_ble_eq_true rfl) (L := [some (.ref 58), some (.ref a1), some (.int a2)]) rfl ((G_X10_addRecipe_0 hd a1 a2 u h))
set_option maxRecDepth 100000 in
set_option maxHeartbeats 4000000 in
theorem G_J7_fill_53178_5 {sc : Nat × (Nat → Int32)} {d : Nat} (hd : 0 ≤ d) {u' : xS} : ∀ (n : Nat) (v0 : Nat) (v1 : Int32) (v2 : Int32) (v3 : Int32) (u : xS), f_J7_fill_53178_5 n v0 v1 v2 v3 u = some u' → xG sc mJ7_fill_53178 d 0 0 (xR none (xL0, u') 0 0) 0 0 5 [some (.ref v0), some (.int v1), some (.int v2), some (.int v3)] [] (xL0, u) := by
  intro n
  induction n with
  | zero =>
    intro v0 v1 v2 v3 u h
    rw [f_J7_fill_53178_5] at h
    cases h
  | succ n ih =>
    intro v0 v1 v2 v3 u h
    rw [f_J7_fill_53178_5] at h
    refine g_iload_n (pc := 5) dJ7_fill_53178_5 rfl ?_
    refine g_iload_n (pc := 6) dJ7_fill_53178_6 rfl ?_
    refine g_icmp_ge (tgt := 20) (pc := 7) dJ7_fill_53178_7 (by decide) (fun c1 => ?_) (fun c1 => ?_)
    · replace h := (if_pos c1).symm.trans h
      replace h := Option.some.inj h
      subst h
      exact g_ret (pc := 20) dJ7_fill_53178_20 rfl rfl rfl (Nat.le_refl _) (Nat.le_refl _)
    · replace h := (if_neg c1).symm.trans h
      refine g_aload_n (pc := 10) dJ7_fill_53178_10 rfl ?_
      refine g_iload_n (pc := 11) dJ7_fill_53178_11 rfl ?_
      refine g_iload_n (pc := 12) dJ7_fill_53178_12 rfl ?_
      obtain ⟨g2, h⟩ := x_gd h
      obtain ⟨q3, hq4⟩ := xisI_of g2
      obtain ⟨g5, h⟩ := x_gd h
      refine g_iastore (pc := 13) dJ7_fill_53178_13 hq4 (xin_of g5) (u' := (wr u v0 v2.toNatClampNeg v1)) rfl ?_
      refine g_inc (pc := 14) dJ7_fill_53178_14 (Nat.le_of_ble_eq_true rfl) rfl ic_1 (L' := [some (.ref v0), some (.int v1), some (.int (v2 + (1 : Int32))), some (.int v3)]) rfl ?_
      refine g_goto (tgt := 5) (pc := 17) dJ7_fill_53178_17 (by decide) ?_
      exact ih v0 v1 (v2 + (1 : Int32)) v3 (wr u v0 v2.toNatClampNeg v1) h
set_option maxRecDepth 100000 in
set_option maxHeartbeats 4000000 in
theorem G_J7_fill_53178_0 {sc : Nat × (Nat → Int32)} {d : Nat} (hd : 0 ≤ d) {u' : xS} (v0 : Nat) (v1 : Int32) (u : xS) (h : f_J7_fill_53178 v0 v1 u = some u') : xG sc mJ7_fill_53178 d 0 0 (xR none (xL0, u') 0 0) 0 0 0 [some (.ref v0), some (.int v1), none, none] [] (xL0, u) := by
  rw [f_J7_fill_53178] at h
  refine g_iconst (pc := 0) dJ7_fill_53178_0 ic_0 ?_
  refine g_istore_n (pc := 1) dJ7_fill_53178_1 (Nat.le_of_ble_eq_true rfl) (L' := [some (.ref v0), some (.int v1), some (.int (0 : Int32)), none]) rfl ?_
  refine g_aload_n (pc := 2) dJ7_fill_53178_2 rfl ?_
  obtain ⟨g1, h⟩ := x_gd h
  obtain ⟨q2, hq3⟩ := xisI_of g1
  refine g_alen (pc := 3) dJ7_fill_53178_3 hq3 (by decide) (v := (Int32.ofNat (xlen v0))) rfl ?_
  refine g_istore_n (pc := 4) dJ7_fill_53178_4 (Nat.le_of_ble_eq_true rfl) (L' := [some (.ref v0), some (.int v1), some (.int (0 : Int32)), some (.int (Int32.ofNat (xlen v0)))]) rfl ?_
  exact G_J7_fill_53178_5 hd xN v0 v1 (0 : Int32) (Int32.ofNat (xlen v0)) u h
set_option maxRecDepth 100000 in
set_option maxHeartbeats 4000000 in
theorem M_J7_fill_53178 {sc : Nat × (Nat → Int32)} {d : Nat} (hd : 0 ≤ d) {u u' : xS} {a0 : Nat} {a1 : Int32} (h : f_J7_fill_53178 a0 a1 u = some u') : xMt sc mJ7_fill_53178 d 0 0 [.ref a0, .int a1] (xL0, u) none (xL0, u') :=
  xMt.of (by decide +kernel) (by decide +kernel) (Nat.le_of_ble_eq_true rfl) (L := [some (.ref a0), some (.int a1), none, none]) rfl ((G_J7_fill_53178_0 hd a0 a1 u h))
set_option maxRecDepth 100000 in
set_option maxHeartbeats 4000000 in
theorem G_X10_clearLetters_0 {sc : Nat × (Nat → Int32)} {d : Nat} (hd : 1 ≤ d) {u' : xS} (u : xS) (h : f_X10_clearLetters u = some u') : xG sc mX10_clearLetters d 0 0 (xR none (xL0, u') 0 0) 0 0 0 [some (.ref 58)] [] (xL0, u) := by
  rw [f_X10_clearLetters] at h
  refine g_aload_n (pc := 0) dX10_clearLetters_0 rfl ?_
  refine g_gR (pc := 1) dX10_clearLetters_1 fR_RX10_22 xc_58 (v := 72) rfl ?_
  refine g_iconst (pc := 4) dX10_clearLetters_4 ic_0 ?_
  obtain ⟨u2, e1, h⟩ := x_bind h
  refine g_cS (pc := 5) dX10_clearLetters_5 cS_RX10_55 (M_J7_fill_53178 (Nat.le_refl _) e1) (as := [.ref 72, .int (0 : Int32)]) (st := []) rfl rfl (Nat.le_of_ble_eq_true rfl) (Nat.le_trans (Nat.le_of_ble_eq_true rfl) hd) rfl ?_
  replace h := Option.some.inj h
  subst h
  exact g_ret (pc := 8) dX10_clearLetters_8 rfl rfl rfl (Nat.le_refl _) (Nat.le_refl _)
set_option maxRecDepth 100000 in
set_option maxHeartbeats 4000000 in
theorem M_X10_clearLetters {sc : Nat × (Nat → Int32)} {d : Nat} (hd : 1 ≤ d) {u u' : xS} (h : f_X10_clearLetters u = some u') : xMt sc mX10_clearLetters d 0 0 [.ref 58] (xL0, u) none (xL0, u') :=
  xMt.of (by decide +kernel) (by decide +kernel) (Nat.le_of_ble_eq_true rfl) (L := [some (.ref 58)]) rfl ((G_X10_clearLetters_0 hd u h))
set_option maxRecDepth 100000 in
set_option maxHeartbeats 4000000 in
theorem G_X10_pop_0 {sc : Nat × (Nat → Int32)} {d : Nat} (hd : 0 ≤ d) {r : Int32} {u' : xS} (u : xS) (h : f_X10_pop u = some (r, u')) : xG sc mX10_pop d 0 0 (xR (some (.int r)) (xL0, u') 0 0) 0 0 0 [some (.ref 58)] [] (xL0, u) := by
  rw [f_X10_pop] at h
  refine g_aload_n (pc := 0) dX10_pop_0 rfl ?_
  refine g_gI (pc := 1) dX10_pop_1 fI_RX10_28 xc_58 (v := (rd u 58 4)) rfl ?_
  refine g_if_ne (tgt := 9) (pc := 4) dX10_pop_4 (by decide) (fun c1 => ?_) (fun c1 => ?_)
  · replace h := (if_neg c1).symm.trans h
    refine g_aload_n (pc := 9) dX10_pop_9 rfl ?_
    refine g_dup (pc := 10) dX10_pop_10 rfl ?_
    refine g_gI (pc := 11) dX10_pop_11 fI_RX10_28 xc_58 (v := (rd u 58 4)) rfl ?_
    refine g_iconst (pc := 14) dX10_pop_14 ic_1 ?_
    refine g_isub (pc := 15) dX10_pop_15 rfl ?_
    refine g_pI (pc := 16) dX10_pop_16 pI_RX10_28 xc_58 (u' := (wr u 58 4 ((rd u 58 4) - (1 : Int32)))) rfl ?_
    refine g_aload_n (pc := 19) dX10_pop_19 rfl ?_
    refine g_gR (pc := 20) dX10_pop_20 fR_RX10_25 xc_58 (v := 73) rfl ?_
    refine g_aload_n (pc := 23) dX10_pop_23 rfl ?_
    refine g_gI (pc := 24) dX10_pop_24 fI_RX10_28 xc_58 (v := ((rd u 58 4) - (1 : Int32))) rfl ?_
    obtain ⟨g2, h⟩ := x_gd h
    refine g_iaload (pc := 27) dX10_pop_27 xc_73 (xin_of g2) (v := (rd u 73 ((rd u 58 4) - (1 : Int32)).toNatClampNeg)) rfl ?_
    obtain ⟨h1, h2⟩ := x_inj2 h
    subst h1
    subst h2
    exact g_iret (pc := 28) dX10_pop_28 rfl rfl rfl (Nat.le_refl _) (Nat.le_refl _)
  · replace h := (if_pos c1).symm.trans h
    refine g_iconst (pc := 7) dX10_pop_7 ic_0 ?_
    obtain ⟨h1, h2⟩ := x_inj2 h
    subst h1
    subst h2
    exact g_iret (pc := 8) dX10_pop_8 rfl rfl rfl (Nat.le_refl _) (Nat.le_refl _)
set_option maxRecDepth 100000 in
set_option maxHeartbeats 4000000 in
theorem M_X10_pop {sc : Nat × (Nat → Int32)} {d : Nat} (hd : 0 ≤ d) {r : Int32} {u u' : xS} (h : f_X10_pop u = some (r, u')) : xMt sc mX10_pop d 0 0 [.ref 58] (xL0, u) (some (.int r)) (xL0, u') :=
  xMt.of (by decide +kernel) (by decide +kernel) (Nat.le_of_ble_eq_true rfl) (L := [some (.ref 58)]) rfl ((G_X10_pop_0 hd u h))
set_option maxRecDepth 100000 in
set_option maxHeartbeats 4000000 in
theorem G_X10_push_0 {sc : Nat × (Nat → Int32)} {d : Nat} (hd : 0 ≤ d) {u' : xS} (v1 : Int32) (u : xS) (h : f_X10_push v1 u = some u') : xG sc mX10_push d 0 0 (xR none (xL0, u') 0 0) 0 0 0 [some (.ref 58), some (.int v1)] [] (xL0, u) := by
  rw [f_X10_push] at h
  refine g_aload_n (pc := 0) dX10_push_0 rfl ?_
  refine g_gI (pc := 1) dX10_push_1 fI_RX10_28 xc_58 (v := (rd u 58 4)) rfl ?_
  refine g_aload_n (pc := 4) dX10_push_4 rfl ?_
  refine g_gR (pc := 5) dX10_push_5 fR_RX10_25 xc_58 (v := 73) rfl ?_
  refine g_alen (pc := 8) dX10_push_8 xc_73 (by decide) (v := (64 : Int32)) (by decide) ?_
  refine g_icmp_ge (tgt := 32) (pc := 9) dX10_push_9 (by decide) (fun c1 => ?_) (fun c1 => ?_)
  · replace h := (if_pos c1).symm.trans h
    replace h := Option.some.inj h
    subst h
    exact g_ret (pc := 32) dX10_push_32 rfl rfl rfl (Nat.le_refl _) (Nat.le_refl _)
  · replace h := (if_neg c1).symm.trans h
    refine g_aload_n (pc := 12) dX10_push_12 rfl ?_
    refine g_gR (pc := 13) dX10_push_13 fR_RX10_25 xc_58 (v := 73) rfl ?_
    refine g_aload_n (pc := 16) dX10_push_16 rfl ?_
    refine g_gI (pc := 17) dX10_push_17 fI_RX10_28 xc_58 (v := (rd u 58 4)) rfl ?_
    refine g_iload_n (pc := 20) dX10_push_20 rfl ?_
    obtain ⟨g2, h⟩ := x_gd h
    refine g_iastore (pc := 21) dX10_push_21 xc_73 (xin_of g2) (u' := (wr u 73 (rd u 58 4).toNatClampNeg v1)) rfl ?_
    refine g_aload_n (pc := 22) dX10_push_22 rfl ?_
    refine g_dup (pc := 23) dX10_push_23 rfl ?_
    refine g_gI (pc := 24) dX10_push_24 fI_RX10_28 xc_58 (v := (rd u 58 4)) rfl ?_
    refine g_iconst (pc := 27) dX10_push_27 ic_1 ?_
    refine g_iadd (pc := 28) dX10_push_28 rfl ?_
    refine g_pI (pc := 29) dX10_push_29 pI_RX10_28 xc_58 (u' := (wr (wr u 73 (rd u 58 4).toNatClampNeg v1) 58 4 ((rd u 58 4) + (1 : Int32)))) rfl ?_
    replace h := Option.some.inj h
    subst h
    exact g_ret (pc := 32) dX10_push_32 rfl rfl rfl (Nat.le_refl _) (Nat.le_refl _)
set_option maxRecDepth 100000 in
set_option maxHeartbeats 4000000 in
theorem M_X10_push {sc : Nat × (Nat → Int32)} {d : Nat} (hd : 0 ≤ d) {u u' : xS} {a1 : Int32} (h : f_X10_push a1 u = some u') : xMt sc mX10_push d 0 0 [.ref 58, .int a1] (xL0, u) none (xL0, u') :=
  xMt.of (by decide +kernel) (by decide +kernel) (Nat.le_of_ble_eq_true rfl) (L := [some (.ref 58), some (.int a1)]) rfl ((G_X10_push_0 hd a1 u h))
set_option maxRecDepth 100000 in
set_option maxHeartbeats 4000000 in
theorem G_X10_joined_92 {sc : Nat × (Nat → Int32)} {d : Nat} (hd : 0 ≤ d) {r : Int32} {u : xS} (h : f_X10_joined_92 = some r) : xG sc mX10_joined d 0 0 (xR (some (.int r)) (xL0, u) 0 0) 0 0 92 [none, none, none] [] (xL0, u) := by
  rw [f_X10_joined_92] at h
  refine g_iconst (pc := 92) dX10_joined_92 ic_1 ?_
  refine g_goto (tgt := 97) (pc := 93) dX10_joined_93 (by decide) ?_
  replace h := Option.some.inj h
  subst h
  exact g_iret (pc := 97) dX10_joined_97 rfl rfl rfl (Nat.le_refl _) (Nat.le_refl _)
set_option maxRecDepth 100000 in
set_option maxHeartbeats 4000000 in
theorem G_X10_joined_0 {sc : Nat × (Nat → Int32)} {d : Nat} (hd : 0 ≤ d) {r : Int32} {u : xS} (v0 : Int32) (v1 : Int32) (v2 : Int32) (h : f_X10_joined v0 v1 v2 = some r) : xG sc mX10_joined d 0 0 (xR (some (.int r)) (xL0, u) 0 0) 0 0 0 [some (.int v0), some (.int v1), some (.int v2)] [] (xL0, u) := by
  rw [f_X10_joined] at h
  refine g_iload_n (pc := 0) dX10_joined_0 rfl ?_
  by_cases c1 : v0 = (38 : Int32)
  · replace h := (if_pos c1).symm.trans h
    refine g_lookup (tgt := 98) (off := 97) (pc := 1) dX10_joined_1 (by decide) (by rw [c1]; decide) (by decide) ?_
    refine g_iload_n (pc := 98) dX10_joined_98 rfl ?_
    refine g_if_eq (tgt := 110) (pc := 99) dX10_joined_99 (by decide) (fun c2 => ?_) (fun c2 => ?_)
    · replace h := (if_pos c2).symm.trans h
      refine g_iconst (pc := 110) dX10_joined_110 ic_0 ?_
      replace h := Option.some.inj h
      subst h
      exact g_iret (pc := 111) dX10_joined_111 rfl rfl rfl (Nat.le_refl _) (Nat.le_refl _)
    · replace h := (if_neg c2).symm.trans h
      refine g_iload_n (pc := 102) dX10_joined_102 rfl ?_
      refine g_if_eq (tgt := 110) (pc := 103) dX10_joined_103 (by decide) (fun c3 => ?_) (fun c3 => ?_)
      · replace h := (if_pos c3).symm.trans h
        refine g_iconst (pc := 110) dX10_joined_110 ic_0 ?_
        replace h := Option.some.inj h
        subst h
        exact g_iret (pc := 111) dX10_joined_111 rfl rfl rfl (Nat.le_refl _) (Nat.le_refl _)
      · replace h := (if_neg c3).symm.trans h
        refine g_iconst (pc := 106) dX10_joined_106 ic_1 ?_
        refine g_goto (tgt := 111) (pc := 107) dX10_joined_107 (by decide) ?_
        replace h := Option.some.inj h
        subst h
        exact g_iret (pc := 111) dX10_joined_111 rfl rfl rfl (Nat.le_refl _) (Nat.le_refl _)
  replace h := (if_neg c1).symm.trans h
  by_cases c4 : v0 = (42 : Int32)
  · replace h := (if_pos c4).symm.trans h
    refine g_lookup (tgt := 153) (off := 152) (pc := 1) dX10_joined_1 (by decide) (by rw [c4]; decide) (by decide) ?_
    refine g_iload_n (pc := 153) dX10_joined_153 rfl ?_
    refine g_iload_n (pc := 154) dX10_joined_154 rfl ?_
    refine g_imul (pc := 155) dX10_joined_155 rfl ?_
    replace h := Option.some.inj h
    subst h
    exact g_iret (pc := 156) dX10_joined_156 rfl rfl rfl (Nat.le_refl _) (Nat.le_refl _)
  replace h := (if_neg c4).symm.trans h
  by_cases c5 : v0 = (43 : Int32)
  · replace h := (if_pos c5).symm.trans h
    refine g_lookup (tgt := 145) (off := 144) (pc := 1) dX10_joined_1 (by decide) (by rw [c5]; decide) (by decide) ?_
    refine g_iload_n (pc := 145) dX10_joined_145 rfl ?_
    refine g_iload_n (pc := 146) dX10_joined_146 rfl ?_
    refine g_iadd (pc := 147) dX10_joined_147 rfl ?_
    replace h := Option.some.inj h
    subst h
    exact g_iret (pc := 148) dX10_joined_148 rfl rfl rfl (Nat.le_refl _) (Nat.le_refl _)
  replace h := (if_neg c5).symm.trans h
  by_cases c6 : v0 = (45 : Int32)
  · replace h := (if_pos c6).symm.trans h
    refine g_lookup (tgt := 149) (off := 148) (pc := 1) dX10_joined_1 (by decide) (by rw [c6]; decide) (by decide) ?_
    refine g_iload_n (pc := 149) dX10_joined_149 rfl ?_
    refine g_iload_n (pc := 150) dX10_joined_150 rfl ?_
    refine g_isub (pc := 151) dX10_joined_151 rfl ?_
    replace h := Option.some.inj h
    subst h
    exact g_iret (pc := 152) dX10_joined_152 rfl rfl rfl (Nat.le_refl _) (Nat.le_refl _)
  replace h := (if_neg c6).symm.trans h
  by_cases c7 : v0 = (47 : Int32)
  · replace h := (if_pos c7).symm.trans h
    refine g_lookup (tgt := 157) (off := 156) (pc := 1) dX10_joined_1 (by decide) (by rw [c7]; decide) (by decide) ?_
    refine g_iload_n (pc := 157) dX10_joined_157 rfl ?_
    refine g_if_ne (tgt := 165) (pc := 158) dX10_joined_158 (by decide) (fun c8 => ?_) (fun c8 => ?_)
    · replace h := (if_neg c8).symm.trans h
      refine g_iload_n (pc := 165) dX10_joined_165 rfl ?_
      refine g_iload_n (pc := 166) dX10_joined_166 rfl ?_
      obtain ⟨g9, h⟩ := x_gd h
      refine g_idiv (pc := 167) dX10_joined_167 (xnz_of g9) rfl ?_
      replace h := Option.some.inj h
      subst h
      exact g_iret (pc := 168) dX10_joined_168 rfl rfl rfl (Nat.le_refl _) (Nat.le_refl _)
    · replace h := (if_pos c8).symm.trans h
      refine g_iconst (pc := 161) dX10_joined_161 ic_0 ?_
      refine g_goto (tgt := 168) (pc := 162) dX10_joined_162 (by decide) ?_
      replace h := Option.some.inj h
      subst h
      exact g_iret (pc := 168) dX10_joined_168 rfl rfl rfl (Nat.le_refl _) (Nat.le_refl _)
  replace h := (if_neg c7).symm.trans h
  by_cases c10 : v0 = (60 : Int32)
  · replace h := (if_pos c10).symm.trans h
    refine g_lookup (tgt := 112) (off := 111) (pc := 1) dX10_joined_1 (by decide) (by rw [c10]; decide) (by decide) ?_
    refine g_iload_n (pc := 112) dX10_joined_112 rfl ?_
    refine g_iload_n (pc := 113) dX10_joined_113 rfl ?_
    refine g_icmp_ge (tgt := 121) (pc := 114) dX10_joined_114 (by decide) (fun c11 => ?_) (fun c11 => ?_)
    · replace h := (if_pos c11).symm.trans h
      refine g_iconst (pc := 121) dX10_joined_121 ic_0 ?_
      replace h := Option.some.inj h
      subst h
      exact g_iret (pc := 122) dX10_joined_122 rfl rfl rfl (Nat.le_refl _) (Nat.le_refl _)
    · replace h := (if_neg c11).symm.trans h
      refine g_iconst (pc := 117) dX10_joined_117 ic_1 ?_
      refine g_goto (tgt := 122) (pc := 118) dX10_joined_118 (by decide) ?_
      replace h := Option.some.inj h
      subst h
      exact g_iret (pc := 122) dX10_joined_122 rfl rfl rfl (Nat.le_refl _) (Nat.le_refl _)
  replace h := (if_neg c10).symm.trans h
  by_cases c12 : v0 = (61 : Int32)
  · replace h := (if_pos c12).symm.trans h
    refine g_lookup (tgt := 134) (off := 133) (pc := 1) dX10_joined_1 (by decide) (by rw [c12]; decide) (by decide) ?_
    refine g_iload_n (pc := 134) dX10_joined_134 rfl ?_
    refine g_iload_n (pc := 135) dX10_joined_135 rfl ?_
    refine g_icmp_ne (tgt := 143) (pc := 136) dX10_joined_136 (by decide) (fun c13 => ?_) (fun c13 => ?_)
    · replace h := (if_neg c13).symm.trans h
      refine g_iconst (pc := 143) dX10_joined_143 ic_0 ?_
      replace h := Option.some.inj h
      subst h
      exact g_iret (pc := 144) dX10_joined_144 rfl rfl rfl (Nat.le_refl _) (Nat.le_refl _)
    · replace h := (if_pos c13).symm.trans h
      refine g_iconst (pc := 139) dX10_joined_139 ic_1 ?_
      refine g_goto (tgt := 144) (pc := 140) dX10_joined_140 (by decide) ?_
      replace h := Option.some.inj h
      subst h
      exact g_iret (pc := 144) dX10_joined_144 rfl rfl rfl (Nat.le_refl _) (Nat.le_refl _)
  replace h := (if_neg c12).symm.trans h
  by_cases c14 : v0 = (62 : Int32)
  · replace h := (if_pos c14).symm.trans h
    refine g_lookup (tgt := 123) (off := 122) (pc := 1) dX10_joined_1 (by decide) (by rw [c14]; decide) (by decide) ?_
    refine g_iload_n (pc := 123) dX10_joined_123 rfl ?_
    refine g_iload_n (pc := 124) dX10_joined_124 rfl ?_
    refine g_icmp_le (tgt := 132) (pc := 125) dX10_joined_125 (by decide) (fun c15 => ?_) (fun c15 => ?_)
    · replace h := (if_pos c15).symm.trans h
      refine g_iconst (pc := 132) dX10_joined_132 ic_0 ?_
      replace h := Option.some.inj h
      subst h
      exact g_iret (pc := 133) dX10_joined_133 rfl rfl rfl (Nat.le_refl _) (Nat.le_refl _)
    · replace h := (if_neg c15).symm.trans h
      refine g_iconst (pc := 128) dX10_joined_128 ic_1 ?_
      refine g_goto (tgt := 133) (pc := 129) dX10_joined_129 (by decide) ?_
      replace h := Option.some.inj h
      subst h
      exact g_iret (pc := 133) dX10_joined_133 rfl rfl rfl (Nat.le_refl _) (Nat.le_refl _)
  replace h := (if_neg c14).symm.trans h
  by_cases c16 : v0 = (124 : Int32)
  · replace h := (if_pos c16).symm.trans h
    refine g_lookup (tgt := 84) (off := 83) (pc := 1) dX10_joined_1 (by decide) (by rw [c16]; decide) (by decide) ?_
    refine g_iload_n (pc := 84) dX10_joined_84 rfl ?_
    refine g_if_ne (tgt := 92) (pc := 85) dX10_joined_85 (by decide) (fun c17 => ?_) (fun c17 => ?_)
    · replace h := (if_neg c17).symm.trans h
      refine g_L (L' := [none, none, none]) trivial ?_
      exact G_X10_joined_92 hd h
    · replace h := (if_pos c17).symm.trans h
      refine g_iload_n (pc := 88) dX10_joined_88 rfl ?_
      refine g_if_eq (tgt := 96) (pc := 89) dX10_joined_89 (by decide) (fun c18 => ?_) (fun c18 => ?_)
      · replace h := (if_pos c18).symm.trans h
        refine g_iconst (pc := 96) dX10_joined_96 ic_0 ?_
        replace h := Option.some.inj h
        subst h
        exact g_iret (pc := 97) dX10_joined_97 rfl rfl rfl (Nat.le_refl _) (Nat.le_refl _)
      · replace h := (if_neg c18).symm.trans h
        refine g_L (L' := [none, none, none]) trivial ?_
        exact G_X10_joined_92 hd h
  replace h := (if_neg c16).symm.trans h
  have c1i := i32_ne c1 (m := 38) (by decide)
  have c4i := i32_ne c4 (m := 42) (by decide)
  have c5i := i32_ne c5 (m := 43) (by decide)
  have c6i := i32_ne c6 (m := 45) (by decide)
  have c7i := i32_ne c7 (m := 47) (by decide)
  have c10i := i32_ne c10 (m := 60) (by decide)
  have c12i := i32_ne c12 (m := 61) (by decide)
  have c14i := i32_ne c14 (m := 62) (by decide)
  have c16i := i32_ne c16 (m := 124) (by decide)
  refine g_lookup (tgt := 169) (off := 168) (pc := 1) dX10_joined_1 (by decide) (x_lsw (by simp [c1i, Ne.symm c1i, c4i, Ne.symm c4i, c5i, Ne.symm c5i, c6i, Ne.symm c6i, c7i, Ne.symm c7i, c10i, Ne.symm c10i, c12i, Ne.symm c12i, c14i, Ne.symm c14i, c16i, Ne.symm c16i])) (by decide) ?_
  refine g_iload_n (pc := 169) dX10_joined_169 rfl ?_
  refine g_if_ne (tgt := 177) (pc := 170) dX10_joined_170 (by decide) (fun c19 => ?_) (fun c19 => ?_)
  · replace h := (if_neg c19).symm.trans h
    refine g_iload_n (pc := 177) dX10_joined_177 rfl ?_
    refine g_iload_n (pc := 178) dX10_joined_178 rfl ?_
    obtain ⟨g20, h⟩ := x_gd h
    refine g_irem (pc := 179) dX10_joined_179 (xnz_of g20) rfl ?_
    replace h := Option.some.inj h
    subst h
    exact g_iret (pc := 180) dX10_joined_180 rfl rfl rfl (Nat.le_refl _) (Nat.le_refl _)
  · replace h := (if_pos c19).symm.trans h
    refine g_iconst (pc := 173) dX10_joined_173 ic_0 ?_
    refine g_goto (tgt := 180) (pc := 174) dX10_joined_174 (by decide) ?_
    replace h := Option.some.inj h
    subst h
    exact g_iret (pc := 180) dX10_joined_180 rfl rfl rfl (Nat.le_refl _) (Nat.le_refl _)
set_option maxRecDepth 100000 in
set_option maxHeartbeats 4000000 in
theorem M_X10_joined {sc : Nat × (Nat → Int32)} {d : Nat} (hd : 0 ≤ d) {r : Int32} {u : xS} {a0 : Int32} {a1 : Int32} {a2 : Int32} (h : f_X10_joined a0 a1 a2 = some r) : xMt sc mX10_joined d 0 0 [.int a0, .int a1, .int a2] (xL0, u) (some (.int r)) (xL0, u) :=
  xMt.of (by decide +kernel) (by decide +kernel) (Nat.le_of_ble_eq_true rfl) (L := [some (.int a0), some (.int a1), some (.int a2)]) rfl ((G_X10_joined_0 hd a0 a1 a2 h))
