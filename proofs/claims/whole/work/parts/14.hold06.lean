set_option maxRecDepth 100000 in
set_option maxHeartbeats 4000000 in
theorem G_X11_twice_47 {sc : Nat × (Nat → Int32)} {d : Nat} (hd : 2 ≤ d) {r : Int32} {u' : xS} (v1 : Int32) (v2 : Int32) (v3 : Int32) (v4 : Int32) (s0 : Int32) (u : xS) (h : f_X11_twice_47 v1 v2 v3 v4 s0 u = some (r, u')) : xG sc mX11_twice d 0 0 (xR (some (.int r)) (xL0, u') 0 0) 0 0 47 [some (.ref 0), some (.int v1), some (.int v2), some (.int v3), some (.int v4), none] [.int s0] (xL0, u) := by
  rw [f_X11_twice_47] at h
  refine g_istore (pc := 47) dX11_twice_47 (Nat.le_of_ble_eq_true rfl) (L' := [some (.ref 0), some (.int v1), some (.int v2), some (.int v3), some (.int v4), some (.int s0)]) rfl ?_
  refine g_iload (pc := 49) dX11_twice_49 rfl ?_
  refine g_if_eq (tgt := 81) (pc := 51) dX11_twice_51 (by decide) (fun c1 => ?_) (fun c1 => ?_)
  · replace h := (if_pos c1).symm.trans h
    refine g_iconst (pc := 81) dX11_twice_81 ic_m1 ?_
    cases h
    exact g_iret (pc := 82) dX11_twice_82 rfl rfl rfl (Nat.le_refl _) (Nat.le_refl _)
  · replace h := (if_neg c1).symm.trans h
    refine g_aload_n (pc := 54) dX11_twice_54 rfl ?_
    refine g_gR (pc := 55) dX11_twice_55 fR_RX11_75 xc_0 (v := 113) rfl ?_
    refine g_gI (pc := 58) dX11_twice_58 fI_RX11_374 xc_113 (v := (rd u 113 3)) rfl ?_
    refine g_bipush (pc := 61) dX11_twice_61 bp_99 ?_
    refine g_icmp_ge (tgt := 81) (pc := 63) dX11_twice_63 (by decide) (fun c2 => ?_) (fun c2 => ?_)
    · replace h := (if_pos c2).symm.trans h
      refine g_iconst (pc := 81) dX11_twice_81 ic_m1 ?_
      cases h
      exact g_iret (pc := 82) dX11_twice_82 rfl rfl rfl (Nat.le_refl _) (Nat.le_refl _)
    · replace h := (if_neg c2).symm.trans h
      refine g_aload_n (pc := 66) dX11_twice_66 rfl ?_
      refine g_gR (pc := 67) dX11_twice_67 fR_RX11_75 xc_0 (v := 113) rfl ?_
      refine g_iload_n (pc := 70) dX11_twice_70 rfl ?_
      refine g_iload_n (pc := 71) dX11_twice_71 rfl ?_
      refine g_iload_n (pc := 72) dX11_twice_72 rfl ?_
      refine g_iload (pc := 73) dX11_twice_73 rfl ?_
      obtain ⟨⟨x4, u5⟩, e3, h⟩ := x_bind h
      dsimp only at h
      refine g_cV (pc := 75) dX11_twice_75 cV_RX11_375 (M_X3_add (Nat.le_refl _) e3) xc_113 (as := [.int v1, .int v2, .int v3, .int v4]) (st := []) rfl rfl (Nat.le_of_ble_eq_true rfl) (Nat.le_trans (Nat.le_of_ble_eq_true rfl) hd) rfl ?_
      refine g_goto (tgt := 82) (pc := 78) dX11_twice_78 (by decide) ?_
      cases h
      exact g_iret (pc := 82) dX11_twice_82 rfl rfl rfl (Nat.le_refl _) (Nat.le_refl _)
set_option maxRecDepth 100000 in
set_option maxHeartbeats 4000000 in
theorem G_X11_twice_46 {sc : Nat × (Nat → Int32)} {d : Nat} (hd : 2 ≤ d) {r : Int32} {u' : xS} (v1 : Int32) (v2 : Int32) (v3 : Int32) (v4 : Int32) (u : xS) (h : f_X11_twice_46 v1 v2 v3 v4 u = some (r, u')) : xG sc mX11_twice d 0 0 (xR (some (.int r)) (xL0, u') 0 0) 0 0 46 [some (.ref 0), some (.int v1), some (.int v2), some (.int v3), some (.int v4), none] [] (xL0, u) := by
  rw [f_X11_twice_46] at h
  refine g_iconst (pc := 46) dX11_twice_46 ic_0 ?_
  exact G_X11_twice_47 hd v1 v2 v3 v4 (0 : Int32) u h
set_option maxRecDepth 100000 in
set_option maxHeartbeats 4000000 in
theorem G_X11_twice_0 {sc : Nat × (Nat → Int32)} {d : Nat} (hd : 2 ≤ d) {r : Int32} {u' : xS} (v1 : Int32) (v2 : Int32) (v3 : Int32) (v4 : Int32) (u : xS) (h : f_X11_twice v1 v2 v3 v4 u = some (r, u')) : xG sc mX11_twice d 0 0 (xR (some (.int r)) (xL0, u') 0 0) 0 0 0 [some (.ref 0), some (.int v1), some (.int v2), some (.int v3), some (.int v4), none] [] (xL0, u) := by
  rw [f_X11_twice] at h
  refine g_iload_n (pc := 0) dX11_twice_0 rfl ?_
  refine g_cS (pc := 1) dX11_twice_1 cS_RX11_138 (M_X11_isSorter (Nat.le_refl _) rfl) (as := [.int v1]) (st := []) rfl rfl (Nat.le_of_ble_eq_true rfl) (Nat.le_trans (Nat.le_of_ble_eq_true rfl) hd) rfl ?_
  refine g_if_eq (tgt := 46) (pc := 4) dX11_twice_4 (by decide) (fun c1 => ?_) (fun c1 => ?_)
  · replace h := (if_pos c1).symm.trans h
    exact G_X11_twice_46 hd v1 v2 v3 v4 u h
  · replace h := (if_neg c1).symm.trans h
    refine g_iload_n (pc := 7) dX11_twice_7 rfl ?_
    refine g_cS (pc := 8) dX11_twice_8 cS_RX11_138 (M_X11_isSorter (Nat.le_refl _) rfl) (as := [.int v3]) (st := []) rfl rfl (Nat.le_of_ble_eq_true rfl) (Nat.le_trans (Nat.le_of_ble_eq_true rfl) hd) rfl ?_
    refine g_if_eq (tgt := 46) (pc := 11) dX11_twice_11 (by decide) (fun c2 => ?_) (fun c2 => ?_)
    · replace h := (if_pos c2).symm.trans h
      exact G_X11_twice_46 hd v1 v2 v3 v4 u h
    · replace h := (if_neg c2).symm.trans h
      refine g_iload_n (pc := 14) dX11_twice_14 rfl ?_
      refine g_iload_n (pc := 15) dX11_twice_15 rfl ?_
      refine g_icmp_eq (tgt := 46) (pc := 16) dX11_twice_16 (by decide) (fun c3 => ?_) (fun c3 => ?_)
      · replace h := (if_pos c3).symm.trans h
        exact G_X11_twice_46 hd v1 v2 v3 v4 u h
      · replace h := (if_neg c3).symm.trans h
        refine g_aload_n (pc := 19) dX11_twice_19 rfl ?_
        refine g_gR (pc := 20) dX11_twice_20 fR_RX11_12 xc_0 (v := 1) rfl ?_
        refine g_iload_n (pc := 23) dX11_twice_23 rfl ?_
        refine g_cV (pc := 24) dX11_twice_24 cV_RX11_98 (M_X8_has (Nat.le_refl _) rfl) xc_1 (as := [.int v2]) (st := []) rfl rfl (Nat.le_of_ble_eq_true rfl) (Nat.le_trans (Nat.le_of_ble_eq_true rfl) hd) rfl ?_
        refine g_if_eq (tgt := 46) (pc := 27) dX11_twice_27 (by decide) (fun c4 => ?_) (fun c4 => ?_)
        · replace h := (if_pos c4).symm.trans h
          exact G_X11_twice_46 hd v1 v2 v3 v4 u h
        · replace h := (if_neg c4).symm.trans h
          refine g_aload_n (pc := 30) dX11_twice_30 rfl ?_
          refine g_gR (pc := 31) dX11_twice_31 fR_RX11_12 xc_0 (v := 1) rfl ?_
          refine g_iload (pc := 34) dX11_twice_34 rfl ?_
          refine g_cV (pc := 36) dX11_twice_36 cV_RX11_98 (M_X8_has (Nat.le_refl _) rfl) xc_1 (as := [.int v4]) (st := []) rfl rfl (Nat.le_of_ble_eq_true rfl) (Nat.le_trans (Nat.le_of_ble_eq_true rfl) hd) rfl ?_
          refine g_if_eq (tgt := 46) (pc := 39) dX11_twice_39 (by decide) (fun c5 => ?_) (fun c5 => ?_)
          · replace h := (if_pos c5).symm.trans h
            exact G_X11_twice_46 hd v1 v2 v3 v4 u h
          · replace h := (if_neg c5).symm.trans h
            refine g_iconst (pc := 42) dX11_twice_42 ic_1 ?_
            refine g_goto (tgt := 47) (pc := 43) dX11_twice_43 (by decide) ?_
            exact G_X11_twice_47 hd v1 v2 v3 v4 (1 : Int32) u h
set_option maxRecDepth 100000 in
set_option maxHeartbeats 4000000 in
theorem M_X11_twice {sc : Nat × (Nat → Int32)} {d : Nat} (hd : 2 ≤ d) {r : Int32} {u u' : xS} {a1 : Int32} {a2 : Int32} {a3 : Int32} {a4 : Int32} (h : f_X11_twice a1 a2 a3 a4 u = some (r, u')) : xMt sc mX11_twice d 0 0 [.ref 0, .int a1, .int a2, .int a3, .int a4] (xL0, u) (some (.int r)) (xL0, u') :=
  xMt.of (by decide +kernel) (Nat.le_of_ble_eq_true rfl) (L := [some (.ref 0), some (.int a1), some (.int a2), some (.int a3), some (.int a4), none]) rfl ((G_X11_twice_0 hd a1 a2 a3 a4 u h))
set_option maxRecDepth 100000 in
set_option maxHeartbeats 4000000 in
theorem G_X11_wipe_0 {sc : Nat × (Nat → Int32)} {d : Nat} (hd : 2 ≤ d) {r : Int32} {u' : xS} (v1 : Int32) (v2 : Int32) (v3 : Int32) (u : xS) (h : f_X11_wipe v1 v2 v3 u = some (r, u')) : xG sc mX11_wipe d 0 0 (xR (some (.int r)) (xL0, u') 0 0) 0 0 0 [some (.ref 0), some (.int v1), some (.int v2), some (.int v3)] [] (xL0, u) := by
  rw [f_X11_wipe] at h
  refine g_aload_n (pc := 0) dX11_wipe_0 rfl ?_
  refine g_gR (pc := 1) dX11_wipe_1 fR_RX11_12 xc_0 (v := 1) rfl ?_
  refine g_iload_n (pc := 4) dX11_wipe_4 rfl ?_
  refine g_cV (pc := 5) dX11_wipe_5 cV_RX11_98 (M_X8_has (Nat.le_refl _) rfl) xc_1 (as := [.int v1]) (st := []) rfl rfl (Nat.le_of_ble_eq_true rfl) (Nat.le_trans (Nat.le_of_ble_eq_true rfl) hd) rfl ?_
  refine g_if_eq (tgt := 45) (pc := 8) dX11_wipe_8 (by decide) (fun c1 => ?_) (fun c1 => ?_)
  · replace h := (if_pos c1).symm.trans h
    refine g_iconst (pc := 45) dX11_wipe_45 ic_m1 ?_
    cases h
    exact g_iret (pc := 46) dX11_wipe_46 rfl rfl rfl (Nat.le_refl _) (Nat.le_refl _)
  · replace h := (if_neg c1).symm.trans h
    refine g_iload_n (pc := 11) dX11_wipe_11 rfl ?_
    refine g_iconst (pc := 12) dX11_wipe_12 ic_1 ?_
    refine g_sipush (pc := 13) dX11_wipe_13 sp_9999 ?_
    refine g_cS (pc := 16) dX11_wipe_16 cS_RX11_94 (M_X11_lies (Nat.le_refl _) rfl) (as := [.int v2, .int (1 : Int32), .int (9999 : Int32)]) (st := []) rfl rfl (Nat.le_of_ble_eq_true rfl) (Nat.le_trans (Nat.le_of_ble_eq_true rfl) hd) rfl ?_
    refine g_if_eq (tgt := 45) (pc := 19) dX11_wipe_19 (by decide) (fun c2 => ?_) (fun c2 => ?_)
    · replace h := (if_pos c2).symm.trans h
      refine g_iconst (pc := 45) dX11_wipe_45 ic_m1 ?_
      cases h
      exact g_iret (pc := 46) dX11_wipe_46 rfl rfl rfl (Nat.le_refl _) (Nat.le_refl _)
    · replace h := (if_neg c2).symm.trans h
      refine g_iload_n (pc := 22) dX11_wipe_22 rfl ?_
      refine g_iconst (pc := 23) dX11_wipe_23 ic_0 ?_
      refine g_sipush (pc := 24) dX11_wipe_24 sp_1000 ?_
      refine g_cS (pc := 27) dX11_wipe_27 cS_RX11_94 (M_X11_lies (Nat.le_refl _) rfl) (as := [.int v3, .int (0 : Int32), .int (1000 : Int32)]) (st := []) rfl rfl (Nat.le_of_ble_eq_true rfl) (Nat.le_trans (Nat.le_of_ble_eq_true rfl) hd) rfl ?_
      refine g_if_eq (tgt := 45) (pc := 30) dX11_wipe_30 (by decide) (fun c3 => ?_) (fun c3 => ?_)
      · replace h := (if_pos c3).symm.trans h
        refine g_iconst (pc := 45) dX11_wipe_45 ic_m1 ?_
        cases h
        exact g_iret (pc := 46) dX11_wipe_46 rfl rfl rfl (Nat.le_refl _) (Nat.le_refl _)
      · replace h := (if_neg c3).symm.trans h
        refine g_aload_n (pc := 33) dX11_wipe_33 rfl ?_
        refine g_gR (pc := 34) dX11_wipe_34 fR_RX11_54 xc_0 (v := 74) rfl ?_
        refine g_iload_n (pc := 37) dX11_wipe_37 rfl ?_
        obtain ⟨x5, e4, h⟩ := x_bind h
        refine g_cV (pc := 38) dX11_wipe_38 cV_RX11_263 (M_X6_ofSort (Nat.le_refl _) e4) xc_74 (as := [.int v1]) (st := []) rfl rfl (Nat.le_of_ble_eq_true rfl) (Nat.le_trans (Nat.le_of_ble_eq_true rfl) hd) rfl ?_
        refine g_iload_n (pc := 41) dX11_wipe_41 rfl ?_
        refine g_icmp_ge (tgt := 47) (pc := 42) dX11_wipe_42 (by decide) (fun c6 => ?_) (fun c6 => ?_)
        · replace h := (if_pos c6).symm.trans h
          refine g_aload_n (pc := 47) dX11_wipe_47 rfl ?_
          refine g_gR (pc := 48) dX11_wipe_48 fR_RX11_54 xc_0 (v := 74) rfl ?_
          refine g_iload_n (pc := 51) dX11_wipe_51 rfl ?_
          refine g_iload_n (pc := 52) dX11_wipe_52 rfl ?_
          refine g_aload_n (pc := 53) dX11_wipe_53 rfl ?_
          refine g_gR (pc := 54) dX11_wipe_54 fR_RX11_19 xc_0 (v := 13) rfl ?_
          refine g_gR (pc := 57) dX11_wipe_57 fR_RX11_176 xc_13 (v := 20) rfl ?_
          obtain ⟨u8, e7, h⟩ := x_bind h
          refine g_cV (pc := 60) dX11_wipe_60 cV_RX11_273 (M_X6_takeOut (Nat.le_refl _) e7) xc_74 (as := [.int v1, .int v2, .ref 20]) (st := []) rfl rfl (Nat.le_of_ble_eq_true rfl) (Nat.le_trans (Nat.le_of_ble_eq_true rfl) hd) rfl ?_
          refine g_iload_n (pc := 63) dX11_wipe_63 rfl ?_
          refine g_iload_n (pc := 64) dX11_wipe_64 rfl ?_
          refine g_imul (pc := 65) dX11_wipe_65 rfl ?_
          refine g_sipush (pc := 66) dX11_wipe_66 sp_1000 ?_
          refine g_idiv (pc := 69) dX11_wipe_69 (by decide) rfl ?_
          cases h
          exact g_iret (pc := 70) dX11_wipe_70 rfl rfl rfl (Nat.le_refl _) (Nat.le_refl _)
        · replace h := (if_neg c6).symm.trans h
          refine g_iconst (pc := 45) dX11_wipe_45 ic_m1 ?_
          cases h
          exact g_iret (pc := 46) dX11_wipe_46 rfl rfl rfl (Nat.le_refl _) (Nat.le_refl _)
set_option maxRecDepth 100000 in
set_option maxHeartbeats 4000000 in
theorem M_X11_wipe {sc : Nat × (Nat → Int32)} {d : Nat} (hd : 2 ≤ d) {r : Int32} {u u' : xS} {a1 : Int32} {a2 : Int32} {a3 : Int32} (h : f_X11_wipe a1 a2 a3 u = some (r, u')) : xMt sc mX11_wipe d 0 0 [.ref 0, .int a1, .int a2, .int a3] (xL0, u) (some (.int r)) (xL0, u') :=
  xMt.of (by decide +kernel) (Nat.le_of_ble_eq_true rfl) (L := [some (.ref 0), some (.int a1), some (.int a2), some (.int a3)]) rfl ((G_X11_wipe_0 hd a1 a2 a3 u h))
set_option maxRecDepth 100000 in
set_option maxHeartbeats 4000000 in
theorem G_X11_within_0 {sc : Nat × (Nat → Int32)} {d : Nat} (hd : 2 ≤ d) {r : Int32} {u : xS} (v1 : Int32) (v2 : Int32) (h : f_X11_within u v1 v2 = some r) : xG sc mX11_within d 0 0 (xR (some (.int r)) (xL0, u) 0 0) 0 0 0 [some (.ref 0), some (.int v1), some (.int v2)] [] (xL0, u) := by
  rw [f_X11_within] at h
  refine g_aload_n (pc := 0) dX11_within_0 rfl ?_
  refine g_gR (pc := 1) dX11_within_1 fR_RX11_12 xc_0 (v := 1) rfl ?_
  refine g_iload_n (pc := 4) dX11_within_4 rfl ?_
  refine g_cV (pc := 5) dX11_within_5 cV_RX11_98 (M_X8_has (Nat.le_refl _) rfl) xc_1 (as := [.int v1]) (st := []) rfl rfl (Nat.le_of_ble_eq_true rfl) (Nat.le_trans (Nat.le_of_ble_eq_true rfl) hd) rfl ?_
  refine g_if_eq (tgt := 22) (pc := 8) dX11_within_8 (by decide) (fun c1 => ?_) (fun c1 => ?_)
  · replace h := (if_pos c1).symm.trans h
    refine g_iconst (pc := 22) dX11_within_22 ic_m1 ?_
    cases h
    exact g_iret (pc := 23) dX11_within_23 rfl rfl rfl (Nat.le_refl _) (Nat.le_refl _)
  · replace h := (if_neg c1).symm.trans h
    refine g_aload_n (pc := 11) dX11_within_11 rfl ?_
    refine g_gR (pc := 12) dX11_within_12 fR_RX11_12 xc_0 (v := 1) rfl ?_
    refine g_iload_n (pc := 15) dX11_within_15 rfl ?_
    refine g_cV (pc := 16) dX11_within_16 cV_RX11_98 (M_X8_has (Nat.le_refl _) rfl) xc_1 (as := [.int v2]) (st := []) rfl rfl (Nat.le_of_ble_eq_true rfl) (Nat.le_trans (Nat.le_of_ble_eq_true rfl) hd) rfl ?_
    refine g_if_ne (tgt := 24) (pc := 19) dX11_within_19 (by decide) (fun c2 => ?_) (fun c2 => ?_)
    · replace h := (if_neg c2).symm.trans h
      refine g_aload_n (pc := 24) dX11_within_24 rfl ?_
      refine g_gR (pc := 25) dX11_within_25 fR_RX11_12 xc_0 (v := 1) rfl ?_
      refine g_iload_n (pc := 28) dX11_within_28 rfl ?_
      refine g_iload_n (pc := 29) dX11_within_29 rfl ?_
      obtain ⟨x4, e3, h⟩ := x_bind h
      refine g_cV (pc := 30) dX11_within_30 cV_RX11_123 (M_X8_isPart (Nat.le_refl _) e3) xc_1 (as := [.int v1, .int v2]) (st := []) rfl rfl (Nat.le_of_ble_eq_true rfl) (Nat.le_trans (Nat.le_of_ble_eq_true rfl) hd) rfl ?_
      refine g_if_eq (tgt := 40) (pc := 33) dX11_within_33 (by decide) (fun c5 => ?_) (fun c5 => ?_)
      · replace h := (if_pos c5).symm.trans h
        refine g_iconst (pc := 40) dX11_within_40 ic_0 ?_
        cases h
        exact g_iret (pc := 41) dX11_within_41 rfl rfl rfl (Nat.le_refl _) (Nat.le_refl _)
      · replace h := (if_neg c5).symm.trans h
        refine g_iconst (pc := 36) dX11_within_36 ic_1 ?_
        refine g_goto (tgt := 41) (pc := 37) dX11_within_37 (by decide) ?_
        cases h
        exact g_iret (pc := 41) dX11_within_41 rfl rfl rfl (Nat.le_refl _) (Nat.le_refl _)
    · replace h := (if_pos c2).symm.trans h
      refine g_iconst (pc := 22) dX11_within_22 ic_m1 ?_
      cases h
      exact g_iret (pc := 23) dX11_within_23 rfl rfl rfl (Nat.le_refl _) (Nat.le_refl _)
set_option maxRecDepth 100000 in
set_option maxHeartbeats 4000000 in
theorem M_X11_within {sc : Nat × (Nat → Int32)} {d : Nat} (hd : 2 ≤ d) {r : Int32} {u : xS} {a1 : Int32} {a2 : Int32} (h : f_X11_within u a1 a2 = some r) : xMt sc mX11_within d 0 0 [.ref 0, .int a1, .int a2] (xL0, u) (some (.int r)) (xL0, u) :=
  xMt.of (by decide +kernel) (Nat.le_of_ble_eq_true rfl) (L := [some (.ref 0), some (.int a1), some (.int a2)]) rfl ((G_X11_within_0 hd a1 a2 h))
