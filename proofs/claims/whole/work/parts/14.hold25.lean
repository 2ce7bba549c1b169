set_option maxRecDepth 100000 in
set_option maxHeartbeats 4000000 in
theorem G_X11_share_15 {sc : Nat × (Nat → Int32)} {d : Nat} (hd : 3 ≤ d) {r : Int32} {u' : xS} : ∀ (n : Nat) (v1 : Int64) (v3 : Int32) (u : xS), f_X11_share_15 n v1 v3 u = some (r, u') → xG sc mX11_share d 0 0 (xR (some (.int r)) (xL0, u') 0 0) 0 0 15 [some (.ref 0), some (.long v1), none, some (.int v3)] [] (xL0, u) := by
  intro n
  induction n with
  | zero =>
    intro v1 v3 u h
    rw [f_X11_share_15] at h
    cases h
  | succ n ih =>
    intro v1 v3 u h
    rw [f_X11_share_15] at h
    refine g_iload_n (pc := 15) dX11_share_15 rfl ?_
    refine g_aload_n (pc := 16) dX11_share_16 rfl ?_
    refine g_gR (pc := 17) dX11_share_17 fR_RX11_82 xc_0 (v := 121) rfl ?_
    refine g_gI (pc := 20) dX11_share_20 fI_RX11_391 xc_121 (v := (rd u 121 6)) rfl ?_
    refine g_icmp_ge (tgt := 41) (pc := 23) dX11_share_23 (by decide) (fun c1 => ?_) (fun c1 => ?_)
    · replace h := (if_pos c1).symm.trans h
      refine g_lload_n (pc := 41) dX11_share_41 rfl ?_
      refine g_cS (pc := 42) dX11_share_42 cS_RX11_411 (M_X4_sumOf (Nat.le_refl _) rfl) (as := [.long v1]) (st := []) rfl rfl (Nat.le_of_ble_eq_true rfl) (Nat.le_trans (Nat.le_of_ble_eq_true rfl) hd) rfl ?_
      obtain ⟨h1, h2⟩ := x_inj2 h
      subst h1
      subst h2
      exact g_iret (pc := 45) dX11_share_45 rfl rfl rfl (Nat.le_refl _) (Nat.le_refl _)
    · replace h := (if_neg c1).symm.trans h
      refine g_aload_n (pc := 26) dX11_share_26 rfl ?_
      refine g_lload_n (pc := 27) dX11_share_27 rfl ?_
      refine g_iload_n (pc := 28) dX11_share_28 rfl ?_
      obtain ⟨x3, e2, h⟩ := x_bind h
      refine g_cS (pc := 29) dX11_share_29 cS_RX11_407 (M_X4_landOf (Nat.le_refl _) e2) (as := [.long v1, .int v3]) (st := [.ref 0]) rfl rfl (Nat.le_of_ble_eq_true rfl) (Nat.le_trans (Nat.le_of_ble_eq_true rfl) hd) rfl ?_
      obtain ⟨u5, e4, h⟩ := x_bind h
      refine g_cV (pc := 32) dX11_share_32 cV_RX11_359 (M_X11_tell (Nat.le_refl _) e4) xc_0 (as := [.int x3]) (st := []) rfl rfl (Nat.le_of_ble_eq_true rfl) (Nat.le_trans (Nat.le_of_ble_eq_true rfl) hd) rfl ?_
      refine g_inc (pc := 35) dX11_share_35 (Nat.le_of_ble_eq_true rfl) rfl ic_1 (L' := [some (.ref 0), some (.long v1), none, some (.int (v3 + (1 : Int32)))]) rfl ?_
      refine g_goto (tgt := 15) (pc := 38) dX11_share_38 (by decide) ?_
      exact ih v1 (v3 + (1 : Int32)) u5 h
set_option maxRecDepth 100000 in
set_option maxHeartbeats 4000000 in
theorem G_X11_share_0 {sc : Nat × (Nat → Int32)} {d : Nat} (hd : 3 ≤ d) {r : Int32} {u' : xS} (u : xS) (h : f_X11_share u = some (r, u')) : xG sc mX11_share d 0 0 (xR (some (.int r)) (xL0, u') 0 0) 0 0 0 [some (.ref 0), none, none, none] [] (xL0, u) := by
  rw [f_X11_share] at h
  refine g_aload_n (pc := 0) dX11_share_0 rfl ?_
  refine g_gR (pc := 1) dX11_share_1 fR_RX11_82 xc_0 (v := 121) rfl ?_
  obtain ⟨⟨x2, u3⟩, e1, h⟩ := x_bind h
  dsimp only at h
  refine g_cV (pc := 4) dX11_share_4 cV_RX11_403 (M_X4_bestShare (Nat.le_refl _) e1) xc_121 (as := []) (st := []) rfl rfl (Nat.le_of_ble_eq_true rfl) (Nat.le_trans (Nat.le_of_ble_eq_true rfl) hd) rfl ?_
  refine g_lstore_n (pc := 7) dX11_share_7 (Nat.le_of_ble_eq_true rfl) (Nat.le_of_ble_eq_true rfl) (L' := [some (.ref 0), some (.long x2), none, none]) rfl ?_
  refine g_aload_n (pc := 8) dX11_share_8 rfl ?_
  refine g_iconst (pc := 9) dX11_share_9 ic_0 ?_
  refine g_pI (pc := 10) dX11_share_10 pI_RX11_90 xc_0 (u' := (wr u3 0 12 (0 : Int32))) rfl ?_
  refine g_iconst (pc := 13) dX11_share_13 ic_0 ?_
  refine g_istore_n (pc := 14) dX11_share_14 (Nat.le_of_ble_eq_true rfl) (L' := [some (.ref 0), some (.long x2), none, some (.int (0 : Int32))]) rfl ?_
  exact G_X11_share_15 hd xN x2 (0 : Int32) (wr u3 0 12 (0 : Int32)) h
set_option maxRecDepth 100000 in
set_option maxHeartbeats 4000000 in
theorem M_X11_share {sc : Nat × (Nat → Int32)} {d : Nat} (hd : 3 ≤ d) {r : Int32} {u u' : xS} (h : f_X11_share u = some (r, u')) : xMt sc mX11_share d 0 0 [.ref 0] (xL0, u) (some (.int r)) (xL0, u') :=
  xMt.of (by decide +kernel) (by decide +kernel) (Nat.le_of_ble_eq_true rfl) (L := [some (.ref 0), none, none, none]) rfl ((G_X11_share_0 hd u h))
set_option maxRecDepth 100000 in
set_option maxHeartbeats 4000000 in
theorem G_X9_add_48 {sc : Nat × (Nat → Int32)} {d : Nat} (hd : 0 ≤ d) {r : Int32} {u' : xS} (u : xS) (h : f_X9_add_48 u = some (r, u')) : xG sc mX9_add d 0 0 (xR (some (.int r)) (xL0, u') 0 0) 0 0 48 [some (.ref 52), none, none] [] (xL0, u) := by
  rw [f_X9_add_48] at h
  refine g_aload_n (pc := 48) dX9_add_48 rfl ?_
  refine g_gI (pc := 49) dX9_add_49 fI_RX9_15 xc_52 (v := (rd u 52 1)) rfl ?_
  obtain ⟨h1, h2⟩ := x_inj2 h
  subst h1
  subst h2
  exact g_iret (pc := 52) dX9_add_52 rfl rfl rfl (Nat.le_refl _) (Nat.le_refl _)
set_option maxRecDepth 100000 in
set_option maxHeartbeats 4000000 in
theorem G_X9_add_3 {sc : Nat × (Nat → Int32)} {d : Nat} (hd : 0 ≤ d) {r : Int32} {u' : xS} : ∀ (n : Nat) (v1 : Int32) (v2 : Int32) (u : xS), f_X9_add_3 n v1 v2 u = some (r, u') → xG sc mX9_add d 0 0 (xR (some (.int r)) (xL0, u') 0 0) 0 0 3 [some (.ref 52), some (.int v1), some (.int v2)] [] (xL0, u) := by
  intro n
  induction n with
  | zero =>
    intro v1 v2 u h
    rw [f_X9_add_3] at h
    cases h
  | succ n ih =>
    intro v1 v2 u h
    rw [f_X9_add_3] at h
    refine g_iload_n (pc := 3) dX9_add_3 rfl ?_
    refine g_if_lt (tgt := 48) (pc := 4) dX9_add_4 (by decide) (fun c1 => ?_) (fun c1 => ?_)
    · replace h := (if_pos c1).symm.trans h
      refine g_L (L' := [some (.ref 52), none, none]) ⟨rfl, trivial⟩ ?_
      exact G_X9_add_48 hd u h
    · replace h := (if_neg c1).symm.trans h
      refine g_aload_n (pc := 7) dX9_add_7 rfl ?_
      refine g_gI (pc := 8) dX9_add_8 fI_RX9_15 xc_52 (v := (rd u 52 1)) rfl ?_
      refine g_bipush (pc := 11) dX9_add_11 bp_100 ?_
      refine g_icmp_ge (tgt := 48) (pc := 13) dX9_add_13 (by decide) (fun c2 => ?_) (fun c2 => ?_)
      · replace h := (if_pos c2).symm.trans h
        refine g_L (L' := [some (.ref 52), none, none]) ⟨rfl, trivial⟩ ?_
        exact G_X9_add_48 hd u h
      · replace h := (if_neg c2).symm.trans h
        refine g_aload_n (pc := 16) dX9_add_16 rfl ?_
        refine g_gR (pc := 17) dX9_add_17 fR_RX9_9 xc_52 (v := 53) rfl ?_
        refine g_aload_n (pc := 20) dX9_add_20 rfl ?_
        refine g_gI (pc := 21) dX9_add_21 fI_RX9_15 xc_52 (v := (rd u 52 1)) rfl ?_
        refine g_iload_n (pc := 24) dX9_add_24 rfl ?_
        refine g_iload_n (pc := 25) dX9_add_25 rfl ?_
        refine g_ishr (pc := 26) dX9_add_26 rfl ?_
        refine g_sipush (pc := 27) dX9_add_27 sp_255 ?_
        refine g_iand (pc := 30) dX9_add_30 rfl ?_
        obtain ⟨g3, h⟩ := x_gd h
        refine g_iastore (pc := 31) dX9_add_31 xc_53 (xin_of g3) (u' := (wr u 53 (rd u 52 1).toNatClampNeg ((v1 >>> (v2 &&& 31)) &&& (255 : Int32)))) rfl ?_
        refine g_aload_n (pc := 32) dX9_add_32 rfl ?_
        refine g_dup (pc := 33) dX9_add_33 rfl ?_
        refine g_gI (pc := 34) dX9_add_34 fI_RX9_15 xc_52 (v := (rd u 52 1)) rfl ?_
        refine g_iconst (pc := 37) dX9_add_37 ic_1 ?_
        refine g_iadd (pc := 38) dX9_add_38 rfl ?_
        refine g_pI (pc := 39) dX9_add_39 pI_RX9_15 xc_52 (u' := (wr (wr u 53 (rd u 52 1).toNatClampNeg ((v1 >>> (v2 &&& 31)) &&& (255 : Int32))) 52 1 ((rd u 52 1) + (1 : Int32)))) rfl ?_
        refine g_inc (pc := 42) dX9_add_42 (Nat.le_of_ble_eq_true rfl) rfl ic_m8 (L' := [some (.ref 52), some (.int v1), some (.int (v2 + (-8 : Int32)))]) rfl ?_
        refine g_goto (tgt := 3) (pc := 45) dX9_add_45 (by decide) ?_
        exact ih v1 (v2 + (-8 : Int32)) (wr (wr u 53 (rd u 52 1).toNatClampNeg ((v1 >>> (v2 &&& 31)) &&& (255 : Int32))) 52 1 ((rd u 52 1) + (1 : Int32))) h
set_option maxRecDepth 100000 in
set_option maxHeartbeats 4000000 in
theorem G_X9_add_0 {sc : Nat × (Nat → Int32)} {d : Nat} (hd : 0 ≤ d) {r : Int32} {u' : xS} (v1 : Int32) (u : xS) (h : f_X9_add v1 u = some (r, u')) : xG sc mX9_add d 0 0 (xR (some (.int r)) (xL0, u') 0 0) 0 0 0 [some (.ref 52), some (.int v1), none] [] (xL0, u) := by
  rw [f_X9_add] at h
  refine g_bipush (pc := 0) dX9_add_0 bp_24 ?_
  refine g_istore_n (pc := 2) dX9_add_2 (Nat.le_of_ble_eq_true rfl) (L' := [some (.ref 52), some (.int v1), some (.int (24 : Int32))]) rfl ?_
  exact G_X9_add_3 hd xN v1 (24 : Int32) u h
set_option maxRecDepth 100000 in
set_option maxHeartbeats 4000000 in
theorem M_X9_add {sc : Nat × (Nat → Int32)} {d : Nat} (hd : 0 ≤ d) {r : Int32} {u u' : xS} {a1 : Int32} (h : f_X9_add a1 u = some (r, u')) : xMt sc mX9_add d 0 0 [.ref 52, .int a1] (xL0, u) (some (.int r)) (xL0, u') :=
  xMt.of (by decide +kernel) (by decide +kernel) (Nat.le_of_ble_eq_true rfl) (L := [some (.ref 52), some (.int a1), none]) rfl ((G_X9_add_0 hd a1 u h))
set_option maxRecDepth 100000 in
set_option maxHeartbeats 4000000 in
theorem G_X11_sign_0 {sc : Nat × (Nat → Int32)} {d : Nat} (hd : 1 ≤ d) {r : Int32} {u' : xS} (v1 : Int32) (u : xS) (h : f_X11_sign v1 u = some (r, u')) : xG sc mX11_sign d 0 0 (xR (some (.int r)) (xL0, u') 0 0) 0 0 0 [some (.ref 0), some (.int v1)] [] (xL0, u) := by
  rw [f_X11_sign] at h
  refine g_aload_n (pc := 0) dX11_sign_0 rfl ?_
  refine g_gR (pc := 1) dX11_sign_1 fR_RX11_33 xc_0 (v := 52) rfl ?_
  refine g_gI (pc := 4) dX11_sign_4 fI_RX11_233 xc_52 (v := (rd u 52 1)) rfl ?_
  refine g_iconst (pc := 7) dX11_sign_7 ic_4 ?_
  refine g_iadd (pc := 8) dX11_sign_8 rfl ?_
  refine g_bipush (pc := 9) dX11_sign_9 bp_100 ?_
  refine g_icmp_gt (tgt := 25) (pc := 11) dX11_sign_11 (by decide) (fun c1 => ?_) (fun c1 => ?_)
  · replace h := (if_pos c1).symm.trans h
    refine g_iconst (pc := 25) dX11_sign_25 ic_m1 ?_
    obtain ⟨h1, h2⟩ := x_inj2 h
    subst h1
    subst h2
    exact g_iret (pc := 26) dX11_sign_26 rfl rfl rfl (Nat.le_refl _) (Nat.le_refl _)
  · replace h := (if_neg c1).symm.trans h
    refine g_aload_n (pc := 14) dX11_sign_14 rfl ?_
    refine g_gR (pc := 15) dX11_sign_15 fR_RX11_33 xc_0 (v := 52) rfl ?_
    refine g_iload_n (pc := 18) dX11_sign_18 rfl ?_
    obtain ⟨⟨x3, u4⟩, e2, h⟩ := x_bind h
    dsimp only at h
    refine g_cV (pc := 19) dX11_sign_19 cV_RX11_236 (M_X9_add (Nat.le_refl _) e2) xc_52 (as := [.int v1]) (st := []) rfl rfl (Nat.le_of_ble_eq_true rfl) (Nat.le_trans (Nat.le_of_ble_eq_true rfl) hd) rfl ?_
    refine g_goto (tgt := 26) (pc := 22) dX11_sign_22 (by decide) ?_
    obtain ⟨h1, h2⟩ := x_inj2 h
    subst h1
    subst h2
    exact g_iret (pc := 26) dX11_sign_26 rfl rfl rfl (Nat.le_refl _) (Nat.le_refl _)
set_option maxRecDepth 100000 in
set_option maxHeartbeats 4000000 in
theorem M_X11_sign {sc : Nat × (Nat → Int32)} {d : Nat} (hd : 1 ≤ d) {r : Int32} {u u' : xS} {a1 : Int32} (h : f_X11_sign a1 u = some (r, u')) : xMt sc mX11_sign d 0 0 [.ref 0, .int a1] (xL0, u) (some (.int r)) (xL0, u') :=
  xMt.of (by decide +kernel) (by decide +kernel) (Nat.le_of_ble_eq_true rfl) (L := [some (.ref 0), some (.int a1)]) rfl ((G_X11_sign_0 hd a1 u h))
set_option maxRecDepth 100000 in
set_option maxHeartbeats 4000000 in
theorem G_X8_add_0 {sc : Nat × (Nat → Int32)} {d : Nat} (hd : 0 ≤ d) {r : Int32} {u' : xS} (v1 : Int32) (v2 : Int32) (v3 : Int32) (v4 : Int32) (v5 : Int32) (v6 : Int32) (v7 : Int32) (u : xS) (h : f_X8_add v1 v2 v3 v4 v5 v6 v7 u = some (r, u')) : xG sc mX8_add d 0 0 (xR (some (.int r)) (xL0, u') 0 0) 0 0 0 [some (.ref 1), some (.int v1), some (.int v2), some (.int v3), some (.int v4), some (.int v5), some (.int v6), some (.int v7)] [] (xL0, u) := by
  rw [f_X8_add] at h
  refine g_aload_n (pc := 0) dX8_add_0 rfl ?_
  refine g_gI (pc := 1) dX8_add_1 fI_RX8_20 xc_1 (v := (rd u 1 2)) rfl ?_
  refine g_bipush (pc := 4) dX8_add_4 bp_16 ?_
  refine g_icmp_lt (tgt := 11) (pc := 6) dX8_add_6 (by decide) (fun c1 => ?_) (fun c1 => ?_)
  · replace h := (if_pos c1).symm.trans h
    refine g_aload_n (pc := 11) dX8_add_11 rfl ?_
    refine g_gR (pc := 12) dX8_add_12 fR_RX8_13 xc_1 (v := 2) rfl ?_
    refine g_iconst (pc := 15) dX8_add_15 ic_0 ?_
    refine g_aaload (pc := 16) dX8_add_16 xc_2 vin_0_6 (v := 3) rfl ?_
    refine g_aload_n (pc := 17) dX8_add_17 rfl ?_
    refine g_gI (pc := 18) dX8_add_18 fI_RX8_20 xc_1 (v := (rd u 1 2)) rfl ?_
    refine g_iload_n (pc := 21) dX8_add_21 rfl ?_
    obtain ⟨g2, h⟩ := x_gd h
    refine g_iastore (pc := 22) dX8_add_22 xc_3 (xin_of g2) (u' := (wr u 3 (rd u 1 2).toNatClampNeg v1)) rfl ?_
    refine g_aload_n (pc := 23) dX8_add_23 rfl ?_
    refine g_gR (pc := 24) dX8_add_24 fR_RX8_13 xc_1 (v := 2) rfl ?_
    refine g_iconst (pc := 27) dX8_add_27 ic_1 ?_
    refine g_aaload (pc := 28) dX8_add_28 xc_2 vin_1_6 (v := 4) rfl ?_
    refine g_aload_n (pc := 29) dX8_add_29 rfl ?_
    refine g_gI (pc := 30) dX8_add_30 fI_RX8_20 xc_1 (v := (rd u 1 2)) rfl ?_
    refine g_iload_n (pc := 33) dX8_add_33 rfl ?_
    refine g_iastore (pc := 34) dX8_add_34 xc_4 (xin_of g2) (u' := (wr (wr u 3 (rd u 1 2).toNatClampNeg v1) 4 (rd u 1 2).toNatClampNeg v2)) rfl ?_
    refine g_aload_n (pc := 35) dX8_add_35 rfl ?_
    refine g_gR (pc := 36) dX8_add_36 fR_RX8_13 xc_1 (v := 2) rfl ?_
    refine g_iconst (pc := 39) dX8_add_39 ic_2 ?_
    refine g_aaload (pc := 40) dX8_add_40 xc_2 vin_2_6 (v := 5) rfl ?_
    refine g_aload_n (pc := 41) dX8_add_41 rfl ?_
    refine g_gI (pc := 42) dX8_add_42 fI_RX8_20 xc_1 (v := (rd u 1 2)) rfl ?_
    refine g_iload_n (pc := 45) dX8_add_45 rfl ?_
    refine g_iastore (pc := 46) dX8_add_46 xc_5 (xin_of g2) (u' := (wr (wr (wr u 3 (rd u 1 2).toNatClampNeg v1) 4 (rd u 1 2).toNatClampNeg v2) 5 (rd u 1 2).toNatClampNeg v3)) rfl ?_
    refine g_aload_n (pc := 47) dX8_add_47 rfl ?_
    refine g_gR (pc := 48) dX8_add_48 fR_RX8_13 xc_1 (v := 2) rfl ?_
    refine g_iconst (pc := 51) dX8_add_51 ic_3 ?_
    refine g_aaload (pc := 52) dX8_add_52 xc_2 vin_3_6 (v := 6) rfl ?_
    refine g_aload_n (pc := 53) dX8_add_53 rfl ?_
    refine g_gI (pc := 54) dX8_add_54 fI_RX8_20 xc_1 (v := (rd u 1 2)) rfl ?_
    refine g_iload (pc := 57) dX8_add_57 rfl ?_
    refine g_iastore (pc := 59) dX8_add_59 xc_6 (xin_of g2) (u' := (wr (wr (wr (wr u 3 (rd u 1 2).toNatClampNeg v1) 4 (rd u 1 2).toNatClampNeg v2) 5 (rd u 1 2).toNatClampNeg v3) 6 (rd u 1 2).toNatClampNeg v4)) rfl ?_
    refine g_aload_n (pc := 60) dX8_add_60 rfl ?_
    refine g_gR (pc := 61) dX8_add_61 fR_RX8_13 xc_1 (v := 2) rfl ?_
    refine g_iconst (pc := 64) dX8_add_64 ic_4 ?_
    refine g_aaload (pc := 65) dX8_add_65 xc_2 vin_4_6 (v := 7) rfl ?_
    refine g_aload_n (pc := 66) dX8_add_66 rfl ?_
    refine g_gI (pc := 67) dX8_add_67 fI_RX8_20 xc_1 (v := (rd u 1 2)) rfl ?_
    refine g_iload (pc := 70) dX8_add_70 rfl ?_
    refine g_iastore (pc := 72) dX8_add_72 xc_7 (xin_of g2) (u' := (wr (wr (wr (wr (wr u 3 (rd u 1 2).toNatClampNeg v1) 4 (rd u 1 2).toNatClampNeg v2) 5 (rd u 1 2).toNatClampNeg v3) 6 (rd u 1 2).toNatClampNeg v4) 7 (rd u 1 2).toNatClampNeg v5)) rfl ?_
    refine g_aload_n (pc := 73) dX8_add_73 rfl ?_
    refine g_gR (pc := 74) dX8_add_74 fR_RX8_13 xc_1 (v := 2) rfl ?_
    refine g_iconst (pc := 77) dX8_add_77 ic_5 ?_
    refine g_aaload (pc := 78) dX8_add_78 xc_2 vin_5_6 (v := 8) rfl ?_
    refine g_aload_n (pc := 79) dX8_add_79 rfl ?_
    refine g_gI (pc := 80) dX8_add_80 fI_RX8_20 xc_1 (v := (rd u 1 2)) rfl ?_
    refine g_iload (pc := 83) dX8_add_83 rfl ?_
    refine g_iastore (pc := 85) dX8_add_85 xc_8 (xin_of g2) (u' := (wr (wr (wr (wr (wr (wr u 3 (rd u 1 2).toNatClampNeg v1) 4 (rd u 1 2).toNatClampNeg v2) 5 (rd u 1 2).toNatClampNeg v3) 6 (rd u 1 2).toNatClampNeg v4) 7 (rd u 1 2).toNatClampNeg v5) 8 (rd u 1 2).toNatClampNeg v6)) rfl ?_
    refine g_aload_n (pc := 86) dX8_add_86 rfl ?_
    refine g_gR (pc := 87) dX8_add_87 fR_RX8_16 xc_1 (v := 9) rfl ?_
    refine g_aload_n (pc := 90) dX8_add_90 rfl ?_
    refine g_gI (pc := 91) dX8_add_91 fI_RX8_20 xc_1 (v := (rd u 1 2)) rfl ?_
    refine g_iload (pc := 94) dX8_add_94 rfl ?_
    refine g_iastore (pc := 96) dX8_add_96 xc_9 (xin_of g2) (u' := (wr (wr (wr (wr (wr (wr (wr u 3 (rd u 1 2).toNatClampNeg v1) 4 (rd u 1 2).toNatClampNeg v2) 5 (rd u 1 2).toNatClampNeg v3) 6 (rd u 1 2).toNatClampNeg v4) 7 (rd u 1 2).toNatClampNeg v5) 8 (rd u 1 2).toNatClampNeg v6) 9 (rd u 1 2).toNatClampNeg v7)) rfl ?_
    refine g_aload_n (pc := 97) dX8_add_97 rfl ?_
    refine g_dup (pc := 98) dX8_add_98 rfl ?_
    refine g_gI (pc := 99) dX8_add_99 fI_RX8_20 xc_1 (v := (rd u 1 2)) rfl ?_
    refine g_dup_x1 (pc := 102) dX8_add_102 rfl rfl ?_
    refine g_iconst (pc := 103) dX8_add_103 ic_1 ?_
    refine g_iadd (pc := 104) dX8_add_104 rfl ?_
    refine g_pI (pc := 105) dX8_add_105 pI_RX8_20 xc_1 (u' := (wr (wr (wr (wr (wr (wr (wr (wr u 3 (rd u 1 2).toNatClampNeg v1) 4 (rd u 1 2).toNatClampNeg v2) 5 (rd u 1 2).toNatClampNeg v3) 6 (rd u 1 2).toNatClampNeg v4) 7 (rd u 1 2).toNatClampNeg v5) 8 (rd u 1 2).toNatClampNeg v6) 9 (rd u 1 2).toNatClampNeg v7) 1 2 ((rd u 1 2) + (1 : Int32)))) rfl ?_
    obtain ⟨h1, h2⟩ := x_inj2 h
    subst h1
    subst h2
    exact g_iret (pc := 108) dX8_add_108 rfl rfl rfl (Nat.le_refl _) (Nat.le_refl _)
  · replace h := (if_neg c1).symm.trans h
    refine g_iconst (pc := 9) dX8_add_9 ic_m1 ?_
    obtain ⟨h1, h2⟩ := x_inj2 h
    subst h1
    subst h2
    exact g_iret (pc := 10) dX8_add_10 rfl rfl rfl (Nat.le_refl _) (Nat.le_refl _)
set_option maxRecDepth 100000 in
set_option maxHeartbeats 4000000 in
theorem M_X8_add {sc : Nat × (Nat → Int32)} {d : Nat} (hd : 0 ≤ d) {r : Int32} {u u' : xS} {a1 : Int32} {a2 : Int32} {a3 : Int32} {a4 : Int32} {a5 : Int32} {a6 : Int32} {a7 : Int32} (h : f_X8_add a1 a2 a3 a4 a5 a6 a7 u = some (r, u')) : xMt sc mX8_add d 0 0 [.ref 1, .int a1, .int a2, .int a3, .int a4, .int a5, .int a6, .int a7] (xL0, u) (some (.int r)) (xL0, u') :=
  xMt.of (by decide +kernel) (by decide +kernel) (Nat.le_of_ble_eq_true rfl) (L := [some (.ref 1), some (.int a1), some (.int a2), some (.int a3), some (.int a4), some (.int a5), some (.int a6), some (.int a7)]) rfl ((G_X8_add_0 hd a1 a2 a3 a4 a5 a6 a7 u h))
set_option maxRecDepth 100000 in
set_option maxHeartbeats 4000000 in
theorem G_X11_sort_101 {sc : Nat × (Nat → Int32)} {d : Nat} (hd : 1 ≤ d) {r : Int32} {u' : xS} (v1 : Int32) (v2 : Int32) (v3 : Int32) (v4 : Int32) (v5 : Int32) (v6 : Int32) (v7 : Int32) (v8 : Int32) (v9 : Int32) (s0 : Int32) (u : xS) (h : f_X11_sort_101 v1 v2 v3 v4 v5 v6 v7 v8 v9 s0 u = some (r, u')) : xG sc mX11_sort d 0 0 (xR (some (.int r)) (xL0, u') 0 0) 0 0 101 [some (.ref 0), some (.int v1), some (.int v2), some (.int v3), some (.int v4), some (.int v5), some (.int v6), some (.int v7), some (.int v8), some (.int v9), none] [.int s0] (xL0, u) := by
  rw [f_X11_sort_101] at h
  refine g_istore (pc := 101) dX11_sort_101 (Nat.le_of_ble_eq_true rfl) (L' := [some (.ref 0), some (.int v1), some (.int v2), some (.int v3), some (.int v4), some (.int v5), some (.int v6), some (.int v7), some (.int v8), some (.int v9), some (.int s0)]) rfl ?_
  refine g_iload (pc := 103) dX11_sort_103 rfl ?_
  refine g_if_eq (tgt := 141) (pc := 105) dX11_sort_105 (by decide) (fun c1 => ?_) (fun c1 => ?_)
  · replace h := (if_pos c1).symm.trans h
    refine g_iconst (pc := 141) dX11_sort_141 ic_m1 ?_
    obtain ⟨h1, h2⟩ := x_inj2 h
    subst h1
    subst h2
    exact g_iret (pc := 142) dX11_sort_142 rfl rfl rfl (Nat.le_refl _) (Nat.le_refl _)
  · replace h := (if_neg c1).symm.trans h
    refine g_iload (pc := 108) dX11_sort_108 rfl ?_
    refine g_if_eq (tgt := 141) (pc := 110) dX11_sort_110 (by decide) (fun c2 => ?_) (fun c2 => ?_)
    · replace h := (if_pos c2).symm.trans h
      refine g_iconst (pc := 141) dX11_sort_141 ic_m1 ?_
      obtain ⟨h1, h2⟩ := x_inj2 h
      subst h1
      subst h2
      exact g_iret (pc := 142) dX11_sort_142 rfl rfl rfl (Nat.le_refl _) (Nat.le_refl _)
    · replace h := (if_neg c2).symm.trans h
      refine g_iload (pc := 113) dX11_sort_113 rfl ?_
      refine g_if_eq (tgt := 141) (pc := 115) dX11_sort_115 (by decide) (fun c3 => ?_) (fun c3 => ?_)
      · replace h := (if_pos c3).symm.trans h
        refine g_iconst (pc := 141) dX11_sort_141 ic_m1 ?_
        obtain ⟨h1, h2⟩ := x_inj2 h
        subst h1
        subst h2
        exact g_iret (pc := 142) dX11_sort_142 rfl rfl rfl (Nat.le_refl _) (Nat.le_refl _)
      · replace h := (if_neg c3).symm.trans h
        refine g_iload (pc := 118) dX11_sort_118 rfl ?_
        refine g_iconst (pc := 120) dX11_sort_120 ic_1 ?_
        refine g_bipush (pc := 121) dX11_sort_121 bp_99 ?_
        refine g_cS (pc := 123) dX11_sort_123 cS_RX11_94 (M_X11_lies (Nat.le_refl _) rfl) (as := [.int v4, .int (1 : Int32), .int (99 : Int32)]) (st := []) rfl rfl (Nat.le_of_ble_eq_true rfl) (Nat.le_trans (Nat.le_of_ble_eq_true rfl) hd) rfl ?_
        refine g_if_eq (tgt := 141) (pc := 126) dX11_sort_126 (by decide) (fun c4 => ?_) (fun c4 => ?_)
        · replace h := (if_pos c4).symm.trans h
          refine g_iconst (pc := 141) dX11_sort_141 ic_m1 ?_
          obtain ⟨h1, h2⟩ := x_inj2 h
          subst h1
          subst h2
          exact g_iret (pc := 142) dX11_sort_142 rfl rfl rfl (Nat.le_refl _) (Nat.le_refl _)
        · replace h := (if_neg c4).symm.trans h
          refine g_aload_n (pc := 129) dX11_sort_129 rfl ?_
          refine g_gR (pc := 130) dX11_sort_130 fR_RX11_12 xc_0 (v := 1) rfl ?_
          refine g_gI (pc := 133) dX11_sort_133 fI_RX11_102 xc_1 (v := (rd u 1 2)) rfl ?_
          refine g_bipush (pc := 136) dX11_sort_136 bp_16 ?_
          refine g_icmp_lt (tgt := 143) (pc := 138) dX11_sort_138 (by decide) (fun c5 => ?_) (fun c5 => ?_)
          · replace h := (if_pos c5).symm.trans h
            refine g_aload_n (pc := 143) dX11_sort_143 rfl ?_
            refine g_gR (pc := 144) dX11_sort_144 fR_RX11_12 xc_0 (v := 1) rfl ?_
            refine g_iload_n (pc := 147) dX11_sort_147 rfl ?_
            refine g_iload_n (pc := 148) dX11_sort_148 rfl ?_
            refine g_iload_n (pc := 149) dX11_sort_149 rfl ?_
            refine g_iload (pc := 150) dX11_sort_150 rfl ?_
            refine g_iload (pc := 152) dX11_sort_152 rfl ?_
            refine g_iload (pc := 154) dX11_sort_154 rfl ?_
            refine g_iload (pc := 156) dX11_sort_156 rfl ?_
            obtain ⟨⟨x7, u8⟩, e6, h⟩ := x_bind h
            dsimp only at h
            refine g_cV (pc := 158) dX11_sort_158 cV_RX11_105 (M_X8_add (Nat.le_refl _) e6) xc_1 (as := [.int v1, .int v2, .int v3, .int v4, .int v5, .int v6, .int v7]) (st := []) rfl rfl (Nat.le_of_ble_eq_true rfl) (Nat.le_trans (Nat.le_of_ble_eq_true rfl) hd) rfl ?_
            obtain ⟨h1, h2⟩ := x_inj2 h
            subst h1
            subst h2
            exact g_iret (pc := 161) dX11_sort_161 rfl rfl rfl (Nat.le_refl _) (Nat.le_refl _)
          · replace h := (if_neg c5).symm.trans h
            refine g_iconst (pc := 141) dX11_sort_141 ic_m1 ?_
            obtain ⟨h1, h2⟩ := x_inj2 h
            subst h1
            subst h2
            exact g_iret (pc := 142) dX11_sort_142 rfl rfl rfl (Nat.le_refl _) (Nat.le_refl _)
set_option maxRecDepth 100000 in
set_option maxHeartbeats 4000000 in
theorem G_X11_sort_96 {sc : Nat × (Nat → Int32)} {d : Nat} (hd : 1 ≤ d) {r : Int32} {u' : xS} (v1 : Int32) (v2 : Int32) (v3 : Int32) (v4 : Int32) (v5 : Int32) (v6 : Int32) (v7 : Int32) (v8 : Int32) (v9 : Int32) (u : xS) (h : f_X11_sort_96 v1 v2 v3 v4 v5 v6 v7 v8 v9 u = some (r, u')) : xG sc mX11_sort d 0 0 (xR (some (.int r)) (xL0, u') 0 0) 0 0 96 [some (.ref 0), some (.int v1), some (.int v2), some (.int v3), some (.int v4), some (.int v5), some (.int v6), some (.int v7), some (.int v8), some (.int v9), none] [] (xL0, u) := by
  rw [f_X11_sort_96] at h
  refine g_iconst (pc := 96) dX11_sort_96 ic_1 ?_
  refine g_goto (tgt := 101) (pc := 97) dX11_sort_97 (by decide) ?_
  exact G_X11_sort_101 hd v1 v2 v3 v4 v5 v6 v7 v8 v9 (1 : Int32) u h
set_option maxRecDepth 100000 in
set_option maxHeartbeats 4000000 in
theorem G_X11_sort_76 {sc : Nat × (Nat → Int32)} {d : Nat} (hd : 1 ≤ d) {r : Int32} {u' : xS} (v1 : Int32) (v2 : Int32) (v3 : Int32) (v4 : Int32) (v5 : Int32) (v6 : Int32) (v7 : Int32) (v8 : Int32) (s0 : Int32) (u : xS) (h : f_X11_sort_76 v1 v2 v3 v4 v5 v6 v7 v8 s0 u = some (r, u')) : xG sc mX11_sort d 0 0 (xR (some (.int r)) (xL0, u') 0 0) 0 0 76 [some (.ref 0), some (.int v1), some (.int v2), some (.int v3), some (.int v4), some (.int v5), some (.int v6), some (.int v7), some (.int v8), none, none] [.int s0] (xL0, u) := by
  rw [f_X11_sort_76] at h
  refine g_istore (pc := 76) dX11_sort_76 (Nat.le_of_ble_eq_true rfl) (L' := [some (.ref 0), some (.int v1), some (.int v2), some (.int v3), some (.int v4), some (.int v5), some (.int v6), some (.int v7), some (.int v8), some (.int s0), none]) rfl ?_
  refine g_iload (pc := 78) dX11_sort_78 rfl ?_
  refine g_iconst (pc := 80) dX11_sort_80 ic_m1 ?_
  refine g_icmp_eq (tgt := 96) (pc := 81) dX11_sort_81 (by decide) (fun c1 => ?_) (fun c1 => ?_)
  · replace h := (if_pos c1).symm.trans h
    exact G_X11_sort_96 hd v1 v2 v3 v4 v5 v6 v7 v8 s0 u h
  · replace h := (if_neg c1).symm.trans h
    refine g_aload_n (pc := 84) dX11_sort_84 rfl ?_
    refine g_gR (pc := 85) dX11_sort_85 fR_RX11_12 xc_0 (v := 1) rfl ?_
    refine g_iload (pc := 88) dX11_sort_88 rfl ?_
    refine g_cV (pc := 90) dX11_sort_90 cV_RX11_98 (M_X8_has (Nat.le_refl _) rfl) xc_1 (as := [.int v7]) (st := []) rfl rfl (Nat.le_of_ble_eq_true rfl) (Nat.le_trans (Nat.le_of_ble_eq_true rfl) hd) rfl ?_
    refine g_if_eq (tgt := 100) (pc := 93) dX11_sort_93 (by decide) (fun c2 => ?_) (fun c2 => ?_)
    · replace h := (if_pos c2).symm.trans h
      refine g_iconst (pc := 100) dX11_sort_100 ic_0 ?_
      exact G_X11_sort_101 hd v1 v2 v3 v4 v5 v6 v7 v8 s0 (0 : Int32) u h
    · replace h := (if_neg c2).symm.trans h
      exact G_X11_sort_96 hd v1 v2 v3 v4 v5 v6 v7 v8 s0 u h
set_option maxRecDepth 100000 in
set_option maxHeartbeats 4000000 in
theorem G_X11_sort_75 {sc : Nat × (Nat → Int32)} {d : Nat} (hd : 1 ≤ d) {r : Int32} {u' : xS} (v1 : Int32) (v2 : Int32) (v3 : Int32) (v4 : Int32) (v5 : Int32) (v6 : Int32) (v7 : Int32) (v8 : Int32) (u : xS) (h : f_X11_sort_75 v1 v2 v3 v4 v5 v6 v7 v8 u = some (r, u')) : xG sc mX11_sort d 0 0 (xR (some (.int r)) (xL0, u') 0 0) 0 0 75 [some (.ref 0), some (.int v1), some (.int v2), some (.int v3), some (.int v4), some (.int v5), some (.int v6), some (.int v7), some (.int v8), none, none] [] (xL0, u) := by
  rw [f_X11_sort_75] at h
  refine g_iconst (pc := 75) dX11_sort_75 ic_0 ?_
  exact G_X11_sort_76 hd v1 v2 v3 v4 v5 v6 v7 v8 (0 : Int32) u h
set_option maxRecDepth 100000 in
set_option maxHeartbeats 4000000 in
theorem G_X11_sort_38 {sc : Nat × (Nat → Int32)} {d : Nat} (hd : 1 ≤ d) {r : Int32} {u' : xS} (v1 : Int32) (v2 : Int32) (v3 : Int32) (v4 : Int32) (v5 : Int32) (v6 : Int32) (v7 : Int32) (s0 : Int32) (u : xS) (h : f_X11_sort_38 v1 v2 v3 v4 v5 v6 v7 s0 u = some (r, u')) : xG sc mX11_sort d 0 0 (xR (some (.int r)) (xL0, u') 0 0) 0 0 38 [some (.ref 0), some (.int v1), some (.int v2), some (.int v3), some (.int v4), some (.int v5), some (.int v6), some (.int v7), none, none, none] [.int s0] (xL0, u) := by
  rw [f_X11_sort_38] at h
  refine g_istore (pc := 38) dX11_sort_38 (Nat.le_of_ble_eq_true rfl) (L' := [some (.ref 0), some (.int v1), some (.int v2), some (.int v3), some (.int v4), some (.int v5), some (.int v6), some (.int v7), some (.int s0), none, none]) rfl ?_
  refine g_iload (pc := 40) dX11_sort_40 rfl ?_
  refine g_iconst (pc := 42) dX11_sort_42 ic_0 ?_
  refine g_sipush (pc := 43) dX11_sort_43 sp_1000 ?_
  refine g_cS (pc := 46) dX11_sort_46 cS_RX11_94 (M_X11_lies (Nat.le_refl _) rfl) (as := [.int v5, .int (0 : Int32), .int (1000 : Int32)]) (st := []) rfl rfl (Nat.le_of_ble_eq_true rfl) (Nat.le_trans (Nat.le_of_ble_eq_true rfl) hd) rfl ?_
  refine g_if_eq (tgt := 75) (pc := 49) dX11_sort_49 (by decide) (fun c1 => ?_) (fun c1 => ?_)
  · replace h := (if_pos c1).symm.trans h
    exact G_X11_sort_75 hd v1 v2 v3 v4 v5 v6 v7 s0 u h
  · replace h := (if_neg c1).symm.trans h
    refine g_iload (pc := 52) dX11_sort_52 rfl ?_
    refine g_iconst (pc := 54) dX11_sort_54 ic_0 ?_
    refine g_sipush (pc := 55) dX11_sort_55 sp_1000 ?_
    refine g_cS (pc := 58) dX11_sort_58 cS_RX11_94 (M_X11_lies (Nat.le_refl _) rfl) (as := [.int v6, .int (0 : Int32), .int (1000 : Int32)]) (st := []) rfl rfl (Nat.le_of_ble_eq_true rfl) (Nat.le_trans (Nat.le_of_ble_eq_true rfl) hd) rfl ?_
    refine g_if_eq (tgt := 75) (pc := 61) dX11_sort_61 (by decide) (fun c2 => ?_) (fun c2 => ?_)
    · replace h := (if_pos c2).symm.trans h
      exact G_X11_sort_75 hd v1 v2 v3 v4 v5 v6 v7 s0 u h
    · replace h := (if_neg c2).symm.trans h
      refine g_iload (pc := 64) dX11_sort_64 rfl ?_
      refine g_iload (pc := 66) dX11_sort_66 rfl ?_
      refine g_icmp_gt (tgt := 75) (pc := 68) dX11_sort_68 (by decide) (fun c3 => ?_) (fun c3 => ?_)
      · replace h := (if_pos c3).symm.trans h
        exact G_X11_sort_75 hd v1 v2 v3 v4 v5 v6 v7 s0 u h
      · replace h := (if_neg c3).symm.trans h
        refine g_iconst (pc := 71) dX11_sort_71 ic_1 ?_
        refine g_goto (tgt := 76) (pc := 72) dX11_sort_72 (by decide) ?_
        exact G_X11_sort_76 hd v1 v2 v3 v4 v5 v6 v7 s0 (1 : Int32) u h
set_option maxRecDepth 100000 in
set_option maxHeartbeats 4000000 in
theorem G_X11_sort_37 {sc : Nat × (Nat → Int32)} {d : Nat} (hd : 1 ≤ d) {r : Int32} {u' : xS} (v1 : Int32) (v2 : Int32) (v3 : Int32) (v4 : Int32) (v5 : Int32) (v6 : Int32) (v7 : Int32) (u : xS) (h : f_X11_sort_37 v1 v2 v3 v4 v5 v6 v7 u = some (r, u')) : xG sc mX11_sort d 0 0 (xR (some (.int r)) (xL0, u') 0 0) 0 0 37 [some (.ref 0), some (.int v1), some (.int v2), some (.int v3), some (.int v4), some (.int v5), some (.int v6), some (.int v7), none, none, none] [] (xL0, u) := by
  rw [f_X11_sort_37] at h
  refine g_iconst (pc := 37) dX11_sort_37 ic_0 ?_
  exact G_X11_sort_38 hd v1 v2 v3 v4 v5 v6 v7 (0 : Int32) u h
set_option maxRecDepth 100000 in
set_option maxHeartbeats 4000000 in
theorem G_X11_sort_0 {sc : Nat × (Nat → Int32)} {d : Nat} (hd : 1 ≤ d) {r : Int32} {u' : xS} (v1 : Int32) (v2 : Int32) (v3 : Int32) (v4 : Int32) (v5 : Int32) (v6 : Int32) (v7 : Int32) (u : xS) (h : f_X11_sort v1 v2 v3 v4 v5 v6 v7 u = some (r, u')) : xG sc mX11_sort d 0 0 (xR (some (.int r)) (xL0, u') 0 0) 0 0 0 [some (.ref 0), some (.int v1), some (.int v2), some (.int v3), some (.int v4), some (.int v5), some (.int v6), some (.int v7), none, none, none] [] (xL0, u) := by
  rw [f_X11_sort] at h
  refine g_iload_n (pc := 0) dX11_sort_0 rfl ?_
  refine g_iconst (pc := 1) dX11_sort_1 ic_0 ?_
  refine g_sipush (pc := 2) dX11_sort_2 sp_255 ?_
  refine g_cS (pc := 5) dX11_sort_5 cS_RX11_94 (M_X11_lies (Nat.le_refl _) rfl) (as := [.int v1, .int (0 : Int32), .int (255 : Int32)]) (st := []) rfl rfl (Nat.le_of_ble_eq_true rfl) (Nat.le_trans (Nat.le_of_ble_eq_true rfl) hd) rfl ?_
  refine g_if_eq (tgt := 37) (pc := 8) dX11_sort_8 (by decide) (fun c1 => ?_) (fun c1 => ?_)
  · replace h := (if_pos c1).symm.trans h
    exact G_X11_sort_37 hd v1 v2 v3 v4 v5 v6 v7 u h
  · replace h := (if_neg c1).symm.trans h
    refine g_iload_n (pc := 11) dX11_sort_11 rfl ?_
    refine g_iconst (pc := 12) dX11_sort_12 ic_0 ?_
    refine g_sipush (pc := 13) dX11_sort_13 sp_255 ?_
    refine g_cS (pc := 16) dX11_sort_16 cS_RX11_94 (M_X11_lies (Nat.le_refl _) rfl) (as := [.int v2, .int (0 : Int32), .int (255 : Int32)]) (st := []) rfl rfl (Nat.le_of_ble_eq_true rfl) (Nat.le_trans (Nat.le_of_ble_eq_true rfl) hd) rfl ?_
    refine g_if_eq (tgt := 37) (pc := 19) dX11_sort_19 (by decide) (fun c2 => ?_) (fun c2 => ?_)
    · replace h := (if_pos c2).symm.trans h
      exact G_X11_sort_37 hd v1 v2 v3 v4 v5 v6 v7 u h
    · replace h := (if_neg c2).symm.trans h
      refine g_iload_n (pc := 22) dX11_sort_22 rfl ?_
      refine g_iconst (pc := 23) dX11_sort_23 ic_0 ?_
      refine g_sipush (pc := 24) dX11_sort_24 sp_255 ?_
      refine g_cS (pc := 27) dX11_sort_27 cS_RX11_94 (M_X11_lies (Nat.le_refl _) rfl) (as := [.int v3, .int (0 : Int32), .int (255 : Int32)]) (st := []) rfl rfl (Nat.le_of_ble_eq_true rfl) (Nat.le_trans (Nat.le_of_ble_eq_true rfl) hd) rfl ?_
      refine g_if_eq (tgt := 37) (pc := 30) dX11_sort_30 (by decide) (fun c3 => ?_) (fun c3 => ?_)
      · replace h := (if_pos c3).symm.trans h
        exact G_X11_sort_37 hd v1 v2 v3 v4 v5 v6 v7 u h
      · replace h := (if_neg c3).symm.trans h
        refine g_iconst (pc := 33) dX11_sort_33 ic_1 ?_
        refine g_goto (tgt := 38) (pc := 34) dX11_sort_34 (by decide) ?_
        exact G_X11_sort_38 hd v1 v2 v3 v4 v5 v6 v7 (1 : Int32) u h
set_option maxRecDepth 100000 in
set_option maxHeartbeats 4000000 in
theorem M_X11_sort {sc : Nat × (Nat → Int32)} {d : Nat} (hd : 1 ≤ d) {r : Int32} {u u' : xS} {a1 : Int32} {a2 : Int32} {a3 : Int32} {a4 : Int32} {a5 : Int32} {a6 : Int32} {a7 : Int32} (h : f_X11_sort a1 a2 a3 a4 a5 a6 a7 u = some (r, u')) : xMt sc mX11_sort d 0 0 [.ref 0, .int a1, .int a2, .int a3, .int a4, .int a5, .int a6, .int a7] (xL0, u) (some (.int r)) (xL0, u') :=
  xMt.of (by decide +kernel) (by decide +kernel) (Nat.le_of_ble_eq_true rfl) (L := [some (.ref 0), some (.int a1), some (.int a2), some (.int a3), some (.int a4), some (.int a5), some (.int a6), some (.int a7), none, none, none]) rfl ((G_X11_sort_0 hd a1 a2 a3 a4 a5 a6 a7 u h))
set_option maxRecDepth 100000 in
set_option maxHeartbeats 4000000 in
theorem G_X11_store_75 {sc : Nat × (Nat → Int32)} {d : Nat} (hd : 2 ≤ d) {r : Int32} {u : xS} {k27 : Int32 → Int32 → Int32 → Int32 → Option Int32} (hk27 : ∀ (v1 : Int32) (v2 : Int32) (v3 : Int32) (v4 : Int32), k27 v1 v2 v3 v4 = some r → xG sc mX11_store d 0 0 (xR (some (.int r)) (xL0, u) 0 0) 0 0 27 [some (.ref 0), some (.int v1), some (.int v2), some (.int v3), some (.int v4)] [] (xL0, u)) (v1 : Int32) (v2 : Int32) (v3 : Int32) (v4 : Int32) (h : f_X11_store_75 k27 u v1 v2 v3 v4 = some r) : xG sc mX11_store d 0 0 (xR (some (.int r)) (xL0, u) 0 0) 0 0 75 [some (.ref 0), some (.int v1), some (.int v2), some (.int v3), some (.int v4)] [] (xL0, u) := by
  rw [f_X11_store_75] at h
  refine g_inc (pc := 75) dX11_store_75 (Nat.le_of_ble_eq_true rfl) rfl ic_1 (L' := [some (.ref 0), some (.int v1), some (.int v2), some (.int v3), some (.int (v4 + (1 : Int32)))]) rfl ?_
  refine g_goto (tgt := 27) (pc := 78) dX11_store_78 (by decide) ?_
  exact hk27 v1 v2 v3 (v4 + (1 : Int32)) h
set_option maxRecDepth 100000 in
set_option maxHeartbeats 4000000 in
theorem G_X11_store_63 {sc : Nat × (Nat → Int32)} {d : Nat} (hd : 2 ≤ d) {r : Int32} {u : xS} {k27 : Int32 → Int32 → Int32 → Int32 → Option Int32} (hk27 : ∀ (v1 : Int32) (v2 : Int32) (v3 : Int32) (v4 : Int32), k27 v1 v2 v3 v4 = some r → xG sc mX11_store d 0 0 (xR (some (.int r)) (xL0, u) 0 0) 0 0 27 [some (.ref 0), some (.int v1), some (.int v2), some (.int v3), some (.int v4)] [] (xL0, u)) (v1 : Int32) (v2 : Int32) (v3 : Int32) (v4 : Int32) (h : f_X11_store_63 k27 u v1 v2 v3 v4 = some r) : xG sc mX11_store d 0 0 (xR (some (.int r)) (xL0, u) 0 0) 0 0 63 [some (.ref 0), some (.int v1), some (.int v2), some (.int v3), some (.int v4)] [] (xL0, u) := by
  rw [f_X11_store_63] at h
  refine g_iload_n (pc := 63) dX11_store_63 rfl ?_
  refine g_aload_n (pc := 64) dX11_store_64 rfl ?_
  refine g_gR (pc := 65) dX11_store_65 fR_RX11_54 xc_0 (v := 74) rfl ?_
  refine g_iload (pc := 68) dX11_store_68 rfl ?_
  obtain ⟨x2, e1, h⟩ := x_bind h
  refine g_cV (pc := 70) dX11_store_70 cV_RX11_263 (M_X6_ofSort (Nat.le_refl _) e1) xc_74 (as := [.int v4]) (st := [.int v3]) rfl rfl (Nat.le_of_ble_eq_true rfl) (Nat.le_trans (Nat.le_of_ble_eq_true rfl) hd) rfl ?_
  refine g_iadd (pc := 73) dX11_store_73 rfl ?_
  refine g_istore_n (pc := 74) dX11_store_74 (Nat.le_of_ble_eq_true rfl) (L' := [some (.ref 0), some (.int v1), some (.int v2), some (.int (v3 + x2)), some (.int v4)]) rfl ?_
  exact G_X11_store_75 hd hk27 v1 v2 (v3 + x2) v4 h
set_option maxRecDepth 100000 in
set_option maxHeartbeats 4000000 in
theorem G_X11_store_27 {sc : Nat × (Nat → Int32)} {d : Nat} (hd : 2 ≤ d) {r : Int32} {u : xS} : ∀ (n : Nat) (v1 : Int32) (v2 : Int32) (v3 : Int32) (v4 : Int32), f_X11_store_27 u n v1 v2 v3 v4 = some r → xG sc mX11_store d 0 0 (xR (some (.int r)) (xL0, u) 0 0) 0 0 27 [some (.ref 0), some (.int v1), some (.int v2), some (.int v3), some (.int v4)] [] (xL0, u) := by
  intro n
  induction n with
  | zero =>
    intro v1 v2 v3 v4 h
    rw [f_X11_store_27] at h
    cases h
  | succ n ih =>
    intro v1 v2 v3 v4 h
    rw [f_X11_store_27] at h
    refine g_iload (pc := 27) dX11_store_27 rfl ?_
    refine g_aload_n (pc := 29) dX11_store_29 rfl ?_
    refine g_gR (pc := 30) dX11_store_30 fR_RX11_12 xc_0 (v := 1) rfl ?_
    refine g_gI (pc := 33) dX11_store_33 fI_RX11_102 xc_1 (v := (rd u 1 2)) rfl ?_
    refine g_icmp_ge (tgt := 81) (pc := 36) dX11_store_36 (by decide) (fun c1 => ?_) (fun c1 => ?_)
    · replace h := (if_pos c1).symm.trans h
      refine g_iload_n (pc := 81) dX11_store_81 rfl ?_
      replace h := Option.some.inj h
      subst h
      exact g_iret (pc := 82) dX11_store_82 rfl rfl rfl (Nat.le_refl _) (Nat.le_refl _)
    · replace h := (if_neg c1).symm.trans h
      refine g_iload (pc := 39) dX11_store_39 rfl ?_
      refine g_iload_n (pc := 41) dX11_store_41 rfl ?_
      refine g_icmp_eq (tgt := 63) (pc := 42) dX11_store_42 (by decide) (fun c2 => ?_) (fun c2 => ?_)
      · replace h := (if_pos c2).symm.trans h
        exact G_X11_store_63 hd ih v1 v2 v3 v4 h
      · replace h := (if_neg c2).symm.trans h
        refine g_iload_n (pc := 45) dX11_store_45 rfl ?_
        refine g_iconst (pc := 46) dX11_store_46 ic_1 ?_
        refine g_icmp_ne (tgt := 75) (pc := 47) dX11_store_47 (by decide) (fun c3 => ?_) (fun c3 => ?_)
        · replace h := (if_neg c3).symm.trans h
          exact G_X11_store_75 hd ih v1 v2 v3 v4 h
        · replace h := (if_pos c3).symm.trans h
          refine g_aload_n (pc := 50) dX11_store_50 rfl ?_
          refine g_gR (pc := 51) dX11_store_51 fR_RX11_12 xc_0 (v := 1) rfl ?_
          refine g_iload (pc := 54) dX11_store_54 rfl ?_
          refine g_iload_n (pc := 56) dX11_store_56 rfl ?_
          obtain ⟨x5, e4, h⟩ := x_bind h
          refine g_cV (pc := 57) dX11_store_57 cV_RX11_123 (M_X8_isPart (Nat.le_refl _) e4) xc_1 (as := [.int v4, .int v1]) (st := []) rfl rfl (Nat.le_of_ble_eq_true rfl) (Nat.le_trans (Nat.le_of_ble_eq_true rfl) hd) rfl ?_
          refine g_if_eq (tgt := 75) (pc := 60) dX11_store_60 (by decide) (fun c6 => ?_) (fun c6 => ?_)
          · replace h := (if_pos c6).symm.trans h
            exact G_X11_store_75 hd ih v1 v2 v3 v4 h
          · replace h := (if_neg c6).symm.trans h
            exact G_X11_store_63 hd ih v1 v2 v3 v4 h
set_option maxRecDepth 100000 in
set_option maxHeartbeats 4000000 in
theorem G_X11_store_0 {sc : Nat × (Nat → Int32)} {d : Nat} (hd : 2 ≤ d) {r : Int32} {u : xS} (v1 : Int32) (v2 : Int32) (h : f_X11_store u v1 v2 = some r) : xG sc mX11_store d 0 0 (xR (some (.int r)) (xL0, u) 0 0) 0 0 0 [some (.ref 0), some (.int v1), some (.int v2), none, none] [] (xL0, u) := by
  rw [f_X11_store] at h
  refine g_aload_n (pc := 0) dX11_store_0 rfl ?_
  refine g_gR (pc := 1) dX11_store_1 fR_RX11_12 xc_0 (v := 1) rfl ?_
  refine g_iload_n (pc := 4) dX11_store_4 rfl ?_
  refine g_cV (pc := 5) dX11_store_5 cV_RX11_98 (M_X8_has (Nat.le_refl _) rfl) xc_1 (as := [.int v1]) (st := []) rfl rfl (Nat.le_of_ble_eq_true rfl) (Nat.le_trans (Nat.le_of_ble_eq_true rfl) hd) rfl ?_
  refine g_if_eq (tgt := 20) (pc := 8) dX11_store_8 (by decide) (fun c1 => ?_) (fun c1 => ?_)
  · replace h := (if_pos c1).symm.trans h
    refine g_iconst (pc := 20) dX11_store_20 ic_m1 ?_
    replace h := Option.some.inj h
    subst h
    exact g_iret (pc := 21) dX11_store_21 rfl rfl rfl (Nat.le_refl _) (Nat.le_refl _)
  · replace h := (if_neg c1).symm.trans h
    refine g_iload_n (pc := 11) dX11_store_11 rfl ?_
    refine g_iconst (pc := 12) dX11_store_12 ic_0 ?_
    refine g_iconst (pc := 13) dX11_store_13 ic_1 ?_
    refine g_cS (pc := 14) dX11_store_14 cS_RX11_94 (M_X11_lies (Nat.le_refl _) rfl) (as := [.int v2, .int (0 : Int32), .int (1 : Int32)]) (st := []) rfl rfl (Nat.le_of_ble_eq_true rfl) (Nat.le_trans (Nat.le_of_ble_eq_true rfl) hd) rfl ?_
    refine g_if_ne (tgt := 22) (pc := 17) dX11_store_17 (by decide) (fun c2 => ?_) (fun c2 => ?_)
    · replace h := (if_neg c2).symm.trans h
      refine g_iconst (pc := 22) dX11_store_22 ic_0 ?_
      refine g_istore_n (pc := 23) dX11_store_23 (Nat.le_of_ble_eq_true rfl) (L' := [some (.ref 0), some (.int v1), some (.int v2), some (.int (0 : Int32)), none]) rfl ?_
      refine g_iconst (pc := 24) dX11_store_24 ic_0 ?_
      refine g_istore (pc := 25) dX11_store_25 (Nat.le_of_ble_eq_true rfl) (L' := [some (.ref 0), some (.int v1), some (.int v2), some (.int (0 : Int32)), some (.int (0 : Int32))]) rfl ?_
      exact G_X11_store_27 hd xN v1 v2 (0 : Int32) (0 : Int32) h
    · replace h := (if_pos c2).symm.trans h
      refine g_iconst (pc := 20) dX11_store_20 ic_m1 ?_
      replace h := Option.some.inj h
      subst h
      exact g_iret (pc := 21) dX11_store_21 rfl rfl rfl (Nat.le_refl _) (Nat.le_refl _)
set_option maxRecDepth 100000 in
set_option maxHeartbeats 4000000 in
theorem M_X11_store {sc : Nat × (Nat → Int32)} {d : Nat} (hd : 2 ≤ d) {r : Int32} {u : xS} {a1 : Int32} {a2 : Int32} (h : f_X11_store u a1 a2 = some r) : xMt sc mX11_store d 0 0 [.ref 0, .int a1, .int a2] (xL0, u) (some (.int r)) (xL0, u) :=
  xMt.of (by decide +kernel) (by decide +kernel) (Nat.le_of_ble_eq_true rfl) (L := [some (.ref 0), some (.int a1), some (.int a2), none, none]) rfl ((G_X11_store_0 hd a1 a2 h))
set_option maxRecDepth 100000 in
set_option maxHeartbeats 4000000 in
theorem G_X2_suspect_0 {sc : Nat × (Nat → Int32)} {d : Nat} (hd : 1 ≤ d) {r : Int32} {u : xS} (v1 : Int32) (h : f_X2_suspect u v1 = some r) : xG sc mX2_suspect d 0 0 (xR (some (.int r)) (xL0, u) 0 0) 0 0 0 [some (.ref 87), some (.int v1)] [] (xL0, u) := by
  rw [f_X2_suspect] at h
  refine g_iload_n (pc := 0) dX2_suspect_0 rfl ?_
  refine g_iconst (pc := 1) dX2_suspect_1 ic_0 ?_
  refine g_iconst (pc := 2) dX2_suspect_2 ic_3 ?_
  refine g_cN (pc := 3) dX2_suspect_3 cN_RX2_36 (M_X11_lies (Nat.le_refl _) rfl) (as := [.int v1, .int (0 : Int32), .int (3 : Int32)]) (st := []) rfl rfl (Nat.le_of_ble_eq_true rfl) (Nat.le_trans (Nat.le_of_ble_eq_true rfl) hd) rfl ?_
  refine g_if_eq (tgt := 23) (pc := 6) dX2_suspect_6 (by decide) (fun c1 => ?_) (fun c1 => ?_)
  · replace h := (if_pos c1).symm.trans h
    refine g_iconst (pc := 23) dX2_suspect_23 ic_m1 ?_
    replace h := Option.some.inj h
    subst h
    exact g_iret (pc := 24) dX2_suspect_24 rfl rfl rfl (Nat.le_refl _) (Nat.le_refl _)
  · replace h := (if_neg c1).symm.trans h
    refine g_aload_n (pc := 9) dX2_suspect_9 rfl ?_
    refine g_gR (pc := 10) dX2_suspect_10 fR_RX2_24 xc_87 (v := 110) rfl ?_
    refine g_aload_n (pc := 13) dX2_suspect_13 rfl ?_
    refine g_gR (pc := 14) dX2_suspect_14 fR_RX2_33 xc_87 (v := 112) rfl ?_
    refine g_iload_n (pc := 17) dX2_suspect_17 rfl ?_
    obtain ⟨g2, h⟩ := x_gd h
    refine g_iaload (pc := 18) dX2_suspect_18 xc_112 (xin_of g2) (v := (rd u 112 v1.toNatClampNeg)) rfl ?_
    obtain ⟨g3, h⟩ := x_gd h
    refine g_iaload (pc := 19) dX2_suspect_19 xc_110 (xin_of g3) (v := (rd u 110 (rd u 112 v1.toNatClampNeg).toNatClampNeg)) rfl ?_
    refine g_goto (tgt := 24) (pc := 20) dX2_suspect_20 (by decide) ?_
    replace h := Option.some.inj h
    subst h
    exact g_iret (pc := 24) dX2_suspect_24 rfl rfl rfl (Nat.le_refl _) (Nat.le_refl _)
set_option maxRecDepth 100000 in
set_option maxHeartbeats 4000000 in
theorem M_X2_suspect {sc : Nat × (Nat → Int32)} {d : Nat} (hd : 1 ≤ d) {r : Int32} {u : xS} {a1 : Int32} (h : f_X2_suspect u a1 = some r) : xMt sc mX2_suspect d 0 0 [.ref 87, .int a1] (xL0, u) (some (.int r)) (xL0, u) :=
  xMt.of (by decide +kernel) (by decide +kernel) (Nat.le_of_ble_eq_true rfl) (L := [some (.ref 87), some (.int a1)]) rfl ((G_X2_suspect_0 hd a1 h))
set_option maxRecDepth 100000 in
set_option maxHeartbeats 4000000 in
theorem G_X2_nextChoice_39 {sc : Nat × (Nat → Int32)} {d : Nat} (hd : 0 ≤ d) {r : Int32} {u' : xS} : ∀ (n : Nat) (v1 : Int32) (v3 : Int32) (u : xS), f_X2_nextChoice_39 n v1 v3 u = some (r, u') → xG sc mX2_nextChoice d 0 0 (xR (some (.int r)) (xL0, u') 0 0) 0 0 39 [some (.ref 87), some (.int v1), none, some (.int v3)] [] (xL0, u) := by
  intro n
  induction n with
  | zero =>
    intro v1 v3 u h
    rw [f_X2_nextChoice_39] at h
    cases h
  | succ n ih =>
    intro v1 v3 u h
    rw [f_X2_nextChoice_39] at h
    refine g_iload_n (pc := 39) dX2_nextChoice_39 rfl ?_
    refine g_iload_n (pc := 40) dX2_nextChoice_40 rfl ?_
    refine g_icmp_ge (tgt := 66) (pc := 41) dX2_nextChoice_41 (by decide) (fun c1 => ?_) (fun c1 => ?_)
    · replace h := (if_pos c1).symm.trans h
      refine g_iconst (pc := 66) dX2_nextChoice_66 ic_1 ?_
      obtain ⟨h1, h2⟩ := x_inj2 h
      subst h1
      subst h2
      exact g_zret (pc := 67) dX2_nextChoice_67 rfl (Or.inr rfl) rfl rfl (Nat.le_refl _) (Nat.le_refl _)
    · replace h := (if_neg c1).symm.trans h
      refine g_aload_n (pc := 44) dX2_nextChoice_44 rfl ?_
      refine g_gR (pc := 45) dX2_nextChoice_45 fR_RX2_33 xc_87 (v := 112) rfl ?_
      refine g_iload_n (pc := 48) dX2_nextChoice_48 rfl ?_
      refine g_aload_n (pc := 49) dX2_nextChoice_49 rfl ?_
      refine g_gR (pc := 50) dX2_nextChoice_50 fR_RX2_33 xc_87 (v := 112) rfl ?_
      refine g_iload_n (pc := 53) dX2_nextChoice_53 rfl ?_
      refine g_iconst (pc := 54) dX2_nextChoice_54 ic_1 ?_
      refine g_isub (pc := 55) dX2_nextChoice_55 rfl ?_
      obtain ⟨g2, h⟩ := x_gd h
      refine g_iaload (pc := 56) dX2_nextChoice_56 xc_112 (xin_of g2) (v := (rd u 112 (v3 - (1 : Int32)).toNatClampNeg)) rfl ?_
      refine g_iconst (pc := 57) dX2_nextChoice_57 ic_1 ?_
      refine g_iadd (pc := 58) dX2_nextChoice_58 rfl ?_
      obtain ⟨g3, h⟩ := x_gd h
      refine g_iastore (pc := 59) dX2_nextChoice_59 xc_112 (xin_of g3) (u' := (wr u 112 v3.toNatClampNeg ((rd u 112 (v3 - (1 : Int32)).toNatClampNeg) + (1 : Int32)))) rfl ?_
      refine g_inc (pc := 60) dX2_nextChoice_60 (Nat.le_of_ble_eq_true rfl) rfl ic_1 (L' := [some (.ref 87), some (.int v1), none, some (.int (v3 + (1 : Int32)))]) rfl ?_
      refine g_goto (tgt := 39) (pc := 63) dX2_nextChoice_63 (by decide) ?_
      exact ih v1 (v3 + (1 : Int32)) (wr u 112 v3.toNatClampNeg ((rd u 112 (v3 - (1 : Int32)).toNatClampNeg) + (1 : Int32))) h
set_option maxRecDepth 100000 in
set_option maxHeartbeats 4000000 in
theorem G_X2_nextChoice_4 {sc : Nat × (Nat → Int32)} {d : Nat} (hd : 0 ≤ d) {r : Int32} {u' : xS} : ∀ (n : Nat) (v1 : Int32) (v2 : Int32) (u : xS), f_X2_nextChoice_4 n v1 v2 u = some (r, u') → xG sc mX2_nextChoice d 0 0 (xR (some (.int r)) (xL0, u') 0 0) 0 0 4 [some (.ref 87), some (.int v1), some (.int v2), none] [] (xL0, u) := by
  intro n
  induction n with
  | zero =>
    intro v1 v2 u h
    rw [f_X2_nextChoice_4] at h
    cases h
  | succ n ih =>
    intro v1 v2 u h
    rw [f_X2_nextChoice_4] at h
    refine g_iload_n (pc := 4) dX2_nextChoice_4 rfl ?_
    refine g_if_lt (tgt := 74) (pc := 5) dX2_nextChoice_5 (by decide) (fun c1 => ?_) (fun c1 => ?_)
    · replace h := (if_pos c1).symm.trans h
      refine g_iconst (pc := 74) dX2_nextChoice_74 ic_0 ?_
      obtain ⟨h1, h2⟩ := x_inj2 h
      subst h1
      subst h2
      exact g_zret (pc := 75) dX2_nextChoice_75 rfl (Or.inl rfl) rfl rfl (Nat.le_refl _) (Nat.le_refl _)
    · replace h := (if_neg c1).symm.trans h
      refine g_aload_n (pc := 8) dX2_nextChoice_8 rfl ?_
      refine g_gR (pc := 9) dX2_nextChoice_9 fR_RX2_33 xc_87 (v := 112) rfl ?_
      refine g_iload_n (pc := 12) dX2_nextChoice_12 rfl ?_
      obtain ⟨g2, h⟩ := x_gd h
      refine g_iaload (pc := 13) dX2_nextChoice_13 xc_112 (xin_of g2) (v := (rd u 112 v2.toNatClampNeg)) rfl ?_
      refine g_aload_n (pc := 14) dX2_nextChoice_14 rfl ?_
      refine g_gI (pc := 15) dX2_nextChoice_15 fI_RX2_30 xc_87 (v := (rd u 87 5)) rfl ?_
      refine g_iload_n (pc := 18) dX2_nextChoice_18 rfl ?_
      refine g_isub (pc := 19) dX2_nextChoice_19 rfl ?_
      refine g_iload_n (pc := 20) dX2_nextChoice_20 rfl ?_
      refine g_iadd (pc := 21) dX2_nextChoice_21 rfl ?_
      refine g_icmp_ge (tgt := 68) (pc := 22) dX2_nextChoice_22 (by decide) (fun c3 => ?_) (fun c3 => ?_)
      · replace h := (if_pos c3).symm.trans h
        refine g_inc (pc := 68) dX2_nextChoice_68 (Nat.le_of_ble_eq_true rfl) rfl ic_m1 (L' := [some (.ref 87), some (.int v1), some (.int (v2 + (-1 : Int32))), none]) rfl ?_
        refine g_goto (tgt := 4) (pc := 71) dX2_nextChoice_71 (by decide) ?_
        exact ih v1 (v2 + (-1 : Int32)) u h
      · replace h := (if_neg c3).symm.trans h
        refine g_aload_n (pc := 25) dX2_nextChoice_25 rfl ?_
        refine g_gR (pc := 26) dX2_nextChoice_26 fR_RX2_33 xc_87 (v := 112) rfl ?_
        refine g_iload_n (pc := 29) dX2_nextChoice_29 rfl ?_
        refine g_dup2 (pc := 30) dX2_nextChoice_30 rfl rfl ?_
        refine g_iaload (pc := 31) dX2_nextChoice_31 xc_112 (xin_of g2) (v := (rd u 112 v2.toNatClampNeg)) rfl ?_
        refine g_iconst (pc := 32) dX2_nextChoice_32 ic_1 ?_
        refine g_iadd (pc := 33) dX2_nextChoice_33 rfl ?_
        refine g_iastore (pc := 34) dX2_nextChoice_34 xc_112 (xin_of g2) (u' := (wr u 112 v2.toNatClampNeg ((rd u 112 v2.toNatClampNeg) + (1 : Int32)))) rfl ?_
        refine g_iload_n (pc := 35) dX2_nextChoice_35 rfl ?_
        refine g_iconst (pc := 36) dX2_nextChoice_36 ic_1 ?_
        refine g_iadd (pc := 37) dX2_nextChoice_37 rfl ?_
        refine g_istore_n (pc := 38) dX2_nextChoice_38 (Nat.le_of_ble_eq_true rfl) (L' := [some (.ref 87), some (.int v1), some (.int v2), some (.int (v2 + (1 : Int32)))]) rfl ?_
        refine g_L (L' := [some (.ref 87), some (.int v1), none, some (.int (v2 + (1 : Int32)))]) ⟨rfl, ⟨rfl, ⟨rfl, trivial⟩⟩⟩ ?_
        exact G_X2_nextChoice_39 hd xN v1 (v2 + (1 : Int32)) (wr u 112 v2.toNatClampNeg ((rd u 112 v2.toNatClampNeg) + (1 : Int32))) h
set_option maxRecDepth 100000 in
set_option maxHeartbeats 4000000 in
theorem G_X2_nextChoice_0 {sc : Nat × (Nat → Int32)} {d : Nat} (hd : 0 ≤ d) {r : Int32} {u' : xS} (v1 : Int32) (u : xS) (h : f_X2_nextChoice v1 u = some (r, u')) : xG sc mX2_nextChoice d 0 0 (xR (some (.int r)) (xL0, u') 0 0) 0 0 0 [some (.ref 87), some (.int v1), none, none] [] (xL0, u) := by
  rw [f_X2_nextChoice] at h
  refine g_iload_n (pc := 0) dX2_nextChoice_0 rfl ?_
  refine g_iconst (pc := 1) dX2_nextChoice_1 ic_1 ?_
  refine g_isub (pc := 2) dX2_nextChoice_2 rfl ?_
  refine g_istore_n (pc := 3) dX2_nextChoice_3 (Nat.le_of_ble_eq_true rfl) (L' := [some (.ref 87), some (.int v1), some (.int (v1 - (1 : Int32))), none]) rfl ?_
  exact G_X2_nextChoice_4 hd xN v1 (v1 - (1 : Int32)) u h
set_option maxRecDepth 100000 in
set_option maxHeartbeats 4000000 in
theorem M_X2_nextChoice {sc : Nat × (Nat → Int32)} {d : Nat} (hd : 0 ≤ d) {r : Int32} {u u' : xS} {a1 : Int32} (h : f_X2_nextChoice a1 u = some (r, u')) : xMt sc mX2_nextChoice d 0 0 [.ref 87, .int a1] (xL0, u) (some (.int r)) (xL0, u') :=
  xMt.of (by decide +kernel) (by decide +kernel) (Nat.le_of_ble_eq_true rfl) (L := [some (.ref 87), some (.int a1), none, none]) rfl ((G_X2_nextChoice_0 hd a1 u h))
