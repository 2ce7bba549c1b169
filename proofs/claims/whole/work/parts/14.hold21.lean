set_option maxRecDepth 100000 in
set_option maxHeartbeats 4000000 in
theorem G_X11_led_70 {sc : Nat × (Nat → Int32)} {d : Nat} (hd : 1 ≤ d) {r : Int32} {u' : xS} {k22 : Int32 → Int32 → Int32 → xS → Option (Int32 × xS)} (hk22 : ∀ (v1 : Int32) (v2 : Int32) (v3 : Int32) (u : xS), k22 v1 v2 v3 u = some (r, u') → xG sc mX11_led d 0 0 (xR (some (.int r)) (xL0, u') 0 0) 0 0 22 [some (.ref 0), some (.int v1), some (.int v2), some (.int v3)] [] (xL0, u)) (v1 : Int32) (v2 : Int32) (v3 : Int32) (u : xS) (h : f_X11_led_70 k22 v1 v2 v3 u = some (r, u')) : xG sc mX11_led d 0 0 (xR (some (.int r)) (xL0, u') 0 0) 0 0 70 [some (.ref 0), some (.int v1), some (.int v2), some (.int v3)] [] (xL0, u) := by
  rw [f_X11_led_70] at h
  refine g_inc (pc := 70) dX11_led_70 (Nat.le_of_ble_eq_true rfl) rfl ic_1 (L' := [some (.ref 0), some (.int v1), some (.int v2), some (.int (v3 + (1 : Int32)))]) rfl ?_
  refine g_goto (tgt := 22) (pc := 73) dX11_led_73 (by decide) ?_
  exact hk22 v1 v2 (v3 + (1 : Int32)) u h
set_option maxRecDepth 100000 in
set_option maxHeartbeats 4000000 in
theorem G_X11_led_22 {sc : Nat × (Nat → Int32)} {d : Nat} (hd : 1 ≤ d) {r : Int32} {u' : xS} : ∀ (n : Nat) (v1 : Int32) (v2 : Int32) (v3 : Int32) (u : xS), f_X11_led_22 n v1 v2 v3 u = some (r, u') → xG sc mX11_led d 0 0 (xR (some (.int r)) (xL0, u') 0 0) 0 0 22 [some (.ref 0), some (.int v1), some (.int v2), some (.int v3)] [] (xL0, u) := by
  intro n
  induction n with
  | zero =>
    intro v1 v2 v3 u h
    rw [f_X11_led_22] at h
    cases h
  | succ n ih =>
    intro v1 v2 v3 u h
    rw [f_X11_led_22] at h
    refine g_iload_n (pc := 22) dX11_led_22 rfl ?_
    refine g_aload_n (pc := 23) dX11_led_23 rfl ?_
    refine g_gR (pc := 24) dX11_led_24 fR_RX11_19 xc_0 (v := 13) rfl ?_
    refine g_gI (pc := 27) dX11_led_27 fI_RX11_133 xc_13 (v := (rd u 13 8)) rfl ?_
    refine g_icmp_ge (tgt := 76) (pc := 30) dX11_led_30 (by decide) (fun c1 => ?_) (fun c1 => ?_)
    · replace h := (if_pos c1).symm.trans h
      refine g_iload_n (pc := 76) dX11_led_76 rfl ?_
      obtain ⟨h1, h2⟩ := x_inj2 h
      subst h1
      subst h2
      exact g_iret (pc := 77) dX11_led_77 rfl rfl rfl (Nat.le_refl _) (Nat.le_refl _)
    · replace h := (if_neg c1).symm.trans h
      refine g_aload_n (pc := 33) dX11_led_33 rfl ?_
      refine g_gR (pc := 34) dX11_led_34 fR_RX11_68 xc_0 (v := 87) rfl ?_
      refine g_gR (pc := 37) dX11_led_37 fR_RX11_357 xc_87 (v := 88) rfl ?_
      refine g_iload_n (pc := 40) dX11_led_40 rfl ?_
      obtain ⟨g2, h⟩ := x_gd h
      refine g_aaload (pc := 41) dX11_led_41 xc_88 (xin_of g2) (v := (89 + v1.toNatClampNeg)) (xrf_88 _ (xin_lt g2)) ?_
      refine g_iload_n (pc := 42) dX11_led_42 rfl ?_
      obtain ⟨g3, h⟩ := x_gd h
      refine g_iaload (pc := 43) dX11_led_43 (xrow_88 _ (xin_lt g2)) (xin_of g3) (v := (rd u (89 + v1.toNatClampNeg) v3.toNatClampNeg)) rfl ?_
      refine g_if_le (tgt := 70) (pc := 44) dX11_led_44 (by decide) (fun c4 => ?_) (fun c4 => ?_)
      · replace h := (if_pos c4).symm.trans h
        exact G_X11_led_70 hd ih v1 v2 v3 u h
      · replace h := (if_neg c4).symm.trans h
        refine g_aload_n (pc := 47) dX11_led_47 rfl ?_
        refine g_iload_n (pc := 48) dX11_led_48 rfl ?_
        obtain ⟨u6, e5, h⟩ := x_bind h
        refine g_cV (pc := 49) dX11_led_49 cV_RX11_359 (M_X11_tell (Nat.le_refl _) e5) xc_0 (as := [.int v3]) (st := []) rfl rfl (Nat.le_of_ble_eq_true rfl) (Nat.le_trans (Nat.le_of_ble_eq_true rfl) hd) rfl ?_
        refine g_aload_n (pc := 52) dX11_led_52 rfl ?_
        refine g_aload_n (pc := 53) dX11_led_53 rfl ?_
        refine g_gR (pc := 54) dX11_led_54 fR_RX11_68 xc_0 (v := 87) rfl ?_
        refine g_gR (pc := 57) dX11_led_57 fR_RX11_357 xc_87 (v := 88) rfl ?_
        refine g_iload_n (pc := 60) dX11_led_60 rfl ?_
        refine g_aaload (pc := 61) dX11_led_61 xc_88 (xin_of g2) (v := (89 + v1.toNatClampNeg)) (xrf_88 _ (xin_lt g2)) ?_
        refine g_iload_n (pc := 62) dX11_led_62 rfl ?_
        refine g_iaload (pc := 63) dX11_led_63 (xrow_88 _ (xin_lt g2)) (xin_of g3) (v := (rd u6 (89 + v1.toNatClampNeg) v3.toNatClampNeg)) rfl ?_
        obtain ⟨u8, e7, h⟩ := x_bind h
        refine g_cV (pc := 64) dX11_led_64 cV_RX11_359 (M_X11_tell (Nat.le_refl _) e7) xc_0 (as := [.int (rd u6 (89 + v1.toNatClampNeg) v3.toNatClampNeg)]) (st := []) rfl rfl (Nat.le_of_ble_eq_true rfl) (Nat.le_trans (Nat.le_of_ble_eq_true rfl) hd) rfl ?_
        refine g_inc (pc := 67) dX11_led_67 (Nat.le_of_ble_eq_true rfl) rfl ic_1 (L' := [some (.ref 0), some (.int v1), some (.int (v2 + (1 : Int32))), some (.int v3)]) rfl ?_
        exact G_X11_led_70 hd ih v1 (v2 + (1 : Int32)) v3 u8 h
set_option maxRecDepth 100000 in
set_option maxHeartbeats 4000000 in
theorem G_X11_led_0 {sc : Nat × (Nat → Int32)} {d : Nat} (hd : 1 ≤ d) {r : Int32} {u' : xS} (v1 : Int32) (u : xS) (h : f_X11_led v1 u = some (r, u')) : xG sc mX11_led d 0 0 (xR (some (.int r)) (xL0, u') 0 0) 0 0 0 [some (.ref 0), some (.int v1), none, none] [] (xL0, u) := by
  rw [f_X11_led] at h
  refine g_aload_n (pc := 0) dX11_led_0 rfl ?_
  refine g_gR (pc := 1) dX11_led_1 fR_RX11_68 xc_0 (v := 87) rfl ?_
  refine g_iload_n (pc := 4) dX11_led_4 rfl ?_
  refine g_cV (pc := 5) dX11_led_5 cV_RX11_358 (M_X2_has (Nat.le_refl _) rfl) xc_87 (as := [.int v1]) (st := []) rfl rfl (Nat.le_of_ble_eq_true rfl) (Nat.le_trans (Nat.le_of_ble_eq_true rfl) hd) rfl ?_
  refine g_if_ne (tgt := 13) (pc := 8) dX11_led_8 (by decide) (fun c1 => ?_) (fun c1 => ?_)
  · replace h := (if_neg c1).symm.trans h
    refine g_iconst (pc := 13) dX11_led_13 ic_0 ?_
    refine g_istore_n (pc := 14) dX11_led_14 (Nat.le_of_ble_eq_true rfl) (L' := [some (.ref 0), some (.int v1), some (.int (0 : Int32)), none]) rfl ?_
    refine g_aload_n (pc := 15) dX11_led_15 rfl ?_
    refine g_iconst (pc := 16) dX11_led_16 ic_0 ?_
    refine g_pI (pc := 17) dX11_led_17 pI_RX11_90 xc_0 (u' := (wr u 0 12 (0 : Int32))) rfl ?_
    refine g_iconst (pc := 20) dX11_led_20 ic_0 ?_
    refine g_istore_n (pc := 21) dX11_led_21 (Nat.le_of_ble_eq_true rfl) (L' := [some (.ref 0), some (.int v1), some (.int (0 : Int32)), some (.int (0 : Int32))]) rfl ?_
    exact G_X11_led_22 hd xN v1 (0 : Int32) (0 : Int32) (wr u 0 12 (0 : Int32)) h
  · replace h := (if_pos c1).symm.trans h
    refine g_iconst (pc := 11) dX11_led_11 ic_m1 ?_
    obtain ⟨h1, h2⟩ := x_inj2 h
    subst h1
    subst h2
    exact g_iret (pc := 12) dX11_led_12 rfl rfl rfl (Nat.le_refl _) (Nat.le_refl _)
set_option maxRecDepth 100000 in
set_option maxHeartbeats 4000000 in
theorem M_X11_led {sc : Nat × (Nat → Int32)} {d : Nat} (hd : 1 ≤ d) {r : Int32} {u u' : xS} {a1 : Int32} (h : f_X11_led a1 u = some (r, u')) : xMt sc mX11_led d 0 0 [.ref 0, .int a1] (xL0, u) (some (.int r)) (xL0, u') :=
  xMt.of (by decide +kernel) (by decide +kernel) (Nat.le_of_ble_eq_true rfl) (L := [some (.ref 0), some (.int a1), none, none]) rfl ((G_X11_led_0 hd a1 u h))
set_option maxRecDepth 100000 in
set_option maxHeartbeats 4000000 in
theorem G_X5_add_0 {sc : Nat × (Nat → Int32)} {d : Nat} (hd : 0 ≤ d) {r : Int32} {u' : xS} (v1 : Int32) (v2 : Int32) (v3 : Int32) (v4 : Int32) (v5 : Int32) (u : xS) (h : f_X5_add v1 v2 v3 v4 v5 u = some (r, u')) : xG sc mX5_add d 0 0 (xR (some (.int r)) (xL0, u') 0 0) 0 0 0 [some (.ref 46), some (.int v1), some (.int v2), some (.int v3), some (.int v4), some (.int v5)] [] (xL0, u) := by
  rw [f_X5_add] at h
  refine g_aload_n (pc := 0) dX5_add_0 rfl ?_
  refine g_gI (pc := 1) dX5_add_1 fI_RX5_27 xc_46 (v := (rd u 46 5)) rfl ?_
  refine g_bipush (pc := 4) dX5_add_4 bp_60 ?_
  refine g_icmp_lt (tgt := 11) (pc := 6) dX5_add_6 (by decide) (fun c1 => ?_) (fun c1 => ?_)
  · replace h := (if_pos c1).symm.trans h
    refine g_aload_n (pc := 11) dX5_add_11 rfl ?_
    refine g_gR (pc := 12) dX5_add_12 fR_RX5_9 xc_46 (v := 47) rfl ?_
    refine g_aload_n (pc := 15) dX5_add_15 rfl ?_
    refine g_gI (pc := 16) dX5_add_16 fI_RX5_27 xc_46 (v := (rd u 46 5)) rfl ?_
    refine g_iload_n (pc := 19) dX5_add_19 rfl ?_
    obtain ⟨g2, h⟩ := x_gd h
    refine g_iastore (pc := 20) dX5_add_20 xc_47 (xin_of g2) (u' := (wr u 47 (rd u 46 5).toNatClampNeg v1)) rfl ?_
    refine g_aload_n (pc := 21) dX5_add_21 rfl ?_
    refine g_gR (pc := 22) dX5_add_22 fR_RX5_15 xc_46 (v := 48) rfl ?_
    refine g_aload_n (pc := 25) dX5_add_25 rfl ?_
    refine g_gI (pc := 26) dX5_add_26 fI_RX5_27 xc_46 (v := (rd u 46 5)) rfl ?_
    refine g_iload_n (pc := 29) dX5_add_29 rfl ?_
    refine g_iastore (pc := 30) dX5_add_30 xc_48 (xin_of g2) (u' := (wr (wr u 47 (rd u 46 5).toNatClampNeg v1) 48 (rd u 46 5).toNatClampNeg v2)) rfl ?_
    refine g_aload_n (pc := 31) dX5_add_31 rfl ?_
    refine g_gR (pc := 32) dX5_add_32 fR_RX5_18 xc_46 (v := 49) rfl ?_
    refine g_aload_n (pc := 35) dX5_add_35 rfl ?_
    refine g_gI (pc := 36) dX5_add_36 fI_RX5_27 xc_46 (v := (rd u 46 5)) rfl ?_
    refine g_iload_n (pc := 39) dX5_add_39 rfl ?_
    refine g_iastore (pc := 40) dX5_add_40 xc_49 (xin_of g2) (u' := (wr (wr (wr u 47 (rd u 46 5).toNatClampNeg v1) 48 (rd u 46 5).toNatClampNeg v2) 49 (rd u 46 5).toNatClampNeg v3)) rfl ?_
    refine g_aload_n (pc := 41) dX5_add_41 rfl ?_
    refine g_gR (pc := 42) dX5_add_42 fR_RX5_21 xc_46 (v := 50) rfl ?_
    refine g_aload_n (pc := 45) dX5_add_45 rfl ?_
    refine g_gI (pc := 46) dX5_add_46 fI_RX5_27 xc_46 (v := (rd u 46 5)) rfl ?_
    refine g_iload (pc := 49) dX5_add_49 rfl ?_
    refine g_iastore (pc := 51) dX5_add_51 xc_50 (xin_of g2) (u' := (wr (wr (wr (wr u 47 (rd u 46 5).toNatClampNeg v1) 48 (rd u 46 5).toNatClampNeg v2) 49 (rd u 46 5).toNatClampNeg v3) 50 (rd u 46 5).toNatClampNeg v4)) rfl ?_
    refine g_aload_n (pc := 52) dX5_add_52 rfl ?_
    refine g_gR (pc := 53) dX5_add_53 fR_RX5_24 xc_46 (v := 51) rfl ?_
    refine g_aload_n (pc := 56) dX5_add_56 rfl ?_
    refine g_gI (pc := 57) dX5_add_57 fI_RX5_27 xc_46 (v := (rd u 46 5)) rfl ?_
    refine g_iload (pc := 60) dX5_add_60 rfl ?_
    refine g_iastore (pc := 62) dX5_add_62 xc_51 (xin_of g2) (u' := (wr (wr (wr (wr (wr u 47 (rd u 46 5).toNatClampNeg v1) 48 (rd u 46 5).toNatClampNeg v2) 49 (rd u 46 5).toNatClampNeg v3) 50 (rd u 46 5).toNatClampNeg v4) 51 (rd u 46 5).toNatClampNeg v5)) rfl ?_
    refine g_aload_n (pc := 63) dX5_add_63 rfl ?_
    refine g_dup (pc := 64) dX5_add_64 rfl ?_
    refine g_gI (pc := 65) dX5_add_65 fI_RX5_27 xc_46 (v := (rd u 46 5)) rfl ?_
    refine g_iconst (pc := 68) dX5_add_68 ic_1 ?_
    refine g_iadd (pc := 69) dX5_add_69 rfl ?_
    refine g_pI (pc := 70) dX5_add_70 pI_RX5_27 xc_46 (u' := (wr (wr (wr (wr (wr (wr u 47 (rd u 46 5).toNatClampNeg v1) 48 (rd u 46 5).toNatClampNeg v2) 49 (rd u 46 5).toNatClampNeg v3) 50 (rd u 46 5).toNatClampNeg v4) 51 (rd u 46 5).toNatClampNeg v5) 46 5 ((rd u 46 5) + (1 : Int32)))) rfl ?_
    refine g_aload_n (pc := 73) dX5_add_73 rfl ?_
    refine g_gI (pc := 74) dX5_add_74 fI_RX5_27 xc_46 (v := ((rd u 46 5) + (1 : Int32))) rfl ?_
    obtain ⟨h1, h2⟩ := x_inj2 h
    subst h1
    subst h2
    exact g_iret (pc := 77) dX5_add_77 rfl rfl rfl (Nat.le_refl _) (Nat.le_refl _)
  · replace h := (if_neg c1).symm.trans h
    refine g_iconst (pc := 9) dX5_add_9 ic_m1 ?_
    obtain ⟨h1, h2⟩ := x_inj2 h
    subst h1
    subst h2
    exact g_iret (pc := 10) dX5_add_10 rfl rfl rfl (Nat.le_refl _) (Nat.le_refl _)
set_option maxRecDepth 100000 in
set_option maxHeartbeats 4000000 in
theorem M_X5_add {sc : Nat × (Nat → Int32)} {d : Nat} (hd : 0 ≤ d) {r : Int32} {u u' : xS} {a1 : Int32} {a2 : Int32} {a3 : Int32} {a4 : Int32} {a5 : Int32} (h : f_X5_add a1 a2 a3 a4 a5 u = some (r, u')) : xMt sc mX5_add d 0 0 [.ref 46, .int a1, .int a2, .int a3, .int a4, .int a5] (xL0, u) (some (.int r)) (xL0, u') :=
  xMt.of (by decide +kernel) (by decide +kernel) (Nat.le_of_ble_eq_true rfl) (L := [some (.ref 46), some (.int a1), some (.int a2), some (.int a3), some (.int a4), some (.int a5)]) rfl ((G_X5_add_0 hd a1 a2 a3 a4 a5 u h))
set_option maxRecDepth 100000 in
set_option maxHeartbeats 4000000 in
theorem G_X11_look_32 {sc : Nat × (Nat → Int32)} {d : Nat} (hd : 2 ≤ d) {r : Int32} {u' : xS} (v1 : Int32) (v2 : Int32) (v3 : Int32) (v4 : Int32) (v5 : Int32) (s0 : Int32) (u : xS) (h : f_X11_look_32 v1 v2 v3 v4 v5 s0 u = some (r, u')) : xG sc mX11_look d 0 0 (xR (some (.int r)) (xL0, u') 0 0) 0 0 32 [some (.ref 0), some (.int v1), some (.int v2), some (.int v3), some (.int v4), some (.int v5), none] [.int s0] (xL0, u) := by
  rw [f_X11_look_32] at h
  refine g_istore (pc := 32) dX11_look_32 (Nat.le_of_ble_eq_true rfl) (L' := [some (.ref 0), some (.int v1), some (.int v2), some (.int v3), some (.int v4), some (.int v5), some (.int s0)]) rfl ?_
  refine g_iload (pc := 34) dX11_look_34 rfl ?_
  refine g_if_eq (tgt := 75) (pc := 36) dX11_look_36 (by decide) (fun c1 => ?_) (fun c1 => ?_)
  · replace h := (if_pos c1).symm.trans h
    refine g_iconst (pc := 75) dX11_look_75 ic_m1 ?_
    obtain ⟨h1, h2⟩ := x_inj2 h
    subst h1
    subst h2
    exact g_iret (pc := 76) dX11_look_76 rfl rfl rfl (Nat.le_refl _) (Nat.le_refl _)
  · replace h := (if_neg c1).symm.trans h
    refine g_iload (pc := 39) dX11_look_39 rfl ?_
    refine g_iconst (pc := 41) dX11_look_41 ic_0 ?_
    refine g_sipush (pc := 42) dX11_look_42 sp_9999 ?_
    refine g_cS (pc := 45) dX11_look_45 cS_RX11_94 (M_X11_lies (Nat.le_refl _) rfl) (as := [.int v4, .int (0 : Int32), .int (9999 : Int32)]) (st := []) rfl rfl (Nat.le_of_ble_eq_true rfl) (Nat.le_trans (Nat.le_of_ble_eq_true rfl) hd) rfl ?_
    refine g_if_eq (tgt := 75) (pc := 48) dX11_look_48 (by decide) (fun c2 => ?_) (fun c2 => ?_)
    · replace h := (if_pos c2).symm.trans h
      refine g_iconst (pc := 75) dX11_look_75 ic_m1 ?_
      obtain ⟨h1, h2⟩ := x_inj2 h
      subst h1
      subst h2
      exact g_iret (pc := 76) dX11_look_76 rfl rfl rfl (Nat.le_refl _) (Nat.le_refl _)
    · replace h := (if_neg c2).symm.trans h
      refine g_iload (pc := 51) dX11_look_51 rfl ?_
      refine g_iconst (pc := 53) dX11_look_53 ic_0 ?_
      refine g_sipush (pc := 54) dX11_look_54 sp_1000 ?_
      refine g_cS (pc := 57) dX11_look_57 cS_RX11_94 (M_X11_lies (Nat.le_refl _) rfl) (as := [.int v5, .int (0 : Int32), .int (1000 : Int32)]) (st := []) rfl rfl (Nat.le_of_ble_eq_true rfl) (Nat.le_trans (Nat.le_of_ble_eq_true rfl) hd) rfl ?_
      refine g_if_eq (tgt := 75) (pc := 60) dX11_look_60 (by decide) (fun c3 => ?_) (fun c3 => ?_)
      · replace h := (if_pos c3).symm.trans h
        refine g_iconst (pc := 75) dX11_look_75 ic_m1 ?_
        obtain ⟨h1, h2⟩ := x_inj2 h
        subst h1
        subst h2
        exact g_iret (pc := 76) dX11_look_76 rfl rfl rfl (Nat.le_refl _) (Nat.le_refl _)
      · replace h := (if_neg c3).symm.trans h
        refine g_aload_n (pc := 63) dX11_look_63 rfl ?_
        refine g_gR (pc := 64) dX11_look_64 fR_RX11_26 xc_0 (v := 46) rfl ?_
        refine g_gI (pc := 67) dX11_look_67 fI_RX11_179 xc_46 (v := (rd u 46 5)) rfl ?_
        refine g_bipush (pc := 70) dX11_look_70 bp_60 ?_
        refine g_icmp_lt (tgt := 77) (pc := 72) dX11_look_72 (by decide) (fun c4 => ?_) (fun c4 => ?_)
        · replace h := (if_pos c4).symm.trans h
          refine g_aload_n (pc := 77) dX11_look_77 rfl ?_
          refine g_gR (pc := 78) dX11_look_78 fR_RX11_26 xc_0 (v := 46) rfl ?_
          refine g_iload_n (pc := 81) dX11_look_81 rfl ?_
          refine g_iload_n (pc := 82) dX11_look_82 rfl ?_
          refine g_iload_n (pc := 83) dX11_look_83 rfl ?_
          refine g_iload (pc := 84) dX11_look_84 rfl ?_
          refine g_iload (pc := 86) dX11_look_86 rfl ?_
          obtain ⟨⟨x6, u7⟩, e5, h⟩ := x_bind h
          dsimp only at h
          refine g_cV (pc := 88) dX11_look_88 cV_RX11_180 (M_X5_add (Nat.le_refl _) e5) xc_46 (as := [.int v1, .int v2, .int v3, .int v4, .int v5]) (st := []) rfl rfl (Nat.le_of_ble_eq_true rfl) (Nat.le_trans (Nat.le_of_ble_eq_true rfl) hd) rfl ?_
          obtain ⟨h1, h2⟩ := x_inj2 h
          subst h1
          subst h2
          exact g_iret (pc := 91) dX11_look_91 rfl rfl rfl (Nat.le_refl _) (Nat.le_refl _)
        · replace h := (if_neg c4).symm.trans h
          refine g_iconst (pc := 75) dX11_look_75 ic_m1 ?_
          obtain ⟨h1, h2⟩ := x_inj2 h
          subst h1
          subst h2
          exact g_iret (pc := 76) dX11_look_76 rfl rfl rfl (Nat.le_refl _) (Nat.le_refl _)
set_option maxRecDepth 100000 in
set_option maxHeartbeats 4000000 in
theorem G_X11_look_31 {sc : Nat × (Nat → Int32)} {d : Nat} (hd : 2 ≤ d) {r : Int32} {u' : xS} (v1 : Int32) (v2 : Int32) (v3 : Int32) (v4 : Int32) (v5 : Int32) (u : xS) (h : f_X11_look_31 v1 v2 v3 v4 v5 u = some (r, u')) : xG sc mX11_look d 0 0 (xR (some (.int r)) (xL0, u') 0 0) 0 0 31 [some (.ref 0), some (.int v1), some (.int v2), some (.int v3), some (.int v4), some (.int v5), none] [] (xL0, u) := by
  rw [f_X11_look_31] at h
  refine g_iconst (pc := 31) dX11_look_31 ic_0 ?_
  exact G_X11_look_32 hd v1 v2 v3 v4 v5 (0 : Int32) u h
set_option maxRecDepth 100000 in
set_option maxHeartbeats 4000000 in
theorem G_X11_look_0 {sc : Nat × (Nat → Int32)} {d : Nat} (hd : 2 ≤ d) {r : Int32} {u' : xS} (v1 : Int32) (v2 : Int32) (v3 : Int32) (v4 : Int32) (v5 : Int32) (u : xS) (h : f_X11_look v1 v2 v3 v4 v5 u = some (r, u')) : xG sc mX11_look d 0 0 (xR (some (.int r)) (xL0, u') 0 0) 0 0 0 [some (.ref 0), some (.int v1), some (.int v2), some (.int v3), some (.int v4), some (.int v5), none] [] (xL0, u) := by
  rw [f_X11_look] at h
  refine g_aload_n (pc := 0) dX11_look_0 rfl ?_
  refine g_gR (pc := 1) dX11_look_1 fR_RX11_19 xc_0 (v := 13) rfl ?_
  refine g_iload_n (pc := 4) dX11_look_4 rfl ?_
  refine g_cV (pc := 5) dX11_look_5 cV_RX11_137 (M_X0_has (Nat.le_refl _) rfl) xc_13 (as := [.int v1]) (st := []) rfl rfl (Nat.le_of_ble_eq_true rfl) (Nat.le_trans (Nat.le_of_ble_eq_true rfl) hd) rfl ?_
  refine g_if_eq (tgt := 31) (pc := 8) dX11_look_8 (by decide) (fun c1 => ?_) (fun c1 => ?_)
  · replace h := (if_pos c1).symm.trans h
    exact G_X11_look_31 hd v1 v2 v3 v4 v5 u h
  · replace h := (if_neg c1).symm.trans h
    refine g_iload_n (pc := 11) dX11_look_11 rfl ?_
    refine g_iconst (pc := 12) dX11_look_12 ic_0 ?_
    refine g_iconst (pc := 13) dX11_look_13 ic_1 ?_
    refine g_cS (pc := 14) dX11_look_14 cS_RX11_94 (M_X11_lies (Nat.le_refl _) rfl) (as := [.int v2, .int (0 : Int32), .int (1 : Int32)]) (st := []) rfl rfl (Nat.le_of_ble_eq_true rfl) (Nat.le_trans (Nat.le_of_ble_eq_true rfl) hd) rfl ?_
    refine g_if_eq (tgt := 31) (pc := 17) dX11_look_17 (by decide) (fun c2 => ?_) (fun c2 => ?_)
    · replace h := (if_pos c2).symm.trans h
      exact G_X11_look_31 hd v1 v2 v3 v4 v5 u h
    · replace h := (if_neg c2).symm.trans h
      refine g_iload_n (pc := 20) dX11_look_20 rfl ?_
      refine g_cS (pc := 21) dX11_look_21 cS_RX11_109 (M_X11_isDay (Nat.le_refl _) rfl) (as := [.int v3]) (st := []) rfl rfl (Nat.le_of_ble_eq_true rfl) (Nat.le_trans (Nat.le_of_ble_eq_true rfl) hd) rfl ?_
      refine g_if_eq (tgt := 31) (pc := 24) dX11_look_24 (by decide) (fun c3 => ?_) (fun c3 => ?_)
      · replace h := (if_pos c3).symm.trans h
        exact G_X11_look_31 hd v1 v2 v3 v4 v5 u h
      · replace h := (if_neg c3).symm.trans h
        refine g_iconst (pc := 27) dX11_look_27 ic_1 ?_
        refine g_goto (tgt := 32) (pc := 28) dX11_look_28 (by decide) ?_
        exact G_X11_look_32 hd v1 v2 v3 v4 v5 (1 : Int32) u h
set_option maxRecDepth 100000 in
set_option maxHeartbeats 4000000 in
theorem M_X11_look {sc : Nat × (Nat → Int32)} {d : Nat} (hd : 2 ≤ d) {r : Int32} {u u' : xS} {a1 : Int32} {a2 : Int32} {a3 : Int32} {a4 : Int32} {a5 : Int32} (h : f_X11_look a1 a2 a3 a4 a5 u = some (r, u')) : xMt sc mX11_look d 0 0 [.ref 0, .int a1, .int a2, .int a3, .int a4, .int a5] (xL0, u) (some (.int r)) (xL0, u') :=
  xMt.of (by decide +kernel) (by decide +kernel) (Nat.le_of_ble_eq_true rfl) (L := [some (.ref 0), some (.int a1), some (.int a2), some (.int a3), some (.int a4), some (.int a5), none]) rfl ((G_X11_look_0 hd a1 a2 a3 a4 a5 u h))
set_option maxRecDepth 100000 in
set_option maxHeartbeats 4000000 in
theorem G_X6_takeOut_61 {sc : Nat × (Nat → Int32)} {d : Nat} (hd : 1 ≤ d) {u' : xS} {k6 : Int32 → Nat → Int32 → Int32 → xS → Option xS} (hk6 : ∀ (v1 : Int32) (v3 : Nat) (v4 : Int32) (v5 : Int32) (u : xS), k6 v1 v3 v4 v5 u = some u' → xG sc mX6_takeOut d 0 0 (xR none (xL0, u') 0 0) 0 0 6 [some (.ref 74), some (.int v1), none, some (.ref v3), some (.int v4), some (.int v5), none] [] (xL0, u)) (v1 : Int32) (v3 : Nat) (v4 : Int32) (v5 : Int32) (u : xS) (h : f_X6_takeOut_61 k6 v1 v3 v4 v5 u = some u') : xG sc mX6_takeOut d 0 0 (xR none (xL0, u') 0 0) 0 0 61 [some (.ref 74), some (.int v1), none, some (.ref v3), some (.int v4), some (.int v5), none] [] (xL0, u) := by
  rw [f_X6_takeOut_61] at h
  refine g_inc (pc := 61) dX6_takeOut_61 (Nat.le_of_ble_eq_true rfl) rfl ic_1 (L' := [some (.ref 74), some (.int v1), none, some (.ref v3), some (.int v4), some (.int (v5 + (1 : Int32))), none]) rfl ?_
  refine g_goto (tgt := 6) (pc := 64) dX6_takeOut_64 (by decide) ?_
  exact hk6 v1 v3 v4 (v5 + (1 : Int32)) u h
set_option maxRecDepth 100000 in
set_option maxHeartbeats 4000000 in
theorem G_X6_takeOut_6 {sc : Nat × (Nat → Int32)} {d : Nat} (hd : 1 ≤ d) {u' : xS} : ∀ (n : Nat) (v1 : Int32) (v3 : Nat) (v4 : Int32) (v5 : Int32) (u : xS), f_X6_takeOut_6 n v1 v3 v4 v5 u = some u' → xG sc mX6_takeOut d 0 0 (xR none (xL0, u') 0 0) 0 0 6 [some (.ref 74), some (.int v1), none, some (.ref v3), some (.int v4), some (.int v5), none] [] (xL0, u) := by
  intro n
  induction n with
  | zero =>
    intro v1 v3 v4 v5 u h
    rw [f_X6_takeOut_6] at h
    cases h
  | succ n ih =>
    intro v1 v3 v4 v5 u h
    rw [f_X6_takeOut_6] at h
    refine g_iload (pc := 6) dX6_takeOut_6 rfl ?_
    refine g_aload_n (pc := 8) dX6_takeOut_8 rfl ?_
    refine g_gI (pc := 9) dX6_takeOut_9 fI_RX6_24 xc_74 (v := (rd u 74 4)) rfl ?_
    refine g_icmp_ge (tgt := 67) (pc := 12) dX6_takeOut_12 (by decide) (fun c1 => ?_) (fun c1 => ?_)
    · replace h := (if_pos c1).symm.trans h
      replace h := Option.some.inj h
      subst h
      exact g_ret (pc := 67) dX6_takeOut_67 rfl rfl rfl (Nat.le_refl _) (Nat.le_refl _)
    · replace h := (if_neg c1).symm.trans h
      refine g_iload (pc := 15) dX6_takeOut_15 rfl ?_
      refine g_if_le (tgt := 67) (pc := 17) dX6_takeOut_17 (by decide) (fun c2 => ?_) (fun c2 => ?_)
      · replace h := (if_pos c2).symm.trans h
        replace h := Option.some.inj h
        subst h
        exact g_ret (pc := 67) dX6_takeOut_67 rfl rfl rfl (Nat.le_refl _) (Nat.le_refl _)
      · replace h := (if_neg c2).symm.trans h
        refine g_aload_n (pc := 20) dX6_takeOut_20 rfl ?_
        refine g_gR (pc := 21) dX6_takeOut_21 fR_RX6_11 xc_74 (v := 75) rfl ?_
        refine g_iload (pc := 24) dX6_takeOut_24 rfl ?_
        obtain ⟨g3, h⟩ := x_gd h
        refine g_iaload (pc := 26) dX6_takeOut_26 xc_75 (xin_of g3) (v := (rd u 75 v5.toNatClampNeg)) rfl ?_
        refine g_iload_n (pc := 27) dX6_takeOut_27 rfl ?_
        refine g_icmp_ne (tgt := 61) (pc := 28) dX6_takeOut_28 (by decide) (fun c4 => ?_) (fun c4 => ?_)
        · replace h := (if_neg c4).symm.trans h
          exact G_X6_takeOut_61 hd ih v1 v3 v4 v5 u h
        · replace h := (if_pos c4).symm.trans h
          refine g_iload (pc := 31) dX6_takeOut_31 rfl ?_
          refine g_aload_n (pc := 33) dX6_takeOut_33 rfl ?_
          refine g_gR (pc := 34) dX6_takeOut_34 fR_RX6_18 xc_74 (v := 77) rfl ?_
          refine g_iload (pc := 37) dX6_takeOut_37 rfl ?_
          refine g_iaload (pc := 39) dX6_takeOut_39 xc_77 (xin_of g3) (v := (rd u 77 v5.toNatClampNeg)) rfl ?_
          refine g_min (pc := 40) dX6_takeOut_40 mK_RX6_28 (Nat.le_of_ble_eq_true rfl) (Nat.le_trans (Nat.le_of_ble_eq_true rfl) hd) (Nat.zero_le _) (Nat.zero_le _) ?_
          refine g_istore (pc := 43) dX6_takeOut_43 (Nat.le_of_ble_eq_true rfl) (L' := [some (.ref 74), some (.int v1), none, some (.ref v3), some (.int v4), some (.int v5), some (.int (imin v4 (rd u 77 v5.toNatClampNeg)))]) rfl ?_
          refine g_aload_n (pc := 45) dX6_takeOut_45 rfl ?_
          refine g_iload (pc := 46) dX6_takeOut_46 rfl ?_
          refine g_iload (pc := 48) dX6_takeOut_48 rfl ?_
          refine g_aload_n (pc := 50) dX6_takeOut_50 rfl ?_
          obtain ⟨u6, e5, h⟩ := x_bind h
          refine g_cV (pc := 51) dX6_takeOut_51 cV_RX6_34 (M_X6_lessen (Nat.le_refl _) e5) xc_74 (as := [.int v5, .int (imin v4 (rd u 77 v5.toNatClampNeg)), .ref v3]) (st := []) rfl rfl (Nat.le_of_ble_eq_true rfl) (Nat.le_trans (Nat.le_of_ble_eq_true rfl) hd) rfl ?_
          refine g_iload (pc := 54) dX6_takeOut_54 rfl ?_
          refine g_iload (pc := 56) dX6_takeOut_56 rfl ?_
          refine g_isub (pc := 58) dX6_takeOut_58 rfl ?_
          refine g_istore (pc := 59) dX6_takeOut_59 (Nat.le_of_ble_eq_true rfl) (L' := [some (.ref 74), some (.int v1), none, some (.ref v3), some (.int (v4 - (imin v4 (rd u 77 v5.toNatClampNeg)))), some (.int v5), some (.int (imin v4 (rd u 77 v5.toNatClampNeg)))]) rfl ?_
          refine g_L (L' := [some (.ref 74), some (.int v1), none, some (.ref v3), some (.int (v4 - (imin v4 (rd u 77 v5.toNatClampNeg)))), some (.int v5), none]) ⟨rfl, ⟨rfl, ⟨rfl, ⟨rfl, ⟨rfl, trivial⟩⟩⟩⟩⟩ ?_
          exact G_X6_takeOut_61 hd ih v1 v3 (v4 - (imin v4 (rd u 77 v5.toNatClampNeg))) v5 u6 h
set_option maxRecDepth 100000 in
set_option maxHeartbeats 4000000 in
theorem G_X6_takeOut_0 {sc : Nat × (Nat → Int32)} {d : Nat} (hd : 1 ≤ d) {u' : xS} (v1 : Int32) (v2 : Int32) (v3 : Nat) (u : xS) (h : f_X6_takeOut v1 v2 v3 u = some u') : xG sc mX6_takeOut d 0 0 (xR none (xL0, u') 0 0) 0 0 0 [some (.ref 74), some (.int v1), some (.int v2), some (.ref v3), none, none, none] [] (xL0, u) := by
  rw [f_X6_takeOut] at h
  refine g_iload_n (pc := 0) dX6_takeOut_0 rfl ?_
  refine g_istore (pc := 1) dX6_takeOut_1 (Nat.le_of_ble_eq_true rfl) (L' := [some (.ref 74), some (.int v1), some (.int v2), some (.ref v3), some (.int v2), none, none]) rfl ?_
  refine g_iconst (pc := 3) dX6_takeOut_3 ic_0 ?_
  refine g_istore (pc := 4) dX6_takeOut_4 (Nat.le_of_ble_eq_true rfl) (L' := [some (.ref 74), some (.int v1), some (.int v2), some (.ref v3), some (.int v2), some (.int (0 : Int32)), none]) rfl ?_
  refine g_L (L' := [some (.ref 74), some (.int v1), none, some (.ref v3), some (.int v2), some (.int (0 : Int32)), none]) ⟨rfl, ⟨rfl, ⟨rfl, ⟨rfl, ⟨rfl, trivial⟩⟩⟩⟩⟩ ?_
  exact G_X6_takeOut_6 hd xN v1 v3 v2 (0 : Int32) u h
set_option maxRecDepth 100000 in
set_option maxHeartbeats 4000000 in
theorem M_X6_takeOut {sc : Nat × (Nat → Int32)} {d : Nat} (hd : 1 ≤ d) {u u' : xS} {a1 : Int32} {a2 : Int32} {a3 : Nat} (h : f_X6_takeOut a1 a2 a3 u = some u') : xMt sc mX6_takeOut d 0 0 [.ref 74, .int a1, .int a2, .ref a3] (xL0, u) none (xL0, u') :=
  xMt.of (by decide +kernel) (by decide +kernel) (Nat.le_of_ble_eq_true rfl) (L := [some (.ref 74), some (.int a1), some (.int a2), some (.ref a3), none, none, none]) rfl ((G_X6_takeOut_0 hd a1 a2 a3 u h))
set_option maxRecDepth 100000 in
set_option maxHeartbeats 4000000 in
theorem G_X2_add_0 {sc : Nat × (Nat → Int32)} {d : Nat} (hd : 0 ≤ d) {r : Int32} {u' : xS} (u : xS) (h : f_X2_add u = some (r, u')) : xG sc mX2_add d 0 0 (xR (some (.int r)) (xL0, u') 0 0) 0 0 0 [some (.ref 87)] [] (xL0, u) := by
  rw [f_X2_add] at h
  refine g_aload_n (pc := 0) dX2_add_0 rfl ?_
  refine g_gI (pc := 1) dX2_add_1 fI_RX2_20 xc_87 (v := (rd u 87 2)) rfl ?_
  refine g_bipush (pc := 4) dX2_add_4 bp_20 ?_
  refine g_icmp_lt (tgt := 11) (pc := 6) dX2_add_6 (by decide) (fun c1 => ?_) (fun c1 => ?_)
  · replace h := (if_pos c1).symm.trans h
    refine g_aload_n (pc := 11) dX2_add_11 rfl ?_
    refine g_gR (pc := 12) dX2_add_12 fR_RX2_16 xc_87 (v := 109) rfl ?_
    refine g_aload_n (pc := 15) dX2_add_15 rfl ?_
    refine g_gI (pc := 16) dX2_add_16 fI_RX2_20 xc_87 (v := (rd u 87 2)) rfl ?_
    refine g_iconst (pc := 19) dX2_add_19 ic_2 ?_
    obtain ⟨g2, h⟩ := x_gd h
    refine g_iastore (pc := 20) dX2_add_20 xc_109 (xin_of g2) (u' := (wr u 109 (rd u 87 2).toNatClampNeg (2 : Int32))) rfl ?_
    refine g_aload_n (pc := 21) dX2_add_21 rfl ?_
    refine g_dup (pc := 22) dX2_add_22 rfl ?_
    refine g_gI (pc := 23) dX2_add_23 fI_RX2_20 xc_87 (v := (rd u 87 2)) rfl ?_
    refine g_dup_x1 (pc := 26) dX2_add_26 rfl rfl ?_
    refine g_iconst (pc := 27) dX2_add_27 ic_1 ?_
    refine g_iadd (pc := 28) dX2_add_28 rfl ?_
    refine g_pI (pc := 29) dX2_add_29 pI_RX2_20 xc_87 (u' := (wr (wr u 109 (rd u 87 2).toNatClampNeg (2 : Int32)) 87 2 ((rd u 87 2) + (1 : Int32)))) rfl ?_
    obtain ⟨h1, h2⟩ := x_inj2 h
    subst h1
    subst h2
    exact g_iret (pc := 32) dX2_add_32 rfl rfl rfl (Nat.le_refl _) (Nat.le_refl _)
  · replace h := (if_neg c1).symm.trans h
    refine g_iconst (pc := 9) dX2_add_9 ic_m1 ?_
    obtain ⟨h1, h2⟩ := x_inj2 h
    subst h1
    subst h2
    exact g_iret (pc := 10) dX2_add_10 rfl rfl rfl (Nat.le_refl _) (Nat.le_refl _)
set_option maxRecDepth 100000 in
set_option maxHeartbeats 4000000 in
theorem M_X2_add {sc : Nat × (Nat → Int32)} {d : Nat} (hd : 0 ≤ d) {r : Int32} {u u' : xS} (h : f_X2_add u = some (r, u')) : xMt sc mX2_add d 0 0 [.ref 87] (xL0, u) (some (.int r)) (xL0, u') :=
  xMt.of (by decide +kernel) (by decide +kernel) (Nat.le_of_ble_eq_true rfl) (L := [some (.ref 87)]) rfl ((G_X2_add_0 hd u h))
set_option maxRecDepth 100000 in
set_option maxHeartbeats 4000000 in
theorem G_X11_make_68 {sc : Nat × (Nat → Int32)} {d : Nat} (hd : 2 ≤ d) {r : Int32} {u' : xS} : ∀ (n : Nat) (v1 : Int32) (v2 : Int32) (v3 : Int32) (u : xS), f_X11_make_68 n v1 v2 v3 u = some (r, u') → xG sc mX11_make d 0 0 (xR (some (.int r)) (xL0, u') 0 0) 0 0 68 [some (.ref 0), some (.int v1), some (.int v2), some (.int v3)] [] (xL0, u) := by
  intro n
  induction n with
  | zero =>
    intro v1 v2 v3 u h
    rw [f_X11_make_68] at h
    cases h
  | succ n ih =>
    intro v1 v2 v3 u h
    rw [f_X11_make_68] at h
    refine g_iload_n (pc := 68) dX11_make_68 rfl ?_
    refine g_aload_n (pc := 69) dX11_make_69 rfl ?_
    refine g_gR (pc := 70) dX11_make_70 fR_RX11_12 xc_0 (v := 1) rfl ?_
    refine g_gI (pc := 73) dX11_make_73 fI_RX11_102 xc_1 (v := (rd u 1 2)) rfl ?_
    refine g_icmp_ge (tgt := 116) (pc := 76) dX11_make_76 (by decide) (fun c1 => ?_) (fun c1 => ?_)
    · replace h := (if_pos c1).symm.trans h
      refine g_iload_n (pc := 116) dX11_make_116 rfl ?_
      obtain ⟨h1, h2⟩ := x_inj2 h
      subst h1
      subst h2
      exact g_iret (pc := 117) dX11_make_117 rfl rfl rfl (Nat.le_refl _) (Nat.le_refl _)
    · replace h := (if_neg c1).symm.trans h
      refine g_aload_n (pc := 79) dX11_make_79 rfl ?_
      refine g_gR (pc := 80) dX11_make_80 fR_RX11_54 xc_0 (v := 74) rfl ?_
      refine g_iload_n (pc := 83) dX11_make_83 rfl ?_
      refine g_aload_n (pc := 84) dX11_make_84 rfl ?_
      refine g_gR (pc := 85) dX11_make_85 fR_RX11_61 xc_0 (v := 79) rfl ?_
      refine g_gR (pc := 88) dX11_make_88 fR_RX11_286 xc_79 (v := 80) rfl ?_
      refine g_iload_n (pc := 91) dX11_make_91 rfl ?_
      obtain ⟨g2, h⟩ := x_gd h
      refine g_iaload (pc := 92) dX11_make_92 xc_80 (xin_of g2) (v := (rd u 80 v3.toNatClampNeg)) rfl ?_
      refine g_iload_n (pc := 93) dX11_make_93 rfl ?_
      refine g_bipush (pc := 94) dX11_make_94 bp_12 ?_
      refine g_idiv (pc := 96) dX11_make_96 (by decide) rfl ?_
      refine g_imul (pc := 97) dX11_make_97 rfl ?_
      refine g_aload_n (pc := 98) dX11_make_98 rfl ?_
      refine g_gR (pc := 99) dX11_make_99 fR_RX11_68 xc_0 (v := 87) rfl ?_
      refine g_gR (pc := 102) dX11_make_102 fR_RX11_357 xc_87 (v := 88) rfl ?_
      refine g_iload_n (pc := 105) dX11_make_105 rfl ?_
      obtain ⟨g3, h⟩ := x_gd h
      refine g_aaload (pc := 106) dX11_make_106 xc_88 (xin_of g3) (v := (89 + v2.toNatClampNeg)) (xrf_88 _ (xin_lt g3)) ?_
      obtain ⟨u5, e4, h⟩ := x_bind h
      refine g_cV (pc := 107) dX11_make_107 cV_RX11_273 (M_X6_takeOut (Nat.le_refl _) e4) xc_74 (as := [.int v3, .int ((rd u 80 v3.toNatClampNeg) * (v1 / (12 : Int32))), .ref (89 + v2.toNatClampNeg)]) (st := []) rfl rfl (Nat.le_of_ble_eq_true rfl) (Nat.le_trans (Nat.le_of_ble_eq_true rfl) hd) rfl ?_
      refine g_inc (pc := 110) dX11_make_110 (Nat.le_of_ble_eq_true rfl) rfl ic_1 (L' := [some (.ref 0), some (.int v1), some (.int v2), some (.int (v3 + (1 : Int32)))]) rfl ?_
      refine g_goto (tgt := 68) (pc := 113) dX11_make_113 (by decide) ?_
      exact ih v1 v2 (v3 + (1 : Int32)) u5 h
set_option maxRecDepth 100000 in
set_option maxHeartbeats 4000000 in
theorem G_X11_make_0 {sc : Nat × (Nat → Int32)} {d : Nat} (hd : 2 ≤ d) {r : Int32} {u' : xS} (v1 : Int32) (u : xS) (h : f_X11_make v1 u = some (r, u')) : xG sc mX11_make d 0 0 (xR (some (.int r)) (xL0, u') 0 0) 0 0 0 [some (.ref 0), some (.int v1), none, none] [] (xL0, u) := by
  rw [f_X11_make] at h
  refine g_iload_n (pc := 0) dX11_make_0 rfl ?_
  refine g_bipush (pc := 1) dX11_make_1 bp_12 ?_
  refine g_sipush (pc := 3) dX11_make_3 sp_9996 ?_
  refine g_cS (pc := 6) dX11_make_6 cS_RX11_94 (M_X11_lies (Nat.le_refl _) rfl) (as := [.int v1, .int (12 : Int32), .int (9996 : Int32)]) (st := []) rfl rfl (Nat.le_of_ble_eq_true rfl) (Nat.le_trans (Nat.le_of_ble_eq_true rfl) hd) rfl ?_
  refine g_if_eq (tgt := 19) (pc := 9) dX11_make_9 (by decide) (fun c1 => ?_) (fun c1 => ?_)
  · replace h := (if_pos c1).symm.trans h
    refine g_iconst (pc := 19) dX11_make_19 ic_m1 ?_
    obtain ⟨h1, h2⟩ := x_inj2 h
    subst h1
    subst h2
    exact g_iret (pc := 20) dX11_make_20 rfl rfl rfl (Nat.le_refl _) (Nat.le_refl _)
  · replace h := (if_neg c1).symm.trans h
    refine g_iload_n (pc := 12) dX11_make_12 rfl ?_
    refine g_bipush (pc := 13) dX11_make_13 bp_12 ?_
    refine g_irem (pc := 15) dX11_make_15 (by decide) rfl ?_
    refine g_if_eq (tgt := 21) (pc := 16) dX11_make_16 (by decide) (fun c2 => ?_) (fun c2 => ?_)
    · replace h := (if_pos c2).symm.trans h
      refine g_aload_n (pc := 21) dX11_make_21 rfl ?_
      refine g_gR (pc := 22) dX11_make_22 fR_RX11_61 xc_0 (v := 79) rfl ?_
      obtain ⟨x4, e3, h⟩ := x_bind h
      refine g_cV (pc := 25) dX11_make_25 cV_RX11_289 (M_X1_inAll (Nat.le_refl _) e3) xc_79 (as := []) (st := []) rfl rfl (Nat.le_of_ble_eq_true rfl) (Nat.le_trans (Nat.le_of_ble_eq_true rfl) hd) rfl ?_
      refine g_bipush (pc := 28) dX11_make_28 bp_12 ?_
      refine g_icmp_ne (tgt := 56) (pc := 30) dX11_make_30 (by decide) (fun c5 => ?_) (fun c5 => ?_)
      · replace h := (if_neg c5).symm.trans h
        refine g_iconst (pc := 56) dX11_make_56 ic_m1 ?_
        obtain ⟨h1, h2⟩ := x_inj2 h
        subst h1
        subst h2
        exact g_iret (pc := 57) dX11_make_57 rfl rfl rfl (Nat.le_refl _) (Nat.le_refl _)
      · replace h := (if_pos c5).symm.trans h
        refine g_aload_n (pc := 33) dX11_make_33 rfl ?_
        refine g_gR (pc := 34) dX11_make_34 fR_RX11_68 xc_0 (v := 87) rfl ?_
        refine g_gI (pc := 37) dX11_make_37 fI_RX11_351 xc_87 (v := (rd u 87 2)) rfl ?_
        refine g_bipush (pc := 40) dX11_make_40 bp_20 ?_
        refine g_icmp_ge (tgt := 56) (pc := 42) dX11_make_42 (by decide) (fun c6 => ?_) (fun c6 => ?_)
        · replace h := (if_pos c6).symm.trans h
          refine g_iconst (pc := 56) dX11_make_56 ic_m1 ?_
          obtain ⟨h1, h2⟩ := x_inj2 h
          subst h1
          subst h2
          exact g_iret (pc := 57) dX11_make_57 rfl rfl rfl (Nat.le_refl _) (Nat.le_refl _)
        · replace h := (if_neg c6).symm.trans h
          refine g_aload_n (pc := 45) dX11_make_45 rfl ?_
          refine g_iload_n (pc := 46) dX11_make_46 rfl ?_
          refine g_bipush (pc := 47) dX11_make_47 bp_12 ?_
          refine g_idiv (pc := 49) dX11_make_49 (by decide) rfl ?_
          obtain ⟨x8, e7, h⟩ := x_bind h
          refine g_cV (pc := 50) dX11_make_50 cV_RX11_352 (M_X11_hasFor (Nat.le_refl _) e7) xc_0 (as := [.int (v1 / (12 : Int32))]) (st := []) rfl rfl (Nat.le_of_ble_eq_true rfl) (Nat.le_trans (Nat.le_of_ble_eq_true rfl) hd) rfl ?_
          refine g_if_ne (tgt := 58) (pc := 53) dX11_make_53 (by decide) (fun c9 => ?_) (fun c9 => ?_)
          · replace h := (if_neg c9).symm.trans h
            refine g_aload_n (pc := 58) dX11_make_58 rfl ?_
            refine g_gR (pc := 59) dX11_make_59 fR_RX11_68 xc_0 (v := 87) rfl ?_
            obtain ⟨⟨x11, u12⟩, e10, h⟩ := x_bind h
            dsimp only at h
            refine g_cV (pc := 62) dX11_make_62 cV_RX11_355 (M_X2_add (Nat.le_refl _) e10) xc_87 (as := []) (st := []) rfl rfl (Nat.le_of_ble_eq_true rfl) (Nat.le_trans (Nat.le_of_ble_eq_true rfl) hd) rfl ?_
            refine g_istore_n (pc := 65) dX11_make_65 (Nat.le_of_ble_eq_true rfl) (L' := [some (.ref 0), some (.int v1), some (.int x11), none]) rfl ?_
            refine g_iconst (pc := 66) dX11_make_66 ic_0 ?_
            refine g_istore_n (pc := 67) dX11_make_67 (Nat.le_of_ble_eq_true rfl) (L' := [some (.ref 0), some (.int v1), some (.int x11), some (.int (0 : Int32))]) rfl ?_
            exact G_X11_make_68 hd xN v1 x11 (0 : Int32) u12 h
          · replace h := (if_pos c9).symm.trans h
            refine g_iconst (pc := 56) dX11_make_56 ic_m1 ?_
            obtain ⟨h1, h2⟩ := x_inj2 h
            subst h1
            subst h2
            exact g_iret (pc := 57) dX11_make_57 rfl rfl rfl (Nat.le_refl _) (Nat.le_refl _)
    · replace h := (if_neg c2).symm.trans h
      refine g_iconst (pc := 19) dX11_make_19 ic_m1 ?_
      obtain ⟨h1, h2⟩ := x_inj2 h
      subst h1
      subst h2
      exact g_iret (pc := 20) dX11_make_20 rfl rfl rfl (Nat.le_refl _) (Nat.le_refl _)
set_option maxRecDepth 100000 in
set_option maxHeartbeats 4000000 in
theorem M_X11_make {sc : Nat × (Nat → Int32)} {d : Nat} (hd : 2 ≤ d) {r : Int32} {u u' : xS} {a1 : Int32} (h : f_X11_make a1 u = some (r, u')) : xMt sc mX11_make d 0 0 [.ref 0, .int a1] (xL0, u) (some (.int r)) (xL0, u') :=
  xMt.of (by decide +kernel) (by decide +kernel) (Nat.le_of_ble_eq_true rfl) (L := [some (.ref 0), some (.int a1), none, none]) rfl ((G_X11_make_0 hd a1 u h))
set_option maxRecDepth 100000 in
set_option maxHeartbeats 4000000 in
theorem G_X11_met_0 {sc : Nat × (Nat → Int32)} {d : Nat} (hd : 2 ≤ d) {r : Int32} {u : xS} (v1 : Int32) (v2 : Int32) (h : f_X11_met u v1 v2 = some r) : xG sc mX11_met d 0 0 (xR (some (.int r)) (xL0, u) 0 0) 0 0 0 [some (.ref 0), some (.int v1), some (.int v2)] [] (xL0, u) := by
  rw [f_X11_met] at h
  refine g_iload_n (pc := 0) dX11_met_0 rfl ?_
  refine g_cS (pc := 1) dX11_met_1 cS_RX11_138 (M_X11_isSorter (Nat.le_refl _) rfl) (as := [.int v1]) (st := []) rfl rfl (Nat.le_of_ble_eq_true rfl) (Nat.le_trans (Nat.le_of_ble_eq_true rfl) hd) rfl ?_
  refine g_if_eq (tgt := 26) (pc := 4) dX11_met_4 (by decide) (fun c1 => ?_) (fun c1 => ?_)
  · replace h := (if_pos c1).symm.trans h
    refine g_iconst (pc := 26) dX11_met_26 ic_m1 ?_
    replace h := Option.some.inj h
    subst h
    exact g_iret (pc := 27) dX11_met_27 rfl rfl rfl (Nat.le_refl _) (Nat.le_refl _)
  · replace h := (if_neg c1).symm.trans h
    refine g_iload_n (pc := 7) dX11_met_7 rfl ?_
    refine g_cS (pc := 8) dX11_met_8 cS_RX11_138 (M_X11_isSorter (Nat.le_refl _) rfl) (as := [.int v2]) (st := []) rfl rfl (Nat.le_of_ble_eq_true rfl) (Nat.le_trans (Nat.le_of_ble_eq_true rfl) hd) rfl ?_
    refine g_if_eq (tgt := 26) (pc := 11) dX11_met_11 (by decide) (fun c2 => ?_) (fun c2 => ?_)
    · replace h := (if_pos c2).symm.trans h
      refine g_iconst (pc := 26) dX11_met_26 ic_m1 ?_
      replace h := Option.some.inj h
      subst h
      exact g_iret (pc := 27) dX11_met_27 rfl rfl rfl (Nat.le_refl _) (Nat.le_refl _)
    · replace h := (if_neg c2).symm.trans h
      refine g_aload_n (pc := 14) dX11_met_14 rfl ?_
      refine g_gR (pc := 15) dX11_met_15 fR_RX11_75 xc_0 (v := 113) rfl ?_
      refine g_iload_n (pc := 18) dX11_met_18 rfl ?_
      refine g_iload_n (pc := 19) dX11_met_19 rfl ?_
      obtain ⟨x4, e3, h⟩ := x_bind h
      refine g_cV (pc := 20) dX11_met_20 cV_RX11_260 (M_X3_alike (Nat.le_refl _) e3) xc_113 (as := [.int v1, .int v2]) (st := []) rfl rfl (Nat.le_of_ble_eq_true rfl) (Nat.le_trans (Nat.le_of_ble_eq_true rfl) hd) rfl ?_
      refine g_goto (tgt := 27) (pc := 23) dX11_met_23 (by decide) ?_
      replace h := Option.some.inj h
      subst h
      exact g_iret (pc := 27) dX11_met_27 rfl rfl rfl (Nat.le_refl _) (Nat.le_refl _)
set_option maxRecDepth 100000 in
set_option maxHeartbeats 4000000 in
theorem M_X11_met {sc : Nat × (Nat → Int32)} {d : Nat} (hd : 2 ≤ d) {r : Int32} {u : xS} {a1 : Int32} {a2 : Int32} (h : f_X11_met u a1 a2 = some r) : xMt sc mX11_met d 0 0 [.ref 0, .int a1, .int a2] (xL0, u) (some (.int r)) (xL0, u) :=
  xMt.of (by decide +kernel) (by decide +kernel) (Nat.le_of_ble_eq_true rfl) (L := [some (.ref 0), some (.int a1), some (.int a2)]) rfl ((G_X11_met_0 hd a1 a2 h))
set_option maxRecDepth 100000 in
set_option maxHeartbeats 4000000 in
theorem G_X1_choose_0 {sc : Nat × (Nat → Int32)} {d : Nat} (hd : 0 ≤ d) {u' : xS} (v1 : Int32) (v2 : Int32) (v3 : Int32) (u : xS) (h : f_X1_choose v1 v2 v3 u = some u') : xG sc mX1_choose d 0 0 (xR none (xL0, u') 0 0) 0 0 0 [some (.ref 79), some (.int v1), some (.int v2), some (.int v3)] [] (xL0, u) := by
  rw [f_X1_choose] at h
  refine g_aload_n (pc := 0) dX1_choose_0 rfl ?_
  refine g_gI (pc := 1) dX1_choose_1 fI_RX1_29 xc_79 (v := (rd u 79 5)) rfl ?_
  refine g_bipush (pc := 4) dX1_choose_4 bp_6 ?_
  refine g_icmp_ge (tgt := 49) (pc := 6) dX1_choose_6 (by decide) (fun c1 => ?_) (fun c1 => ?_)
  · replace h := (if_pos c1).symm.trans h
    replace h := Option.some.inj h
    subst h
    exact g_ret (pc := 49) dX1_choose_49 rfl rfl rfl (Nat.le_refl _) (Nat.le_refl _)
  · replace h := (if_neg c1).symm.trans h
    refine g_aload_n (pc := 9) dX1_choose_9 rfl ?_
    refine g_gR (pc := 10) dX1_choose_10 fR_RX1_20 xc_79 (v := 82) rfl ?_
    refine g_aload_n (pc := 13) dX1_choose_13 rfl ?_
    refine g_gI (pc := 14) dX1_choose_14 fI_RX1_29 xc_79 (v := (rd u 79 5)) rfl ?_
    refine g_iload_n (pc := 17) dX1_choose_17 rfl ?_
    obtain ⟨g2, h⟩ := x_gd h
    refine g_iastore (pc := 18) dX1_choose_18 xc_82 (xin_of g2) (u' := (wr u 82 (rd u 79 5).toNatClampNeg v1)) rfl ?_
    refine g_aload_n (pc := 19) dX1_choose_19 rfl ?_
    refine g_gR (pc := 20) dX1_choose_20 fR_RX1_23 xc_79 (v := 83) rfl ?_
    refine g_aload_n (pc := 23) dX1_choose_23 rfl ?_
    refine g_gI (pc := 24) dX1_choose_24 fI_RX1_29 xc_79 (v := (rd u 79 5)) rfl ?_
    refine g_iload_n (pc := 27) dX1_choose_27 rfl ?_
    refine g_iastore (pc := 28) dX1_choose_28 xc_83 (xin_of g2) (u' := (wr (wr u 82 (rd u 79 5).toNatClampNeg v1) 83 (rd u 79 5).toNatClampNeg v2)) rfl ?_
    refine g_aload_n (pc := 29) dX1_choose_29 rfl ?_
    refine g_gR (pc := 30) dX1_choose_30 fR_RX1_26 xc_79 (v := 84) rfl ?_
    refine g_aload_n (pc := 33) dX1_choose_33 rfl ?_
    refine g_gI (pc := 34) dX1_choose_34 fI_RX1_29 xc_79 (v := (rd u 79 5)) rfl ?_
    refine g_iload_n (pc := 37) dX1_choose_37 rfl ?_
    refine g_iastore (pc := 38) dX1_choose_38 xc_84 (xin_of g2) (u' := (wr (wr (wr u 82 (rd u 79 5).toNatClampNeg v1) 83 (rd u 79 5).toNatClampNeg v2) 84 (rd u 79 5).toNatClampNeg v3)) rfl ?_
    refine g_aload_n (pc := 39) dX1_choose_39 rfl ?_
    refine g_dup (pc := 40) dX1_choose_40 rfl ?_
    refine g_gI (pc := 41) dX1_choose_41 fI_RX1_29 xc_79 (v := (rd u 79 5)) rfl ?_
    refine g_iconst (pc := 44) dX1_choose_44 ic_1 ?_
    refine g_iadd (pc := 45) dX1_choose_45 rfl ?_
    refine g_pI (pc := 46) dX1_choose_46 pI_RX1_29 xc_79 (u' := (wr (wr (wr (wr u 82 (rd u 79 5).toNatClampNeg v1) 83 (rd u 79 5).toNatClampNeg v2) 84 (rd u 79 5).toNatClampNeg v3) 79 5 ((rd u 79 5) + (1 : Int32)))) rfl ?_
    replace h := Option.some.inj h
    subst h
    exact g_ret (pc := 49) dX1_choose_49 rfl rfl rfl (Nat.le_refl _) (Nat.le_refl _)
set_option maxRecDepth 100000 in
set_option maxHeartbeats 4000000 in
theorem M_X1_choose {sc : Nat × (Nat → Int32)} {d : Nat} (hd : 0 ≤ d) {u u' : xS} {a1 : Int32} {a2 : Int32} {a3 : Int32} (h : f_X1_choose a1 a2 a3 u = some u') : xMt sc mX1_choose d 0 0 [.ref 79, .int a1, .int a2, .int a3] (xL0, u) none (xL0, u') :=
  xMt.of (by decide +kernel) (by decide +kernel) (Nat.le_of_ble_eq_true rfl) (L := [some (.ref 79), some (.int a1), some (.int a2), some (.int a3)]) rfl ((G_X1_choose_0 hd a1 a2 a3 u h))
set_option maxRecDepth 100000 in
set_option maxHeartbeats 4000000 in
theorem G_X1_settle_0 {sc : Nat × (Nat → Int32)} {d : Nat} (hd : 1 ≤ d) {u' : xS} (u : xS) (h : f_X1_settle u = some u') : xG sc mX1_settle d 0 0 (xR none (xL0, u') 0 0) 0 0 0 [some (.ref 79)] [] (xL0, u) := by
  rw [f_X1_settle] at h
  refine g_aload_n (pc := 0) dX1_settle_0 rfl ?_
  refine g_gR (pc := 1) dX1_settle_1 fR_RX1_36 xc_79 (v := 86) rfl ?_
  refine g_iconst (pc := 4) dX1_settle_4 ic_0 ?_
  refine g_aload_n (pc := 5) dX1_settle_5 rfl ?_
  refine g_gR (pc := 6) dX1_settle_6 fR_RX1_9 xc_79 (v := 80) rfl ?_
  refine g_iconst (pc := 9) dX1_settle_9 ic_0 ?_
  refine g_bipush (pc := 10) dX1_settle_10 bp_16 ?_
  obtain ⟨g1, h⟩ := x_gd h
  refine g_cp (pc := 12) dX1_settle_12 kcp_RX1_45 xc_86 xc_80 (xcok_of g1) (Nat.le_of_ble_eq_true rfl) (Nat.le_trans (Nat.le_of_ble_eq_true rfl) hd) (u' := (xcpy u 86 (0 : Int32).toNatClampNeg 80 (0 : Int32).toNatClampNeg (16 : Int32).toNatClampNeg)) rfl ?_
  replace h := Option.some.inj h
  subst h
  exact g_ret (pc := 15) dX1_settle_15 rfl rfl rfl (Nat.le_refl _) (Nat.le_refl _)
set_option maxRecDepth 100000 in
set_option maxHeartbeats 4000000 in
theorem M_X1_settle {sc : Nat × (Nat → Int32)} {d : Nat} (hd : 1 ≤ d) {u u' : xS} (h : f_X1_settle u = some u') : xMt sc mX1_settle d 0 0 [.ref 79] (xL0, u) none (xL0, u') :=
  xMt.of (by decide +kernel) (by decide +kernel) (Nat.le_of_ble_eq_true rfl) (L := [some (.ref 79)]) rfl ((G_X1_settle_0 hd u h))
