set_option maxRecDepth 100000 in
set_option maxHeartbeats 4000000 in
theorem G_X11_pay_160 {sc : Nat × (Nat → Int32)} {d : Nat} (hd : 3 ≤ d) {r : Int32} {u' : xS} (s1 : Int32) (s2 : Int32) (u : xS) (h : f_X11_pay_160 s1 s2 u = some (r, u')) : xG sc mX11_pay d 0 0 (xR (some (.int r)) (xL0, u') 0 0) 0 0 160 [some (.ref 0), none, none, none, none, none] [.int s2, .int s1, .ref 58] (xL0, u) := by
  rw [f_X11_pay_160] at h
  obtain ⟨u2, e1, h⟩ := x_bind h
  refine g_cV (pc := 160) dX11_pay_160 cV_RX11_211 (M_X10_tell (Nat.le_refl _) e1) xc_58 (as := [.int s1, .int s2]) (st := []) rfl rfl (Nat.le_of_ble_eq_true rfl) (Nat.le_trans (Nat.le_of_ble_eq_true rfl) hd) rfl ?_
  refine g_aload_n (pc := 163) dX11_pay_163 rfl ?_
  refine g_gR (pc := 164) dX11_pay_164 fR_RX11_47 xc_0 (v := 58) rfl ?_
  refine g_bipush (pc := 167) dX11_pay_167 bp_10 ?_
  obtain ⟨⟨x4, u5⟩, e3, h⟩ := x_bind h
  dsimp only at h
  refine g_cV (pc := 169) dX11_pay_169 cV_RX11_224 (M_X10_valueOf (Nat.le_refl _) e3) xc_58 (as := [.int (10 : Int32)]) (st := []) rfl rfl (Nat.le_of_ble_eq_true rfl) (Nat.le_trans (Nat.le_of_ble_eq_true rfl) hd) rfl ?_
  cases h
  exact g_iret (pc := 172) dX11_pay_172 rfl rfl rfl (Nat.le_refl _) (Nat.le_refl _)
set_option maxRecDepth 100000 in
set_option maxHeartbeats 4000000 in
theorem G_X11_pay_85 {sc : Nat × (Nat → Int32)} {d : Nat} (hd : 3 ≤ d) {r : Int32} {u' : xS} {k19 : Int32 → Int32 → Int32 → Int32 → Int32 → xS → Option (Int32 × xS)} (hk19 : ∀ (v1 : Int32) (v2 : Int32) (v3 : Int32) (v4 : Int32) (v5 : Int32) (u : xS), k19 v1 v2 v3 v4 v5 u = some (r, u') → xG sc mX11_pay d 0 0 (xR (some (.int r)) (xL0, u') 0 0) 0 0 19 [some (.ref 0), some (.int v1), some (.int v2), some (.int v3), some (.int v4), some (.int v5)] [] (xL0, u)) (v1 : Int32) (v2 : Int32) (v3 : Int32) (v4 : Int32) (v5 : Int32) (u : xS) (h : f_X11_pay_85 k19 v1 v2 v3 v4 v5 u = some (r, u')) : xG sc mX11_pay d 0 0 (xR (some (.int r)) (xL0, u') 0 0) 0 0 85 [some (.ref 0), some (.int v1), some (.int v2), some (.int v3), some (.int v4), some (.int v5)] [] (xL0, u) := by
  rw [f_X11_pay_85] at h
  refine g_inc (pc := 85) dX11_pay_85 (Nat.le_of_ble_eq_true rfl) rfl ic_1 (L' := [some (.ref 0), some (.int v1), some (.int v2), some (.int v3), some (.int v4), some (.int (v5 + (1 : Int32)))]) rfl ?_
  refine g_goto (tgt := 19) (pc := 88) dX11_pay_88 (by decide) ?_
  exact hk19 v1 v2 v3 v4 (v5 + (1 : Int32)) u h
set_option maxRecDepth 100000 in
set_option maxHeartbeats 4000000 in
theorem G_X11_pay_19 {sc : Nat × (Nat → Int32)} {d : Nat} (hd : 3 ≤ d) {r : Int32} {u' : xS} : ∀ (n : Nat) (v1 : Int32) (v2 : Int32) (v3 : Int32) (v4 : Int32) (v5 : Int32) (u : xS), f_X11_pay_19 n v1 v2 v3 v4 v5 u = some (r, u') → xG sc mX11_pay d 0 0 (xR (some (.int r)) (xL0, u') 0 0) 0 0 19 [some (.ref 0), some (.int v1), some (.int v2), some (.int v3), some (.int v4), some (.int v5)] [] (xL0, u) := by
  intro n
  induction n with
  | zero =>
    intro v1 v2 v3 v4 v5 u h
    rw [f_X11_pay_19] at h
    cases h
  | succ n ih =>
    intro v1 v2 v3 v4 v5 u h
    rw [f_X11_pay_19] at h
    refine g_iload (pc := 19) dX11_pay_19 rfl ?_
    refine g_aload_n (pc := 21) dX11_pay_21 rfl ?_
    refine g_gR (pc := 22) dX11_pay_22 fR_RX11_19 xc_0 (v := 13) rfl ?_
    refine g_gI (pc := 25) dX11_pay_25 fI_RX11_133 xc_13 (v := (rd u 13 8)) rfl ?_
    refine g_icmp_ge (tgt := 91) (pc := 28) dX11_pay_28 (by decide) (fun c1 => ?_) (fun c1 => ?_)
    · replace h := (if_pos c1).symm.trans h
      refine g_aload_n (pc := 91) dX11_pay_91 rfl ?_
      refine g_gR (pc := 92) dX11_pay_92 fR_RX11_75 xc_0 (v := 113) rfl ?_
      refine g_iload_n (pc := 95) dX11_pay_95 rfl ?_
      refine g_iconst (pc := 96) dX11_pay_96 ic_m1 ?_
      obtain ⟨x3, e2, h⟩ := x_bind h
      refine g_cV (pc := 97) dX11_pay_97 cV_RX11_260 (M_X3_alike (Nat.le_refl _) e2) xc_113 (as := [.int v1, .int (-1 : Int32)]) (st := []) rfl rfl (Nat.le_of_ble_eq_true rfl) (Nat.le_trans (Nat.le_of_ble_eq_true rfl) hd) rfl ?_
      refine g_istore (pc := 100) dX11_pay_100 (Nat.le_of_ble_eq_true rfl) (L' := [some (.ref 0), some (.int v1), some (.int v2), some (.int v3), some (.int v4), some (.int x3)]) rfl ?_
      refine g_aload_n (pc := 102) dX11_pay_102 rfl ?_
      refine g_gR (pc := 103) dX11_pay_103 fR_RX11_47 xc_0 (v := 58) rfl ?_
      obtain ⟨u5, e4, h⟩ := x_bind h
      refine g_cV (pc := 106) dX11_pay_106 cV_RX11_205 (M_X10_clearLetters (Nat.le_refl _) e4) xc_58 (as := []) (st := []) rfl rfl (Nat.le_of_ble_eq_true rfl) (Nat.le_trans (Nat.le_of_ble_eq_true rfl) hd) rfl ?_
      refine g_aload_n (pc := 109) dX11_pay_109 rfl ?_
      refine g_gR (pc := 110) dX11_pay_110 fR_RX11_47 xc_0 (v := 58) rfl ?_
      refine g_bipush (pc := 113) dX11_pay_113 bp_112 ?_
      refine g_iload_n (pc := 115) dX11_pay_115 rfl ?_
      obtain ⟨u7, e6, h⟩ := x_bind h
      refine g_cV (pc := 116) dX11_pay_116 cV_RX11_211 (M_X10_tell (Nat.le_refl _) e6) xc_58 (as := [.int (112 : Int32), .int v2]) (st := []) rfl rfl (Nat.le_of_ble_eq_true rfl) (Nat.le_trans (Nat.le_of_ble_eq_true rfl) hd) rfl ?_
      refine g_aload_n (pc := 119) dX11_pay_119 rfl ?_
      refine g_gR (pc := 120) dX11_pay_120 fR_RX11_47 xc_0 (v := 58) rfl ?_
      refine g_bipush (pc := 123) dX11_pay_123 bp_122 ?_
      refine g_iload_n (pc := 125) dX11_pay_125 rfl ?_
      obtain ⟨u9, e8, h⟩ := x_bind h
      refine g_cV (pc := 126) dX11_pay_126 cV_RX11_211 (M_X10_tell (Nat.le_refl _) e8) xc_58 (as := [.int (122 : Int32), .int v3]) (st := []) rfl rfl (Nat.le_of_ble_eq_true rfl) (Nat.le_trans (Nat.le_of_ble_eq_true rfl) hd) rfl ?_
      refine g_aload_n (pc := 129) dX11_pay_129 rfl ?_
      refine g_gR (pc := 130) dX11_pay_130 fR_RX11_47 xc_0 (v := 58) rfl ?_
      refine g_bipush (pc := 133) dX11_pay_133 bp_110 ?_
      refine g_iload (pc := 135) dX11_pay_135 rfl ?_
      obtain ⟨u11, e10, h⟩ := x_bind h
      refine g_cV (pc := 137) dX11_pay_137 cV_RX11_211 (M_X10_tell (Nat.le_refl _) e10) xc_58 (as := [.int (110 : Int32), .int v4]) (st := []) rfl rfl (Nat.le_of_ble_eq_true rfl) (Nat.le_trans (Nat.le_of_ble_eq_true rfl) hd) rfl ?_
      refine g_aload_n (pc := 140) dX11_pay_140 rfl ?_
      refine g_gR (pc := 141) dX11_pay_141 fR_RX11_47 xc_0 (v := 58) rfl ?_
      refine g_bipush (pc := 144) dX11_pay_144 bp_101 ?_
      refine g_iload (pc := 146) dX11_pay_146 rfl ?_
      refine g_iconst (pc := 148) dX11_pay_148 ic_m1 ?_
      refine g_icmp_ne (tgt := 158) (pc := 149) dX11_pay_149 (by decide) (fun c12 => ?_) (fun c12 => ?_)
      · replace h := (if_neg c12).symm.trans h
        refine g_iload (pc := 158) dX11_pay_158 rfl ?_
        refine g_L (L' := [some (.ref 0), none, none, none, none, none]) ⟨rfl, trivial⟩ ?_
        exact G_X11_pay_160 hd (101 : Int32) x3 u11 h
      · replace h := (if_pos c12).symm.trans h
        refine g_sipush (pc := 152) dX11_pay_152 sp_1000 ?_
        refine g_goto (tgt := 160) (pc := 155) dX11_pay_155 (by decide) ?_
        refine g_L (L' := [some (.ref 0), none, none, none, none, none]) ⟨rfl, trivial⟩ ?_
        exact G_X11_pay_160 hd (101 : Int32) (1000 : Int32) u11 h
    · replace h := (if_neg c1).symm.trans h
      refine g_aload_n (pc := 31) dX11_pay_31 rfl ?_
      refine g_gR (pc := 32) dX11_pay_32 fR_RX11_19 xc_0 (v := 13) rfl ?_
      refine g_gR (pc := 35) dX11_pay_35 fR_RX11_151 xc_13 (v := 18) rfl ?_
      refine g_iload (pc := 38) dX11_pay_38 rfl ?_
      obtain ⟨g13, h⟩ := x_gd h
      refine g_iaload (pc := 40) dX11_pay_40 xc_18 (xin_of g13) (v := (rd u 18 v5.toNatClampNeg)) rfl ?_
      refine g_iload_n (pc := 41) dX11_pay_41 rfl ?_
      refine g_icmp_ne (tgt := 85) (pc := 42) dX11_pay_42 (by decide) (fun c14 => ?_) (fun c14 => ?_)
      · replace h := (if_neg c14).symm.trans h
        exact G_X11_pay_85 hd ih v1 v2 v3 v4 v5 u h
      · replace h := (if_pos c14).symm.trans h
        refine g_iload_n (pc := 45) dX11_pay_45 rfl ?_
        refine g_aload_n (pc := 46) dX11_pay_46 rfl ?_
        refine g_gR (pc := 47) dX11_pay_47 fR_RX11_19 xc_0 (v := 13) rfl ?_
        refine g_gR (pc := 50) dX11_pay_50 fR_RX11_144 xc_13 (v := 16) rfl ?_
        refine g_iload (pc := 53) dX11_pay_53 rfl ?_
        refine g_iaload (pc := 55) dX11_pay_55 xc_16 (xin_of g13) (v := (rd u 16 v5.toNatClampNeg)) rfl ?_
        refine g_aload_n (pc := 56) dX11_pay_56 rfl ?_
        refine g_gR (pc := 57) dX11_pay_57 fR_RX11_19 xc_0 (v := 13) rfl ?_
        refine g_gR (pc := 60) dX11_pay_60 fR_RX11_168 xc_13 (v := 19) rfl ?_
        refine g_iload (pc := 63) dX11_pay_63 rfl ?_
        refine g_iaload (pc := 65) dX11_pay_65 xc_19 (xin_of g13) (v := (rd u 19 v5.toNatClampNeg)) rfl ?_
        refine g_isub (pc := 66) dX11_pay_66 rfl ?_
        refine g_iadd (pc := 67) dX11_pay_67 rfl ?_
        refine g_istore_n (pc := 68) dX11_pay_68 (Nat.le_of_ble_eq_true rfl) (L' := [some (.ref 0), some (.int v1), some (.int (v2 + ((rd u 16 v5.toNatClampNeg) - (rd u 19 v5.toNatClampNeg)))), some (.int v3), some (.int v4), some (.int v5)]) rfl ?_
        refine g_iload_n (pc := 69) dX11_pay_69 rfl ?_
        refine g_aload_n (pc := 70) dX11_pay_70 rfl ?_
        refine g_gR (pc := 71) dX11_pay_71 fR_RX11_19 xc_0 (v := 13) rfl ?_
        refine g_gR (pc := 74) dX11_pay_74 fR_RX11_168 xc_13 (v := 19) rfl ?_
        refine g_iload (pc := 77) dX11_pay_77 rfl ?_
        refine g_iaload (pc := 79) dX11_pay_79 xc_19 (xin_of g13) (v := (rd u 19 v5.toNatClampNeg)) rfl ?_
        refine g_iadd (pc := 80) dX11_pay_80 rfl ?_
        refine g_istore_n (pc := 81) dX11_pay_81 (Nat.le_of_ble_eq_true rfl) (L' := [some (.ref 0), some (.int v1), some (.int (v2 + ((rd u 16 v5.toNatClampNeg) - (rd u 19 v5.toNatClampNeg)))), some (.int (v3 + (rd u 19 v5.toNatClampNeg))), some (.int v4), some (.int v5)]) rfl ?_
        refine g_inc (pc := 82) dX11_pay_82 (Nat.le_of_ble_eq_true rfl) rfl ic_1 (L' := [some (.ref 0), some (.int v1), some (.int (v2 + ((rd u 16 v5.toNatClampNeg) - (rd u 19 v5.toNatClampNeg)))), some (.int (v3 + (rd u 19 v5.toNatClampNeg))), some (.int (v4 + (1 : Int32))), some (.int v5)]) rfl ?_
        exact G_X11_pay_85 hd ih v1 (v2 + ((rd u 16 v5.toNatClampNeg) - (rd u 19 v5.toNatClampNeg))) (v3 + (rd u 19 v5.toNatClampNeg)) (v4 + (1 : Int32)) v5 u h
set_option maxRecDepth 100000 in
set_option maxHeartbeats 4000000 in
theorem G_X11_pay_0 {sc : Nat × (Nat → Int32)} {d : Nat} (hd : 3 ≤ d) {r : Int32} {u' : xS} (v1 : Int32) (u : xS) (h : f_X11_pay v1 u = some (r, u')) : xG sc mX11_pay d 0 0 (xR (some (.int r)) (xL0, u') 0 0) 0 0 0 [some (.ref 0), some (.int v1), none, none, none, none] [] (xL0, u) := by
  rw [f_X11_pay] at h
  refine g_iload_n (pc := 0) dX11_pay_0 rfl ?_
  refine g_cS (pc := 1) dX11_pay_1 cS_RX11_138 (M_X11_isSorter (Nat.le_refl _) rfl) (as := [.int v1]) (st := []) rfl rfl (Nat.le_of_ble_eq_true rfl) (Nat.le_trans (Nat.le_of_ble_eq_true rfl) hd) rfl ?_
  refine g_if_ne (tgt := 9) (pc := 4) dX11_pay_4 (by decide) (fun c1 => ?_) (fun c1 => ?_)
  · replace h := (if_neg c1).symm.trans h
    refine g_iconst (pc := 9) dX11_pay_9 ic_0 ?_
    refine g_istore_n (pc := 10) dX11_pay_10 (Nat.le_of_ble_eq_true rfl) (L' := [some (.ref 0), some (.int v1), some (.int (0 : Int32)), none, none, none]) rfl ?_
    refine g_iconst (pc := 11) dX11_pay_11 ic_0 ?_
    refine g_istore_n (pc := 12) dX11_pay_12 (Nat.le_of_ble_eq_true rfl) (L' := [some (.ref 0), some (.int v1), some (.int (0 : Int32)), some (.int (0 : Int32)), none, none]) rfl ?_
    refine g_iconst (pc := 13) dX11_pay_13 ic_0 ?_
    refine g_istore (pc := 14) dX11_pay_14 (Nat.le_of_ble_eq_true rfl) (L' := [some (.ref 0), some (.int v1), some (.int (0 : Int32)), some (.int (0 : Int32)), some (.int (0 : Int32)), none]) rfl ?_
    refine g_iconst (pc := 16) dX11_pay_16 ic_0 ?_
    refine g_istore (pc := 17) dX11_pay_17 (Nat.le_of_ble_eq_true rfl) (L' := [some (.ref 0), some (.int v1), some (.int (0 : Int32)), some (.int (0 : Int32)), some (.int (0 : Int32)), some (.int (0 : Int32))]) rfl ?_
    exact G_X11_pay_19 hd xN v1 (0 : Int32) (0 : Int32) (0 : Int32) (0 : Int32) u h
  · replace h := (if_pos c1).symm.trans h
    refine g_iconst (pc := 7) dX11_pay_7 ic_m1 ?_
    cases h
    exact g_iret (pc := 8) dX11_pay_8 rfl rfl rfl (Nat.le_refl _) (Nat.le_refl _)
set_option maxRecDepth 100000 in
set_option maxHeartbeats 4000000 in
theorem M_X11_pay {sc : Nat × (Nat → Int32)} {d : Nat} (hd : 3 ≤ d) {r : Int32} {u u' : xS} {a1 : Int32} (h : f_X11_pay a1 u = some (r, u')) : xMt sc mX11_pay d 0 0 [.ref 0, .int a1] (xL0, u) (some (.int r)) (xL0, u') :=
  xMt.of (by decide +kernel) (Nat.le_of_ble_eq_true rfl) (L := [some (.ref 0), some (.int a1), none, none, none, none]) rfl ((G_X11_pay_0 hd a1 u h))
set_option maxRecDepth 100000 in
set_option maxHeartbeats 4000000 in
theorem G_X8_addPrice_0 {sc : Nat × (Nat → Int32)} {d : Nat} (hd : 0 ≤ d) {r : Int32} {u' : xS} (v1 : Int32) (v2 : Int32) (v3 : Int32) (u : xS) (h : f_X8_addPrice v1 v2 v3 u = some (r, u')) : xG sc mX8_addPrice d 0 0 (xR (some (.int r)) (xL0, u') 0 0) 0 0 0 [some (.ref 1), some (.int v1), some (.int v2), some (.int v3)] [] (xL0, u) := by
  rw [f_X8_addPrice] at h
  refine g_aload_n (pc := 0) dX8_addPrice_0 rfl ?_
  refine g_gI (pc := 1) dX8_addPrice_1 fI_RX8_33 xc_1 (v := (rd u 1 6)) rfl ?_
  refine g_bipush (pc := 4) dX8_addPrice_4 bp_60 ?_
  refine g_icmp_lt (tgt := 11) (pc := 6) dX8_addPrice_6 (by decide) (fun c1 => ?_) (fun c1 => ?_)
  · replace h := (if_pos c1).symm.trans h
    refine g_aload_n (pc := 11) dX8_addPrice_11 rfl ?_
    refine g_gR (pc := 12) dX8_addPrice_12 fR_RX8_24 xc_1 (v := 10) rfl ?_
    refine g_aload_n (pc := 15) dX8_addPrice_15 rfl ?_
    refine g_gI (pc := 16) dX8_addPrice_16 fI_RX8_33 xc_1 (v := (rd u 1 6)) rfl ?_
    refine g_iload_n (pc := 19) dX8_addPrice_19 rfl ?_
    obtain ⟨g2, h⟩ := x_gd h
    refine g_iastore (pc := 20) dX8_addPrice_20 xc_10 (xin_of g2) (u' := (wr u 10 (rd u 1 6).toNatClampNeg v1)) rfl ?_
    refine g_aload_n (pc := 21) dX8_addPrice_21 rfl ?_
    refine g_gR (pc := 22) dX8_addPrice_22 fR_RX8_27 xc_1 (v := 11) rfl ?_
    refine g_aload_n (pc := 25) dX8_addPrice_25 rfl ?_
    refine g_gI (pc := 26) dX8_addPrice_26 fI_RX8_33 xc_1 (v := (rd u 1 6)) rfl ?_
    refine g_iload_n (pc := 29) dX8_addPrice_29 rfl ?_
    refine g_iastore (pc := 30) dX8_addPrice_30 xc_11 (xin_of g2) (u' := (wr (wr u 10 (rd u 1 6).toNatClampNeg v1) 11 (rd u 1 6).toNatClampNeg v2)) rfl ?_
    refine g_aload_n (pc := 31) dX8_addPrice_31 rfl ?_
    refine g_gR (pc := 32) dX8_addPrice_32 fR_RX8_30 xc_1 (v := 12) rfl ?_
    refine g_aload_n (pc := 35) dX8_addPrice_35 rfl ?_
    refine g_gI (pc := 36) dX8_addPrice_36 fI_RX8_33 xc_1 (v := (rd u 1 6)) rfl ?_
    refine g_iload_n (pc := 39) dX8_addPrice_39 rfl ?_
    refine g_iastore (pc := 40) dX8_addPrice_40 xc_12 (xin_of g2) (u' := (wr (wr (wr u 10 (rd u 1 6).toNatClampNeg v1) 11 (rd u 1 6).toNatClampNeg v2) 12 (rd u 1 6).toNatClampNeg v3)) rfl ?_
    refine g_aload_n (pc := 41) dX8_addPrice_41 rfl ?_
    refine g_dup (pc := 42) dX8_addPrice_42 rfl ?_
    refine g_gI (pc := 43) dX8_addPrice_43 fI_RX8_33 xc_1 (v := (rd u 1 6)) rfl ?_
    refine g_iconst (pc := 46) dX8_addPrice_46 ic_1 ?_
    refine g_iadd (pc := 47) dX8_addPrice_47 rfl ?_
    refine g_pI (pc := 48) dX8_addPrice_48 pI_RX8_33 xc_1 (u' := (wr (wr (wr (wr u 10 (rd u 1 6).toNatClampNeg v1) 11 (rd u 1 6).toNatClampNeg v2) 12 (rd u 1 6).toNatClampNeg v3) 1 6 ((rd u 1 6) + (1 : Int32)))) rfl ?_
    refine g_aload_n (pc := 51) dX8_addPrice_51 rfl ?_
    refine g_gI (pc := 52) dX8_addPrice_52 fI_RX8_33 xc_1 (v := ((rd u 1 6) + (1 : Int32))) rfl ?_
    cases h
    exact g_iret (pc := 55) dX8_addPrice_55 rfl rfl rfl (Nat.le_refl _) (Nat.le_refl _)
  · replace h := (if_neg c1).symm.trans h
    refine g_iconst (pc := 9) dX8_addPrice_9 ic_m1 ?_
    cases h
    exact g_iret (pc := 10) dX8_addPrice_10 rfl rfl rfl (Nat.le_refl _) (Nat.le_refl _)
set_option maxRecDepth 100000 in
set_option maxHeartbeats 4000000 in
theorem M_X8_addPrice {sc : Nat × (Nat → Int32)} {d : Nat} (hd : 0 ≤ d) {r : Int32} {u u' : xS} {a1 : Int32} {a2 : Int32} {a3 : Int32} (h : f_X8_addPrice a1 a2 a3 u = some (r, u')) : xMt sc mX8_addPrice d 0 0 [.ref 1, .int a1, .int a2, .int a3] (xL0, u) (some (.int r)) (xL0, u') :=
  xMt.of (by decide +kernel) (Nat.le_of_ble_eq_true rfl) (L := [some (.ref 1), some (.int a1), some (.int a2), some (.int a3)]) rfl ((G_X8_addPrice_0 hd a1 a2 a3 u h))
set_option maxRecDepth 100000 in
set_option maxHeartbeats 4000000 in
theorem G_X11_price_34 {sc : Nat × (Nat → Int32)} {d : Nat} (hd : 2 ≤ d) {r : Int32} {u' : xS} (v1 : Int32) (v2 : Int32) (v3 : Int32) (s0 : Int32) (u : xS) (h : f_X11_price_34 v1 v2 v3 s0 u = some (r, u')) : xG sc mX11_price d 0 0 (xR (some (.int r)) (xL0, u') 0 0) 0 0 34 [some (.ref 0), some (.int v1), some (.int v2), some (.int v3), none] [.int s0] (xL0, u) := by
  rw [f_X11_price_34] at h
  refine g_istore (pc := 34) dX11_price_34 (Nat.le_of_ble_eq_true rfl) (L' := [some (.ref 0), some (.int v1), some (.int v2), some (.int v3), some (.int s0)]) rfl ?_
  refine g_iload (pc := 36) dX11_price_36 rfl ?_
  refine g_if_eq (tgt := 66) (pc := 38) dX11_price_38 (by decide) (fun c1 => ?_) (fun c1 => ?_)
  · replace h := (if_pos c1).symm.trans h
    refine g_iconst (pc := 66) dX11_price_66 ic_m1 ?_
    cases h
    exact g_iret (pc := 67) dX11_price_67 rfl rfl rfl (Nat.le_refl _) (Nat.le_refl _)
  · replace h := (if_neg c1).symm.trans h
    refine g_aload_n (pc := 41) dX11_price_41 rfl ?_
    refine g_gR (pc := 42) dX11_price_42 fR_RX11_12 xc_0 (v := 1) rfl ?_
    refine g_gI (pc := 45) dX11_price_45 fI_RX11_112 xc_1 (v := (rd u 1 6)) rfl ?_
    refine g_bipush (pc := 48) dX11_price_48 bp_60 ?_
    refine g_icmp_ge (tgt := 66) (pc := 50) dX11_price_50 (by decide) (fun c2 => ?_) (fun c2 => ?_)
    · replace h := (if_pos c2).symm.trans h
      refine g_iconst (pc := 66) dX11_price_66 ic_m1 ?_
      cases h
      exact g_iret (pc := 67) dX11_price_67 rfl rfl rfl (Nat.le_refl _) (Nat.le_refl _)
    · replace h := (if_neg c2).symm.trans h
      refine g_aload_n (pc := 53) dX11_price_53 rfl ?_
      refine g_gR (pc := 54) dX11_price_54 fR_RX11_12 xc_0 (v := 1) rfl ?_
      refine g_iload_n (pc := 57) dX11_price_57 rfl ?_
      refine g_iload_n (pc := 58) dX11_price_58 rfl ?_
      refine g_iload_n (pc := 59) dX11_price_59 rfl ?_
      obtain ⟨⟨x4, u5⟩, e3, h⟩ := x_bind h
      dsimp only at h
      refine g_cV (pc := 60) dX11_price_60 cV_RX11_115 (M_X8_addPrice (Nat.le_refl _) e3) xc_1 (as := [.int v1, .int v2, .int v3]) (st := []) rfl rfl (Nat.le_of_ble_eq_true rfl) (Nat.le_trans (Nat.le_of_ble_eq_true rfl) hd) rfl ?_
      refine g_goto (tgt := 67) (pc := 63) dX11_price_63 (by decide) ?_
      cases h
      exact g_iret (pc := 67) dX11_price_67 rfl rfl rfl (Nat.le_refl _) (Nat.le_refl _)
set_option maxRecDepth 100000 in
set_option maxHeartbeats 4000000 in
theorem G_X11_price_33 {sc : Nat × (Nat → Int32)} {d : Nat} (hd : 2 ≤ d) {r : Int32} {u' : xS} (v1 : Int32) (v2 : Int32) (v3 : Int32) (u : xS) (h : f_X11_price_33 v1 v2 v3 u = some (r, u')) : xG sc mX11_price d 0 0 (xR (some (.int r)) (xL0, u') 0 0) 0 0 33 [some (.ref 0), some (.int v1), some (.int v2), some (.int v3), none] [] (xL0, u) := by
  rw [f_X11_price_33] at h
  refine g_iconst (pc := 33) dX11_price_33 ic_0 ?_
  exact G_X11_price_34 hd v1 v2 v3 (0 : Int32) u h
set_option maxRecDepth 100000 in
set_option maxHeartbeats 4000000 in
theorem G_X11_price_0 {sc : Nat × (Nat → Int32)} {d : Nat} (hd : 2 ≤ d) {r : Int32} {u' : xS} (v1 : Int32) (v2 : Int32) (v3 : Int32) (u : xS) (h : f_X11_price v1 v2 v3 u = some (r, u')) : xG sc mX11_price d 0 0 (xR (some (.int r)) (xL0, u') 0 0) 0 0 0 [some (.ref 0), some (.int v1), some (.int v2), some (.int v3), none] [] (xL0, u) := by
  rw [f_X11_price] at h
  refine g_aload_n (pc := 0) dX11_price_0 rfl ?_
  refine g_gR (pc := 1) dX11_price_1 fR_RX11_12 xc_0 (v := 1) rfl ?_
  refine g_iload_n (pc := 4) dX11_price_4 rfl ?_
  refine g_cV (pc := 5) dX11_price_5 cV_RX11_98 (M_X8_has (Nat.le_refl _) rfl) xc_1 (as := [.int v1]) (st := []) rfl rfl (Nat.le_of_ble_eq_true rfl) (Nat.le_trans (Nat.le_of_ble_eq_true rfl) hd) rfl ?_
  refine g_if_eq (tgt := 33) (pc := 8) dX11_price_8 (by decide) (fun c1 => ?_) (fun c1 => ?_)
  · replace h := (if_pos c1).symm.trans h
    exact G_X11_price_33 hd v1 v2 v3 u h
  · replace h := (if_neg c1).symm.trans h
    refine g_iload_n (pc := 11) dX11_price_11 rfl ?_
    refine g_cS (pc := 12) dX11_price_12 cS_RX11_109 (M_X11_isDay (Nat.le_refl _) rfl) (as := [.int v2]) (st := []) rfl rfl (Nat.le_of_ble_eq_true rfl) (Nat.le_trans (Nat.le_of_ble_eq_true rfl) hd) rfl ?_
    refine g_if_eq (tgt := 33) (pc := 15) dX11_price_15 (by decide) (fun c2 => ?_) (fun c2 => ?_)
    · replace h := (if_pos c2).symm.trans h
      exact G_X11_price_33 hd v1 v2 v3 u h
    · replace h := (if_neg c2).symm.trans h
      refine g_iload_n (pc := 18) dX11_price_18 rfl ?_
      refine g_iconst (pc := 19) dX11_price_19 ic_0 ?_
      refine g_sipush (pc := 20) dX11_price_20 sp_999 ?_
      refine g_cS (pc := 23) dX11_price_23 cS_RX11_94 (M_X11_lies (Nat.le_refl _) rfl) (as := [.int v3, .int (0 : Int32), .int (999 : Int32)]) (st := []) rfl rfl (Nat.le_of_ble_eq_true rfl) (Nat.le_trans (Nat.le_of_ble_eq_true rfl) hd) rfl ?_
      refine g_if_eq (tgt := 33) (pc := 26) dX11_price_26 (by decide) (fun c3 => ?_) (fun c3 => ?_)
      · replace h := (if_pos c3).symm.trans h
        exact G_X11_price_33 hd v1 v2 v3 u h
      · replace h := (if_neg c3).symm.trans h
        refine g_iconst (pc := 29) dX11_price_29 ic_1 ?_
        refine g_goto (tgt := 34) (pc := 30) dX11_price_30 (by decide) ?_
        exact G_X11_price_34 hd v1 v2 v3 (1 : Int32) u h
set_option maxRecDepth 100000 in
set_option maxHeartbeats 4000000 in
theorem M_X11_price {sc : Nat × (Nat → Int32)} {d : Nat} (hd : 2 ≤ d) {r : Int32} {u u' : xS} {a1 : Int32} {a2 : Int32} {a3 : Int32} (h : f_X11_price a1 a2 a3 u = some (r, u')) : xMt sc mX11_price d 0 0 [.ref 0, .int a1, .int a2, .int a3] (xL0, u) (some (.int r)) (xL0, u') :=
  xMt.of (by decide +kernel) (Nat.le_of_ble_eq_true rfl) (L := [some (.ref 0), some (.int a1), some (.int a2), some (.int a3), none]) rfl ((G_X11_price_0 hd a1 a2 a3 u h))
set_option maxRecDepth 100000 in
set_option maxHeartbeats 4000000 in
theorem G_X3_hangingTogether_61 {sc : Nat × (Nat → Int32)} {d : Nat} (hd : 0 ≤ d) {r : Int32} {u : xS} {k15 : Int32 → Int32 → Int32 → Option Int32} (hk15 : ∀ (v2 : Int32) (v3 : Int32) (v4 : Int32), k15 v2 v3 v4 = some r → xG sc mX3_hangingTogether d 0 0 (xR (some (.int r)) (xL0, u) 0 0) 0 0 15 [some (.ref 113), none, some (.int v2), some (.int v3), some (.int v4), none] [] (xL0, u)) {k6 : Int32 → Int32 → Option Int32} (hk6 : ∀ (v2 : Int32) (v3 : Int32), k6 v2 v3 = some r → xG sc mX3_hangingTogether d 0 0 (xR (some (.int r)) (xL0, u) 0 0) 0 0 6 [some (.ref 113), none, some (.int v2), some (.int v3), none, none] [] (xL0, u)) (v2 : Int32) (v3 : Int32) (v4 : Int32) (h : f_X3_hangingTogether_61 k15 k6 u v2 v3 v4 = some r) : xG sc mX3_hangingTogether d 0 0 (xR (some (.int r)) (xL0, u) 0 0) 0 0 61 [some (.ref 113), none, some (.int v2), some (.int v3), some (.int v4), none] [] (xL0, u) := by
  rw [f_X3_hangingTogether_61] at h
  refine g_inc (pc := 61) dX3_hangingTogether_61 (Nat.le_of_ble_eq_true rfl) rfl ic_1 (L' := [some (.ref 113), none, some (.int v2), some (.int v3), some (.int (v4 + (1 : Int32))), none]) rfl ?_
  refine g_goto (tgt := 15) (pc := 64) dX3_hangingTogether_64 (by decide) ?_
  exact hk15 v2 v3 (v4 + (1 : Int32)) h
set_option maxRecDepth 100000 in
set_option maxHeartbeats 4000000 in
theorem G_X3_hangingTogether_15 {sc : Nat × (Nat → Int32)} {d : Nat} (hd : 0 ≤ d) {r : Int32} {u : xS} {k6 : Int32 → Int32 → Option Int32} (hk6 : ∀ (v2 : Int32) (v3 : Int32), k6 v2 v3 = some r → xG sc mX3_hangingTogether d 0 0 (xR (some (.int r)) (xL0, u) 0 0) 0 0 6 [some (.ref 113), none, some (.int v2), some (.int v3), none, none] [] (xL0, u)) : ∀ (n : Nat) (v2 : Int32) (v3 : Int32) (v4 : Int32), f_X3_hangingTogether_15 k6 u n v2 v3 v4 = some r → xG sc mX3_hangingTogether d 0 0 (xR (some (.int r)) (xL0, u) 0 0) 0 0 15 [some (.ref 113), none, some (.int v2), some (.int v3), some (.int v4), none] [] (xL0, u) := by
  intro n
  induction n with
  | zero =>
    intro v2 v3 v4 h
    rw [f_X3_hangingTogether_15] at h
    cases h
  | succ n ih =>
    intro v2 v3 v4 h
    rw [f_X3_hangingTogether_15] at h
    refine g_iload (pc := 15) dX3_hangingTogether_15 rfl ?_
    refine g_aload_n (pc := 17) dX3_hangingTogether_17 rfl ?_
    refine g_gI (pc := 18) dX3_hangingTogether_18 fI_RX3_23 xc_113 (v := (rd u 113 3)) rfl ?_
    refine g_icmp_ge (tgt := 67) (pc := 21) dX3_hangingTogether_21 (by decide) (fun c1 => ?_) (fun c1 => ?_)
    · replace h := (if_pos c1).symm.trans h
      refine g_inc (pc := 67) dX3_hangingTogether_67 (Nat.le_of_ble_eq_true rfl) rfl ic_1 (L' := [some (.ref 113), none, some (.int v2), some (.int (v3 + (1 : Int32))), some (.int v4), none]) rfl ?_
      refine g_goto (tgt := 6) (pc := 70) dX3_hangingTogether_70 (by decide) ?_
      refine g_L (L' := [some (.ref 113), none, some (.int v2), some (.int (v3 + (1 : Int32))), none, none]) ⟨rfl, ⟨rfl, ⟨rfl, trivial⟩⟩⟩ ?_
      exact hk6 v2 (v3 + (1 : Int32)) h
    · replace h := (if_neg c1).symm.trans h
      refine g_iconst (pc := 24) dX3_hangingTogether_24 ic_1 ?_
      refine g_aload_n (pc := 25) dX3_hangingTogether_25 rfl ?_
      refine g_gR (pc := 26) dX3_hangingTogether_26 fR_RX3_11 xc_113 (v := 114) rfl ?_
      refine g_iconst (pc := 29) dX3_hangingTogether_29 ic_0 ?_
      refine g_aaload (pc := 30) dX3_hangingTogether_30 xc_114 vin_0_2 (v := 115) rfl ?_
      refine g_iload (pc := 31) dX3_hangingTogether_31 rfl ?_
      obtain ⟨g2, h⟩ := x_gd h
      refine g_iaload (pc := 33) dX3_hangingTogether_33 xc_115 (xin_of g2) (v := (rd u 115 v4.toNatClampNeg)) rfl ?_
      refine g_ishl (pc := 34) dX3_hangingTogether_34 rfl ?_
      refine g_iconst (pc := 35) dX3_hangingTogether_35 ic_1 ?_
      refine g_aload_n (pc := 36) dX3_hangingTogether_36 rfl ?_
      refine g_gR (pc := 37) dX3_hangingTogether_37 fR_RX3_11 xc_113 (v := 114) rfl ?_
      refine g_iconst (pc := 40) dX3_hangingTogether_40 ic_1 ?_
      refine g_aaload (pc := 41) dX3_hangingTogether_41 xc_114 vin_1_2 (v := 116) rfl ?_
      refine g_iload (pc := 42) dX3_hangingTogether_42 rfl ?_
      refine g_iaload (pc := 44) dX3_hangingTogether_44 xc_116 (xin_of g2) (v := (rd u 116 v4.toNatClampNeg)) rfl ?_
      refine g_ishl (pc := 45) dX3_hangingTogether_45 rfl ?_
      refine g_ior (pc := 46) dX3_hangingTogether_46 rfl ?_
      refine g_istore (pc := 47) dX3_hangingTogether_47 (Nat.le_of_ble_eq_true rfl) (L' := [some (.ref 113), none, some (.int v2), some (.int v3), some (.int v4), some (.int (((1 : Int32) <<< ((rd u 115 v4.toNatClampNeg) &&& 31)) ||| ((1 : Int32) <<< ((rd u 116 v4.toNatClampNeg) &&& 31))))]) rfl ?_
      refine g_iload_n (pc := 49) dX3_hangingTogether_49 rfl ?_
      refine g_iload (pc := 50) dX3_hangingTogether_50 rfl ?_
      refine g_iand (pc := 52) dX3_hangingTogether_52 rfl ?_
      refine g_if_eq (tgt := 61) (pc := 53) dX3_hangingTogether_53 (by decide) (fun c3 => ?_) (fun c3 => ?_)
      · replace h := (if_pos c3).symm.trans h
        refine g_L (L' := [some (.ref 113), none, some (.int v2), some (.int v3), some (.int v4), none]) ⟨rfl, ⟨rfl, ⟨rfl, ⟨rfl, trivial⟩⟩⟩⟩ ?_
        exact G_X3_hangingTogether_61 hd ih hk6 v2 v3 v4 h
      · replace h := (if_neg c3).symm.trans h
        refine g_iload_n (pc := 56) dX3_hangingTogether_56 rfl ?_
        refine g_iload (pc := 57) dX3_hangingTogether_57 rfl ?_
        refine g_ior (pc := 59) dX3_hangingTogether_59 rfl ?_
        refine g_istore_n (pc := 60) dX3_hangingTogether_60 (Nat.le_of_ble_eq_true rfl) (L' := [some (.ref 113), none, some (.int (v2 ||| (((1 : Int32) <<< ((rd u 115 v4.toNatClampNeg) &&& 31)) ||| ((1 : Int32) <<< ((rd u 116 v4.toNatClampNeg) &&& 31))))), some (.int v3), some (.int v4), some (.int (((1 : Int32) <<< ((rd u 115 v4.toNatClampNeg) &&& 31)) ||| ((1 : Int32) <<< ((rd u 116 v4.toNatClampNeg) &&& 31))))]) rfl ?_
        refine g_L (L' := [some (.ref 113), none, some (.int (v2 ||| (((1 : Int32) <<< ((rd u 115 v4.toNatClampNeg) &&& 31)) ||| ((1 : Int32) <<< ((rd u 116 v4.toNatClampNeg) &&& 31))))), some (.int v3), some (.int v4), none]) ⟨rfl, ⟨rfl, ⟨rfl, ⟨rfl, trivial⟩⟩⟩⟩ ?_
        exact G_X3_hangingTogether_61 hd ih hk6 (v2 ||| (((1 : Int32) <<< ((rd u 115 v4.toNatClampNeg) &&& 31)) ||| ((1 : Int32) <<< ((rd u 116 v4.toNatClampNeg) &&& 31)))) v3 v4 h
set_option maxRecDepth 100000 in
set_option maxHeartbeats 4000000 in
theorem G_X3_hangingTogether_6 {sc : Nat × (Nat → Int32)} {d : Nat} (hd : 0 ≤ d) {r : Int32} {u : xS} : ∀ (n : Nat) (v2 : Int32) (v3 : Int32), f_X3_hangingTogether_6 u n v2 v3 = some r → xG sc mX3_hangingTogether d 0 0 (xR (some (.int r)) (xL0, u) 0 0) 0 0 6 [some (.ref 113), none, some (.int v2), some (.int v3), none, none] [] (xL0, u) := by
  intro n
  induction n with
  | zero =>
    intro v2 v3 h
    rw [f_X3_hangingTogether_6] at h
    cases h
  | succ n ih =>
    intro v2 v3 h
    rw [f_X3_hangingTogether_6] at h
    refine g_iload_n (pc := 6) dX3_hangingTogether_6 rfl ?_
    refine g_bipush (pc := 7) dX3_hangingTogether_7 bp_6 ?_
    refine g_icmp_ge (tgt := 73) (pc := 9) dX3_hangingTogether_9 (by decide) (fun c1 => ?_) (fun c1 => ?_)
    · replace h := (if_pos c1).symm.trans h
      refine g_iload_n (pc := 73) dX3_hangingTogether_73 rfl ?_
      cases h
      exact g_iret (pc := 74) dX3_hangingTogether_74 rfl rfl rfl (Nat.le_refl _) (Nat.le_refl _)
    · replace h := (if_neg c1).symm.trans h
      refine g_iconst (pc := 12) dX3_hangingTogether_12 ic_0 ?_
      refine g_istore (pc := 13) dX3_hangingTogether_13 (Nat.le_of_ble_eq_true rfl) (L' := [some (.ref 113), none, some (.int v2), some (.int v3), some (.int (0 : Int32)), none]) rfl ?_
      exact G_X3_hangingTogether_15 hd ih xN v2 v3 (0 : Int32) h
set_option maxRecDepth 100000 in
set_option maxHeartbeats 4000000 in
theorem G_X3_hangingTogether_0 {sc : Nat × (Nat → Int32)} {d : Nat} (hd : 0 ≤ d) {r : Int32} {u : xS} (v1 : Int32) (h : f_X3_hangingTogether u v1 = some r) : xG sc mX3_hangingTogether d 0 0 (xR (some (.int r)) (xL0, u) 0 0) 0 0 0 [some (.ref 113), some (.int v1), none, none, none, none] [] (xL0, u) := by
  rw [f_X3_hangingTogether] at h
  refine g_iconst (pc := 0) dX3_hangingTogether_0 ic_1 ?_
  refine g_iload_n (pc := 1) dX3_hangingTogether_1 rfl ?_
  refine g_ishl (pc := 2) dX3_hangingTogether_2 rfl ?_
  refine g_istore_n (pc := 3) dX3_hangingTogether_3 (Nat.le_of_ble_eq_true rfl) (L' := [some (.ref 113), some (.int v1), some (.int ((1 : Int32) <<< (v1 &&& 31))), none, none, none]) rfl ?_
  refine g_iconst (pc := 4) dX3_hangingTogether_4 ic_0 ?_
  refine g_istore_n (pc := 5) dX3_hangingTogether_5 (Nat.le_of_ble_eq_true rfl) (L' := [some (.ref 113), some (.int v1), some (.int ((1 : Int32) <<< (v1 &&& 31))), some (.int (0 : Int32)), none, none]) rfl ?_
  refine g_L (L' := [some (.ref 113), none, some (.int ((1 : Int32) <<< (v1 &&& 31))), some (.int (0 : Int32)), none, none]) ⟨rfl, ⟨rfl, ⟨rfl, trivial⟩⟩⟩ ?_
  exact G_X3_hangingTogether_6 hd xN ((1 : Int32) <<< (v1 &&& 31)) (0 : Int32) h
set_option maxRecDepth 100000 in
set_option maxHeartbeats 4000000 in
theorem M_X3_hangingTogether {sc : Nat × (Nat → Int32)} {d : Nat} (hd : 0 ≤ d) {r : Int32} {u : xS} {a1 : Int32} (h : f_X3_hangingTogether u a1 = some r) : xMt sc mX3_hangingTogether d 0 0 [.ref 113, .int a1] (xL0, u) (some (.int r)) (xL0, u) :=
  xMt.of (by decide +kernel) (Nat.le_of_ble_eq_true rfl) (L := [some (.ref 113), some (.int a1), none, none, none, none]) rfl ((G_X3_hangingTogether_0 hd a1 h))
set_option maxRecDepth 100000 in
set_option maxHeartbeats 4000000 in
theorem G_X11_ring_45 {sc : Nat × (Nat → Int32)} {d : Nat} (hd : 2 ≤ d) {r : Int32} {u' : xS} {k25 : Int32 → Int32 → xS → Option (Int32 × xS)} (hk25 : ∀ (v2 : Int32) (v3 : Int32) (u : xS), k25 v2 v3 u = some (r, u') → xG sc mX11_ring d 0 0 (xR (some (.int r)) (xL0, u') 0 0) 0 0 25 [some (.ref 0), none, some (.int v2), some (.int v3)] [] (xL0, u)) (v2 : Int32) (v3 : Int32) (u : xS) (h : f_X11_ring_45 k25 v2 v3 u = some (r, u')) : xG sc mX11_ring d 0 0 (xR (some (.int r)) (xL0, u') 0 0) 0 0 45 [some (.ref 0), none, some (.int v2), some (.int v3)] [] (xL0, u) := by
  rw [f_X11_ring_45] at h
  refine g_inc (pc := 45) dX11_ring_45 (Nat.le_of_ble_eq_true rfl) rfl ic_1 (L' := [some (.ref 0), none, some (.int v2), some (.int (v3 + (1 : Int32)))]) rfl ?_
  refine g_goto (tgt := 25) (pc := 48) dX11_ring_48 (by decide) ?_
  exact hk25 v2 (v3 + (1 : Int32)) u h
set_option maxRecDepth 100000 in
set_option maxHeartbeats 4000000 in
theorem G_X11_ring_25 {sc : Nat × (Nat → Int32)} {d : Nat} (hd : 2 ≤ d) {r : Int32} {u' : xS} : ∀ (n : Nat) (v2 : Int32) (v3 : Int32) (u : xS), f_X11_ring_25 n v2 v3 u = some (r, u') → xG sc mX11_ring d 0 0 (xR (some (.int r)) (xL0, u') 0 0) 0 0 25 [some (.ref 0), none, some (.int v2), some (.int v3)] [] (xL0, u) := by
  intro n
  induction n with
  | zero =>
    intro v2 v3 u h
    rw [f_X11_ring_25] at h
    cases h
  | succ n ih =>
    intro v2 v3 u h
    rw [f_X11_ring_25] at h
    refine g_iload_n (pc := 25) dX11_ring_25 rfl ?_
    refine g_bipush (pc := 26) dX11_ring_26 bp_6 ?_
    refine g_icmp_ge (tgt := 51) (pc := 28) dX11_ring_28 (by decide) (fun c1 => ?_) (fun c1 => ?_)
    · replace h := (if_pos c1).symm.trans h
      refine g_aload_n (pc := 51) dX11_ring_51 rfl ?_
      refine g_gI (pc := 52) dX11_ring_52 fI_RX11_90 xc_0 (v := (rd u 0 12)) rfl ?_
      cases h
      exact g_iret (pc := 55) dX11_ring_55 rfl rfl rfl (Nat.le_refl _) (Nat.le_refl _)
    · replace h := (if_neg c1).symm.trans h
      refine g_iload_n (pc := 31) dX11_ring_31 rfl ?_
      refine g_iload_n (pc := 32) dX11_ring_32 rfl ?_
      refine g_ishr (pc := 33) dX11_ring_33 rfl ?_
      refine g_iconst (pc := 34) dX11_ring_34 ic_1 ?_
      refine g_iand (pc := 35) dX11_ring_35 rfl ?_
      refine g_iconst (pc := 36) dX11_ring_36 ic_1 ?_
      refine g_icmp_ne (tgt := 45) (pc := 37) dX11_ring_37 (by decide) (fun c2 => ?_) (fun c2 => ?_)
      · replace h := (if_neg c2).symm.trans h
        exact G_X11_ring_45 hd ih v2 v3 u h
      · replace h := (if_pos c2).symm.trans h
        refine g_aload_n (pc := 40) dX11_ring_40 rfl ?_
        refine g_iload_n (pc := 41) dX11_ring_41 rfl ?_
        obtain ⟨u4, e3, h⟩ := x_bind h
        refine g_cV (pc := 42) dX11_ring_42 cV_RX11_359 (M_X11_tell (Nat.le_refl _) e3) xc_0 (as := [.int v3]) (st := []) rfl rfl (Nat.le_of_ble_eq_true rfl) (Nat.le_trans (Nat.le_of_ble_eq_true rfl) hd) rfl ?_
        exact G_X11_ring_45 hd ih v2 v3 u4 h
set_option maxRecDepth 100000 in
set_option maxHeartbeats 4000000 in
theorem G_X11_ring_0 {sc : Nat × (Nat → Int32)} {d : Nat} (hd : 2 ≤ d) {r : Int32} {u' : xS} (v1 : Int32) (u : xS) (h : f_X11_ring v1 u = some (r, u')) : xG sc mX11_ring d 0 0 (xR (some (.int r)) (xL0, u') 0 0) 0 0 0 [some (.ref 0), some (.int v1), none, none] [] (xL0, u) := by
  rw [f_X11_ring] at h
  refine g_iload_n (pc := 0) dX11_ring_0 rfl ?_
  refine g_cS (pc := 1) dX11_ring_1 cS_RX11_138 (M_X11_isSorter (Nat.le_refl _) rfl) (as := [.int v1]) (st := []) rfl rfl (Nat.le_of_ble_eq_true rfl) (Nat.le_trans (Nat.le_of_ble_eq_true rfl) hd) rfl ?_
  refine g_if_ne (tgt := 9) (pc := 4) dX11_ring_4 (by decide) (fun c1 => ?_) (fun c1 => ?_)
  · replace h := (if_neg c1).symm.trans h
    refine g_aload_n (pc := 9) dX11_ring_9 rfl ?_
    refine g_gR (pc := 10) dX11_ring_10 fR_RX11_75 xc_0 (v := 113) rfl ?_
    refine g_iload_n (pc := 13) dX11_ring_13 rfl ?_
    obtain ⟨x3, e2, h⟩ := x_bind h
    refine g_cV (pc := 14) dX11_ring_14 cV_RX11_379 (M_X3_hangingTogether (Nat.le_refl _) e2) xc_113 (as := [.int v1]) (st := []) rfl rfl (Nat.le_of_ble_eq_true rfl) (Nat.le_trans (Nat.le_of_ble_eq_true rfl) hd) rfl ?_
    refine g_istore_n (pc := 17) dX11_ring_17 (Nat.le_of_ble_eq_true rfl) (L' := [some (.ref 0), some (.int v1), some (.int x3), none]) rfl ?_
    refine g_aload_n (pc := 18) dX11_ring_18 rfl ?_
    refine g_iconst (pc := 19) dX11_ring_19 ic_0 ?_
    refine g_pI (pc := 20) dX11_ring_20 pI_RX11_90 xc_0 (u' := (wr u 0 12 (0 : Int32))) rfl ?_
    refine g_iconst (pc := 23) dX11_ring_23 ic_0 ?_
    refine g_istore_n (pc := 24) dX11_ring_24 (Nat.le_of_ble_eq_true rfl) (L' := [some (.ref 0), some (.int v1), some (.int x3), some (.int (0 : Int32))]) rfl ?_
    refine g_L (L' := [some (.ref 0), none, some (.int x3), some (.int (0 : Int32))]) ⟨rfl, ⟨rfl, ⟨rfl, trivial⟩⟩⟩ ?_
    exact G_X11_ring_25 hd xN x3 (0 : Int32) (wr u 0 12 (0 : Int32)) h
  · replace h := (if_pos c1).symm.trans h
    refine g_iconst (pc := 7) dX11_ring_7 ic_m1 ?_
    cases h
    exact g_iret (pc := 8) dX11_ring_8 rfl rfl rfl (Nat.le_refl _) (Nat.le_refl _)
set_option maxRecDepth 100000 in
set_option maxHeartbeats 4000000 in
theorem M_X11_ring {sc : Nat × (Nat → Int32)} {d : Nat} (hd : 2 ≤ d) {r : Int32} {u u' : xS} {a1 : Int32} (h : f_X11_ring a1 u = some (r, u')) : xMt sc mX11_ring d 0 0 [.ref 0, .int a1] (xL0, u) (some (.int r)) (xL0, u') :=
  xMt.of (by decide +kernel) (Nat.le_of_ble_eq_true rfl) (L := [some (.ref 0), some (.int a1), none, none]) rfl ((G_X11_ring_0 hd a1 u h))
set_option maxRecDepth 100000 in
set_option maxHeartbeats 4000000 in
theorem G_X4_sumOf_0 {sc : Nat × (Nat → Int32)} {d : Nat} (hd : 0 ≤ d) {r : Int32} {u : xS} (v0 : Int64) (h : f_X4_sumOf v0 = r) : xG sc mX4_sumOf d 0 0 (xR (some (.int r)) (xL0, u) 0 0) 0 0 0 [some (.long v0), none] [] (xL0, u) := by
  rw [f_X4_sumOf] at h
  refine g_lload_n (pc := 0) dX4_sumOf_0 rfl ?_
  refine g_ldc2 (pc := 1) dX4_sumOf_1 kl_RX4_70 ?_
  refine g_ldiv (pc := 4) dX4_sumOf_4 (by decide) rfl ?_
  refine g_l2i (pc := 5) dX4_sumOf_5 rfl ?_
  subst h
  exact g_iret (pc := 6) dX4_sumOf_6 rfl rfl rfl (Nat.le_refl _) (Nat.le_refl _)
set_option maxRecDepth 100000 in
set_option maxHeartbeats 4000000 in
theorem M_X4_sumOf {sc : Nat × (Nat → Int32)} {d : Nat} (hd : 0 ≤ d) {r : Int32} {u : xS} {a0 : Int64} (h : f_X4_sumOf a0 = r) : xMt sc mX4_sumOf d 0 0 [.long a0] (xL0, u) (some (.int r)) (xL0, u) :=
  xMt.of (by decide +kernel) (Nat.le_of_ble_eq_true rfl) (L := [some (.long a0), none]) rfl ((G_X4_sumOf_0 hd a0 h))
set_option maxRecDepth 100000 in
set_option maxHeartbeats 4000000 in
theorem G_X4_landOf_0 {sc : Nat × (Nat → Int32)} {d : Nat} (hd : 1 ≤ d) {r : Int32} {u : xS} (v0 : Int64) (v2 : Int32) (h : f_X4_landOf v0 v2 = some r) : xG sc mX4_landOf d 0 0 (xR (some (.int r)) (xL0, u) 0 0) 0 0 0 [some (.long v0), none, some (.int v2), none] [] (xL0, u) := by
  rw [f_X4_landOf] at h
  refine g_iload_n (pc := 0) dX4_landOf_0 rfl ?_
  refine g_iconst (pc := 1) dX4_landOf_1 ic_0 ?_
  refine g_bipush (pc := 2) dX4_landOf_2 bp_7 ?_
  refine g_cN (pc := 4) dX4_landOf_4 cN_RX4_80 (M_X11_lies (Nat.le_refl _) rfl) (as := [.int v2, .int (0 : Int32), .int (7 : Int32)]) (st := []) rfl rfl (Nat.le_of_ble_eq_true rfl) (Nat.le_trans (Nat.le_of_ble_eq_true rfl) hd) rfl ?_
  refine g_if_ne (tgt := 12) (pc := 7) dX4_landOf_7 (by decide) (fun c1 => ?_) (fun c1 => ?_)
  · replace h := (if_neg c1).symm.trans h
    refine g_lload_n (pc := 12) dX4_landOf_12 rfl ?_
    refine g_ldc2 (pc := 13) dX4_landOf_13 kl_RX4_70 ?_
    refine g_lrem (pc := 16) dX4_landOf_16 (by decide) rfl ?_
    refine g_getsW (pc := 17) dX4_landOf_17 fs_RX4_61 ?_
    refine g_iload_n (pc := 20) dX4_landOf_20 rfl ?_
    obtain ⟨g2, h⟩ := x_gd h
    refine g_wload (pc := 21) dX4_landOf_21 (xin_of g2) rfl ?_
    refine g_i2l (pc := 22) dX4_landOf_22 rfl ?_
    obtain ⟨g3, h⟩ := x_gd h
    refine g_ldiv (pc := 23) dX4_landOf_23 (xnzJ_of g3) rfl ?_
    refine g_ldc2 (pc := 24) dX4_landOf_24 kl_RX4_84 ?_
    refine g_lrem (pc := 27) dX4_landOf_27 (by decide) rfl ?_
    refine g_l2i (pc := 28) dX4_landOf_28 rfl ?_
    refine g_istore_n (pc := 29) dX4_landOf_29 (Nat.le_of_ble_eq_true rfl) (L' := [some (.long v0), none, some (.int v2), some (.int ((lrem ((lrem v0 (390625 : Int64)) / ((xWt (v2).toNatClampNeg).toInt64)) (5 : Int64)).toInt32))]) rfl ?_
    refine g_iload_n (pc := 30) dX4_landOf_30 rfl ?_
    refine g_if_ne (tgt := 38) (pc := 31) dX4_landOf_31 (by decide) (fun c4 => ?_) (fun c4 => ?_)
    · replace h := (if_neg c4).symm.trans h
      refine g_iconst (pc := 38) dX4_landOf_38 ic_4 ?_
      refine g_iload_n (pc := 39) dX4_landOf_39 rfl ?_
      refine g_isub (pc := 40) dX4_landOf_40 rfl ?_
      cases h
      exact g_iret (pc := 41) dX4_landOf_41 rfl rfl rfl (Nat.le_refl _) (Nat.le_refl _)
    · replace h := (if_pos c4).symm.trans h
      refine g_iconst (pc := 34) dX4_landOf_34 ic_m1 ?_
      refine g_goto (tgt := 41) (pc := 35) dX4_landOf_35 (by decide) ?_
      cases h
      exact g_iret (pc := 41) dX4_landOf_41 rfl rfl rfl (Nat.le_refl _) (Nat.le_refl _)
  · replace h := (if_pos c1).symm.trans h
    refine g_iconst (pc := 10) dX4_landOf_10 ic_m1 ?_
    cases h
    exact g_iret (pc := 11) dX4_landOf_11 rfl rfl rfl (Nat.le_refl _) (Nat.le_refl _)
set_option maxRecDepth 100000 in
set_option maxHeartbeats 4000000 in
theorem M_X4_landOf {sc : Nat × (Nat → Int32)} {d : Nat} (hd : 1 ≤ d) {r : Int32} {u : xS} {a0 : Int64} {a2 : Int32} (h : f_X4_landOf a0 a2 = some r) : xMt sc mX4_landOf d 0 0 [.long a0, .int a2] (xL0, u) (some (.int r)) (xL0, u) :=
  xMt.of (by decide +kernel) (Nat.le_of_ble_eq_true rfl) (L := [some (.long a0), none, some (.int a2), none]) rfl ((G_X4_landOf_0 hd a0 a2 h))
set_option maxRecDepth 100000 in
set_option maxHeartbeats 4000000 in
theorem G_X4_bestWith_49 {sc : Nat × (Nat → Int32)} {d : Nat} (hd : 1 ≤ d) {r : Int64} {u : xS} {k10 : Int32 → Int64 → Int32 → Option Int64} (hk10 : ∀ (v1 : Int32) (v2 : Int64) (v4 : Int32), k10 v1 v2 v4 = some r → xG sc mX4_bestWith d 0 0 (xR (some (.long r)) (xL0, u) 0 0) 0 0 10 [some (.ref 121), some (.int v1), some (.long v2), none, some (.int v4)] [] (xL0, u)) (v1 : Int32) (v2 : Int64) (v4 : Int32) (h : f_X4_bestWith_49 k10 u v1 v2 v4 = some r) : xG sc mX4_bestWith d 0 0 (xR (some (.long r)) (xL0, u) 0 0) 0 0 49 [some (.ref 121), some (.int v1), some (.long v2), none, some (.int v4)] [] (xL0, u) := by
  rw [f_X4_bestWith_49] at h
  refine g_iload (pc := 49) dX4_bestWith_49 rfl ?_
  refine g_iconst (pc := 51) dX4_bestWith_51 ic_1 ?_
  refine g_isub (pc := 52) dX4_bestWith_52 rfl ?_
  refine g_iload_n (pc := 53) dX4_bestWith_53 rfl ?_
  refine g_iand (pc := 54) dX4_bestWith_54 rfl ?_
  refine g_istore (pc := 55) dX4_bestWith_55 (Nat.le_of_ble_eq_true rfl) (L' := [some (.ref 121), some (.int v1), some (.long v2), none, some (.int ((v4 - (1 : Int32)) &&& v1))]) rfl ?_
  refine g_goto (tgt := 10) (pc := 57) dX4_bestWith_57 (by decide) ?_
  exact hk10 v1 v2 ((v4 - (1 : Int32)) &&& v1) h
set_option maxRecDepth 100000 in
set_option maxHeartbeats 4000000 in
theorem G_X4_bestWith_10 {sc : Nat × (Nat → Int32)} {d : Nat} (hd : 1 ≤ d) {r : Int64} {u : xS} : ∀ (n : Nat) (v1 : Int32) (v2 : Int64) (v4 : Int32), f_X4_bestWith_10 u n v1 v2 v4 = some r → xG sc mX4_bestWith d 0 0 (xR (some (.long r)) (xL0, u) 0 0) 0 0 10 [some (.ref 121), some (.int v1), some (.long v2), none, some (.int v4)] [] (xL0, u) := by
  intro n
  induction n with
  | zero =>
    intro v1 v2 v4 h
    rw [f_X4_bestWith_10] at h
    cases h
  | succ n ih =>
    intro v1 v2 v4 h
    rw [f_X4_bestWith_10] at h
    refine g_iload (pc := 10) dX4_bestWith_10 rfl ?_
    refine g_if_le (tgt := 60) (pc := 12) dX4_bestWith_12 (by decide) (fun c1 => ?_) (fun c1 => ?_)
    · replace h := (if_pos c1).symm.trans h
      refine g_lload_n (pc := 60) dX4_bestWith_60 rfl ?_
      cases h
      exact g_lret (pc := 61) dX4_bestWith_61 rfl rfl rfl (Nat.le_refl _) (Nat.le_refl _)
    · replace h := (if_neg c1).symm.trans h
      refine g_aload_n (pc := 15) dX4_bestWith_15 rfl ?_
      refine g_gR (pc := 16) dX4_bestWith_16 fR_RX4_36 xc_121 (v := 132) rfl ?_
      refine g_iload (pc := 19) dX4_bestWith_19 rfl ?_
      obtain ⟨g2, h⟩ := x_gd h
      refine g_laload (pc := 21) dX4_bestWith_21 xc_132 (xin_of g2) (v := (rl u 132 v4.toNatClampNeg)) rfl ?_
      refine g_lconst (v := (0 : Int64)) (pc := 22) dX4_bestWith_22 rfl ?_
      refine g_lcmp (pc := 23) dX4_bestWith_23 rfl ?_
      refine g_if_lt (tgt := 49) (pc := 24) dX4_bestWith_24 (by decide) (fun c3 => ?_) (fun c3 => ?_)
      · replace h := (if_pos c3).symm.trans h
        exact G_X4_bestWith_49 hd ih v1 v2 v4 h
      · replace h := (if_neg c3).symm.trans h
        refine g_lload_n (pc := 27) dX4_bestWith_27 rfl ?_
        refine g_aload_n (pc := 28) dX4_bestWith_28 rfl ?_
        refine g_gR (pc := 29) dX4_bestWith_29 fR_RX4_36 xc_121 (v := 132) rfl ?_
        refine g_iload (pc := 32) dX4_bestWith_32 rfl ?_
        refine g_laload (pc := 34) dX4_bestWith_34 xc_132 (xin_of g2) (v := (rl u 132 v4.toNatClampNeg)) rfl ?_
        refine g_aload_n (pc := 35) dX4_bestWith_35 rfl ?_
        refine g_gR (pc := 36) dX4_bestWith_36 fR_RX4_40 xc_121 (v := 133) rfl ?_
        refine g_iload_n (pc := 39) dX4_bestWith_39 rfl ?_
        refine g_iload (pc := 40) dX4_bestWith_40 rfl ?_
        refine g_isub (pc := 42) dX4_bestWith_42 rfl ?_
        obtain ⟨g4, h⟩ := x_gd h
        refine g_laload (pc := 43) dX4_bestWith_43 xc_133 (xin_of g4) (v := (rl u 133 (v1 - v4).toNatClampNeg)) rfl ?_
        refine g_ladd (pc := 44) dX4_bestWith_44 rfl ?_
        refine g_maxJ (pc := 45) dX4_bestWith_45 mK_RX4_74 (Nat.le_of_ble_eq_true rfl) (Nat.le_trans (Nat.le_of_ble_eq_true rfl) hd) (Nat.le_refl _) (Nat.le_refl _) ?_
        refine g_lstore_n (pc := 48) dX4_bestWith_48 (Nat.le_of_ble_eq_true rfl) (Nat.le_of_ble_eq_true rfl) (L' := [some (.ref 121), some (.int v1), some (.long (lmax v2 ((rl u 132 v4.toNatClampNeg) + (rl u 133 (v1 - v4).toNatClampNeg)))), none, some (.int v4)]) rfl ?_
        exact G_X4_bestWith_49 hd ih v1 (lmax v2 ((rl u 132 v4.toNatClampNeg) + (rl u 133 (v1 - v4).toNatClampNeg))) v4 h
set_option maxRecDepth 100000 in
set_option maxHeartbeats 4000000 in
theorem G_X4_bestWith_0 {sc : Nat × (Nat → Int32)} {d : Nat} (hd : 1 ≤ d) {r : Int64} {u : xS} (v1 : Int32) (h : f_X4_bestWith u v1 = some r) : xG sc mX4_bestWith d 0 0 (xR (some (.long r)) (xL0, u) 0 0) 0 0 0 [some (.ref 121), some (.int v1), none, none, none] [] (xL0, u) := by
  rw [f_X4_bestWith] at h
  refine g_aload_n (pc := 0) dX4_bestWith_0 rfl ?_
  refine g_gR (pc := 1) dX4_bestWith_1 fR_RX4_40 xc_121 (v := 133) rfl ?_
  refine g_iload_n (pc := 4) dX4_bestWith_4 rfl ?_
  obtain ⟨g1, h⟩ := x_gd h
  refine g_laload (pc := 5) dX4_bestWith_5 xc_133 (xin_of g1) (v := (rl u 133 v1.toNatClampNeg)) rfl ?_
  refine g_lstore_n (pc := 6) dX4_bestWith_6 (Nat.le_of_ble_eq_true rfl) (Nat.le_of_ble_eq_true rfl) (L' := [some (.ref 121), some (.int v1), some (.long (rl u 133 v1.toNatClampNeg)), none, none]) rfl ?_
  refine g_iload_n (pc := 7) dX4_bestWith_7 rfl ?_
  refine g_istore (pc := 8) dX4_bestWith_8 (Nat.le_of_ble_eq_true rfl) (L' := [some (.ref 121), some (.int v1), some (.long (rl u 133 v1.toNatClampNeg)), none, some (.int v1)]) rfl ?_
  exact G_X4_bestWith_10 hd xN v1 (rl u 133 v1.toNatClampNeg) v1 h
set_option maxRecDepth 100000 in
set_option maxHeartbeats 4000000 in
theorem M_X4_bestWith {sc : Nat × (Nat → Int32)} {d : Nat} (hd : 1 ≤ d) {r : Int64} {u : xS} {a1 : Int32} (h : f_X4_bestWith u a1 = some r) : xMt sc mX4_bestWith d 0 0 [.ref 121, .int a1] (xL0, u) (some (.long r)) (xL0, u) :=
  xMt.of (by decide +kernel) (Nat.le_of_ble_eq_true rfl) (L := [some (.ref 121), some (.int a1), none, none, none]) rfl ((G_X4_bestWith_0 hd a1 h))
set_option maxRecDepth 100000 in
set_option maxHeartbeats 4000000 in
theorem G_X4_weigh_126 {sc : Nat × (Nat → Int32)} {d : Nat} (hd : 1 ≤ d) {u' : xS} {k45 : Int32 → Int32 → Int32 → Int64 → Int32 → Int32 → xS → Option xS} (hk45 : ∀ (v1 : Int32) (v2 : Int32) (v3 : Int32) (v4 : Int64) (v6 : Int32) (v7 : Int32) (u : xS), k45 v1 v2 v3 v4 v6 v7 u = some u' → xG sc mX4_weigh d 0 0 (xR none (xL0, u') 0 0) 0 0 45 [some (.ref 121), some (.int v1), some (.int v2), some (.int v3), some (.long v4), none, some (.int v6), some (.int v7), none] [] (xL0, u)) {k9 : Int32 → Int32 → xS → Option xS} (hk9 : ∀ (v1 : Int32) (v2 : Int32) (u : xS), k9 v1 v2 u = some u' → xG sc mX4_weigh d 0 0 (xR none (xL0, u') 0 0) 0 0 9 [some (.ref 121), some (.int v1), some (.int v2), none, none, none, none, none, none] [] (xL0, u)) (v1 : Int32) (v2 : Int32) (v3 : Int32) (v4 : Int64) (v6 : Int32) (v7 : Int32) (s1 : Int32) (s2 : Int64) (u : xS) (h : f_X4_weigh_126 k45 k9 v1 v2 v3 v4 v6 v7 s1 s2 u = some u') : xG sc mX4_weigh d 0 0 (xR none (xL0, u') 0 0) 0 0 126 [some (.ref 121), some (.int v1), some (.int v2), some (.int v3), some (.long v4), none, some (.int v6), some (.int v7), none] [.long s2, .int s1, .ref 132] (xL0, u) := by
  rw [f_X4_weigh_126] at h
  obtain ⟨g1, h⟩ := x_gd h
  refine g_lastore (pc := 126) dX4_weigh_126 xc_132 (xin_of g1) (u' := (wl u 132 s1.toNatClampNeg s2)) rfl ?_
  refine g_inc (pc := 127) dX4_weigh_127 (Nat.le_of_ble_eq_true rfl) rfl ic_1 (L' := [some (.ref 121), some (.int v1), some (.int v2), some (.int v3), some (.long v4), none, some (.int v6), some (.int (v7 + (1 : Int32))), none]) rfl ?_
  refine g_goto (tgt := 45) (pc := 130) dX4_weigh_130 (by decide) ?_
  exact hk45 v1 v2 v3 v4 v6 (v7 + (1 : Int32)) (wl u 132 s1.toNatClampNeg s2) h
set_option maxRecDepth 100000 in
set_option maxHeartbeats 4000000 in
theorem G_X4_weigh_87 {sc : Nat × (Nat → Int32)} {d : Nat} (hd : 1 ≤ d) {u' : xS} {k45 : Int32 → Int32 → Int32 → Int64 → Int32 → Int32 → xS → Option xS} (hk45 : ∀ (v1 : Int32) (v2 : Int32) (v3 : Int32) (v4 : Int64) (v6 : Int32) (v7 : Int32) (u : xS), k45 v1 v2 v3 v4 v6 v7 u = some u' → xG sc mX4_weigh d 0 0 (xR none (xL0, u') 0 0) 0 0 45 [some (.ref 121), some (.int v1), some (.int v2), some (.int v3), some (.long v4), none, some (.int v6), some (.int v7), none] [] (xL0, u)) {k9 : Int32 → Int32 → xS → Option xS} (hk9 : ∀ (v1 : Int32) (v2 : Int32) (u : xS), k9 v1 v2 u = some u' → xG sc mX4_weigh d 0 0 (xR none (xL0, u') 0 0) 0 0 9 [some (.ref 121), some (.int v1), some (.int v2), none, none, none, none, none, none] [] (xL0, u)) (v1 : Int32) (v2 : Int32) (v3 : Int32) (v4 : Int64) (v6 : Int32) (v7 : Int32) (s0 : Int32) (u : xS) (h : f_X4_weigh_87 k45 k9 v1 v2 v3 v4 v6 v7 s0 u = some u') : xG sc mX4_weigh d 0 0 (xR none (xL0, u') 0 0) 0 0 87 [some (.ref 121), some (.int v1), some (.int v2), some (.int v3), some (.long v4), none, some (.int v6), some (.int v7), none] [.int s0] (xL0, u) := by
  rw [f_X4_weigh_87] at h
  refine g_istore (pc := 87) dX4_weigh_87 (Nat.le_of_ble_eq_true rfl) (L' := [some (.ref 121), some (.int v1), some (.int v2), some (.int v3), some (.long v4), none, some (.int v6), some (.int v7), some (.int s0)]) rfl ?_
  refine g_aload_n (pc := 89) dX4_weigh_89 rfl ?_
  refine g_gR (pc := 90) dX4_weigh_90 fR_RX4_36 xc_121 (v := 132) rfl ?_
  refine g_iload (pc := 93) dX4_weigh_93 rfl ?_
  refine g_iload (pc := 95) dX4_weigh_95 rfl ?_
  refine g_iadd (pc := 97) dX4_weigh_97 rfl ?_
  refine g_iload (pc := 98) dX4_weigh_98 rfl ?_
  refine g_if_eq (tgt := 123) (pc := 100) dX4_weigh_100 (by decide) (fun c1 => ?_) (fun c1 => ?_)
  · replace h := (if_pos c1).symm.trans h
    refine g_ldc2 (pc := 123) dX4_weigh_123 kl_RX4_72 ?_
    refine g_L (L' := [some (.ref 121), some (.int v1), some (.int v2), some (.int v3), some (.long v4), none, some (.int v6), some (.int v7), none]) ⟨rfl, ⟨rfl, ⟨rfl, ⟨rfl, ⟨rfl, ⟨rfl, ⟨rfl, trivial⟩⟩⟩⟩⟩⟩⟩ ?_
    exact G_X4_weigh_126 hd hk45 hk9 v1 v2 v3 v4 v6 v7 (v6 + v7) (-1 : Int64) u h
  · replace h := (if_neg c1).symm.trans h
    refine g_aload_n (pc := 103) dX4_weigh_103 rfl ?_
    refine g_gR (pc := 104) dX4_weigh_104 fR_RX4_36 xc_121 (v := 132) rfl ?_
    refine g_iload (pc := 107) dX4_weigh_107 rfl ?_
    obtain ⟨g2, h⟩ := x_gd h
    refine g_laload (pc := 109) dX4_weigh_109 xc_132 (xin_of g2) (v := (rl u 132 v7.toNatClampNeg)) rfl ?_
    refine g_iload_n (pc := 110) dX4_weigh_110 rfl ?_
    refine g_i2l (pc := 111) dX4_weigh_111 rfl ?_
    refine g_ldc2 (pc := 112) dX4_weigh_112 kl_RX4_70 ?_
    refine g_lmul (pc := 115) dX4_weigh_115 rfl ?_
    refine g_ladd (pc := 116) dX4_weigh_116 rfl ?_
    refine g_lload (pc := 117) dX4_weigh_117 rfl ?_
    refine g_ladd (pc := 119) dX4_weigh_119 rfl ?_
    refine g_goto (tgt := 126) (pc := 120) dX4_weigh_120 (by decide) ?_
    refine g_L (L' := [some (.ref 121), some (.int v1), some (.int v2), some (.int v3), some (.long v4), none, some (.int v6), some (.int v7), none]) ⟨rfl, ⟨rfl, ⟨rfl, ⟨rfl, ⟨rfl, ⟨rfl, ⟨rfl, trivial⟩⟩⟩⟩⟩⟩⟩ ?_
    exact G_X4_weigh_126 hd hk45 hk9 v1 v2 v3 v4 v6 v7 (v6 + v7) (((rl u 132 v7.toNatClampNeg) + (((v3).toInt64) * (390625 : Int64))) + v4) u h
set_option maxRecDepth 100000 in
set_option maxHeartbeats 4000000 in
theorem G_X4_weigh_86 {sc : Nat × (Nat → Int32)} {d : Nat} (hd : 1 ≤ d) {u' : xS} {k45 : Int32 → Int32 → Int32 → Int64 → Int32 → Int32 → xS → Option xS} (hk45 : ∀ (v1 : Int32) (v2 : Int32) (v3 : Int32) (v4 : Int64) (v6 : Int32) (v7 : Int32) (u : xS), k45 v1 v2 v3 v4 v6 v7 u = some u' → xG sc mX4_weigh d 0 0 (xR none (xL0, u') 0 0) 0 0 45 [some (.ref 121), some (.int v1), some (.int v2), some (.int v3), some (.long v4), none, some (.int v6), some (.int v7), none] [] (xL0, u)) {k9 : Int32 → Int32 → xS → Option xS} (hk9 : ∀ (v1 : Int32) (v2 : Int32) (u : xS), k9 v1 v2 u = some u' → xG sc mX4_weigh d 0 0 (xR none (xL0, u') 0 0) 0 0 9 [some (.ref 121), some (.int v1), some (.int v2), none, none, none, none, none, none] [] (xL0, u)) (v1 : Int32) (v2 : Int32) (v3 : Int32) (v4 : Int64) (v6 : Int32) (v7 : Int32) (u : xS) (h : f_X4_weigh_86 k45 k9 v1 v2 v3 v4 v6 v7 u = some u') : xG sc mX4_weigh d 0 0 (xR none (xL0, u') 0 0) 0 0 86 [some (.ref 121), some (.int v1), some (.int v2), some (.int v3), some (.long v4), none, some (.int v6), some (.int v7), none] [] (xL0, u) := by
  rw [f_X4_weigh_86] at h
  refine g_iconst (pc := 86) dX4_weigh_86 ic_0 ?_
  exact G_X4_weigh_87 hd hk45 hk9 v1 v2 v3 v4 v6 v7 (0 : Int32) u h
set_option maxRecDepth 100000 in
set_option maxHeartbeats 4000000 in
theorem G_X4_weigh_45 {sc : Nat × (Nat → Int32)} {d : Nat} (hd : 1 ≤ d) {u' : xS} {k9 : Int32 → Int32 → xS → Option xS} (hk9 : ∀ (v1 : Int32) (v2 : Int32) (u : xS), k9 v1 v2 u = some u' → xG sc mX4_weigh d 0 0 (xR none (xL0, u') 0 0) 0 0 9 [some (.ref 121), some (.int v1), some (.int v2), none, none, none, none, none, none] [] (xL0, u)) : ∀ (n : Nat) (v1 : Int32) (v2 : Int32) (v3 : Int32) (v4 : Int64) (v6 : Int32) (v7 : Int32) (u : xS), f_X4_weigh_45 k9 n v1 v2 v3 v4 v6 v7 u = some u' → xG sc mX4_weigh d 0 0 (xR none (xL0, u') 0 0) 0 0 45 [some (.ref 121), some (.int v1), some (.int v2), some (.int v3), some (.long v4), none, some (.int v6), some (.int v7), none] [] (xL0, u) := by
  intro n
  induction n with
  | zero =>
    intro v1 v2 v3 v4 v6 v7 u h
    rw [f_X4_weigh_45] at h
    cases h
  | succ n ih =>
    intro v1 v2 v3 v4 v6 v7 u h
    rw [f_X4_weigh_45] at h
    refine g_iload (pc := 45) dX4_weigh_45 rfl ?_
    refine g_iload (pc := 47) dX4_weigh_47 rfl ?_
    refine g_icmp_ge (tgt := 133) (pc := 49) dX4_weigh_49 (by decide) (fun c1 => ?_) (fun c1 => ?_)
    · replace h := (if_pos c1).symm.trans h
      refine g_inc (pc := 133) dX4_weigh_133 (Nat.le_of_ble_eq_true rfl) rfl ic_1 (L' := [some (.ref 121), some (.int v1), some (.int (v2 + (1 : Int32))), some (.int v3), some (.long v4), none, some (.int v6), some (.int v7), none]) rfl ?_
      refine g_goto (tgt := 9) (pc := 136) dX4_weigh_136 (by decide) ?_
      refine g_L (L' := [some (.ref 121), some (.int v1), some (.int (v2 + (1 : Int32))), none, none, none, none, none, none]) ⟨rfl, ⟨rfl, ⟨rfl, trivial⟩⟩⟩ ?_
      exact hk9 v1 (v2 + (1 : Int32)) u h
    · replace h := (if_neg c1).symm.trans h
      refine g_iload_n (pc := 52) dX4_weigh_52 rfl ?_
      refine g_if_lt (tgt := 86) (pc := 53) dX4_weigh_53 (by decide) (fun c2 => ?_) (fun c2 => ?_)
      · replace h := (if_pos c2).symm.trans h
        exact G_X4_weigh_86 hd ih hk9 v1 v2 v3 v4 v6 v7 u h
      · replace h := (if_neg c2).symm.trans h
        refine g_aload_n (pc := 56) dX4_weigh_56 rfl ?_
        refine g_gR (pc := 57) dX4_weigh_57 fR_RX4_36 xc_121 (v := 132) rfl ?_
        refine g_iload (pc := 60) dX4_weigh_60 rfl ?_
        obtain ⟨g3, h⟩ := x_gd h
        refine g_laload (pc := 62) dX4_weigh_62 xc_132 (xin_of g3) (v := (rl u 132 v7.toNatClampNeg)) rfl ?_
        refine g_lconst (v := (0 : Int64)) (pc := 63) dX4_weigh_63 rfl ?_
        refine g_lcmp (pc := 64) dX4_weigh_64 rfl ?_
        refine g_if_lt (tgt := 86) (pc := 65) dX4_weigh_65 (by decide) (fun c4 => ?_) (fun c4 => ?_)
        · replace h := (if_pos c4).symm.trans h
          exact G_X4_weigh_86 hd ih hk9 v1 v2 v3 v4 v6 v7 u h
        · replace h := (if_neg c4).symm.trans h
          refine g_iload (pc := 68) dX4_weigh_68 rfl ?_
          refine g_cS (pc := 70) dX4_weigh_70 cS_RX4_64 (M_J6_bitCount_0f7a4 (Nat.le_refl _) rfl) (as := [.int v7]) (st := []) rfl rfl (Nat.le_of_ble_eq_true rfl) (Nat.le_trans (Nat.le_of_ble_eq_true rfl) hd) rfl ?_
          refine g_aload_n (pc := 73) dX4_weigh_73 rfl ?_
          refine g_gR (pc := 74) dX4_weigh_74 fR_RX4_16 xc_121 (v := 127) rfl ?_
          refine g_iload_n (pc := 77) dX4_weigh_77 rfl ?_
          obtain ⟨g5, h⟩ := x_gd h
          refine g_iaload (pc := 78) dX4_weigh_78 xc_127 (xin_of g5) (v := (rd u 127 v1.toNatClampNeg)) rfl ?_
          refine g_icmp_ge (tgt := 86) (pc := 79) dX4_weigh_79 (by decide) (fun c6 => ?_) (fun c6 => ?_)
          · replace h := (if_pos c6).symm.trans h
            exact G_X4_weigh_86 hd ih hk9 v1 v2 v3 v4 v6 v7 u h
          · replace h := (if_neg c6).symm.trans h
            refine g_iconst (pc := 82) dX4_weigh_82 ic_1 ?_
            refine g_goto (tgt := 87) (pc := 83) dX4_weigh_83 (by decide) ?_
            exact G_X4_weigh_87 hd ih hk9 v1 v2 v3 v4 v6 v7 (1 : Int32) u h
set_option maxRecDepth 100000 in
set_option maxHeartbeats 4000000 in
theorem G_X4_weigh_9 {sc : Nat × (Nat → Int32)} {d : Nat} (hd : 1 ≤ d) {u' : xS} : ∀ (n : Nat) (v1 : Int32) (v2 : Int32) (u : xS), f_X4_weigh_9 n v1 v2 u = some u' → xG sc mX4_weigh d 0 0 (xR none (xL0, u') 0 0) 0 0 9 [some (.ref 121), some (.int v1), some (.int v2), none, none, none, none, none, none] [] (xL0, u) := by
  intro n
  induction n with
  | zero =>
    intro v1 v2 u h
    rw [f_X4_weigh_9] at h
    cases h
  | succ n ih =>
    intro v1 v2 u h
    rw [f_X4_weigh_9] at h
    refine g_iload_n (pc := 9) dX4_weigh_9 rfl ?_
    refine g_aload_n (pc := 10) dX4_weigh_10 rfl ?_
    refine g_gI (pc := 11) dX4_weigh_11 fI_RX4_32 xc_121 (v := (rd u 121 6)) rfl ?_
    refine g_icmp_ge (tgt := 139) (pc := 14) dX4_weigh_14 (by decide) (fun c1 => ?_) (fun c1 => ?_)
    · replace h := (if_pos c1).symm.trans h
      cases h
      exact g_ret (pc := 139) dX4_weigh_139 rfl rfl rfl (Nat.le_refl _) (Nat.le_refl _)
    · replace h := (if_neg c1).symm.trans h
      refine g_aload_n (pc := 17) dX4_weigh_17 rfl ?_
      refine g_iload_n (pc := 18) dX4_weigh_18 rfl ?_
      refine g_iload_n (pc := 19) dX4_weigh_19 rfl ?_
      obtain ⟨x3, e2, h⟩ := x_bind h
      refine g_cV (pc := 20) dX4_weigh_20 cV_RX4_57 (M_X4_given (Nat.le_refl _) e2) xc_121 (as := [.int v1, .int v2]) (st := []) rfl rfl (Nat.le_of_ble_eq_true rfl) (Nat.le_trans (Nat.le_of_ble_eq_true rfl) hd) rfl ?_
      refine g_istore_n (pc := 23) dX4_weigh_23 (Nat.le_of_ble_eq_true rfl) (L' := [some (.ref 121), some (.int v1), some (.int v2), some (.int x3), none, none, none, none, none]) rfl ?_
      refine g_iconst (pc := 24) dX4_weigh_24 ic_4 ?_
      refine g_iload_n (pc := 25) dX4_weigh_25 rfl ?_
      refine g_isub (pc := 26) dX4_weigh_26 rfl ?_
      refine g_i2l (pc := 27) dX4_weigh_27 rfl ?_
      refine g_getsW (pc := 28) dX4_weigh_28 fs_RX4_61 ?_
      refine g_iload_n (pc := 31) dX4_weigh_31 rfl ?_
      obtain ⟨g4, h⟩ := x_gd h
      refine g_wload (pc := 32) dX4_weigh_32 (xin_of g4) rfl ?_
      refine g_i2l (pc := 33) dX4_weigh_33 rfl ?_
      refine g_lmul (pc := 34) dX4_weigh_34 rfl ?_
      refine g_lstore (pc := 35) dX4_weigh_35 (Nat.le_of_ble_eq_true rfl) (Nat.le_of_ble_eq_true rfl) (L' := [some (.ref 121), some (.int v1), some (.int v2), some (.int x3), some (.long ((((4 : Int32) - v1).toInt64) * ((xWt (v2).toNatClampNeg).toInt64))), none, none, none, none]) rfl ?_
      refine g_iconst (pc := 37) dX4_weigh_37 ic_1 ?_
      refine g_iload_n (pc := 38) dX4_weigh_38 rfl ?_
      refine g_ishl (pc := 39) dX4_weigh_39 rfl ?_
      refine g_istore (pc := 40) dX4_weigh_40 (Nat.le_of_ble_eq_true rfl) (L' := [some (.ref 121), some (.int v1), some (.int v2), some (.int x3), some (.long ((((4 : Int32) - v1).toInt64) * ((xWt (v2).toNatClampNeg).toInt64))), none, some (.int ((1 : Int32) <<< (v2 &&& 31))), none, none]) rfl ?_
      refine g_iconst (pc := 42) dX4_weigh_42 ic_0 ?_
      refine g_istore (pc := 43) dX4_weigh_43 (Nat.le_of_ble_eq_true rfl) (L' := [some (.ref 121), some (.int v1), some (.int v2), some (.int x3), some (.long ((((4 : Int32) - v1).toInt64) * ((xWt (v2).toNatClampNeg).toInt64))), none, some (.int ((1 : Int32) <<< (v2 &&& 31))), some (.int (0 : Int32)), none]) rfl ?_
      exact G_X4_weigh_45 hd ih xN v1 v2 x3 ((((4 : Int32) - v1).toInt64) * ((xWt (v2).toNatClampNeg).toInt64)) ((1 : Int32) <<< (v2 &&& 31)) (0 : Int32) u h
set_option maxRecDepth 100000 in
set_option maxHeartbeats 4000000 in
theorem G_X4_weigh_0 {sc : Nat × (Nat → Int32)} {d : Nat} (hd : 1 ≤ d) {u' : xS} (v1 : Int32) (u : xS) (h : f_X4_weigh v1 u = some u') : xG sc mX4_weigh d 0 0 (xR none (xL0, u') 0 0) 0 0 0 [some (.ref 121), some (.int v1), none, none, none, none, none, none, none] [] (xL0, u) := by
  rw [f_X4_weigh] at h
  refine g_aload_n (pc := 0) dX4_weigh_0 rfl ?_
  refine g_gR (pc := 1) dX4_weigh_1 fR_RX4_36 xc_121 (v := 132) rfl ?_
  refine g_iconst (pc := 4) dX4_weigh_4 ic_0 ?_
  refine g_lconst (v := (0 : Int64)) (pc := 5) dX4_weigh_5 rfl ?_
  refine g_lastore (pc := 6) dX4_weigh_6 xc_132 vin_0_256 (u' := (wl u 132 0 (0 : Int64))) rfl ?_
  refine g_iconst (pc := 7) dX4_weigh_7 ic_0 ?_
  refine g_istore_n (pc := 8) dX4_weigh_8 (Nat.le_of_ble_eq_true rfl) (L' := [some (.ref 121), some (.int v1), some (.int (0 : Int32)), none, none, none, none, none, none]) rfl ?_
  exact G_X4_weigh_9 hd xN v1 (0 : Int32) (wl u 132 0 (0 : Int64)) h
set_option maxRecDepth 100000 in
set_option maxHeartbeats 4000000 in
theorem M_X4_weigh {sc : Nat × (Nat → Int32)} {d : Nat} (hd : 1 ≤ d) {u u' : xS} {a1 : Int32} (h : f_X4_weigh a1 u = some u') : xMt sc mX4_weigh d 0 0 [.ref 121, .int a1] (xL0, u) none (xL0, u') :=
  xMt.of (by decide +kernel) (Nat.le_of_ble_eq_true rfl) (L := [some (.ref 121), some (.int a1), none, none, none, none, none, none, none]) rfl ((G_X4_weigh_0 hd a1 u h))
set_option maxRecDepth 100000 in
set_option maxHeartbeats 4000000 in
theorem G_J7_fill_d0a16_6 {sc : Nat × (Nat → Int32)} {d : Nat} (hd : 0 ≤ d) {u' : xS} : ∀ (n : Nat) (v0 : Nat) (v1 : Int64) (v3 : Int32) (v4 : Int32) (u : xS), f_J7_fill_d0a16_6 n v0 v1 v3 v4 u = some u' → xG sc mJ7_fill_d0a16 d 0 0 (xR none (xL0, u') 0 0) 0 0 6 [some (.ref v0), some (.long v1), none, some (.int v3), some (.int v4)] [] (xL0, u) := by
  intro n
  induction n with
  | zero =>
    intro v0 v1 v3 v4 u h
    rw [f_J7_fill_d0a16_6] at h
    cases h
  | succ n ih =>
    intro v0 v1 v3 v4 u h
    rw [f_J7_fill_d0a16_6] at h
    refine g_iload_n (pc := 6) dJ7_fill_d0a16_6 rfl ?_
    refine g_iload (pc := 7) dJ7_fill_d0a16_7 rfl ?_
    refine g_icmp_ge (tgt := 22) (pc := 9) dJ7_fill_d0a16_9 (by decide) (fun c1 => ?_) (fun c1 => ?_)
    · replace h := (if_pos c1).symm.trans h
      cases h
      exact g_ret (pc := 22) dJ7_fill_d0a16_22 rfl rfl rfl (Nat.le_refl _) (Nat.le_refl _)
    · replace h := (if_neg c1).symm.trans h
      refine g_aload_n (pc := 12) dJ7_fill_d0a16_12 rfl ?_
      refine g_iload_n (pc := 13) dJ7_fill_d0a16_13 rfl ?_
      refine g_lload_n (pc := 14) dJ7_fill_d0a16_14 rfl ?_
      obtain ⟨g2, h⟩ := x_gd h
      obtain ⟨q3, hq4⟩ := xisJ_of g2
      obtain ⟨g5, h⟩ := x_gd h
      refine g_lastore (pc := 15) dJ7_fill_d0a16_15 hq4 (xin_of g5) (u' := (wl u v0 v3.toNatClampNeg v1)) rfl ?_
      refine g_inc (pc := 16) dJ7_fill_d0a16_16 (Nat.le_of_ble_eq_true rfl) rfl ic_1 (L' := [some (.ref v0), some (.long v1), none, some (.int (v3 + (1 : Int32))), some (.int v4)]) rfl ?_
      refine g_goto (tgt := 6) (pc := 19) dJ7_fill_d0a16_19 (by decide) ?_
      exact ih v0 v1 (v3 + (1 : Int32)) v4 (wl u v0 v3.toNatClampNeg v1) h
set_option maxRecDepth 100000 in
set_option maxHeartbeats 4000000 in
theorem G_J7_fill_d0a16_0 {sc : Nat × (Nat → Int32)} {d : Nat} (hd : 0 ≤ d) {u' : xS} (v0 : Nat) (v1 : Int64) (u : xS) (h : f_J7_fill_d0a16 v0 v1 u = some u') : xG sc mJ7_fill_d0a16 d 0 0 (xR none (xL0, u') 0 0) 0 0 0 [some (.ref v0), some (.long v1), none, none, none] [] (xL0, u) := by
  rw [f_J7_fill_d0a16] at h
  refine g_iconst (pc := 0) dJ7_fill_d0a16_0 ic_0 ?_
  refine g_istore_n (pc := 1) dJ7_fill_d0a16_1 (Nat.le_of_ble_eq_true rfl) (L' := [some (.ref v0), some (.long v1), none, some (.int (0 : Int32)), none]) rfl ?_
  refine g_aload_n (pc := 2) dJ7_fill_d0a16_2 rfl ?_
  obtain ⟨g1, h⟩ := x_gd h
  obtain ⟨q2, hq3⟩ := xisJ_of g1
  refine g_lalen (pc := 3) dJ7_fill_d0a16_3 hq3 (v := (Int32.ofNat (xlen v0))) rfl ?_
  refine g_istore (pc := 4) dJ7_fill_d0a16_4 (Nat.le_of_ble_eq_true rfl) (L' := [some (.ref v0), some (.long v1), none, some (.int (0 : Int32)), some (.int (Int32.ofNat (xlen v0)))]) rfl ?_
  exact G_J7_fill_d0a16_6 hd xN v0 v1 (0 : Int32) (Int32.ofNat (xlen v0)) u h
set_option maxRecDepth 100000 in
set_option maxHeartbeats 4000000 in
theorem M_J7_fill_d0a16 {sc : Nat × (Nat → Int32)} {d : Nat} (hd : 0 ≤ d) {u u' : xS} {a0 : Nat} {a1 : Int64} (h : f_J7_fill_d0a16 a0 a1 u = some u') : xMt sc mJ7_fill_d0a16 d 0 0 [.ref a0, .long a1] (xL0, u) none (xL0, u') :=
  xMt.of (by decide +kernel) (Nat.le_of_ble_eq_true rfl) (L := [some (.ref a0), some (.long a1), none, none, none]) rfl ((G_J7_fill_d0a16_0 hd a0 a1 u h))
set_option maxRecDepth 100000 in
set_option maxHeartbeats 4000000 in
theorem G_X4_bestShare_29 {sc : Nat × (Nat → Int32)} {d : Nat} (hd : 2 ≤ d) {r : Int64} {u' : xS} {k10 : Int32 → xS → Option (Int64 × xS)} (hk10 : ∀ (v1 : Int32) (u : xS), k10 v1 u = some (r, u') → xG sc mX4_bestShare d 0 0 (xR (some (.long r)) (xL0, u') 0 0) 0 0 10 [some (.ref 121), some (.int v1), none] [] (xL0, u)) : ∀ (n : Nat) (v1 : Int32) (v2 : Int32) (u : xS), f_X4_bestShare_29 k10 n v1 v2 u = some (r, u') → xG sc mX4_bestShare d 0 0 (xR (some (.long r)) (xL0, u') 0 0) 0 0 29 [some (.ref 121), some (.int v1), some (.int v2)] [] (xL0, u) := by
  intro n
  induction n with
  | zero =>
    intro v1 v2 u h
    rw [f_X4_bestShare_29] at h
    cases h
  | succ n ih =>
    intro v1 v2 u h
    rw [f_X4_bestShare_29] at h
    refine g_iload_n (pc := 29) dX4_bestShare_29 rfl ?_
    refine g_if_le (tgt := 50) (pc := 30) dX4_bestShare_30 (by decide) (fun c1 => ?_) (fun c1 => ?_)
    · replace h := (if_pos c1).symm.trans h
      refine g_inc (pc := 50) dX4_bestShare_50 (Nat.le_of_ble_eq_true rfl) rfl ic_1 (L' := [some (.ref 121), some (.int (v1 + (1 : Int32))), some (.int v2)]) rfl ?_
      refine g_goto (tgt := 10) (pc := 53) dX4_bestShare_53 (by decide) ?_
      refine g_L (L' := [some (.ref 121), some (.int (v1 + (1 : Int32))), none]) ⟨rfl, ⟨rfl, trivial⟩⟩ ?_
      exact hk10 (v1 + (1 : Int32)) u h
    · replace h := (if_neg c1).symm.trans h
      refine g_aload_n (pc := 33) dX4_bestShare_33 rfl ?_
      refine g_gR (pc := 34) dX4_bestShare_34 fR_RX4_40 xc_121 (v := 133) rfl ?_
      refine g_iload_n (pc := 37) dX4_bestShare_37 rfl ?_
      refine g_aload_n (pc := 38) dX4_bestShare_38 rfl ?_
      refine g_iload_n (pc := 39) dX4_bestShare_39 rfl ?_
      obtain ⟨x3, e2, h⟩ := x_bind h
      refine g_cV (pc := 40) dX4_bestShare_40 cV_RX4_53 (M_X4_bestWith (Nat.le_refl _) e2) xc_121 (as := [.int v2]) (st := [.int v2, .ref 133]) rfl rfl (Nat.le_of_ble_eq_true rfl) (Nat.le_trans (Nat.le_of_ble_eq_true rfl) hd) rfl ?_
      obtain ⟨g4, h⟩ := x_gd h
      refine g_lastore (pc := 43) dX4_bestShare_43 xc_133 (xin_of g4) (u' := (wl u 133 v2.toNatClampNeg x3)) rfl ?_
      refine g_inc (pc := 44) dX4_bestShare_44 (Nat.le_of_ble_eq_true rfl) rfl ic_m1 (L' := [some (.ref 121), some (.int v1), some (.int (v2 + (-1 : Int32)))]) rfl ?_
      refine g_goto (tgt := 29) (pc := 47) dX4_bestShare_47 (by decide) ?_
      exact ih v1 (v2 + (-1 : Int32)) (wl u 133 v2.toNatClampNeg x3) h
set_option maxRecDepth 100000 in
set_option maxHeartbeats 4000000 in
theorem G_X4_bestShare_10 {sc : Nat × (Nat → Int32)} {d : Nat} (hd : 2 ≤ d) {r : Int64} {u' : xS} : ∀ (n : Nat) (v1 : Int32) (u : xS), f_X4_bestShare_10 n v1 u = some (r, u') → xG sc mX4_bestShare d 0 0 (xR (some (.long r)) (xL0, u') 0 0) 0 0 10 [some (.ref 121), some (.int v1), none] [] (xL0, u) := by
  intro n
  induction n with
  | zero =>
    intro v1 u h
    rw [f_X4_bestShare_10] at h
    cases h
  | succ n ih =>
    intro v1 u h
    rw [f_X4_bestShare_10] at h
    refine g_iload_n (pc := 10) dX4_bestShare_10 rfl ?_
    refine g_iconst (pc := 11) dX4_bestShare_11 ic_4 ?_
    refine g_icmp_ge (tgt := 56) (pc := 12) dX4_bestShare_12 (by decide) (fun c1 => ?_) (fun c1 => ?_)
    · replace h := (if_pos c1).symm.trans h
      refine g_aload_n (pc := 56) dX4_bestShare_56 rfl ?_
      refine g_gR (pc := 57) dX4_bestShare_57 fR_RX4_40 xc_121 (v := 133) rfl ?_
      refine g_iconst (pc := 60) dX4_bestShare_60 ic_1 ?_
      refine g_aload_n (pc := 61) dX4_bestShare_61 rfl ?_
      refine g_gI (pc := 62) dX4_bestShare_62 fI_RX4_32 xc_121 (v := (rd u 121 6)) rfl ?_
      refine g_ishl (pc := 65) dX4_bestShare_65 rfl ?_
      refine g_iconst (pc := 66) dX4_bestShare_66 ic_1 ?_
      refine g_isub (pc := 67) dX4_bestShare_67 rfl ?_
      obtain ⟨g2, h⟩ := x_gd h
      refine g_laload (pc := 68) dX4_bestShare_68 xc_133 (xin_of g2) (v := (rl u 133 (((1 : Int32) <<< ((rd u 121 6) &&& 31)) - (1 : Int32)).toNatClampNeg)) rfl ?_
      cases h
      exact g_lret (pc := 69) dX4_bestShare_69 rfl rfl rfl (Nat.le_refl _) (Nat.le_refl _)
    · replace h := (if_neg c1).symm.trans h
      refine g_aload_n (pc := 15) dX4_bestShare_15 rfl ?_
      refine g_iload_n (pc := 16) dX4_bestShare_16 rfl ?_
      obtain ⟨u4, e3, h⟩ := x_bind h
      refine g_cV (pc := 17) dX4_bestShare_17 cV_RX4_49 (M_X4_weigh (Nat.le_refl _) e3) xc_121 (as := [.int v1]) (st := []) rfl rfl (Nat.le_of_ble_eq_true rfl) (Nat.le_trans (Nat.le_of_ble_eq_true rfl) hd) rfl ?_
      refine g_iconst (pc := 20) dX4_bestShare_20 ic_1 ?_
      refine g_aload_n (pc := 21) dX4_bestShare_21 rfl ?_
      refine g_gI (pc := 22) dX4_bestShare_22 fI_RX4_32 xc_121 (v := (rd u4 121 6)) rfl ?_
      refine g_ishl (pc := 25) dX4_bestShare_25 rfl ?_
      refine g_iconst (pc := 26) dX4_bestShare_26 ic_1 ?_
      refine g_isub (pc := 27) dX4_bestShare_27 rfl ?_
      refine g_istore_n (pc := 28) dX4_bestShare_28 (Nat.le_of_ble_eq_true rfl) (L' := [some (.ref 121), some (.int v1), some (.int (((1 : Int32) <<< ((rd u4 121 6) &&& 31)) - (1 : Int32)))]) rfl ?_
      exact G_X4_bestShare_29 hd ih xN v1 (((1 : Int32) <<< ((rd u4 121 6) &&& 31)) - (1 : Int32)) u4 h
set_option maxRecDepth 100000 in
set_option maxHeartbeats 4000000 in
theorem G_X4_bestShare_0 {sc : Nat × (Nat → Int32)} {d : Nat} (hd : 2 ≤ d) {r : Int64} {u' : xS} (u : xS) (h : f_X4_bestShare u = some (r, u')) : xG sc mX4_bestShare d 0 0 (xR (some (.long r)) (xL0, u') 0 0) 0 0 0 [some (.ref 121), none, none] [] (xL0, u) := by
  rw [f_X4_bestShare] at h
  refine g_aload_n (pc := 0) dX4_bestShare_0 rfl ?_
  refine g_gR (pc := 1) dX4_bestShare_1 fR_RX4_40 xc_121 (v := 133) rfl ?_
  refine g_lconst (v := (0 : Int64)) (pc := 4) dX4_bestShare_4 rfl ?_
  obtain ⟨u2, e1, h⟩ := x_bind h
  refine g_cS (pc := 5) dX4_bestShare_5 cS_RX4_43 (M_J7_fill_d0a16 (Nat.le_refl _) e1) (as := [.ref 133, .long (0 : Int64)]) (st := []) rfl rfl (Nat.le_of_ble_eq_true rfl) (Nat.le_trans (Nat.le_of_ble_eq_true rfl) hd) rfl ?_
  refine g_iconst (pc := 8) dX4_bestShare_8 ic_0 ?_
  refine g_istore_n (pc := 9) dX4_bestShare_9 (Nat.le_of_ble_eq_true rfl) (L' := [some (.ref 121), some (.int (0 : Int32)), none]) rfl ?_
  exact G_X4_bestShare_10 hd xN (0 : Int32) u2 h
set_option maxRecDepth 100000 in
set_option maxHeartbeats 4000000 in
theorem M_X4_bestShare {sc : Nat × (Nat → Int32)} {d : Nat} (hd : 2 ≤ d) {r : Int64} {u u' : xS} (h : f_X4_bestShare u = some (r, u')) : xMt sc mX4_bestShare d 0 0 [.ref 121] (xL0, u) (some (.long r)) (xL0, u') :=
  xMt.of (by decide +kernel) (Nat.le_of_ble_eq_true rfl) (L := [some (.ref 121), none, none]) rfl ((G_X4_bestShare_0 hd u h))
set_option maxRecDepth 100000 in
set_option maxHeartbeats 4000000 in
theorem G_X11_share_15 {sc : Nat × (Nat → Int32)} {d : Nat} (hd : 3 ≤ d) {r : Int32} {u' : xS} : ∀ (n : Nat) (v1 : Int64) (v3 : Int32) (u : xS), f_X11_share_15 n v1 v3 u = some (r, u') → xG sc mX11_share d 0 0 (xR (some (.int r)) (xL0, u') 0 0) 0 0 15 [some (.ref 0), some (.long v1), none, some (.int v3)] [] (xL0, u) := by
  intro n
  induction n with
  | zero =>
    intro v1 v3 u h
    rw [f_X11_share_15] at h
    cases h
  | succ n ih =>
    intro v1 v3 u h
    rw [f_X11_share_15] at h
    refine g_iload_n (pc := 15) dX11_share_15 rfl ?_
    refine g_aload_n (pc := 16) dX11_share_16 rfl ?_
    refine g_gR (pc := 17) dX11_share_17 fR_RX11_82 xc_0 (v := 121) rfl ?_
    refine g_gI (pc := 20) dX11_share_20 fI_RX11_391 xc_121 (v := (rd u 121 6)) rfl ?_
    refine g_icmp_ge (tgt := 41) (pc := 23) dX11_share_23 (by decide) (fun c1 => ?_) (fun c1 => ?_)
    · replace h := (if_pos c1).symm.trans h
      refine g_lload_n (pc := 41) dX11_share_41 rfl ?_
      refine g_cS (pc := 42) dX11_share_42 cS_RX11_411 (M_X4_sumOf (Nat.le_refl _) rfl) (as := [.long v1]) (st := []) rfl rfl (Nat.le_of_ble_eq_true rfl) (Nat.le_trans (Nat.le_of_ble_eq_true rfl) hd) rfl ?_
      cases h
      exact g_iret (pc := 45) dX11_share_45 rfl rfl rfl (Nat.le_refl _) (Nat.le_refl _)
    · replace h := (if_neg c1).symm.trans h
      refine g_aload_n (pc := 26) dX11_share_26 rfl ?_
      refine g_lload_n (pc := 27) dX11_share_27 rfl ?_
      refine g_iload_n (pc := 28) dX11_share_28 rfl ?_
      obtain ⟨x3, e2, h⟩ := x_bind h
      refine g_cS (pc := 29) dX11_share_29 cS_RX11_407 (M_X4_landOf (Nat.le_refl _) e2) (as := [.long v1, .int v3]) (st := [.ref 0]) rfl rfl (Nat.le_of_ble_eq_true rfl) (Nat.le_trans (Nat.le_of_ble_eq_true rfl) hd) rfl ?_
      obtain ⟨u5, e4, h⟩ := x_bind h
      refine g_cV (pc := 32) dX11_share_32 cV_RX11_359 (M_X11_tell (Nat.le_refl _) e4) xc_0 (as := [.int x3]) (st := []) rfl rfl (Nat.le_of_ble_eq_true rfl) (Nat.le_trans (Nat.le_of_ble_eq_true rfl) hd) rfl ?_
      refine g_inc (pc := 35) dX11_share_35 (Nat.le_of_ble_eq_true rfl) rfl ic_1 (L' := [some (.ref 0), some (.long v1), none, some (.int (v3 + (1 : Int32)))]) rfl ?_
      refine g_goto (tgt := 15) (pc := 38) dX11_share_38 (by decide) ?_
      exact ih v1 (v3 + (1 : Int32)) u5 h
set_option maxRecDepth 100000 in
set_option maxHeartbeats 4000000 in
theorem G_X11_share_0 {sc : Nat × (Nat → Int32)} {d : Nat} (hd : 3 ≤ d) {r : Int32} {u' : xS} (u : xS) (h : f_X11_share u = some (r, u')) : xG sc mX11_share d 0 0 (xR (some (.int r)) (xL0, u') 0 0) 0 0 0 [some (.ref 0), none, none, none] [] (xL0, u) := by
  rw [f_X11_share] at h
  refine g_aload_n (pc := 0) dX11_share_0 rfl ?_
  refine g_gR (pc := 1) dX11_share_1 fR_RX11_82 xc_0 (v := 121) rfl ?_
  obtain ⟨⟨x2, u3⟩, e1, h⟩ := x_bind h
  dsimp only at h
  refine g_cV (pc := 4) dX11_share_4 cV_RX11_403 (M_X4_bestShare (Nat.le_refl _) e1) xc_121 (as := []) (st := []) rfl rfl (Nat.le_of_ble_eq_true rfl) (Nat.le_trans (Nat.le_of_ble_eq_true rfl) hd) rfl ?_
  refine g_lstore_n (pc := 7) dX11_share_7 (Nat.le_of_ble_eq_true rfl) (Nat.le_of_ble_eq_true rfl) (L' := [some (.ref 0), some (.long x2), none, none]) rfl ?_
  refine g_aload_n (pc := 8) dX11_share_8 rfl ?_
  refine g_iconst (pc := 9) dX11_share_9 ic_0 ?_
  refine g_pI (pc := 10) dX11_share_10 pI_RX11_90 xc_0 (u' := (wr u3 0 12 (0 : Int32))) rfl ?_
  refine g_iconst (pc := 13) dX11_share_13 ic_0 ?_
  refine g_istore_n (pc := 14) dX11_share_14 (Nat.le_of_ble_eq_true rfl) (L' := [some (.ref 0), some (.long x2), none, some (.int (0 : Int32))]) rfl ?_
  exact G_X11_share_15 hd xN x2 (0 : Int32) (wr u3 0 12 (0 : Int32)) h
set_option maxRecDepth 100000 in
set_option maxHeartbeats 4000000 in
theorem M_X11_share {sc : Nat × (Nat → Int32)} {d : Nat} (hd : 3 ≤ d) {r : Int32} {u u' : xS} (h : f_X11_share u = some (r, u')) : xMt sc mX11_share d 0 0 [.ref 0] (xL0, u) (some (.int r)) (xL0, u') :=
  xMt.of (by decide +kernel) (Nat.le_of_ble_eq_true rfl) (L := [some (.ref 0), none, none, none]) rfl ((G_X11_share_0 hd u h))
set_option maxRecDepth 100000 in
set_option maxHeartbeats 4000000 in
theorem G_X9_add_48 {sc : Nat × (Nat → Int32)} {d : Nat} (hd : 0 ≤ d) {r : Int32} {u' : xS} (u : xS) (h : f_X9_add_48 u = some (r, u')) : xG sc mX9_add d 0 0 (xR (some (.int r)) (xL0, u') 0 0) 0 0 48 [some (.ref 52), none, none] [] (xL0, u) := by
  rw [f_X9_add_48] at h
  refine g_aload_n (pc := 48) dX9_add_48 rfl ?_
  refine g_gI (pc := 49) dX9_add_49 fI_RX9_15 xc_52 (v := (rd u 52 1)) rfl ?_
  cases h
  exact g_iret (pc := 52) dX9_add_52 rfl rfl rfl (Nat.le_refl _) (Nat.le_refl _)
set_option maxRecDepth 100000 in
set_option maxHeartbeats 4000000 in
theorem G_X9_add_3 {sc : Nat × (Nat → Int32)} {d : Nat} (hd : 0 ≤ d) {r : Int32} {u' : xS} : ∀ (n : Nat) (v1 : Int32) (v2 : Int32) (u : xS), f_X9_add_3 n v1 v2 u = some (r, u') → xG sc mX9_add d 0 0 (xR (some (.int r)) (xL0, u') 0 0) 0 0 3 [some (.ref 52), some (.int v1), some (.int v2)] [] (xL0, u) := by
  intro n
  induction n with
  | zero =>
    intro v1 v2 u h
    rw [f_X9_add_3] at h
    cases h
  | succ n ih =>
    intro v1 v2 u h
    rw [f_X9_add_3] at h
    refine g_iload_n (pc := 3) dX9_add_3 rfl ?_
    refine g_if_lt (tgt := 48) (pc := 4) dX9_add_4 (by decide) (fun c1 => ?_) (fun c1 => ?_)
    · replace h := (if_pos c1).symm.trans h
      refine g_L (L' := [some (.ref 52), none, none]) ⟨rfl, trivial⟩ ?_
      exact G_X9_add_48 hd u h
    · replace h := (if_neg c1).symm.trans h
      refine g_aload_n (pc := 7) dX9_add_7 rfl ?_
      refine g_gI (pc := 8) dX9_add_8 fI_RX9_15 xc_52 (v := (rd u 52 1)) rfl ?_
      refine g_bipush (pc := 11) dX9_add_11 bp_100 ?_
      refine g_icmp_ge (tgt := 48) (pc := 13) dX9_add_13 (by decide) (fun c2 => ?_) (fun c2 => ?_)
      · replace h := (if_pos c2).symm.trans h
        refine g_L (L' := [some (.ref 52), none, none]) ⟨rfl, trivial⟩ ?_
        exact G_X9_add_48 hd u h
      · replace h := (if_neg c2).symm.trans h
        refine g_aload_n (pc := 16) dX9_add_16 rfl ?_
        refine g_gR (pc := 17) dX9_add_17 fR_RX9_9 xc_52 (v := 53) rfl ?_
        refine g_aload_n (pc := 20) dX9_add_20 rfl ?_
        refine g_gI (pc := 21) dX9_add_21 fI_RX9_15 xc_52 (v := (rd u 52 1)) rfl ?_
        refine g_iload_n (pc := 24) dX9_add_24 rfl ?_
        refine g_iload_n (pc := 25) dX9_add_25 rfl ?_
        refine g_ishr (pc := 26) dX9_add_26 rfl ?_
        refine g_sipush (pc := 27) dX9_add_27 sp_255 ?_
        refine g_iand (pc := 30) dX9_add_30 rfl ?_
        obtain ⟨g3, h⟩ := x_gd h
        refine g_iastore (pc := 31) dX9_add_31 xc_53 (xin_of g3) (u' := (wr u 53 (rd u 52 1).toNatClampNeg ((v1 >>> (v2 &&& 31)) &&& (255 : Int32)))) rfl ?_
        refine g_aload_n (pc := 32) dX9_add_32 rfl ?_
        refine g_dup (pc := 33) dX9_add_33 rfl ?_
        refine g_gI (pc := 34) dX9_add_34 fI_RX9_15 xc_52 (v := (rd u 52 1)) rfl ?_
        refine g_iconst (pc := 37) dX9_add_37 ic_1 ?_
        refine g_iadd (pc := 38) dX9_add_38 rfl ?_
        refine g_pI (pc := 39) dX9_add_39 pI_RX9_15 xc_52 (u' := (wr (wr u 53 (rd u 52 1).toNatClampNeg ((v1 >>> (v2 &&& 31)) &&& (255 : Int32))) 52 1 ((rd u 52 1) + (1 : Int32)))) rfl ?_
        refine g_inc (pc := 42) dX9_add_42 (Nat.le_of_ble_eq_true rfl) rfl ic_m8 (L' := [some (.ref 52), some (.int v1), some (.int (v2 + (-8 : Int32)))]) rfl ?_
        refine g_goto (tgt := 3) (pc := 45) dX9_add_45 (by decide) ?_
        exact ih v1 (v2 + (-8 : Int32)) (wr (wr u 53 (rd u 52 1).toNatClampNeg ((v1 >>> (v2 &&& 31)) &&& (255 : Int32))) 52 1 ((rd u 52 1) + (1 : Int32))) h
set_option maxRecDepth 100000 in
set_option maxHeartbeats 4000000 in
theorem G_X9_add_0 {sc : Nat × (Nat → Int32)} {d : Nat} (hd : 0 ≤ d) {r : Int32} {u' : xS} (v1 : Int32) (u : xS) (h : f_X9_add v1 u = some (r, u')) : xG sc mX9_add d 0 0 (xR (some (.int r)) (xL0, u') 0 0) 0 0 0 [some (.ref 52), some (.int v1), none] [] (xL0, u) := by
  rw [f_X9_add] at h
  refine g_bipush (pc := 0) dX9_add_0 bp_24 ?_
  refine g_istore_n (pc := 2) dX9_add_2 (Nat.le_of_ble_eq_true rfl) (L' := [some (.ref 52), some (.int v1), some (.int (24 : Int32))]) rfl ?_
  exact G_X9_add_3 hd xN v1 (24 : Int32) u h
set_option maxRecDepth 100000 in
set_option maxHeartbeats 4000000 in
theorem M_X9_add {sc : Nat × (Nat → Int32)} {d : Nat} (hd : 0 ≤ d) {r : Int32} {u u' : xS} {a1 : Int32} (h : f_X9_add a1 u = some (r, u')) : xMt sc mX9_add d 0 0 [.ref 52, .int a1] (xL0, u) (some (.int r)) (xL0, u') :=
  xMt.of (by decide +kernel) (Nat.le_of_ble_eq_true rfl) (L := [some (.ref 52), some (.int a1), none]) rfl ((G_X9_add_0 hd a1 u h))
set_option maxRecDepth 100000 in
set_option maxHeartbeats 4000000 in
theorem G_X11_sign_0 {sc : Nat × (Nat → Int32)} {d : Nat} (hd : 1 ≤ d) {r : Int32} {u' : xS} (v1 : Int32) (u : xS) (h : f_X11_sign v1 u = some (r, u')) : xG sc mX11_sign d 0 0 (xR (some (.int r)) (xL0, u') 0 0) 0 0 0 [some (.ref 0), some (.int v1)] [] (xL0, u) := by
  rw [f_X11_sign] at h
  refine g_aload_n (pc := 0) dX11_sign_0 rfl ?_
  refine g_gR (pc := 1) dX11_sign_1 fR_RX11_33 xc_0 (v := 52) rfl ?_
  refine g_gI (pc := 4) dX11_sign_4 fI_RX11_233 xc_52 (v := (rd u 52 1)) rfl ?_
  refine g_iconst (pc := 7) dX11_sign_7 ic_4 ?_
  refine g_iadd (pc := 8) dX11_sign_8 rfl ?_
  refine g_bipush (pc := 9) dX11_sign_9 bp_100 ?_
  refine g_icmp_gt (tgt := 25) (pc := 11) dX11_sign_11 (by decide) (fun c1 => ?_) (fun c1 => ?_)
  · replace h := (if_pos c1).symm.trans h
    refine g_iconst (pc := 25) dX11_sign_25 ic_m1 ?_
    cases h
    exact g_iret (pc := 26) dX11_sign_26 rfl rfl rfl (Nat.le_refl _) (Nat.le_refl _)
  · replace h := (if_neg c1).symm.trans h
    refine g_aload_n (pc := 14) dX11_sign_14 rfl ?_
    refine g_gR (pc := 15) dX11_sign_15 fR_RX11_33 xc_0 (v := 52) rfl ?_
    refine g_iload_n (pc := 18) dX11_sign_18 rfl ?_
    obtain ⟨⟨x3, u4⟩, e2, h⟩ := x_bind h
    dsimp only at h
    refine g_cV (pc := 19) dX11_sign_19 cV_RX11_236 (M_X9_add (Nat.le_refl _) e2) xc_52 (as := [.int v1]) (st := []) rfl rfl (Nat.le_of_ble_eq_true rfl) (Nat.le_trans (Nat.le_of_ble_eq_true rfl) hd) rfl ?_
    refine g_goto (tgt := 26) (pc := 22) dX11_sign_22 (by decide) ?_
    cases h
    exact g_iret (pc := 26) dX11_sign_26 rfl rfl rfl (Nat.le_refl _) (Nat.le_refl _)
set_option maxRecDepth 100000 in
set_option maxHeartbeats 4000000 in
theorem M_X11_sign {sc : Nat × (Nat → Int32)} {d : Nat} (hd : 1 ≤ d) {r : Int32} {u u' : xS} {a1 : Int32} (h : f_X11_sign a1 u = some (r, u')) : xMt sc mX11_sign d 0 0 [.ref 0, .int a1] (xL0, u) (some (.int r)) (xL0, u') :=
  xMt.of (by decide +kernel) (Nat.le_of_ble_eq_true rfl) (L := [some (.ref 0), some (.int a1)]) rfl ((G_X11_sign_0 hd a1 u h))
set_option maxRecDepth 100000 in
set_option maxHeartbeats 4000000 in
theorem G_X8_add_0 {sc : Nat × (Nat → Int32)} {d : Nat} (hd : 0 ≤ d) {r : Int32} {u' : xS} (v1 : Int32) (v2 : Int32) (v3 : Int32) (v4 : Int32) (v5 : Int32) (v6 : Int32) (v7 : Int32) (u : xS) (h : f_X8_add v1 v2 v3 v4 v5 v6 v7 u = some (r, u')) : xG sc mX8_add d 0 0 (xR (some (.int r)) (xL0, u') 0 0) 0 0 0 [some (.ref 1), some (.int v1), some (.int v2), some (.int v3), some (.int v4), some (.int v5), some (.int v6), some (.int v7)] [] (xL0, u) := by
  rw [f_X8_add] at h
  refine g_aload_n (pc := 0) dX8_add_0 rfl ?_
  refine g_gI (pc := 1) dX8_add_1 fI_RX8_20 xc_1 (v := (rd u 1 2)) rfl ?_
  refine g_bipush (pc := 4) dX8_add_4 bp_16 ?_
  refine g_icmp_lt (tgt := 11) (pc := 6) dX8_add_6 (by decide) (fun c1 => ?_) (fun c1 => ?_)
  · replace h := (if_pos c1).symm.trans h
    refine g_aload_n (pc := 11) dX8_add_11 rfl ?_
    refine g_gR (pc := 12) dX8_add_12 fR_RX8_13 xc_1 (v := 2) rfl ?_
    refine g_iconst (pc := 15) dX8_add_15 ic_0 ?_
    refine g_aaload (pc := 16) dX8_add_16 xc_2 vin_0_6 (v := 3) rfl ?_
    refine g_aload_n (pc := 17) dX8_add_17 rfl ?_
    refine g_gI (pc := 18) dX8_add_18 fI_RX8_20 xc_1 (v := (rd u 1 2)) rfl ?_
    refine g_iload_n (pc := 21) dX8_add_21 rfl ?_
    obtain ⟨g2, h⟩ := x_gd h
    refine g_iastore (pc := 22) dX8_add_22 xc_3 (xin_of g2) (u' := (wr u 3 (rd u 1 2).toNatClampNeg v1)) rfl ?_
    refine g_aload_n (pc := 23) dX8_add_23 rfl ?_
    refine g_gR (pc := 24) dX8_add_24 fR_RX8_13 xc_1 (v := 2) rfl ?_
    refine g_iconst (pc := 27) dX8_add_27 ic_1 ?_
    refine g_aaload (pc := 28) dX8_add_28 xc_2 vin_1_6 (v := 4) rfl ?_
    refine g_aload_n (pc := 29) dX8_add_29 rfl ?_
    refine g_gI (pc := 30) dX8_add_30 fI_RX8_20 xc_1 (v := (rd u 1 2)) rfl ?_
    refine g_iload_n (pc := 33) dX8_add_33 rfl ?_
    refine g_iastore (pc := 34) dX8_add_34 xc_4 (xin_of g2) (u' := (wr (wr u 3 (rd u 1 2).toNatClampNeg v1) 4 (rd u 1 2).toNatClampNeg v2)) rfl ?_
    refine g_aload_n (pc := 35) dX8_add_35 rfl ?_
    refine g_gR (pc := 36) dX8_add_36 fR_RX8_13 xc_1 (v := 2) rfl ?_
    refine g_iconst (pc := 39) dX8_add_39 ic_2 ?_
    refine g_aaload (pc := 40) dX8_add_40 xc_2 vin_2_6 (v := 5) rfl ?_
    refine g_aload_n (pc := 41) dX8_add_41 rfl ?_
    refine g_gI (pc := 42) dX8_add_42 fI_RX8_20 xc_1 (v := (rd u 1 2)) rfl ?_
    refine g_iload_n (pc := 45) dX8_add_45 rfl ?_
    refine g_iastore (pc := 46) dX8_add_46 xc_5 (xin_of g2) (u' := (wr (wr (wr u 3 (rd u 1 2).toNatClampNeg v1) 4 (rd u 1 2).toNatClampNeg v2) 5 (rd u 1 2).toNatClampNeg v3)) rfl ?_
    refine g_aload_n (pc := 47) dX8_add_47 rfl ?_
    refine g_gR (pc := 48) dX8_add_48 fR_RX8_13 xc_1 (v := 2) rfl ?_
    refine g_iconst (pc := 51) dX8_add_51 ic_3 ?_
    refine g_aaload (pc := 52) dX8_add_52 xc_2 vin_3_6 (v := 6) rfl ?_
    refine g_aload_n (pc := 53) dX8_add_53 rfl ?_
    refine g_gI (pc := 54) dX8_add_54 fI_RX8_20 xc_1 (v := (rd u 1 2)) rfl ?_
    refine g_iload (pc := 57) dX8_add_57 rfl ?_
    refine g_iastore (pc := 59) dX8_add_59 xc_6 (xin_of g2) (u' := (wr (wr (wr (wr u 3 (rd u 1 2).toNatClampNeg v1) 4 (rd u 1 2).toNatClampNeg v2) 5 (rd u 1 2).toNatClampNeg v3) 6 (rd u 1 2).toNatClampNeg v4)) rfl ?_
    refine g_aload_n (pc := 60) dX8_add_60 rfl ?_
    refine g_gR (pc := 61) dX8_add_61 fR_RX8_13 xc_1 (v := 2) rfl ?_
    refine g_iconst (pc := 64) dX8_add_64 ic_4 ?_
    refine g_aaload (pc := 65) dX8_add_65 xc_2 vin_4_6 (v := 7) rfl ?_
    refine g_aload_n (pc := 66) dX8_add_66 rfl ?_
    refine g_gI (pc := 67) dX8_add_67 fI_RX8_20 xc_1 (v := (rd u 1 2)) rfl ?_
    refine g_iload (pc := 70) dX8_add_70 rfl ?_
    refine g_iastore (pc := 72) dX8_add_72 xc_7 (xin_of g2) (u' := (wr (wr (wr (wr (wr u 3 (rd u 1 2).toNatClampNeg v1) 4 (rd u 1 2).toNatClampNeg v2) 5 (rd u 1 2).toNatClampNeg v3) 6 (rd u 1 2).toNatClampNeg v4) 7 (rd u 1 2).toNatClampNeg v5)) rfl ?_
    refine g_aload_n (pc := 73) dX8_add_73 rfl ?_
    refine g_gR (pc := 74) dX8_add_74 fR_RX8_13 xc_1 (v := 2) rfl ?_
    refine g_iconst (pc := 77) dX8_add_77 ic_5 ?_
    refine g_aaload (pc := 78) dX8_add_78 xc_2 vin_5_6 (v := 8) rfl ?_
    refine g_aload_n (pc := 79) dX8_add_79 rfl ?_
    refine g_gI (pc := 80) dX8_add_80 fI_RX8_20 xc_1 (v := (rd u 1 2)) rfl ?_
    refine g_iload (pc := 83) dX8_add_83 rfl ?_
    refine g_iastore (pc := 85) dX8_add_85 xc_8 (xin_of g2) (u' := (wr (wr (wr (wr (wr (wr u 3 (rd u 1 2).toNatClampNeg v1) 4 (rd u 1 2).toNatClampNeg v2) 5 (rd u 1 2).toNatClampNeg v3) 6 (rd u 1 2).toNatClampNeg v4) 7 (rd u 1 2).toNatClampNeg v5) 8 (rd u 1 2).toNatClampNeg v6)) rfl ?_
    refine g_aload_n (pc := 86) dX8_add_86 rfl ?_
    refine g_gR (pc := 87) dX8_add_87 fR_RX8_16 xc_1 (v := 9) rfl ?_
    refine g_aload_n (pc := 90) dX8_add_90 rfl ?_
    refine g_gI (pc := 91) dX8_add_91 fI_RX8_20 xc_1 (v := (rd u 1 2)) rfl ?_
    refine g_iload (pc := 94) dX8_add_94 rfl ?_
    refine g_iastore (pc := 96) dX8_add_96 xc_9 (xin_of g2) (u' := (wr (wr (wr (wr (wr (wr (wr u 3 (rd u 1 2).toNatClampNeg v1) 4 (rd u 1 2).toNatClampNeg v2) 5 (rd u 1 2).toNatClampNeg v3) 6 (rd u 1 2).toNatClampNeg v4) 7 (rd u 1 2).toNatClampNeg v5) 8 (rd u 1 2).toNatClampNeg v6) 9 (rd u 1 2).toNatClampNeg v7)) rfl ?_
    refine g_aload_n (pc := 97) dX8_add_97 rfl ?_
    refine g_dup (pc := 98) dX8_add_98 rfl ?_
    refine g_gI (pc := 99) dX8_add_99 fI_RX8_20 xc_1 (v := (rd u 1 2)) rfl ?_
    refine g_dup_x1 (pc := 102) dX8_add_102 rfl rfl ?_
    refine g_iconst (pc := 103) dX8_add_103 ic_1 ?_
    refine g_iadd (pc := 104) dX8_add_104 rfl ?_
    refine g_pI (pc := 105) dX8_add_105 pI_RX8_20 xc_1 (u' := (wr (wr (wr (wr (wr (wr (wr (wr u 3 (rd u 1 2).toNatClampNeg v1) 4 (rd u 1 2).toNatClampNeg v2) 5 (rd u 1 2).toNatClampNeg v3) 6 (rd u 1 2).toNatClampNeg v4) 7 (rd u 1 2).toNatClampNeg v5) 8 (rd u 1 2).toNatClampNeg v6) 9 (rd u 1 2).toNatClampNeg v7) 1 2 ((rd u 1 2) + (1 : Int32)))) rfl ?_
    cases h
    exact g_iret (pc := 108) dX8_add_108 rfl rfl rfl (Nat.le_refl _) (Nat.le_refl _)
  · replace h := (if_neg c1).symm.trans h
    refine g_iconst (pc := 9) dX8_add_9 ic_m1 ?_
    cases h
    exact g_iret (pc := 10) dX8_add_10 rfl rfl rfl (Nat.le_refl _) (Nat.le_refl _)
set_option maxRecDepth 100000 in
set_option maxHeartbeats 4000000 in
theorem M_X8_add {sc : Nat × (Nat → Int32)} {d : Nat} (hd : 0 ≤ d) {r : Int32} {u u' : xS} {a1 : Int32} {a2 : Int32} {a3 : Int32} {a4 : Int32} {a5 : Int32} {a6 : Int32} {a7 : Int32} (h : f_X8_add a1 a2 a3 a4 a5 a6 a7 u = some (r, u')) : xMt sc mX8_add d 0 0 [.ref 1, .int a1, .int a2, .int a3, .int a4, .int a5, .int a6, .int a7] (xL0, u) (some (.int r)) (xL0, u') :=
  xMt.of (by decide +kernel) (Nat.le_of_ble_eq_true rfl) (L := [some (.ref 1), some (.int a1), some (.int a2), some (.int a3), some (.int a4), some (.int a5), some (.int a6), some (.int a7)]) rfl ((G_X8_add_0 hd a1 a2 a3 a4 a5 a6 a7 u h))
set_option maxRecDepth 100000 in
set_option maxHeartbeats 4000000 in
theorem G_X11_sort_101 {sc : Nat × (Nat → Int32)} {d : Nat} (hd : 1 ≤ d) {r : Int32} {u' : xS} (v1 : Int32) (v2 : Int32) (v3 : Int32) (v4 : Int32) (v5 : Int32) (v6 : Int32) (v7 : Int32) (v8 : Int32) (v9 : Int32) (s0 : Int32) (u : xS) (h : f_X11_sort_101 v1 v2 v3 v4 v5 v6 v7 v8 v9 s0 u = some (r, u')) : xG sc mX11_sort d 0 0 (xR (some (.int r)) (xL0, u') 0 0) 0 0 101 [some (.ref 0), some (.int v1), some (.int v2), some (.int v3), some (.int v4), some (.int v5), some (.int v6), some (.int v7), some (.int v8), some (.int v9), none] [.int s0] (xL0, u) := by
  rw [f_X11_sort_101] at h
  refine g_istore (pc := 101) dX11_sort_101 (Nat.le_of_ble_eq_true rfl) (L' := [some (.ref 0), some (.int v1), some (.int v2), some (.int v3), some (.int v4), some (.int v5), some (.int v6), some (.int v7), some (.int v8), some (.int v9), some (.int s0)]) rfl ?_
  refine g_iload (pc := 103) dX11_sort_103 rfl ?_
  refine g_if_eq (tgt := 141) (pc := 105) dX11_sort_105 (by decide) (fun c1 => ?_) (fun c1 => ?_)
  · replace h := (if_pos c1).symm.trans h
    refine g_iconst (pc := 141) dX11_sort_141 ic_m1 ?_
    cases h
    exact g_iret (pc := 142) dX11_sort_142 rfl rfl rfl (Nat.le_refl _) (Nat.le_refl _)
  · replace h := (if_neg c1).symm.trans h
    refine g_iload (pc := 108) dX11_sort_108 rfl ?_
    refine g_if_eq (tgt := 141) (pc := 110) dX11_sort_110 (by decide) (fun c2 => ?_) (fun c2 => ?_)
    · replace h := (if_pos c2).symm.trans h
      refine g_iconst (pc := 141) dX11_sort_141 ic_m1 ?_
      cases h
      exact g_iret (pc := 142) dX11_sort_142 rfl rfl rfl (Nat.le_refl _) (Nat.le_refl _)
    · replace h := (if_neg c2).symm.trans h
      refine g_iload (pc := 113) dX11_sort_113 rfl ?_
      refine g_if_eq (tgt := 141) (pc := 115) dX11_sort_115 (by decide) (fun c3 => ?_) (fun c3 => ?_)
      · replace h := (if_pos c3).symm.trans h
        refine g_iconst (pc := 141) dX11_sort_141 ic_m1 ?_
        cases h
        exact g_iret (pc := 142) dX11_sort_142 rfl rfl rfl (Nat.le_refl _) (Nat.le_refl _)
      · replace h := (if_neg c3).symm.trans h
        refine g_iload (pc := 118) dX11_sort_118 rfl ?_
        refine g_iconst (pc := 120) dX11_sort_120 ic_1 ?_
        refine g_bipush (pc := 121) dX11_sort_121 bp_99 ?_
        refine g_cS (pc := 123) dX11_sort_123 cS_RX11_94 (M_X11_lies (Nat.le_refl _) rfl) (as := [.int v4, .int (1 : Int32), .int (99 : Int32)]) (st := []) rfl rfl (Nat.le_of_ble_eq_true rfl) (Nat.le_trans (Nat.le_of_ble_eq_true rfl) hd) rfl ?_
        refine g_if_eq (tgt := 141) (pc := 126) dX11_sort_126 (by decide) (fun c4 => ?_) (fun c4 => ?_)
        · replace h := (if_pos c4).symm.trans h
          refine g_iconst (pc := 141) dX11_sort_141 ic_m1 ?_
          cases h
          exact g_iret (pc := 142) dX11_sort_142 rfl rfl rfl (Nat.le_refl _) (Nat.le_refl _)
        · replace h := (if_neg c4).symm.trans h
          refine g_aload_n (pc := 129) dX11_sort_129 rfl ?_
          refine g_gR (pc := 130) dX11_sort_130 fR_RX11_12 xc_0 (v := 1) rfl ?_
          refine g_gI (pc := 133) dX11_sort_133 fI_RX11_102 xc_1 (v := (rd u 1 2)) rfl ?_
          refine g_bipush (pc := 136) dX11_sort_136 bp_16 ?_
          refine g_icmp_lt (tgt := 143) (pc := 138) dX11_sort_138 (by decide) (fun c5 => ?_) (fun c5 => ?_)
          · replace h := (if_pos c5).symm.trans h
            refine g_aload_n (pc := 143) dX11_sort_143 rfl ?_
            refine g_gR (pc := 144) dX11_sort_144 fR_RX11_12 xc_0 (v := 1) rfl ?_
            refine g_iload_n (pc := 147) dX11_sort_147 rfl ?_
            refine g_iload_n (pc := 148) dX11_sort_148 rfl ?_
            refine g_iload_n (pc := 149) dX11_sort_149 rfl ?_
            refine g_iload (pc := 150) dX11_sort_150 rfl ?_
            refine g_iload (pc := 152) dX11_sort_152 rfl ?_
            refine g_iload (pc := 154) dX11_sort_154 rfl ?_
            refine g_iload (pc := 156) dX11_sort_156 rfl ?_
            obtain ⟨⟨x7, u8⟩, e6, h⟩ := x_bind h
            dsimp only at h
            refine g_cV (pc := 158) dX11_sort_158 cV_RX11_105 (M_X8_add (Nat.le_refl _) e6) xc_1 (as := [.int v1, .int v2, .int v3, .int v4, .int v5, .int v6, .int v7]) (st := []) rfl rfl (Nat.le_of_ble_eq_true rfl) (Nat.le_trans (Nat.le_of_ble_eq_true rfl) hd) rfl ?_
            cases h
            exact g_iret (pc := 161) dX11_sort_161 rfl rfl rfl (Nat.le_refl _) (Nat.le_refl _)
          · replace h := (if_neg c5).symm.trans h
            refine g_iconst (pc := 141) dX11_sort_141 ic_m1 ?_
            cases h
            exact g_iret (pc := 142) dX11_sort_142 rfl rfl rfl (Nat.le_refl _) (Nat.le_refl _)
set_option maxRecDepth 100000 in
set_option maxHeartbeats 4000000 in
theorem G_X11_sort_96 {sc : Nat × (Nat → Int32)} {d : Nat} (hd : 1 ≤ d) {r : Int32} {u' : xS} (v1 : Int32) (v2 : Int32) (v3 : Int32) (v4 : Int32) (v5 : Int32) (v6 : Int32) (v7 : Int32) (v8 : Int32) (v9 : Int32) (u : xS) (h : f_X11_sort_96 v1 v2 v3 v4 v5 v6 v7 v8 v9 u = some (r, u')) : xG sc mX11_sort d 0 0 (xR (some (.int r)) (xL0, u') 0 0) 0 0 96 [some (.ref 0), some (.int v1), some (.int v2), some (.int v3), some (.int v4), some (.int v5), some (.int v6), some (.int v7), some (.int v8), some (.int v9), none] [] (xL0, u) := by
  rw [f_X11_sort_96] at h
  refine g_iconst (pc := 96) dX11_sort_96 ic_1 ?_
  refine g_goto (tgt := 101) (pc := 97) dX11_sort_97 (by decide) ?_
  exact G_X11_sort_101 hd v1 v2 v3 v4 v5 v6 v7 v8 v9 (1 : Int32) u h
set_option maxRecDepth 100000 in
set_option maxHeartbeats 4000000 in
theorem G_X11_sort_76 {sc : Nat × (Nat → Int32)} {d : Nat} (hd : 1 ≤ d) {r : Int32} {u' : xS} (v1 : Int32) (v2 : Int32) (v3 : Int32) (v4 : Int32) (v5 : Int32) (v6 : Int32) (v7 : Int32) (v8 : Int32) (s0 : Int32) (u : xS) (h : f_X11_sort_76 v1 v2 v3 v4 v5 v6 v7 v8 s0 u = some (r, u')) : xG sc mX11_sort d 0 0 (xR (some (.int r)) (xL0, u') 0 0) 0 0 76 [some (.ref 0), some (.int v1), some (.int v2), some (.int v3), some (.int v4), some (.int v5), some (.int v6), some (.int v7), some (.int v8), none, none] [.int s0] (xL0, u) := by
  rw [f_X11_sort_76] at h
  refine g_istore (pc := 76) dX11_sort_76 (Nat.le_of_ble_eq_true rfl) (L' := [some (.ref 0), some (.int v1), some (.int v2), some (.int v3), some (.int v4), some (.int v5), some (.int v6), some (.int v7), some (.int v8), some (.int s0), none]) rfl ?_
  refine g_iload (pc := 78) dX11_sort_78 rfl ?_
  refine g_iconst (pc := 80) dX11_sort_80 ic_m1 ?_
  refine g_icmp_eq (tgt := 96) (pc := 81) dX11_sort_81 (by decide) (fun c1 => ?_) (fun c1 => ?_)
  · replace h := (if_pos c1).symm.trans h
    exact G_X11_sort_96 hd v1 v2 v3 v4 v5 v6 v7 v8 s0 u h
  · replace h := (if_neg c1).symm.trans h
    refine g_aload_n (pc := 84) dX11_sort_84 rfl ?_
    refine g_gR (pc := 85) dX11_sort_85 fR_RX11_12 xc_0 (v := 1) rfl ?_
    refine g_iload (pc := 88) dX11_sort_88 rfl ?_
    refine g_cV (pc := 90) dX11_sort_90 cV_RX11_98 (M_X8_has (Nat.le_refl _) rfl) xc_1 (as := [.int v7]) (st := []) rfl rfl (Nat.le_of_ble_eq_true rfl) (Nat.le_trans (Nat.le_of_ble_eq_true rfl) hd) rfl ?_
    refine g_if_eq (tgt := 100) (pc := 93) dX11_sort_93 (by decide) (fun c2 => ?_) (fun c2 => ?_)
    · replace h := (if_pos c2).symm.trans h
      refine g_iconst (pc := 100) dX11_sort_100 ic_0 ?_
      exact G_X11_sort_101 hd v1 v2 v3 v4 v5 v6 v7 v8 s0 (0 : Int32) u h
    · replace h := (if_neg c2).symm.trans h
      exact G_X11_sort_96 hd v1 v2 v3 v4 v5 v6 v7 v8 s0 u h
set_option maxRecDepth 100000 in
set_option maxHeartbeats 4000000 in
theorem G_X11_sort_75 {sc : Nat × (Nat → Int32)} {d : Nat} (hd : 1 ≤ d) {r : Int32} {u' : xS} (v1 : Int32) (v2 : Int32) (v3 : Int32) (v4 : Int32) (v5 : Int32) (v6 : Int32) (v7 : Int32) (v8 : Int32) (u : xS) (h : f_X11_sort_75 v1 v2 v3 v4 v5 v6 v7 v8 u = some (r, u')) : xG sc mX11_sort d 0 0 (xR (some (.int r)) (xL0, u') 0 0) 0 0 75 [some (.ref 0), some (.int v1), some (.int v2), some (.int v3), some (.int v4), some (.int v5), some (.int v6), some (.int v7), some (.int v8), none, none] [] (xL0, u) := by
  rw [f_X11_sort_75] at h
  refine g_iconst (pc := 75) dX11_sort_75 ic_0 ?_
  exact G_X11_sort_76 hd v1 v2 v3 v4 v5 v6 v7 v8 (0 : Int32) u h
set_option maxRecDepth 100000 in
set_option maxHeartbeats 4000000 in
theorem G_X11_sort_38 {sc : Nat × (Nat → Int32)} {d : Nat} (hd : 1 ≤ d) {r : Int32} {u' : xS} (v1 : Int32) (v2 : Int32) (v3 : Int32) (v4 : Int32) (v5 : Int32) (v6 : Int32) (v7 : Int32) (s0 : Int32) (u : xS) (h : f_X11_sort_38 v1 v2 v3 v4 v5 v6 v7 s0 u = some (r, u')) : xG sc mX11_sort d 0 0 (xR (some (.int r)) (xL0, u') 0 0) 0 0 38 [some (.ref 0), some (.int v1), some (.int v2), some (.int v3), some (.int v4), some (.int v5), some (.int v6), some (.int v7), none, none, none] [.int s0] (xL0, u) := by
  rw [f_X11_sort_38] at h
  refine g_istore (pc := 38) dX11_sort_38 (Nat.le_of_ble_eq_true rfl) (L' := [some (.ref 0), some (.int v1), some (.int v2), some (.int v3), some (.int v4), some (.int v5), some (.int v6), some (.int v7), some (.int s0), none, none]) rfl ?_
  refine g_iload (pc := 40) dX11_sort_40 rfl ?_
  refine g_iconst (pc := 42) dX11_sort_42 ic_0 ?_
  refine g_sipush (pc := 43) dX11_sort_43 sp_1000 ?_
  refine g_cS (pc := 46) dX11_sort_46 cS_RX11_94 (M_X11_lies (Nat.le_refl _) rfl) (as := [.int v5, .int (0 : Int32), .int (1000 : Int32)]) (st := []) rfl rfl (Nat.le_of_ble_eq_true rfl) (Nat.le_trans (Nat.le_of_ble_eq_true rfl) hd) rfl ?_
  refine g_if_eq (tgt := 75) (pc := 49) dX11_sort_49 (by decide) (fun c1 => ?_) (fun c1 => ?_)
  · replace h := (if_pos c1).symm.trans h
    exact G_X11_sort_75 hd v1 v2 v3 v4 v5 v6 v7 s0 u h
  · replace h := (if_neg c1).symm.trans h
    refine g_iload (pc := 52) dX11_sort_52 rfl ?_
    refine g_iconst (pc := 54) dX11_sort_54 ic_0 ?_
    refine g_sipush (pc := 55) dX11_sort_55 sp_1000 ?_
    refine g_cS (pc := 58) dX11_sort_58 cS_RX11_94 (M_X11_lies (Nat.le_refl _) rfl) (as := [.int v6, .int (0 : Int32), .int (1000 : Int32)]) (st := []) rfl rfl (Nat.le_of_ble_eq_true rfl) (Nat.le_trans (Nat.le_of_ble_eq_true rfl) hd) rfl ?_
    refine g_if_eq (tgt := 75) (pc := 61) dX11_sort_61 (by decide) (fun c2 => ?_) (fun c2 => ?_)
    · replace h := (if_pos c2).symm.trans h
      exact G_X11_sort_75 hd v1 v2 v3 v4 v5 v6 v7 s0 u h
    · replace h := (if_neg c2).symm.trans h
      refine g_iload (pc := 64) dX11_sort_64 rfl ?_
      refine g_iload (pc := 66) dX11_sort_66 rfl ?_
      refine g_icmp_gt (tgt := 75) (pc := 68) dX11_sort_68 (by decide) (fun c3 => ?_) (fun c3 => ?_)
      · replace h := (if_pos c3).symm.trans h
        exact G_X11_sort_75 hd v1 v2 v3 v4 v5 v6 v7 s0 u h
      · replace h := (if_neg c3).symm.trans h
        refine g_iconst (pc := 71) dX11_sort_71 ic_1 ?_
        refine g_goto (tgt := 76) (pc := 72) dX11_sort_72 (by decide) ?_
        exact G_X11_sort_76 hd v1 v2 v3 v4 v5 v6 v7 s0 (1 : Int32) u h
set_option maxRecDepth 100000 in
set_option maxHeartbeats 4000000 in
theorem G_X11_sort_37 {sc : Nat × (Nat → Int32)} {d : Nat} (hd : 1 ≤ d) {r : Int32} {u' : xS} (v1 : Int32) (v2 : Int32) (v3 : Int32) (v4 : Int32) (v5 : Int32) (v6 : Int32) (v7 : Int32) (u : xS) (h : f_X11_sort_37 v1 v2 v3 v4 v5 v6 v7 u = some (r, u')) : xG sc mX11_sort d 0 0 (xR (some (.int r)) (xL0, u') 0 0) 0 0 37 [some (.ref 0), some (.int v1), some (.int v2), some (.int v3), some (.int v4), some (.int v5), some (.int v6), some (.int v7), none, none, none] [] (xL0, u) := by
  rw [f_X11_sort_37] at h
  refine g_iconst (pc := 37) dX11_sort_37 ic_0 ?_
  exact G_X11_sort_38 hd v1 v2 v3 v4 v5 v6 v7 (0 : Int32) u h
set_option maxRecDepth 100000 in
set_option maxHeartbeats 4000000 in
theorem G_X11_sort_0 {sc : Nat × (Nat → Int32)} {d : Nat} (hd : 1 ≤ d) {r : Int32} {u' : xS} (v1 : Int32) (v2 : Int32) (v3 : Int32) (v4 : Int32) (v5 : Int32) (v6 : Int32) (v7 : Int32) (u : xS) (h : f_X11_sort v1 v2 v3 v4 v5 v6 v7 u = some (r, u')) : xG sc mX11_sort d 0 0 (xR (some (.int r)) (xL0, u') 0 0) 0 0 0 [some (.ref 0), some (.int v1), some (.int v2), some (.int v3), some (.int v4), some (.int v5), some (.int v6), some (.int v7), none, none, none] [] (xL0, u) := by
  rw [f_X11_sort] at h
  refine g_iload_n (pc := 0) dX11_sort_0 rfl ?_
  refine g_iconst (pc := 1) dX11_sort_1 ic_0 ?_
  refine g_sipush (pc := 2) dX11_sort_2 sp_255 ?_
  refine g_cS (pc := 5) dX11_sort_5 cS_RX11_94 (M_X11_lies (Nat.le_refl _) rfl) (as := [.int v1, .int (0 : Int32), .int (255 : Int32)]) (st := []) rfl rfl (Nat.le_of_ble_eq_true rfl) (Nat.le_trans (Nat.le_of_ble_eq_true rfl) hd) rfl ?_
  refine g_if_eq (tgt := 37) (pc := 8) dX11_sort_8 (by decide) (fun c1 => ?_) (fun c1 => ?_)
  · replace h := (if_pos c1).symm.trans h
    exact G_X11_sort_37 hd v1 v2 v3 v4 v5 v6 v7 u h
  · replace h := (if_neg c1).symm.trans h
    refine g_iload_n (pc := 11) dX11_sort_11 rfl ?_
    refine g_iconst (pc := 12) dX11_sort_12 ic_0 ?_
    refine g_sipush (pc := 13) dX11_sort_13 sp_255 ?_
    refine g_cS (pc := 16) dX11_sort_16 cS_RX11_94 (M_X11_lies (Nat.le_refl _) rfl) (as := [.int v2, .int (0 : Int32), .int (255 : Int32)]) (st := []) rfl rfl (Nat.le_of_ble_eq_true rfl) (Nat.le_trans (Nat.le_of_ble_eq_true rfl) hd) rfl ?_
    refine g_if_eq (tgt := 37) (pc := 19) dX11_sort_19 (by decide) (fun c2 => ?_) (fun c2 => ?_)
    · replace h := (if_pos c2).symm.trans h
      exact G_X11_sort_37 hd v1 v2 v3 v4 v5 v6 v7 u h
    · replace h := (if_neg c2).symm.trans h
      refine g_iload_n (pc := 22) dX11_sort_22 rfl ?_
      refine g_iconst (pc := 23) dX11_sort_23 ic_0 ?_
      refine g_sipush (pc := 24) dX11_sort_24 sp_255 ?_
      refine g_cS (pc := 27) dX11_sort_27 cS_RX11_94 (M_X11_lies (Nat.le_refl _) rfl) (as := [.int v3, .int (0 : Int32), .int (255 : Int32)]) (st := []) rfl rfl (Nat.le_of_ble_eq_true rfl) (Nat.le_trans (Nat.le_of_ble_eq_true rfl) hd) rfl ?_
      refine g_if_eq (tgt := 37) (pc := 30) dX11_sort_30 (by decide) (fun c3 => ?_) (fun c3 => ?_)
      · replace h := (if_pos c3).symm.trans h
        exact G_X11_sort_37 hd v1 v2 v3 v4 v5 v6 v7 u h
      · replace h := (if_neg c3).symm.trans h
        refine g_iconst (pc := 33) dX11_sort_33 ic_1 ?_
        refine g_goto (tgt := 38) (pc := 34) dX11_sort_34 (by decide) ?_
        exact G_X11_sort_38 hd v1 v2 v3 v4 v5 v6 v7 (1 : Int32) u h
set_option maxRecDepth 100000 in
set_option maxHeartbeats 4000000 in
theorem M_X11_sort {sc : Nat × (Nat → Int32)} {d : Nat} (hd : 1 ≤ d) {r : Int32} {u u' : xS} {a1 : Int32} {a2 : Int32} {a3 : Int32} {a4 : Int32} {a5 : Int32} {a6 : Int32} {a7 : Int32} (h : f_X11_sort a1 a2 a3 a4 a5 a6 a7 u = some (r, u')) : xMt sc mX11_sort d 0 0 [.ref 0, .int a1, .int a2, .int a3, .int a4, .int a5, .int a6, .int a7] (xL0, u) (some (.int r)) (xL0, u') :=
  xMt.of (by decide +kernel) (Nat.le_of_ble_eq_true rfl) (L := [some (.ref 0), some (.int a1), some (.int a2), some (.int a3), some (.int a4), some (.int a5), some (.int a6), some (.int a7), none, none, none]) rfl ((G_X11_sort_0 hd a1 a2 a3 a4 a5 a6 a7 u h))
set_option maxRecDepth 100000 in
set_option maxHeartbeats 4000000 in
theorem G_X11_store_75 {sc : Nat × (Nat → Int32)} {d : Nat} (hd : 2 ≤ d) {r : Int32} {u : xS} {k27 : Int32 → Int32 → Int32 → Int32 → Option Int32} (hk27 : ∀ (v1 : Int32) (v2 : Int32) (v3 : Int32) (v4 : Int32), k27 v1 v2 v3 v4 = some r → xG sc mX11_store d 0 0 (xR (some (.int r)) (xL0, u) 0 0) 0 0 27 [some (.ref 0), some (.int v1), some (.int v2), some (.int v3), some (.int v4)] [] (xL0, u)) (v1 : Int32) (v2 : Int32) (v3 : Int32) (v4 : Int32) (h : f_X11_store_75 k27 u v1 v2 v3 v4 = some r) : xG sc mX11_store d 0 0 (xR (some (.int r)) (xL0, u) 0 0) 0 0 75 [some (.ref 0), some (.int v1), some (.int v2), some (.int v3), some (.int v4)] [] (xL0, u) := by
  rw [f_X11_store_75] at h
  refine g_inc (pc := 75) dX11_store_75 (Nat.le_of_ble_eq_true rfl) rfl ic_1 (L' := [some (.ref 0), some (.int v1), some (.int v2), some (.int v3), some (.int (v4 + (1 : Int32)))]) rfl ?_
  refine g_goto (tgt := 27) (pc := 78) dX11_store_78 (by decide) ?_
  exact hk27 v1 v2 v3 (v4 + (1 : Int32)) h
set_option maxRecDepth 100000 in
set_option maxHeartbeats 4000000 in
theorem G_X11_store_63 {sc : Nat × (Nat → Int32)} {d : Nat} (hd : 2 ≤ d) {r : Int32} {u : xS} {k27 : Int32 → Int32 → Int32 → Int32 → Option Int32} (hk27 : ∀ (v1 : Int32) (v2 : Int32) (v3 : Int32) (v4 : Int32), k27 v1 v2 v3 v4 = some r → xG sc mX11_store d 0 0 (xR (some (.int r)) (xL0, u) 0 0) 0 0 27 [some (.ref 0), some (.int v1), some (.int v2), some (.int v3), some (.int v4)] [] (xL0, u)) (v1 : Int32) (v2 : Int32) (v3 : Int32) (v4 : Int32) (h : f_X11_store_63 k27 u v1 v2 v3 v4 = some r) : xG sc mX11_store d 0 0 (xR (some (.int r)) (xL0, u) 0 0) 0 0 63 [some (.ref 0), some (.int v1), some (.int v2), some (.int v3), some (.int v4)] [] (xL0, u) := by
  rw [f_X11_store_63] at h
  refine g_iload_n (pc := 63) dX11_store_63 rfl ?_
  refine g_aload_n (pc := 64) dX11_store_64 rfl ?_
  refine g_gR (pc := 65) dX11_store_65 fR_RX11_54 xc_0 (v := 74) rfl ?_
  refine g_iload (pc := 68) dX11_store_68 rfl ?_
  obtain ⟨x2, e1, h⟩ := x_bind h
  refine g_cV (pc := 70) dX11_store_70 cV_RX11_263 (M_X6_ofSort (Nat.le_refl _) e1) xc_74 (as := [.int v4]) (st := [.int v3]) rfl rfl (Nat.le_of_ble_eq_true rfl) (Nat.le_trans (Nat.le_of_ble_eq_true rfl) hd) rfl ?_
  refine g_iadd (pc := 73) dX11_store_73 rfl ?_
  refine g_istore_n (pc := 74) dX11_store_74 (Nat.le_of_ble_eq_true rfl) (L' := [some (.ref 0), some (.int v1), some (.int v2), some (.int (v3 + x2)), some (.int v4)]) rfl ?_
  exact G_X11_store_75 hd hk27 v1 v2 (v3 + x2) v4 h
set_option maxRecDepth 100000 in
set_option maxHeartbeats 4000000 in
theorem G_X11_store_27 {sc : Nat × (Nat → Int32)} {d : Nat} (hd : 2 ≤ d) {r : Int32} {u : xS} : ∀ (n : Nat) (v1 : Int32) (v2 : Int32) (v3 : Int32) (v4 : Int32), f_X11_store_27 u n v1 v2 v3 v4 = some r → xG sc mX11_store d 0 0 (xR (some (.int r)) (xL0, u) 0 0) 0 0 27 [some (.ref 0), some (.int v1), some (.int v2), some (.int v3), some (.int v4)] [] (xL0, u) := by
  intro n
  induction n with
  | zero =>
    intro v1 v2 v3 v4 h
    rw [f_X11_store_27] at h
    cases h
  | succ n ih =>
    intro v1 v2 v3 v4 h
    rw [f_X11_store_27] at h
    refine g_iload (pc := 27) dX11_store_27 rfl ?_
    refine g_aload_n (pc := 29) dX11_store_29 rfl ?_
    refine g_gR (pc := 30) dX11_store_30 fR_RX11_12 xc_0 (v := 1) rfl ?_
    refine g_gI (pc := 33) dX11_store_33 fI_RX11_102 xc_1 (v := (rd u 1 2)) rfl ?_
    refine g_icmp_ge (tgt := 81) (pc := 36) dX11_store_36 (by decide) (fun c1 => ?_) (fun c1 => ?_)
    · replace h := (if_pos c1).symm.trans h
      refine g_iload_n (pc := 81) dX11_store_81 rfl ?_
      cases h
      exact g_iret (pc := 82) dX11_store_82 rfl rfl rfl (Nat.le_refl _) (Nat.le_refl _)
    · replace h := (if_neg c1).symm.trans h
      refine g_iload (pc := 39) dX11_store_39 rfl ?_
      refine g_iload_n (pc := 41) dX11_store_41 rfl ?_
      refine g_icmp_eq (tgt := 63) (pc := 42) dX11_store_42 (by decide) (fun c2 => ?_) (fun c2 => ?_)
      · replace h := (if_pos c2).symm.trans h
        exact G_X11_store_63 hd ih v1 v2 v3 v4 h
      · replace h := (if_neg c2).symm.trans h
        refine g_iload_n (pc := 45) dX11_store_45 rfl ?_
        refine g_iconst (pc := 46) dX11_store_46 ic_1 ?_
        refine g_icmp_ne (tgt := 75) (pc := 47) dX11_store_47 (by decide) (fun c3 => ?_) (fun c3 => ?_)
        · replace h := (if_neg c3).symm.trans h
          exact G_X11_store_75 hd ih v1 v2 v3 v4 h
        · replace h := (if_pos c3).symm.trans h
          refine g_aload_n (pc := 50) dX11_store_50 rfl ?_
          refine g_gR (pc := 51) dX11_store_51 fR_RX11_12 xc_0 (v := 1) rfl ?_
          refine g_iload (pc := 54) dX11_store_54 rfl ?_
          refine g_iload_n (pc := 56) dX11_store_56 rfl ?_
          obtain ⟨x5, e4, h⟩ := x_bind h
          refine g_cV (pc := 57) dX11_store_57 cV_RX11_123 (M_X8_isPart (Nat.le_refl _) e4) xc_1 (as := [.int v4, .int v1]) (st := []) rfl rfl (Nat.le_of_ble_eq_true rfl) (Nat.le_trans (Nat.le_of_ble_eq_true rfl) hd) rfl ?_
          refine g_if_eq (tgt := 75) (pc := 60) dX11_store_60 (by decide) (fun c6 => ?_) (fun c6 => ?_)
          · replace h := (if_pos c6).symm.trans h
            exact G_X11_store_75 hd ih v1 v2 v3 v4 h
          · replace h := (if_neg c6).symm.trans h
            exact G_X11_store_63 hd ih v1 v2 v3 v4 h
set_option maxRecDepth 100000 in
set_option maxHeartbeats 4000000 in
theorem G_X11_store_0 {sc : Nat × (Nat → Int32)} {d : Nat} (hd : 2 ≤ d) {r : Int32} {u : xS} (v1 : Int32) (v2 : Int32) (h : f_X11_store u v1 v2 = some r) : xG sc mX11_store d 0 0 (xR (some (.int r)) (xL0, u) 0 0) 0 0 0 [some (.ref 0), some (.int v1), some (.int v2), none, none] [] (xL0, u) := by
  rw [f_X11_store] at h
  refine g_aload_n (pc := 0) dX11_store_0 rfl ?_
  refine g_gR (pc := 1) dX11_store_1 fR_RX11_12 xc_0 (v := 1) rfl ?_
  refine g_iload_n (pc := 4) dX11_store_4 rfl ?_
  refine g_cV (pc := 5) dX11_store_5 cV_RX11_98 (M_X8_has (Nat.le_refl _) rfl) xc_1 (as := [.int v1]) (st := []) rfl rfl (Nat.le_of_ble_eq_true rfl) (Nat.le_trans (Nat.le_of_ble_eq_true rfl) hd) rfl ?_
  refine g_if_eq (tgt := 20) (pc := 8) dX11_store_8 (by decide) (fun c1 => ?_) (fun c1 => ?_)
  · replace h := (if_pos c1).symm.trans h
    refine g_iconst (pc := 20) dX11_store_20 ic_m1 ?_
    cases h
    exact g_iret (pc := 21) dX11_store_21 rfl rfl rfl (Nat.le_refl _) (Nat.le_refl _)
  · replace h := (if_neg c1).symm.trans h
    refine g_iload_n (pc := 11) dX11_store_11 rfl ?_
    refine g_iconst (pc := 12) dX11_store_12 ic_0 ?_
    refine g_iconst (pc := 13) dX11_store_13 ic_1 ?_
    refine g_cS (pc := 14) dX11_store_14 cS_RX11_94 (M_X11_lies (Nat.le_refl _) rfl) (as := [.int v2, .int (0 : Int32), .int (1 : Int32)]) (st := []) rfl rfl (Nat.le_of_ble_eq_true rfl) (Nat.le_trans (Nat.le_of_ble_eq_true rfl) hd) rfl ?_
    refine g_if_ne (tgt := 22) (pc := 17) dX11_store_17 (by decide) (fun c2 => ?_) (fun c2 => ?_)
    · replace h := (if_neg c2).symm.trans h
      refine g_iconst (pc := 22) dX11_store_22 ic_0 ?_
      refine g_istore_n (pc := 23) dX11_store_23 (Nat.le_of_ble_eq_true rfl) (L' := [some (.ref 0), some (.int v1), some (.int v2), some (.int (0 : Int32)), none]) rfl ?_
      refine g_iconst (pc := 24) dX11_store_24 ic_0 ?_
      refine g_istore (pc := 25) dX11_store_25 (Nat.le_of_ble_eq_true rfl) (L' := [some (.ref 0), some (.int v1), some (.int v2), some (.int (0 : Int32)), some (.int (0 : Int32))]) rfl ?_
      exact G_X11_store_27 hd xN v1 v2 (0 : Int32) (0 : Int32) h
    · replace h := (if_pos c2).symm.trans h
      refine g_iconst (pc := 20) dX11_store_20 ic_m1 ?_
      cases h
      exact g_iret (pc := 21) dX11_store_21 rfl rfl rfl (Nat.le_refl _) (Nat.le_refl _)
set_option maxRecDepth 100000 in
set_option maxHeartbeats 4000000 in
theorem M_X11_store {sc : Nat × (Nat → Int32)} {d : Nat} (hd : 2 ≤ d) {r : Int32} {u : xS} {a1 : Int32} {a2 : Int32} (h : f_X11_store u a1 a2 = some r) : xMt sc mX11_store d 0 0 [.ref 0, .int a1, .int a2] (xL0, u) (some (.int r)) (xL0, u) :=
  xMt.of (by decide +kernel) (Nat.le_of_ble_eq_true rfl) (L := [some (.ref 0), some (.int a1), some (.int a2), none, none]) rfl ((G_X11_store_0 hd a1 a2 h))
set_option maxRecDepth 100000 in
set_option maxHeartbeats 4000000 in
theorem G_X2_suspect_0 {sc : Nat × (Nat → Int32)} {d : Nat} (hd : 1 ≤ d) {r : Int32} {u : xS} (v1 : Int32) (h : f_X2_suspect u v1 = some r) : xG sc mX2_suspect d 0 0 (xR (some (.int r)) (xL0, u) 0 0) 0 0 0 [some (.ref 87), some (.int v1)] [] (xL0, u) := by
  rw [f_X2_suspect] at h
  refine g_iload_n (pc := 0) dX2_suspect_0 rfl ?_
  refine g_iconst (pc := 1) dX2_suspect_1 ic_0 ?_
  refine g_iconst (pc := 2) dX2_suspect_2 ic_3 ?_
  refine g_cN (pc := 3) dX2_suspect_3 cN_RX2_36 (M_X11_lies (Nat.le_refl _) rfl) (as := [.int v1, .int (0 : Int32), .int (3 : Int32)]) (st := []) rfl rfl (Nat.le_of_ble_eq_true rfl) (Nat.le_trans (Nat.le_of_ble_eq_true rfl) hd) rfl ?_
  refine g_if_eq (tgt := 23) (pc := 6) dX2_suspect_6 (by decide) (fun c1 => ?_) (fun c1 => ?_)
  · replace h := (if_pos c1).symm.trans h
    refine g_iconst (pc := 23) dX2_suspect_23 ic_m1 ?_
    cases h
    exact g_iret (pc := 24) dX2_suspect_24 rfl rfl rfl (Nat.le_refl _) (Nat.le_refl _)
  · replace h := (if_neg c1).symm.trans h
    refine g_aload_n (pc := 9) dX2_suspect_9 rfl ?_
    refine g_gR (pc := 10) dX2_suspect_10 fR_RX2_24 xc_87 (v := 110) rfl ?_
    refine g_aload_n (pc := 13) dX2_suspect_13 rfl ?_
    refine g_gR (pc := 14) dX2_suspect_14 fR_RX2_33 xc_87 (v := 112) rfl ?_
    refine g_iload_n (pc := 17) dX2_suspect_17 rfl ?_
    obtain ⟨g2, h⟩ := x_gd h
    refine g_iaload (pc := 18) dX2_suspect_18 xc_112 (xin_of g2) (v := (rd u 112 v1.toNatClampNeg)) rfl ?_
    obtain ⟨g3, h⟩ := x_gd h
    refine g_iaload (pc := 19) dX2_suspect_19 xc_110 (xin_of g3) (v := (rd u 110 (rd u 112 v1.toNatClampNeg).toNatClampNeg)) rfl ?_
    refine g_goto (tgt := 24) (pc := 20) dX2_suspect_20 (by decide) ?_
    cases h
    exact g_iret (pc := 24) dX2_suspect_24 rfl rfl rfl (Nat.le_refl _) (Nat.le_refl _)
set_option maxRecDepth 100000 in
set_option maxHeartbeats 4000000 in
theorem M_X2_suspect {sc : Nat × (Nat → Int32)} {d : Nat} (hd : 1 ≤ d) {r : Int32} {u : xS} {a1 : Int32} (h : f_X2_suspect u a1 = some r) : xMt sc mX2_suspect d 0 0 [.ref 87, .int a1] (xL0, u) (some (.int r)) (xL0, u) :=
  xMt.of (by decide +kernel) (Nat.le_of_ble_eq_true rfl) (L := [some (.ref 87), some (.int a1)]) rfl ((G_X2_suspect_0 hd a1 h))
set_option maxRecDepth 100000 in
set_option maxHeartbeats 4000000 in
theorem G_X2_nextChoice_39 {sc : Nat × (Nat → Int32)} {d : Nat} (hd : 0 ≤ d) {r : Int32} {u' : xS} : ∀ (n : Nat) (v1 : Int32) (v3 : Int32) (u : xS), f_X2_nextChoice_39 n v1 v3 u = some (r, u') → xG sc mX2_nextChoice d 0 0 (xR (some (.int r)) (xL0, u') 0 0) 0 0 39 [some (.ref 87), some (.int v1), none, some (.int v3)] [] (xL0, u) := by
  intro n
  induction n with
  | zero =>
    intro v1 v3 u h
    rw [f_X2_nextChoice_39] at h
    cases h
  | succ n ih =>
    intro v1 v3 u h
    rw [f_X2_nextChoice_39] at h
    refine g_iload_n (pc := 39) dX2_nextChoice_39 rfl ?_
    refine g_iload_n (pc := 40) dX2_nextChoice_40 rfl ?_
    refine g_icmp_ge (tgt := 66) (pc := 41) dX2_nextChoice_41 (by decide) (fun c1 => ?_) (fun c1 => ?_)
    · replace h := (if_pos c1).symm.trans h
      refine g_iconst (pc := 66) dX2_nextChoice_66 ic_1 ?_
      cases h
      exact g_zret (pc := 67) dX2_nextChoice_67 rfl (Or.inr rfl) rfl rfl (Nat.le_refl _) (Nat.le_refl _)
    · replace h := (if_neg c1).symm.trans h
      refine g_aload_n (pc := 44) dX2_nextChoice_44 rfl ?_
      refine g_gR (pc := 45) dX2_nextChoice_45 fR_RX2_33 xc_87 (v := 112) rfl ?_
      refine g_iload_n (pc := 48) dX2_nextChoice_48 rfl ?_
      refine g_aload_n (pc := 49) dX2_nextChoice_49 rfl ?_
      refine g_gR (pc := 50) dX2_nextChoice_50 fR_RX2_33 xc_87 (v := 112) rfl ?_
      refine g_iload_n (pc := 53) dX2_nextChoice_53 rfl ?_
      refine g_iconst (pc := 54) dX2_nextChoice_54 ic_1 ?_
      refine g_isub (pc := 55) dX2_nextChoice_55 rfl ?_
      obtain ⟨g2, h⟩ := x_gd h
      refine g_iaload (pc := 56) dX2_nextChoice_56 xc_112 (xin_of g2) (v := (rd u 112 (v3 - (1 : Int32)).toNatClampNeg)) rfl ?_
      refine g_iconst (pc := 57) dX2_nextChoice_57 ic_1 ?_
      refine g_iadd (pc := 58) dX2_nextChoice_58 rfl ?_
      obtain ⟨g3, h⟩ := x_gd h
      refine g_iastore (pc := 59) dX2_nextChoice_59 xc_112 (xin_of g3) (u' := (wr u 112 v3.toNatClampNeg ((rd u 112 (v3 - (1 : Int32)).toNatClampNeg) + (1 : Int32)))) rfl ?_
      refine g_inc (pc := 60) dX2_nextChoice_60 (Nat.le_of_ble_eq_true rfl) rfl ic_1 (L' := [some (.ref 87), some (.int v1), none, some (.int (v3 + (1 : Int32)))]) rfl ?_
      refine g_goto (tgt := 39) (pc := 63) dX2_nextChoice_63 (by decide) ?_
      exact ih v1 (v3 + (1 : Int32)) (wr u 112 v3.toNatClampNeg ((rd u 112 (v3 - (1 : Int32)).toNatClampNeg) + (1 : Int32))) h
set_option maxRecDepth 100000 in
set_option maxHeartbeats 4000000 in
theorem G_X2_nextChoice_4 {sc : Nat × (Nat → Int32)} {d : Nat} (hd : 0 ≤ d) {r : Int32} {u' : xS} : ∀ (n : Nat) (v1 : Int32) (v2 : Int32) (u : xS), f_X2_nextChoice_4 n v1 v2 u = some (r, u') → xG sc mX2_nextChoice d 0 0 (xR (some (.int r)) (xL0, u') 0 0) 0 0 4 [some (.ref 87), some (.int v1), some (.int v2), none] [] (xL0, u) := by
  intro n
  induction n with
  | zero =>
    intro v1 v2 u h
    rw [f_X2_nextChoice_4] at h
    cases h
  | succ n ih =>
    intro v1 v2 u h
    rw [f_X2_nextChoice_4] at h
    refine g_iload_n (pc := 4) dX2_nextChoice_4 rfl ?_
    refine g_if_lt (tgt := 74) (pc := 5) dX2_nextChoice_5 (by decide) (fun c1 => ?_) (fun c1 => ?_)
    · replace h := (if_pos c1).symm.trans h
      refine g_iconst (pc := 74) dX2_nextChoice_74 ic_0 ?_
      cases h
      exact g_zret (pc := 75) dX2_nextChoice_75 rfl (Or.inl rfl) rfl rfl (Nat.le_refl _) (Nat.le_refl _)
    · replace h := (if_neg c1).symm.trans h
      refine g_aload_n (pc := 8) dX2_nextChoice_8 rfl ?_
      refine g_gR (pc := 9) dX2_nextChoice_9 fR_RX2_33 xc_87 (v := 112) rfl ?_
      refine g_iload_n (pc := 12) dX2_nextChoice_12 rfl ?_
      obtain ⟨g2, h⟩ := x_gd h
      refine g_iaload (pc := 13) dX2_nextChoice_13 xc_112 (xin_of g2) (v := (rd u 112 v2.toNatClampNeg)) rfl ?_
      refine g_aload_n (pc := 14) dX2_nextChoice_14 rfl ?_
      refine g_gI (pc := 15) dX2_nextChoice_15 fI_RX2_30 xc_87 (v := (rd u 87 5)) rfl ?_
      refine g_iload_n (pc := 18) dX2_nextChoice_18 rfl ?_
      refine g_isub (pc := 19) dX2_nextChoice_19 rfl ?_
      refine g_iload_n (pc := 20) dX2_nextChoice_20 rfl ?_
      refine g_iadd (pc := 21) dX2_nextChoice_21 rfl ?_
      refine g_icmp_ge (tgt := 68) (pc := 22) dX2_nextChoice_22 (by decide) (fun c3 => ?_) (fun c3 => ?_)
      · replace h := (if_pos c3).symm.trans h
        refine g_inc (pc := 68) dX2_nextChoice_68 (Nat.le_of_ble_eq_true rfl) rfl ic_m1 (L' := [some (.ref 87), some (.int v1), some (.int (v2 + (-1 : Int32))), none]) rfl ?_
        refine g_goto (tgt := 4) (pc := 71) dX2_nextChoice_71 (by decide) ?_
        exact ih v1 (v2 + (-1 : Int32)) u h
      · replace h := (if_neg c3).symm.trans h
        refine g_aload_n (pc := 25) dX2_nextChoice_25 rfl ?_
        refine g_gR (pc := 26) dX2_nextChoice_26 fR_RX2_33 xc_87 (v := 112) rfl ?_
        refine g_iload_n (pc := 29) dX2_nextChoice_29 rfl ?_
        refine g_dup2 (pc := 30) dX2_nextChoice_30 rfl rfl ?_
        refine g_iaload (pc := 31) dX2_nextChoice_31 xc_112 (xin_of g2) (v := (rd u 112 v2.toNatClampNeg)) rfl ?_
        refine g_iconst (pc := 32) dX2_nextChoice_32 ic_1 ?_
        refine g_iadd (pc := 33) dX2_nextChoice_33 rfl ?_
        refine g_iastore (pc := 34) dX2_nextChoice_34 xc_112 (xin_of g2) (u' := (wr u 112 v2.toNatClampNeg ((rd u 112 v2.toNatClampNeg) + (1 : Int32)))) rfl ?_
        refine g_iload_n (pc := 35) dX2_nextChoice_35 rfl ?_
        refine g_iconst (pc := 36) dX2_nextChoice_36 ic_1 ?_
        refine g_iadd (pc := 37) dX2_nextChoice_37 rfl ?_
        refine g_istore_n (pc := 38) dX2_nextChoice_38 (Nat.le_of_ble_eq_true rfl) (L' := [some (.ref 87), some (.int v1), some (.int v2), some (.int (v2 + (1 : Int32)))]) rfl ?_
        refine g_L (L' := [some (.ref 87), some (.int v1), none, some (.int (v2 + (1 : Int32)))]) ⟨rfl, ⟨rfl, ⟨rfl, trivial⟩⟩⟩ ?_
        exact G_X2_nextChoice_39 hd xN v1 (v2 + (1 : Int32)) (wr u 112 v2.toNatClampNeg ((rd u 112 v2.toNatClampNeg) + (1 : Int32))) h
set_option maxRecDepth 100000 in
set_option maxHeartbeats 4000000 in
theorem G_X2_nextChoice_0 {sc : Nat × (Nat → Int32)} {d : Nat} (hd : 0 ≤ d) {r : Int32} {u' : xS} (v1 : Int32) (u : xS) (h : f_X2_nextChoice v1 u = some (r, u')) : xG sc mX2_nextChoice d 0 0 (xR (some (.int r)) (xL0, u') 0 0) 0 0 0 [some (.ref 87), some (.int v1), none, none] [] (xL0, u) := by
  rw [f_X2_nextChoice] at h
  refine g_iload_n (pc := 0) dX2_nextChoice_0 rfl ?_
  refine g_iconst (pc := 1) dX2_nextChoice_1 ic_1 ?_
  refine g_isub (pc := 2) dX2_nextChoice_2 rfl ?_
  refine g_istore_n (pc := 3) dX2_nextChoice_3 (Nat.le_of_ble_eq_true rfl) (L' := [some (.ref 87), some (.int v1), some (.int (v1 - (1 : Int32))), none]) rfl ?_
  exact G_X2_nextChoice_4 hd xN v1 (v1 - (1 : Int32)) u h
set_option maxRecDepth 100000 in
set_option maxHeartbeats 4000000 in
theorem M_X2_nextChoice {sc : Nat × (Nat → Int32)} {d : Nat} (hd : 0 ≤ d) {r : Int32} {u u' : xS} {a1 : Int32} (h : f_X2_nextChoice a1 u = some (r, u')) : xMt sc mX2_nextChoice d 0 0 [.ref 87, .int a1] (xL0, u) (some (.int r)) (xL0, u') :=
  xMt.of (by decide +kernel) (Nat.le_of_ble_eq_true rfl) (L := [some (.ref 87), some (.int a1), none, none]) rfl ((G_X2_nextChoice_0 hd a1 u h))
set_option maxRecDepth 100000 in
set_option maxHeartbeats 4000000 in
theorem G_X2_chooseRow_43 {sc : Nat × (Nat → Int32)} {d : Nat} (hd : 1 ≤ d) {r : Int32} {u' : xS} {k25 : Int32 → Int32 → Int32 → Int32 → xS → Option (Int32 × xS)} (hk25 : ∀ (v1 : Int32) (v2 : Int32) (v3 : Int32) (v4 : Int32) (u : xS), k25 v1 v2 v3 v4 u = some (r, u') → xG sc mX2_chooseRow d 0 0 (xR (some (.int r)) (xL0, u') 0 0) 0 0 25 [some (.ref 87), some (.int v1), some (.int v2), some (.int v3), some (.int v4), none, none] [] (xL0, u)) : ∀ (n : Nat) (v1 : Int32) (v2 : Int32) (v4 : Int32) (v5 : Int32) (v6 : Int32) (u : xS), f_X2_chooseRow_43 k25 n v1 v2 v4 v5 v6 u = some (r, u') → xG sc mX2_chooseRow d 0 0 (xR (some (.int r)) (xL0, u') 0 0) 0 0 43 [some (.ref 87), some (.int v1), some (.int v2), none, some (.int v4), some (.int v5), some (.int v6)] [] (xL0, u) := by
  intro n
  induction n with
  | zero =>
    intro v1 v2 v4 v5 v6 u h
    rw [f_X2_chooseRow_43] at h
    cases h
  | succ n ih =>
    intro v1 v2 v4 v5 v6 u h
    rw [f_X2_chooseRow_43] at h
    refine g_iload (pc := 43) dX2_chooseRow_43 rfl ?_
    refine g_iload_n (pc := 45) dX2_chooseRow_45 rfl ?_
    refine g_icmp_ge (tgt := 72) (pc := 46) dX2_chooseRow_46 (by decide) (fun c1 => ?_) (fun c1 => ?_)
    · replace h := (if_pos c1).symm.trans h
      refine g_iload (pc := 72) dX2_chooseRow_72 rfl ?_
      refine g_iload_n (pc := 74) dX2_chooseRow_74 rfl ?_
      refine g_icmp_ne (tgt := 80) (pc := 75) dX2_chooseRow_75 (by decide) (fun c2 => ?_) (fun c2 => ?_)
      · replace h := (if_neg c2).symm.trans h
        refine g_aload_n (pc := 80) dX2_chooseRow_80 rfl ?_
        refine g_iload_n (pc := 81) dX2_chooseRow_81 rfl ?_
        obtain ⟨⟨x4, u5⟩, e3, h⟩ := x_bind h
        dsimp only at h
        refine g_cV (pc := 82) dX2_chooseRow_82 cV_RX2_51 (M_X2_nextChoice (Nat.le_refl _) e3) xc_87 (as := [.int v1]) (st := []) rfl rfl (Nat.le_of_ble_eq_true rfl) (Nat.le_trans (Nat.le_of_ble_eq_true rfl) hd) rfl ?_
        refine g_istore_n (pc := 85) dX2_chooseRow_85 (Nat.le_of_ble_eq_true rfl) (L' := [some (.ref 87), some (.int v1), some (.int v2), some (.int x4), some (.int v4), some (.int v5), some (.int v6)]) rfl ?_
        refine g_inc (pc := 86) dX2_chooseRow_86 (Nat.le_of_ble_eq_true rfl) rfl ic_1 (L' := [some (.ref 87), some (.int v1), some (.int v2), some (.int x4), some (.int (v4 + (1 : Int32))), some (.int v5), some (.int v6)]) rfl ?_
        refine g_goto (tgt := 25) (pc := 89) dX2_chooseRow_89 (by decide) ?_
        refine g_L (L' := [some (.ref 87), some (.int v1), some (.int v2), some (.int x4), some (.int (v4 + (1 : Int32))), none, none]) ⟨rfl, ⟨rfl, ⟨rfl, ⟨rfl, ⟨rfl, trivial⟩⟩⟩⟩⟩ ?_
        exact hk25 v1 v2 x4 (v4 + (1 : Int32)) u5 h
      · replace h := (if_pos c2).symm.trans h
        refine g_iconst (pc := 78) dX2_chooseRow_78 ic_1 ?_
        cases h
        exact g_zret (pc := 79) dX2_chooseRow_79 rfl (Or.inr rfl) rfl rfl (Nat.le_refl _) (Nat.le_refl _)
    · replace h := (if_neg c1).symm.trans h
      refine g_iload (pc := 49) dX2_chooseRow_49 rfl ?_
      refine g_aload_n (pc := 51) dX2_chooseRow_51 rfl ?_
      refine g_gR (pc := 52) dX2_chooseRow_52 fR_RX2_27 xc_87 (v := 111) rfl ?_
      refine g_aload_n (pc := 55) dX2_chooseRow_55 rfl ?_
      refine g_gR (pc := 56) dX2_chooseRow_56 fR_RX2_33 xc_87 (v := 112) rfl ?_
      refine g_iload (pc := 59) dX2_chooseRow_59 rfl ?_
      obtain ⟨g7, h⟩ := x_gd h
      refine g_iaload (pc := 61) dX2_chooseRow_61 xc_112 (xin_of g7) (v := (rd u 112 v6.toNatClampNeg)) rfl ?_
      obtain ⟨g8, h⟩ := x_gd h
      refine g_iaload (pc := 62) dX2_chooseRow_62 xc_111 (xin_of g8) (v := (rd u 111 (rd u 112 v6.toNatClampNeg).toNatClampNeg)) rfl ?_
      refine g_ior (pc := 63) dX2_chooseRow_63 rfl ?_
      refine g_istore (pc := 64) dX2_chooseRow_64 (Nat.le_of_ble_eq_true rfl) (L' := [some (.ref 87), some (.int v1), some (.int v2), none, some (.int v4), some (.int (v5 ||| (rd u 111 (rd u 112 v6.toNatClampNeg).toNatClampNeg))), some (.int v6)]) rfl ?_
      refine g_inc (pc := 66) dX2_chooseRow_66 (Nat.le_of_ble_eq_true rfl) rfl ic_1 (L' := [some (.ref 87), some (.int v1), some (.int v2), none, some (.int v4), some (.int (v5 ||| (rd u 111 (rd u 112 v6.toNatClampNeg).toNatClampNeg))), some (.int (v6 + (1 : Int32)))]) rfl ?_
      refine g_goto (tgt := 43) (pc := 69) dX2_chooseRow_69 (by decide) ?_
      exact ih v1 v2 v4 (v5 ||| (rd u 111 (rd u 112 v6.toNatClampNeg).toNatClampNeg)) (v6 + (1 : Int32)) u h
set_option maxRecDepth 100000 in
set_option maxHeartbeats 4000000 in
theorem G_X2_chooseRow_25 {sc : Nat × (Nat → Int32)} {d : Nat} (hd : 1 ≤ d) {r : Int32} {u' : xS} : ∀ (n : Nat) (v1 : Int32) (v2 : Int32) (v3 : Int32) (v4 : Int32) (u : xS), f_X2_chooseRow_25 n v1 v2 v3 v4 u = some (r, u') → xG sc mX2_chooseRow d 0 0 (xR (some (.int r)) (xL0, u') 0 0) 0 0 25 [some (.ref 87), some (.int v1), some (.int v2), some (.int v3), some (.int v4), none, none] [] (xL0, u) := by
  intro n
  induction n with
  | zero =>
    intro v1 v2 v3 v4 u h
    rw [f_X2_chooseRow_25] at h
    cases h
  | succ n ih =>
    intro v1 v2 v3 v4 u h
    rw [f_X2_chooseRow_25] at h
    refine g_iload_n (pc := 25) dX2_chooseRow_25 rfl ?_
    refine g_if_eq (tgt := 92) (pc := 26) dX2_chooseRow_26 (by decide) (fun c1 => ?_) (fun c1 => ?_)
    · replace h := (if_pos c1).symm.trans h
      refine g_iconst (pc := 92) dX2_chooseRow_92 ic_0 ?_
      cases h
      exact g_zret (pc := 93) dX2_chooseRow_93 rfl (Or.inl rfl) rfl rfl (Nat.le_refl _) (Nat.le_refl _)
    · replace h := (if_neg c1).symm.trans h
      refine g_iload (pc := 29) dX2_chooseRow_29 rfl ?_
      refine g_sipush (pc := 31) dX2_chooseRow_31 sp_10626 ?_
      refine g_icmp_ge (tgt := 92) (pc := 34) dX2_chooseRow_34 (by decide) (fun c2 => ?_) (fun c2 => ?_)
      · replace h := (if_pos c2).symm.trans h
        refine g_iconst (pc := 92) dX2_chooseRow_92 ic_0 ?_
        cases h
        exact g_zret (pc := 93) dX2_chooseRow_93 rfl (Or.inl rfl) rfl rfl (Nat.le_refl _) (Nat.le_refl _)
      · replace h := (if_neg c2).symm.trans h
        refine g_iconst (pc := 37) dX2_chooseRow_37 ic_0 ?_
        refine g_istore (pc := 38) dX2_chooseRow_38 (Nat.le_of_ble_eq_true rfl) (L' := [some (.ref 87), some (.int v1), some (.int v2), some (.int v3), some (.int v4), some (.int (0 : Int32)), none]) rfl ?_
        refine g_iconst (pc := 40) dX2_chooseRow_40 ic_0 ?_
        refine g_istore (pc := 41) dX2_chooseRow_41 (Nat.le_of_ble_eq_true rfl) (L' := [some (.ref 87), some (.int v1), some (.int v2), some (.int v3), some (.int v4), some (.int (0 : Int32)), some (.int (0 : Int32))]) rfl ?_
        refine g_L (L' := [some (.ref 87), some (.int v1), some (.int v2), none, some (.int v4), some (.int (0 : Int32)), some (.int (0 : Int32))]) ⟨rfl, ⟨rfl, ⟨rfl, ⟨rfl, ⟨rfl, ⟨rfl, trivial⟩⟩⟩⟩⟩⟩ ?_
        exact G_X2_chooseRow_43 hd ih xN v1 v2 v4 (0 : Int32) (0 : Int32) u h
set_option maxRecDepth 100000 in
set_option maxHeartbeats 4000000 in
theorem G_X2_chooseRow_2 {sc : Nat × (Nat → Int32)} {d : Nat} (hd : 1 ≤ d) {r : Int32} {u' : xS} : ∀ (n : Nat) (v1 : Int32) (v2 : Int32) (v3 : Int32) (u : xS), f_X2_chooseRow_2 n v1 v2 v3 u = some (r, u') → xG sc mX2_chooseRow d 0 0 (xR (some (.int r)) (xL0, u') 0 0) 0 0 2 [some (.ref 87), some (.int v1), some (.int v2), some (.int v3), none, none, none] [] (xL0, u) := by
  intro n
  induction n with
  | zero =>
    intro v1 v2 v3 u h
    rw [f_X2_chooseRow_2] at h
    cases h
  | succ n ih =>
    intro v1 v2 v3 u h
    rw [f_X2_chooseRow_2] at h
    refine g_iload_n (pc := 2) dX2_chooseRow_2 rfl ?_
    refine g_iload_n (pc := 3) dX2_chooseRow_3 rfl ?_
    refine g_icmp_ge (tgt := 20) (pc := 4) dX2_chooseRow_4 (by decide) (fun c1 => ?_) (fun c1 => ?_)
    · replace h := (if_pos c1).symm.trans h
      refine g_iconst (pc := 20) dX2_chooseRow_20 ic_1 ?_
      refine g_istore_n (pc := 21) dX2_chooseRow_21 (Nat.le_of_ble_eq_true rfl) (L' := [some (.ref 87), some (.int v1), some (.int v2), some (.int (1 : Int32)), none, none, none]) rfl ?_
      refine g_iconst (pc := 22) dX2_chooseRow_22 ic_0 ?_
      refine g_istore (pc := 23) dX2_chooseRow_23 (Nat.le_of_ble_eq_true rfl) (L' := [some (.ref 87), some (.int v1), some (.int v2), some (.int (1 : Int32)), some (.int (0 : Int32)), none, none]) rfl ?_
      exact G_X2_chooseRow_25 hd xN v1 v2 (1 : Int32) (0 : Int32) u h
    · replace h := (if_neg c1).symm.trans h
      refine g_aload_n (pc := 7) dX2_chooseRow_7 rfl ?_
      refine g_gR (pc := 8) dX2_chooseRow_8 fR_RX2_33 xc_87 (v := 112) rfl ?_
      refine g_iload_n (pc := 11) dX2_chooseRow_11 rfl ?_
      refine g_iload_n (pc := 12) dX2_chooseRow_12 rfl ?_
      obtain ⟨g2, h⟩ := x_gd h
      refine g_iastore (pc := 13) dX2_chooseRow_13 xc_112 (xin_of g2) (u' := (wr u 112 v3.toNatClampNeg v3)) rfl ?_
      refine g_inc (pc := 14) dX2_chooseRow_14 (Nat.le_of_ble_eq_true rfl) rfl ic_1 (L' := [some (.ref 87), some (.int v1), some (.int v2), some (.int (v3 + (1 : Int32))), none, none, none]) rfl ?_
      refine g_goto (tgt := 2) (pc := 17) dX2_chooseRow_17 (by decide) ?_
      exact ih v1 v2 (v3 + (1 : Int32)) (wr u 112 v3.toNatClampNeg v3) h
set_option maxRecDepth 100000 in
set_option maxHeartbeats 4000000 in
theorem G_X2_chooseRow_0 {sc : Nat × (Nat → Int32)} {d : Nat} (hd : 1 ≤ d) {r : Int32} {u' : xS} (v1 : Int32) (v2 : Int32) (u : xS) (h : f_X2_chooseRow v1 v2 u = some (r, u')) : xG sc mX2_chooseRow d 0 0 (xR (some (.int r)) (xL0, u') 0 0) 0 0 0 [some (.ref 87), some (.int v1), some (.int v2), none, none, none, none] [] (xL0, u) := by
  rw [f_X2_chooseRow] at h
  refine g_iconst (pc := 0) dX2_chooseRow_0 ic_0 ?_
  refine g_istore_n (pc := 1) dX2_chooseRow_1 (Nat.le_of_ble_eq_true rfl) (L' := [some (.ref 87), some (.int v1), some (.int v2), some (.int (0 : Int32)), none, none, none]) rfl ?_
  exact G_X2_chooseRow_2 hd xN v1 v2 (0 : Int32) u h
set_option maxRecDepth 100000 in
set_option maxHeartbeats 4000000 in
theorem M_X2_chooseRow {sc : Nat × (Nat → Int32)} {d : Nat} (hd : 1 ≤ d) {r : Int32} {u u' : xS} {a1 : Int32} {a2 : Int32} (h : f_X2_chooseRow a1 a2 u = some (r, u')) : xMt sc mX2_chooseRow d 0 0 [.ref 87, .int a1, .int a2] (xL0, u) (some (.int r)) (xL0, u') :=
  xMt.of (by decide +kernel) (Nat.le_of_ble_eq_true rfl) (L := [some (.ref 87), some (.int a1), some (.int a2), none, none, none, none]) rfl ((G_X2_chooseRow_0 hd a1 a2 u h))
set_option maxRecDepth 100000 in
set_option maxHeartbeats 4000000 in
theorem G_X2_badWith_50 {sc : Nat × (Nat → Int32)} {d : Nat} (hd : 0 ≤ d) {r : Int32} {u : xS} {k4 : Int32 → Int32 → Int32 → Option Int32} (hk4 : ∀ (v1 : Int32) (v2 : Int32) (v3 : Int32), k4 v1 v2 v3 = some r → xG sc mX2_badWith d 0 0 (xR (some (.int r)) (xL0, u) 0 0) 0 0 4 [some (.ref 87), some (.int v1), some (.int v2), some (.int v3)] [] (xL0, u)) (v1 : Int32) (v2 : Int32) (v3 : Int32) (h : f_X2_badWith_50 k4 u v1 v2 v3 = some r) : xG sc mX2_badWith d 0 0 (xR (some (.int r)) (xL0, u) 0 0) 0 0 50 [some (.ref 87), some (.int v1), some (.int v2), some (.int v3)] [] (xL0, u) := by
  rw [f_X2_badWith_50] at h
  refine g_inc (pc := 50) dX2_badWith_50 (Nat.le_of_ble_eq_true rfl) rfl ic_1 (L' := [some (.ref 87), some (.int v1), some (.int v2), some (.int (v3 + (1 : Int32)))]) rfl ?_
  refine g_goto (tgt := 4) (pc := 53) dX2_badWith_53 (by decide) ?_
  exact hk4 v1 v2 (v3 + (1 : Int32)) h
set_option maxRecDepth 100000 in
set_option maxHeartbeats 4000000 in
theorem G_X2_badWith_4 {sc : Nat × (Nat → Int32)} {d : Nat} (hd : 0 ≤ d) {r : Int32} {u : xS} : ∀ (n : Nat) (v1 : Int32) (v2 : Int32) (v3 : Int32), f_X2_badWith_4 u n v1 v2 v3 = some r → xG sc mX2_badWith d 0 0 (xR (some (.int r)) (xL0, u) 0 0) 0 0 4 [some (.ref 87), some (.int v1), some (.int v2), some (.int v3)] [] (xL0, u) := by
  intro n
  induction n with
  | zero =>
    intro v1 v2 v3 h
    rw [f_X2_badWith_4] at h
    cases h
  | succ n ih =>
    intro v1 v2 v3 h
    rw [f_X2_badWith_4] at h
    refine g_iload_n (pc := 4) dX2_badWith_4 rfl ?_
    refine g_aload_n (pc := 5) dX2_badWith_5 rfl ?_
    refine g_gI (pc := 6) dX2_badWith_6 fI_RX2_20 xc_87 (v := (rd u 87 2)) rfl ?_
    refine g_icmp_ge (tgt := 56) (pc := 9) dX2_badWith_9 (by decide) (fun c1 => ?_) (fun c1 => ?_)
    · replace h := (if_pos c1).symm.trans h
      refine g_iload_n (pc := 56) dX2_badWith_56 rfl ?_
      cases h
      exact g_iret (pc := 57) dX2_badWith_57 rfl rfl rfl (Nat.le_refl _) (Nat.le_refl _)
    · replace h := (if_neg c1).symm.trans h
      refine g_aload_n (pc := 12) dX2_badWith_12 rfl ?_
      refine g_gR (pc := 13) dX2_badWith_13 fR_RX2_11 xc_87 (v := 88) rfl ?_
      refine g_iload_n (pc := 16) dX2_badWith_16 rfl ?_
      obtain ⟨g2, h⟩ := x_gd h
      refine g_aaload (pc := 17) dX2_badWith_17 xc_88 (xin_of g2) (v := (89 + v3.toNatClampNeg)) (xrf_88 _ (xin_lt g2)) ?_
      refine g_iload_n (pc := 18) dX2_badWith_18 rfl ?_
      obtain ⟨g3, h⟩ := x_gd h
      refine g_iaload (pc := 19) dX2_badWith_19 (xrow_88 _ (xin_lt g2)) (xin_of g3) (v := (rd u (89 + v3.toNatClampNeg) v1.toNatClampNeg)) rfl ?_
      refine g_if_le (tgt := 50) (pc := 20) dX2_badWith_20 (by decide) (fun c4 => ?_) (fun c4 => ?_)
      · replace h := (if_pos c4).symm.trans h
        exact G_X2_badWith_50 hd ih v1 v2 v3 h
      · replace h := (if_neg c4).symm.trans h
        refine g_aload_n (pc := 23) dX2_badWith_23 rfl ?_
        refine g_gR (pc := 24) dX2_badWith_24 fR_RX2_16 xc_87 (v := 109) rfl ?_
        refine g_iload_n (pc := 27) dX2_badWith_27 rfl ?_
        refine g_iaload (pc := 28) dX2_badWith_28 xc_109 (xin_of g2) (v := (rd u 109 v3.toNatClampNeg)) rfl ?_
        refine g_if_ne (tgt := 34) (pc := 29) dX2_badWith_29 (by decide) (fun c5 => ?_) (fun c5 => ?_)
        · replace h := (if_neg c5).symm.trans h
          refine g_aload_n (pc := 34) dX2_badWith_34 rfl ?_
          refine g_gR (pc := 35) dX2_badWith_35 fR_RX2_16 xc_87 (v := 109) rfl ?_
          refine g_iload_n (pc := 38) dX2_badWith_38 rfl ?_
          refine g_iaload (pc := 39) dX2_badWith_39 xc_109 (xin_of g2) (v := (rd u 109 v3.toNatClampNeg)) rfl ?_
          refine g_iconst (pc := 40) dX2_badWith_40 ic_1 ?_
          refine g_icmp_ne (tgt := 50) (pc := 41) dX2_badWith_41 (by decide) (fun c6 => ?_) (fun c6 => ?_)
          · replace h := (if_neg c6).symm.trans h
            exact G_X2_badWith_50 hd ih v1 v2 v3 h
          · replace h := (if_pos c6).symm.trans h
            refine g_iload_n (pc := 44) dX2_badWith_44 rfl ?_
            refine g_iconst (pc := 45) dX2_badWith_45 ic_1 ?_
            refine g_iload_n (pc := 46) dX2_badWith_46 rfl ?_
            refine g_ishl (pc := 47) dX2_badWith_47 rfl ?_
            refine g_ior (pc := 48) dX2_badWith_48 rfl ?_
            refine g_istore_n (pc := 49) dX2_badWith_49 (Nat.le_of_ble_eq_true rfl) (L' := [some (.ref 87), some (.int v1), some (.int (v2 ||| ((1 : Int32) <<< (v3 &&& 31)))), some (.int v3)]) rfl ?_
            exact G_X2_badWith_50 hd ih v1 (v2 ||| ((1 : Int32) <<< (v3 &&& 31))) v3 h
        · replace h := (if_pos c5).symm.trans h
          refine g_iconst (pc := 32) dX2_badWith_32 ic_0 ?_
          cases h
          exact g_iret (pc := 33) dX2_badWith_33 rfl rfl rfl (Nat.le_refl _) (Nat.le_refl _)
set_option maxRecDepth 100000 in
set_option maxHeartbeats 4000000 in
theorem G_X2_badWith_0 {sc : Nat × (Nat → Int32)} {d : Nat} (hd : 0 ≤ d) {r : Int32} {u : xS} (v1 : Int32) (h : f_X2_badWith u v1 = some r) : xG sc mX2_badWith d 0 0 (xR (some (.int r)) (xL0, u) 0 0) 0 0 0 [some (.ref 87), some (.int v1), none, none] [] (xL0, u) := by
  rw [f_X2_badWith] at h
  refine g_iconst (pc := 0) dX2_badWith_0 ic_0 ?_
  refine g_istore_n (pc := 1) dX2_badWith_1 (Nat.le_of_ble_eq_true rfl) (L' := [some (.ref 87), some (.int v1), some (.int (0 : Int32)), none]) rfl ?_
  refine g_iconst (pc := 2) dX2_badWith_2 ic_0 ?_
  refine g_istore_n (pc := 3) dX2_badWith_3 (Nat.le_of_ble_eq_true rfl) (L' := [some (.ref 87), some (.int v1), some (.int (0 : Int32)), some (.int (0 : Int32))]) rfl ?_
  exact G_X2_badWith_4 hd xN v1 (0 : Int32) (0 : Int32) h
set_option maxRecDepth 100000 in
set_option maxHeartbeats 4000000 in
theorem M_X2_badWith {sc : Nat × (Nat → Int32)} {d : Nat} (hd : 0 ≤ d) {r : Int32} {u : xS} {a1 : Int32} (h : f_X2_badWith u a1 = some r) : xMt sc mX2_badWith d 0 0 [.ref 87, .int a1] (xL0, u) (some (.int r)) (xL0, u) :=
  xMt.of (by decide +kernel) (Nat.le_of_ble_eq_true rfl) (L := [some (.ref 87), some (.int a1), none, none]) rfl ((G_X2_badWith_0 hd a1 h))
set_option maxRecDepth 100000 in
set_option maxHeartbeats 4000000 in
theorem G_X2_findMaybes_62 {sc : Nat × (Nat → Int32)} {d : Nat} (hd : 1 ≤ d) {u' : xS} {k7 : Int32 → xS → Option xS} (hk7 : ∀ (v1 : Int32) (u : xS), k7 v1 u = some u' → xG sc mX2_findMaybes d 0 0 (xR none (xL0, u') 0 0) 0 0 7 [some (.ref 87), some (.int v1), none] [] (xL0, u)) (v1 : Int32) (u : xS) (h : f_X2_findMaybes_62 k7 v1 u = some u') : xG sc mX2_findMaybes d 0 0 (xR none (xL0, u') 0 0) 0 0 62 [some (.ref 87), some (.int v1), none] [] (xL0, u) := by
  rw [f_X2_findMaybes_62] at h
  refine g_inc (pc := 62) dX2_findMaybes_62 (Nat.le_of_ble_eq_true rfl) rfl ic_1 (L' := [some (.ref 87), some (.int (v1 + (1 : Int32))), none]) rfl ?_
  refine g_goto (tgt := 7) (pc := 65) dX2_findMaybes_65 (by decide) ?_
  exact hk7 (v1 + (1 : Int32)) u h
set_option maxRecDepth 100000 in
set_option maxHeartbeats 4000000 in
theorem G_X2_findMaybes_7 {sc : Nat × (Nat → Int32)} {d : Nat} (hd : 1 ≤ d) {u' : xS} : ∀ (n : Nat) (v1 : Int32) (u : xS), f_X2_findMaybes_7 n v1 u = some u' → xG sc mX2_findMaybes d 0 0 (xR none (xL0, u') 0 0) 0 0 7 [some (.ref 87), some (.int v1), none] [] (xL0, u) := by
  intro n
  induction n with
  | zero =>
    intro v1 u h
    rw [f_X2_findMaybes_7] at h
    cases h
  | succ n ih =>
    intro v1 u h
    rw [f_X2_findMaybes_7] at h
    refine g_iload_n (pc := 7) dX2_findMaybes_7 rfl ?_
    refine g_bipush (pc := 8) dX2_findMaybes_8 bp_24 ?_
    refine g_icmp_ge (tgt := 68) (pc := 10) dX2_findMaybes_10 (by decide) (fun c1 => ?_) (fun c1 => ?_)
    · replace h := (if_pos c1).symm.trans h
      cases h
      exact g_ret (pc := 68) dX2_findMaybes_68 rfl rfl rfl (Nat.le_refl _) (Nat.le_refl _)
    · replace h := (if_neg c1).symm.trans h
      refine g_aload_n (pc := 13) dX2_findMaybes_13 rfl ?_
      refine g_iload_n (pc := 14) dX2_findMaybes_14 rfl ?_
      obtain ⟨x3, e2, h⟩ := x_bind h
      refine g_cV (pc := 15) dX2_findMaybes_15 cV_RX2_47 (M_X2_badWith (Nat.le_refl _) e2) xc_87 (as := [.int v1]) (st := []) rfl rfl (Nat.le_of_ble_eq_true rfl) (Nat.le_trans (Nat.le_of_ble_eq_true rfl) hd) rfl ?_
      refine g_istore_n (pc := 18) dX2_findMaybes_18 (Nat.le_of_ble_eq_true rfl) (L' := [some (.ref 87), some (.int v1), some (.int x3)]) rfl ?_
      refine g_iload_n (pc := 19) dX2_findMaybes_19 rfl ?_
      refine g_if_eq (tgt := 62) (pc := 20) dX2_findMaybes_20 (by decide) (fun c4 => ?_) (fun c4 => ?_)
      · replace h := (if_pos c4).symm.trans h
        refine g_L (L' := [some (.ref 87), some (.int v1), none]) ⟨rfl, ⟨rfl, trivial⟩⟩ ?_
        exact G_X2_findMaybes_62 hd ih v1 u h
      · replace h := (if_neg c4).symm.trans h
        refine g_aload_n (pc := 23) dX2_findMaybes_23 rfl ?_
        refine g_gI (pc := 24) dX2_findMaybes_24 fI_RX2_30 xc_87 (v := (rd u 87 5)) rfl ?_
        refine g_bipush (pc := 27) dX2_findMaybes_27 bp_24 ?_
        refine g_icmp_ge (tgt := 62) (pc := 29) dX2_findMaybes_29 (by decide) (fun c5 => ?_) (fun c5 => ?_)
        · replace h := (if_pos c5).symm.trans h
          refine g_L (L' := [some (.ref 87), some (.int v1), none]) ⟨rfl, ⟨rfl, trivial⟩⟩ ?_
          exact G_X2_findMaybes_62 hd ih v1 u h
        · replace h := (if_neg c5).symm.trans h
          refine g_aload_n (pc := 32) dX2_findMaybes_32 rfl ?_
          refine g_gR (pc := 33) dX2_findMaybes_33 fR_RX2_24 xc_87 (v := 110) rfl ?_
          refine g_aload_n (pc := 36) dX2_findMaybes_36 rfl ?_
          refine g_gI (pc := 37) dX2_findMaybes_37 fI_RX2_30 xc_87 (v := (rd u 87 5)) rfl ?_
          refine g_iload_n (pc := 40) dX2_findMaybes_40 rfl ?_
          obtain ⟨g6, h⟩ := x_gd h
          refine g_iastore (pc := 41) dX2_findMaybes_41 xc_110 (xin_of g6) (u' := (wr u 110 (rd u 87 5).toNatClampNeg v1)) rfl ?_
          refine g_aload_n (pc := 42) dX2_findMaybes_42 rfl ?_
          refine g_gR (pc := 43) dX2_findMaybes_43 fR_RX2_27 xc_87 (v := 111) rfl ?_
          refine g_aload_n (pc := 46) dX2_findMaybes_46 rfl ?_
          refine g_gI (pc := 47) dX2_findMaybes_47 fI_RX2_30 xc_87 (v := (rd u 87 5)) rfl ?_
          refine g_iload_n (pc := 50) dX2_findMaybes_50 rfl ?_
          refine g_iastore (pc := 51) dX2_findMaybes_51 xc_111 (xin_of g6) (u' := (wr (wr u 110 (rd u 87 5).toNatClampNeg v1) 111 (rd u 87 5).toNatClampNeg x3)) rfl ?_
          refine g_aload_n (pc := 52) dX2_findMaybes_52 rfl ?_
          refine g_dup (pc := 53) dX2_findMaybes_53 rfl ?_
          refine g_gI (pc := 54) dX2_findMaybes_54 fI_RX2_30 xc_87 (v := (rd u 87 5)) rfl ?_
          refine g_iconst (pc := 57) dX2_findMaybes_57 ic_1 ?_
          refine g_iadd (pc := 58) dX2_findMaybes_58 rfl ?_
          refine g_pI (pc := 59) dX2_findMaybes_59 pI_RX2_30 xc_87 (u' := (wr (wr (wr u 110 (rd u 87 5).toNatClampNeg v1) 111 (rd u 87 5).toNatClampNeg x3) 87 5 ((rd u 87 5) + (1 : Int32)))) rfl ?_
          refine g_L (L' := [some (.ref 87), some (.int v1), none]) ⟨rfl, ⟨rfl, trivial⟩⟩ ?_
          exact G_X2_findMaybes_62 hd ih v1 (wr (wr (wr u 110 (rd u 87 5).toNatClampNeg v1) 111 (rd u 87 5).toNatClampNeg x3) 87 5 ((rd u 87 5) + (1 : Int32))) h
set_option maxRecDepth 100000 in
set_option maxHeartbeats 4000000 in
theorem G_X2_findMaybes_0 {sc : Nat × (Nat → Int32)} {d : Nat} (hd : 1 ≤ d) {u' : xS} (u : xS) (h : f_X2_findMaybes u = some u') : xG sc mX2_findMaybes d 0 0 (xR none (xL0, u') 0 0) 0 0 0 [some (.ref 87), none, none] [] (xL0, u) := by
  rw [f_X2_findMaybes] at h
  refine g_aload_n (pc := 0) dX2_findMaybes_0 rfl ?_
  refine g_iconst (pc := 1) dX2_findMaybes_1 ic_0 ?_
  refine g_pI (pc := 2) dX2_findMaybes_2 pI_RX2_30 xc_87 (u' := (wr u 87 5 (0 : Int32))) rfl ?_
  refine g_iconst (pc := 5) dX2_findMaybes_5 ic_0 ?_
  refine g_istore_n (pc := 6) dX2_findMaybes_6 (Nat.le_of_ble_eq_true rfl) (L' := [some (.ref 87), some (.int (0 : Int32)), none]) rfl ?_
  exact G_X2_findMaybes_7 hd xN (0 : Int32) (wr u 87 5 (0 : Int32)) h
set_option maxRecDepth 100000 in
set_option maxHeartbeats 4000000 in
theorem M_X2_findMaybes {sc : Nat × (Nat → Int32)} {d : Nat} (hd : 1 ≤ d) {u u' : xS} (h : f_X2_findMaybes u = some u') : xMt sc mX2_findMaybes d 0 0 [.ref 87] (xL0, u) none (xL0, u') :=
  xMt.of (by decide +kernel) (Nat.le_of_ble_eq_true rfl) (L := [some (.ref 87), none, none]) rfl ((G_X2_findMaybes_0 hd u h))
set_option maxRecDepth 100000 in
set_option maxHeartbeats 4000000 in
theorem G_X2_findSuspects_46 {sc : Nat × (Nat → Int32)} {d : Nat} (hd : 2 ≤ d) {r : Int32} {u' : xS} : ∀ (n : Nat) (v1 : Int32) (v2 : Int32) (u : xS), f_X2_findSuspects_46 n v1 v2 u = some (r, u') → xG sc mX2_findSuspects d 0 0 (xR (some (.int r)) (xL0, u') 0 0) 0 0 46 [some (.ref 87), some (.int v1), some (.int v2)] [] (xL0, u) := by
  intro n
  induction n with
  | zero =>
    intro v1 v2 u h
    rw [f_X2_findSuspects_46] at h
    cases h
  | succ n ih =>
    intro v1 v2 u h
    rw [f_X2_findSuspects_46] at h
    refine g_iload_n (pc := 46) dX2_findSuspects_46 rfl ?_
    refine g_iconst (pc := 47) dX2_findSuspects_47 ic_4 ?_
    refine g_icmp_gt (tgt := 76) (pc := 48) dX2_findSuspects_48 (by decide) (fun c1 => ?_) (fun c1 => ?_)
    · replace h := (if_pos c1).symm.trans h
      refine g_bipush (pc := 76) dX2_findSuspects_76 bp_m2 ?_
      cases h
      exact g_iret (pc := 78) dX2_findSuspects_78 rfl rfl rfl (Nat.le_refl _) (Nat.le_refl _)
    · replace h := (if_neg c1).symm.trans h
      refine g_iload_n (pc := 51) dX2_findSuspects_51 rfl ?_
      refine g_aload_n (pc := 52) dX2_findSuspects_52 rfl ?_
      refine g_gI (pc := 53) dX2_findSuspects_53 fI_RX2_30 xc_87 (v := (rd u 87 5)) rfl ?_
      refine g_icmp_gt (tgt := 76) (pc := 56) dX2_findSuspects_56 (by decide) (fun c2 => ?_) (fun c2 => ?_)
      · replace h := (if_pos c2).symm.trans h
        refine g_bipush (pc := 76) dX2_findSuspects_76 bp_m2 ?_
        cases h
        exact g_iret (pc := 78) dX2_findSuspects_78 rfl rfl rfl (Nat.le_refl _) (Nat.le_refl _)
      · replace h := (if_neg c2).symm.trans h
        refine g_aload_n (pc := 59) dX2_findSuspects_59 rfl ?_
        refine g_iload_n (pc := 60) dX2_findSuspects_60 rfl ?_
        refine g_iload_n (pc := 61) dX2_findSuspects_61 rfl ?_
        obtain ⟨⟨x4, u5⟩, e3, h⟩ := x_bind h
        dsimp only at h
        refine g_cV (pc := 62) dX2_findSuspects_62 cV_RX2_43 (M_X2_chooseRow (Nat.le_refl _) e3) xc_87 (as := [.int v2, .int v1]) (st := []) rfl rfl (Nat.le_of_ble_eq_true rfl) (Nat.le_trans (Nat.le_of_ble_eq_true rfl) hd) rfl ?_
        refine g_if_eq (tgt := 70) (pc := 65) dX2_findSuspects_65 (by decide) (fun c6 => ?_) (fun c6 => ?_)
        · replace h := (if_pos c6).symm.trans h
          refine g_inc (pc := 70) dX2_findSuspects_70 (Nat.le_of_ble_eq_true rfl) rfl ic_1 (L' := [some (.ref 87), some (.int v1), some (.int (v2 + (1 : Int32)))]) rfl ?_
          refine g_goto (tgt := 46) (pc := 73) dX2_findSuspects_73 (by decide) ?_
          exact ih v1 (v2 + (1 : Int32)) u5 h
        · replace h := (if_neg c6).symm.trans h
          refine g_iload_n (pc := 68) dX2_findSuspects_68 rfl ?_
          cases h
          exact g_iret (pc := 69) dX2_findSuspects_69 rfl rfl rfl (Nat.le_refl _) (Nat.le_refl _)
set_option maxRecDepth 100000 in
set_option maxHeartbeats 4000000 in
theorem G_X2_findSuspects_28 {sc : Nat × (Nat → Int32)} {d : Nat} (hd : 2 ≤ d) {r : Int32} {u' : xS} {k4 : Int32 → Int32 → xS → Option (Int32 × xS)} (hk4 : ∀ (v1 : Int32) (v2 : Int32) (u : xS), k4 v1 v2 u = some (r, u') → xG sc mX2_findSuspects d 0 0 (xR (some (.int r)) (xL0, u') 0 0) 0 0 4 [some (.ref 87), some (.int v1), some (.int v2)] [] (xL0, u)) (v1 : Int32) (v2 : Int32) (u : xS) (h : f_X2_findSuspects_28 k4 v1 v2 u = some (r, u')) : xG sc mX2_findSuspects d 0 0 (xR (some (.int r)) (xL0, u') 0 0) 0 0 28 [some (.ref 87), some (.int v1), some (.int v2)] [] (xL0, u) := by
  rw [f_X2_findSuspects_28] at h
  refine g_inc (pc := 28) dX2_findSuspects_28 (Nat.le_of_ble_eq_true rfl) rfl ic_1 (L' := [some (.ref 87), some (.int v1), some (.int (v2 + (1 : Int32)))]) rfl ?_
  refine g_goto (tgt := 4) (pc := 31) dX2_findSuspects_31 (by decide) ?_
  exact hk4 v1 (v2 + (1 : Int32)) u h
set_option maxRecDepth 100000 in
set_option maxHeartbeats 4000000 in
theorem G_X2_findSuspects_4 {sc : Nat × (Nat → Int32)} {d : Nat} (hd : 2 ≤ d) {r : Int32} {u' : xS} : ∀ (n : Nat) (v1 : Int32) (v2 : Int32) (u : xS), f_X2_findSuspects_4 n v1 v2 u = some (r, u') → xG sc mX2_findSuspects d 0 0 (xR (some (.int r)) (xL0, u') 0 0) 0 0 4 [some (.ref 87), some (.int v1), some (.int v2)] [] (xL0, u) := by
  intro n
  induction n with
  | zero =>
    intro v1 v2 u h
    rw [f_X2_findSuspects_4] at h
    cases h
  | succ n ih =>
    intro v1 v2 u h
    rw [f_X2_findSuspects_4] at h
    refine g_iload_n (pc := 4) dX2_findSuspects_4 rfl ?_
    refine g_aload_n (pc := 5) dX2_findSuspects_5 rfl ?_
    refine g_gI (pc := 6) dX2_findSuspects_6 fI_RX2_20 xc_87 (v := (rd u 87 2)) rfl ?_
    refine g_icmp_ge (tgt := 34) (pc := 9) dX2_findSuspects_9 (by decide) (fun c1 => ?_) (fun c1 => ?_)
    · replace h := (if_pos c1).symm.trans h
      refine g_iload_n (pc := 34) dX2_findSuspects_34 rfl ?_
      refine g_if_ne (tgt := 40) (pc := 35) dX2_findSuspects_35 (by decide) (fun c2 => ?_) (fun c2 => ?_)
      · replace h := (if_neg c2).symm.trans h
        refine g_aload_n (pc := 40) dX2_findSuspects_40 rfl ?_
        obtain ⟨u4, e3, h⟩ := x_bind h
        refine g_cV (pc := 41) dX2_findSuspects_41 cV_RX2_40 (M_X2_findMaybes (Nat.le_refl _) e3) xc_87 (as := []) (st := []) rfl rfl (Nat.le_of_ble_eq_true rfl) (Nat.le_trans (Nat.le_of_ble_eq_true rfl) hd) rfl ?_
        refine g_iconst (pc := 44) dX2_findSuspects_44 ic_1 ?_
        refine g_istore_n (pc := 45) dX2_findSuspects_45 (Nat.le_of_ble_eq_true rfl) (L' := [some (.ref 87), some (.int v1), some (.int (1 : Int32))]) rfl ?_
        exact G_X2_findSuspects_46 hd xN v1 (1 : Int32) u4 h
      · replace h := (if_pos c2).symm.trans h
        refine g_iconst (pc := 38) dX2_findSuspects_38 ic_0 ?_
        cases h
        exact g_iret (pc := 39) dX2_findSuspects_39 rfl rfl rfl (Nat.le_refl _) (Nat.le_refl _)
    · replace h := (if_neg c1).symm.trans h
      refine g_aload_n (pc := 12) dX2_findSuspects_12 rfl ?_
      refine g_gR (pc := 13) dX2_findSuspects_13 fR_RX2_16 xc_87 (v := 109) rfl ?_
      refine g_iload_n (pc := 16) dX2_findSuspects_16 rfl ?_
      obtain ⟨g5, h⟩ := x_gd h
      refine g_iaload (pc := 17) dX2_findSuspects_17 xc_109 (xin_of g5) (v := (rd u 109 v2.toNatClampNeg)) rfl ?_
      refine g_iconst (pc := 18) dX2_findSuspects_18 ic_1 ?_
      refine g_icmp_ne (tgt := 28) (pc := 19) dX2_findSuspects_19 (by decide) (fun c6 => ?_) (fun c6 => ?_)
      · replace h := (if_neg c6).symm.trans h
        exact G_X2_findSuspects_28 hd ih v1 v2 u h
      · replace h := (if_pos c6).symm.trans h
        refine g_iload_n (pc := 22) dX2_findSuspects_22 rfl ?_
        refine g_iconst (pc := 23) dX2_findSuspects_23 ic_1 ?_
        refine g_iload_n (pc := 24) dX2_findSuspects_24 rfl ?_
        refine g_ishl (pc := 25) dX2_findSuspects_25 rfl ?_
        refine g_ior (pc := 26) dX2_findSuspects_26 rfl ?_
        refine g_istore_n (pc := 27) dX2_findSuspects_27 (Nat.le_of_ble_eq_true rfl) (L' := [some (.ref 87), some (.int (v1 ||| ((1 : Int32) <<< (v2 &&& 31)))), some (.int v2)]) rfl ?_
        exact G_X2_findSuspects_28 hd ih (v1 ||| ((1 : Int32) <<< (v2 &&& 31))) v2 u h
set_option maxRecDepth 100000 in
set_option maxHeartbeats 4000000 in
theorem G_X2_findSuspects_0 {sc : Nat × (Nat → Int32)} {d : Nat} (hd : 2 ≤ d) {r : Int32} {u' : xS} (u : xS) (h : f_X2_findSuspects u = some (r, u')) : xG sc mX2_findSuspects d 0 0 (xR (some (.int r)) (xL0, u') 0 0) 0 0 0 [some (.ref 87), none, none] [] (xL0, u) := by
  rw [f_X2_findSuspects] at h
  refine g_iconst (pc := 0) dX2_findSuspects_0 ic_0 ?_
  refine g_istore_n (pc := 1) dX2_findSuspects_1 (Nat.le_of_ble_eq_true rfl) (L' := [some (.ref 87), some (.int (0 : Int32)), none]) rfl ?_
  refine g_iconst (pc := 2) dX2_findSuspects_2 ic_0 ?_
  refine g_istore_n (pc := 3) dX2_findSuspects_3 (Nat.le_of_ble_eq_true rfl) (L' := [some (.ref 87), some (.int (0 : Int32)), some (.int (0 : Int32))]) rfl ?_
  exact G_X2_findSuspects_4 hd xN (0 : Int32) (0 : Int32) u h
set_option maxRecDepth 100000 in
set_option maxHeartbeats 4000000 in
theorem M_X2_findSuspects {sc : Nat × (Nat → Int32)} {d : Nat} (hd : 2 ≤ d) {r : Int32} {u u' : xS} (h : f_X2_findSuspects u = some (r, u')) : xMt sc mX2_findSuspects d 0 0 [.ref 87] (xL0, u) (some (.int r)) (xL0, u') :=
  xMt.of (by decide +kernel) (Nat.le_of_ble_eq_true rfl) (L := [some (.ref 87), none, none]) rfl ((G_X2_findSuspects_0 hd u h))
set_option maxRecDepth 100000 in
set_option maxHeartbeats 4000000 in
theorem G_X11_suspects_19 {sc : Nat × (Nat → Int32)} {d : Nat} (hd : 3 ≤ d) {r : Int32} {u' : xS} : ∀ (n : Nat) (v1 : Int32) (v2 : Int32) (u : xS), f_X11_suspects_19 n v1 v2 u = some (r, u') → xG sc mX11_suspects d 0 0 (xR (some (.int r)) (xL0, u') 0 0) 0 0 19 [some (.ref 0), some (.int v1), some (.int v2)] [] (xL0, u) := by
  intro n
  induction n with
  | zero =>
    intro v1 v2 u h
    rw [f_X11_suspects_19] at h
    cases h
  | succ n ih =>
    intro v1 v2 u h
    rw [f_X11_suspects_19] at h
    refine g_iload_n (pc := 19) dX11_suspects_19 rfl ?_
    refine g_iload_n (pc := 20) dX11_suspects_20 rfl ?_
    refine g_icmp_ge (tgt := 42) (pc := 21) dX11_suspects_21 (by decide) (fun c1 => ?_) (fun c1 => ?_)
    · replace h := (if_pos c1).symm.trans h
      refine g_iload_n (pc := 42) dX11_suspects_42 rfl ?_
      cases h
      exact g_iret (pc := 43) dX11_suspects_43 rfl rfl rfl (Nat.le_refl _) (Nat.le_refl _)
    · replace h := (if_neg c1).symm.trans h
      refine g_aload_n (pc := 24) dX11_suspects_24 rfl ?_
      refine g_aload_n (pc := 25) dX11_suspects_25 rfl ?_
      refine g_gR (pc := 26) dX11_suspects_26 fR_RX11_68 xc_0 (v := 87) rfl ?_
      refine g_iload_n (pc := 29) dX11_suspects_29 rfl ?_
      obtain ⟨x3, e2, h⟩ := x_bind h
      refine g_cV (pc := 30) dX11_suspects_30 cV_RX11_368 (M_X2_suspect (Nat.le_refl _) e2) xc_87 (as := [.int v2]) (st := [.ref 0]) rfl rfl (Nat.le_of_ble_eq_true rfl) (Nat.le_trans (Nat.le_of_ble_eq_true rfl) hd) rfl ?_
      obtain ⟨u5, e4, h⟩ := x_bind h
      refine g_cV (pc := 33) dX11_suspects_33 cV_RX11_359 (M_X11_tell (Nat.le_refl _) e4) xc_0 (as := [.int x3]) (st := []) rfl rfl (Nat.le_of_ble_eq_true rfl) (Nat.le_trans (Nat.le_of_ble_eq_true rfl) hd) rfl ?_
      refine g_inc (pc := 36) dX11_suspects_36 (Nat.le_of_ble_eq_true rfl) rfl ic_1 (L' := [some (.ref 0), some (.int v1), some (.int (v2 + (1 : Int32)))]) rfl ?_
      refine g_goto (tgt := 19) (pc := 39) dX11_suspects_39 (by decide) ?_
      exact ih v1 (v2 + (1 : Int32)) u5 h
set_option maxRecDepth 100000 in
set_option maxHeartbeats 4000000 in
theorem G_X11_suspects_0 {sc : Nat × (Nat → Int32)} {d : Nat} (hd : 3 ≤ d) {r : Int32} {u' : xS} (u : xS) (h : f_X11_suspects u = some (r, u')) : xG sc mX11_suspects d 0 0 (xR (some (.int r)) (xL0, u') 0 0) 0 0 0 [some (.ref 0), none, none] [] (xL0, u) := by
  rw [f_X11_suspects] at h
  refine g_aload_n (pc := 0) dX11_suspects_0 rfl ?_
  refine g_gR (pc := 1) dX11_suspects_1 fR_RX11_68 xc_0 (v := 87) rfl ?_
  obtain ⟨⟨x2, u3⟩, e1, h⟩ := x_bind h
  dsimp only at h
  refine g_cV (pc := 4) dX11_suspects_4 cV_RX11_365 (M_X2_findSuspects (Nat.le_refl _) e1) xc_87 (as := []) (st := []) rfl rfl (Nat.le_of_ble_eq_true rfl) (Nat.le_trans (Nat.le_of_ble_eq_true rfl) hd) rfl ?_
  refine g_istore_n (pc := 7) dX11_suspects_7 (Nat.le_of_ble_eq_true rfl) (L' := [some (.ref 0), some (.int x2), none]) rfl ?_
  refine g_iload_n (pc := 8) dX11_suspects_8 rfl ?_
  refine g_if_lt (tgt := 42) (pc := 9) dX11_suspects_9 (by decide) (fun c4 => ?_) (fun c4 => ?_)
  · replace h := (if_pos c4).symm.trans h
    refine g_iload_n (pc := 42) dX11_suspects_42 rfl ?_
    cases h
    exact g_iret (pc := 43) dX11_suspects_43 rfl rfl rfl (Nat.le_refl _) (Nat.le_refl _)
  · replace h := (if_neg c4).symm.trans h
    refine g_aload_n (pc := 12) dX11_suspects_12 rfl ?_
    refine g_iconst (pc := 13) dX11_suspects_13 ic_0 ?_
    refine g_pI (pc := 14) dX11_suspects_14 pI_RX11_90 xc_0 (u' := (wr u3 0 12 (0 : Int32))) rfl ?_
    refine g_iconst (pc := 17) dX11_suspects_17 ic_0 ?_
    refine g_istore_n (pc := 18) dX11_suspects_18 (Nat.le_of_ble_eq_true rfl) (L' := [some (.ref 0), some (.int x2), some (.int (0 : Int32))]) rfl ?_
    exact G_X11_suspects_19 hd xN x2 (0 : Int32) (wr u3 0 12 (0 : Int32)) h
set_option maxRecDepth 100000 in
set_option maxHeartbeats 4000000 in
theorem M_X11_suspects {sc : Nat × (Nat → Int32)} {d : Nat} (hd : 3 ≤ d) {r : Int32} {u u' : xS} (h : f_X11_suspects u = some (r, u')) : xMt sc mX11_suspects d 0 0 [.ref 0] (xL0, u) (some (.int r)) (xL0, u') :=
  xMt.of (by decide +kernel) (Nat.le_of_ble_eq_true rfl) (L := [some (.ref 0), none, none]) rfl ((G_X11_suspects_0 hd u h))
set_option maxRecDepth 100000 in
set_option maxHeartbeats 4000000 in
theorem G_X11_takes_0 {sc : Nat × (Nat → Int32)} {d : Nat} (hd : 2 ≤ d) {r : Int32} {u' : xS} (v1 : Int32) (v2 : Int32) (u : xS) (h : f_X11_takes v1 v2 u = some (r, u')) : xG sc mX11_takes d 0 0 (xR (some (.int r)) (xL0, u') 0 0) 0 0 0 [some (.ref 0), some (.int v1), some (.int v2), none] [] (xL0, u) := by
  rw [f_X11_takes] at h
  refine g_iload_n (pc := 0) dX11_takes_0 rfl ?_
  refine g_cS (pc := 1) dX11_takes_1 cS_RX11_382 (M_X11_isLand (Nat.le_refl _) rfl) (as := [.int v1]) (st := []) rfl rfl (Nat.le_of_ble_eq_true rfl) (Nat.le_trans (Nat.le_of_ble_eq_true rfl) hd) rfl ?_
  refine g_if_eq (tgt := 17) (pc := 4) dX11_takes_4 (by decide) (fun c1 => ?_) (fun c1 => ?_)
  · replace h := (if_pos c1).symm.trans h
    refine g_iconst (pc := 17) dX11_takes_17 ic_m1 ?_
    cases h
    exact g_iret (pc := 18) dX11_takes_18 rfl rfl rfl (Nat.le_refl _) (Nat.le_refl _)
  · replace h := (if_neg c1).symm.trans h
    refine g_iload_n (pc := 7) dX11_takes_7 rfl ?_
    refine g_iconst (pc := 8) dX11_takes_8 ic_0 ?_
    refine g_bipush (pc := 9) dX11_takes_9 bp_8 ?_
    refine g_cS (pc := 11) dX11_takes_11 cS_RX11_94 (M_X11_lies (Nat.le_refl _) rfl) (as := [.int v2, .int (0 : Int32), .int (8 : Int32)]) (st := []) rfl rfl (Nat.le_of_ble_eq_true rfl) (Nat.le_trans (Nat.le_of_ble_eq_true rfl) hd) rfl ?_
    refine g_if_ne (tgt := 19) (pc := 14) dX11_takes_14 (by decide) (fun c2 => ?_) (fun c2 => ?_)
    · replace h := (if_neg c2).symm.trans h
      refine g_aload_n (pc := 19) dX11_takes_19 rfl ?_
      refine g_gR (pc := 20) dX11_takes_20 fR_RX11_82 xc_0 (v := 121) rfl ?_
      refine g_gR (pc := 23) dX11_takes_23 fR_RX11_388 xc_121 (v := 127) rfl ?_
      refine g_iload_n (pc := 26) dX11_takes_26 rfl ?_
      obtain ⟨g3, h⟩ := x_gd h
      refine g_iaload (pc := 27) dX11_takes_27 xc_127 (xin_of g3) (v := (rd u 127 v1.toNatClampNeg)) rfl ?_
      refine g_istore_n (pc := 28) dX11_takes_28 (Nat.le_of_ble_eq_true rfl) (L' := [some (.ref 0), some (.int v1), some (.int v2), some (.int (rd u 127 v1.toNatClampNeg))]) rfl ?_
      refine g_aload_n (pc := 29) dX11_takes_29 rfl ?_
      refine g_gR (pc := 30) dX11_takes_30 fR_RX11_82 xc_0 (v := 121) rfl ?_
      refine g_gR (pc := 33) dX11_takes_33 fR_RX11_388 xc_121 (v := 127) rfl ?_
      refine g_iload_n (pc := 36) dX11_takes_36 rfl ?_
      refine g_iload_n (pc := 37) dX11_takes_37 rfl ?_
      refine g_iastore (pc := 38) dX11_takes_38 xc_127 (xin_of g3) (u' := (wr u 127 v1.toNatClampNeg v2)) rfl ?_
      refine g_iload_n (pc := 39) dX11_takes_39 rfl ?_
      cases h
      exact g_iret (pc := 40) dX11_takes_40 rfl rfl rfl (Nat.le_refl _) (Nat.le_refl _)
    · replace h := (if_pos c2).symm.trans h
      refine g_iconst (pc := 17) dX11_takes_17 ic_m1 ?_
      cases h
      exact g_iret (pc := 18) dX11_takes_18 rfl rfl rfl (Nat.le_refl _) (Nat.le_refl _)
set_option maxRecDepth 100000 in
set_option maxHeartbeats 4000000 in
theorem M_X11_takes {sc : Nat × (Nat → Int32)} {d : Nat} (hd : 2 ≤ d) {r : Int32} {u u' : xS} {a1 : Int32} {a2 : Int32} (h : f_X11_takes a1 a2 u = some (r, u')) : xMt sc mX11_takes d 0 0 [.ref 0, .int a1, .int a2] (xL0, u) (some (.int r)) (xL0, u') :=
  xMt.of (by decide +kernel) (Nat.le_of_ble_eq_true rfl) (L := [some (.ref 0), some (.int a1), some (.int a2), none]) rfl ((G_X11_takes_0 hd a1 a2 u h))
set_option maxRecDepth 100000 in
set_option maxHeartbeats 4000000 in
theorem G_X7_level_0 {sc : Nat × (Nat → Int32)} {d : Nat} (hd : 0 ≤ d) {r : Int32} {u : xS} (v0 : Int32) (h : f_X7_level v0 = r) : xG sc mX7_level d 0 0 (xR (some (.int r)) (xL0, u) 0 0) 0 0 0 [some (.int v0)] [] (xL0, u) := by
  rw [f_X7_level] at h
  refine g_iload_n (pc := 0) dX7_level_0 rfl ?_
  by_cases c1 : v0 = (33 : Int32)
  · replace h := (if_pos c1).symm.trans h
    refine g_lookup (tgt := 116) (off := 115) (pc := 1) dX7_level_1 (by decide) (by rw [c1]; decide) (by decide) ?_
    refine g_iconst (pc := 116) dX7_level_116 ic_5 ?_
    subst h
    exact g_iret (pc := 117) dX7_level_117 rfl rfl rfl (Nat.le_refl _) (Nat.le_refl _)
  replace h := (if_neg c1).symm.trans h
  by_cases c2 : v0 = (37 : Int32)
  · replace h := (if_pos c2).symm.trans h
    refine g_lookup (tgt := 114) (off := 113) (pc := 1) dX7_level_1 (by decide) (by rw [c2]; decide) (by decide) ?_
    refine g_iconst (pc := 114) dX7_level_114 ic_4 ?_
    subst h
    exact g_iret (pc := 115) dX7_level_115 rfl rfl rfl (Nat.le_refl _) (Nat.le_refl _)
  replace h := (if_neg c2).symm.trans h
  by_cases c3 : v0 = (38 : Int32)
  · replace h := (if_pos c3).symm.trans h
    refine g_lookup (tgt := 108) (off := 107) (pc := 1) dX7_level_1 (by decide) (by rw [c3]; decide) (by decide) ?_
    refine g_iconst (pc := 108) dX7_level_108 ic_1 ?_
    subst h
    exact g_iret (pc := 109) dX7_level_109 rfl rfl rfl (Nat.le_refl _) (Nat.le_refl _)
  replace h := (if_neg c3).symm.trans h
  by_cases c4 : v0 = (42 : Int32)
  · replace h := (if_pos c4).symm.trans h
    refine g_lookup (tgt := 114) (off := 113) (pc := 1) dX7_level_1 (by decide) (by rw [c4]; decide) (by decide) ?_
    refine g_iconst (pc := 114) dX7_level_114 ic_4 ?_
    subst h
    exact g_iret (pc := 115) dX7_level_115 rfl rfl rfl (Nat.le_refl _) (Nat.le_refl _)
  replace h := (if_neg c4).symm.trans h
  by_cases c5 : v0 = (43 : Int32)
  · replace h := (if_pos c5).symm.trans h
    refine g_lookup (tgt := 112) (off := 111) (pc := 1) dX7_level_1 (by decide) (by rw [c5]; decide) (by decide) ?_
    refine g_iconst (pc := 112) dX7_level_112 ic_3 ?_
    subst h
    exact g_iret (pc := 113) dX7_level_113 rfl rfl rfl (Nat.le_refl _) (Nat.le_refl _)
  replace h := (if_neg c5).symm.trans h
  by_cases c6 : v0 = (45 : Int32)
  · replace h := (if_pos c6).symm.trans h
    refine g_lookup (tgt := 112) (off := 111) (pc := 1) dX7_level_1 (by decide) (by rw [c6]; decide) (by decide) ?_
    refine g_iconst (pc := 112) dX7_level_112 ic_3 ?_
    subst h
    exact g_iret (pc := 113) dX7_level_113 rfl rfl rfl (Nat.le_refl _) (Nat.le_refl _)
  replace h := (if_neg c6).symm.trans h
  by_cases c7 : v0 = (47 : Int32)
  · replace h := (if_pos c7).symm.trans h
    refine g_lookup (tgt := 114) (off := 113) (pc := 1) dX7_level_1 (by decide) (by rw [c7]; decide) (by decide) ?_
    refine g_iconst (pc := 114) dX7_level_114 ic_4 ?_
    subst h
    exact g_iret (pc := 115) dX7_level_115 rfl rfl rfl (Nat.le_refl _) (Nat.le_refl _)
  replace h := (if_neg c7).symm.trans h
  by_cases c8 : v0 = (60 : Int32)
  · replace h := (if_pos c8).symm.trans h
    refine g_lookup (tgt := 110) (off := 109) (pc := 1) dX7_level_1 (by decide) (by rw [c8]; decide) (by decide) ?_
    refine g_iconst (pc := 110) dX7_level_110 ic_2 ?_
    subst h
    exact g_iret (pc := 111) dX7_level_111 rfl rfl rfl (Nat.le_refl _) (Nat.le_refl _)
  replace h := (if_neg c8).symm.trans h
  by_cases c9 : v0 = (61 : Int32)
  · replace h := (if_pos c9).symm.trans h
    refine g_lookup (tgt := 110) (off := 109) (pc := 1) dX7_level_1 (by decide) (by rw [c9]; decide) (by decide) ?_
    refine g_iconst (pc := 110) dX7_level_110 ic_2 ?_
    subst h
    exact g_iret (pc := 111) dX7_level_111 rfl rfl rfl (Nat.le_refl _) (Nat.le_refl _)
  replace h := (if_neg c9).symm.trans h
  by_cases c10 : v0 = (62 : Int32)
  · replace h := (if_pos c10).symm.trans h
    refine g_lookup (tgt := 110) (off := 109) (pc := 1) dX7_level_1 (by decide) (by rw [c10]; decide) (by decide) ?_
    refine g_iconst (pc := 110) dX7_level_110 ic_2 ?_
    subst h
    exact g_iret (pc := 111) dX7_level_111 rfl rfl rfl (Nat.le_refl _) (Nat.le_refl _)
  replace h := (if_neg c10).symm.trans h
  by_cases c11 : v0 = (124 : Int32)
  · replace h := (if_pos c11).symm.trans h
    refine g_lookup (tgt := 108) (off := 107) (pc := 1) dX7_level_1 (by decide) (by rw [c11]; decide) (by decide) ?_
    refine g_iconst (pc := 108) dX7_level_108 ic_1 ?_
    subst h
    exact g_iret (pc := 109) dX7_level_109 rfl rfl rfl (Nat.le_refl _) (Nat.le_refl _)
  replace h := (if_neg c11).symm.trans h
  by_cases c12 : v0 = (126 : Int32)
  · replace h := (if_pos c12).symm.trans h
    refine g_lookup (tgt := 116) (off := 115) (pc := 1) dX7_level_1 (by decide) (by rw [c12]; decide) (by decide) ?_
    refine g_iconst (pc := 116) dX7_level_116 ic_5 ?_
    subst h
    exact g_iret (pc := 117) dX7_level_117 rfl rfl rfl (Nat.le_refl _) (Nat.le_refl _)
  replace h := (if_neg c12).symm.trans h
  have c1i := i32_ne c1 (m := 33) (by decide)
  have c2i := i32_ne c2 (m := 37) (by decide)
  have c3i := i32_ne c3 (m := 38) (by decide)
  have c4i := i32_ne c4 (m := 42) (by decide)
  have c5i := i32_ne c5 (m := 43) (by decide)
  have c6i := i32_ne c6 (m := 45) (by decide)
  have c7i := i32_ne c7 (m := 47) (by decide)
  have c8i := i32_ne c8 (m := 60) (by decide)
  have c9i := i32_ne c9 (m := 61) (by decide)
  have c10i := i32_ne c10 (m := 62) (by decide)
  have c11i := i32_ne c11 (m := 124) (by decide)
  have c12i := i32_ne c12 (m := 126) (by decide)
  refine g_lookup (tgt := 118) (off := 117) (pc := 1) dX7_level_1 (by decide) (x_lsw (by simp [c1i, Ne.symm c1i, c2i, Ne.symm c2i, c3i, Ne.symm c3i, c4i, Ne.symm c4i, c5i, Ne.symm c5i, c6i, Ne.symm c6i, c7i, Ne.symm c7i, c8i, Ne.symm c8i, c9i, Ne.symm c9i, c10i, Ne.symm c10i, c11i, Ne.symm c11i, c12i, Ne.symm c12i])) (by decide) ?_
  refine g_iconst (pc := 118) dX7_level_118 ic_0 ?_
  subst h
  exact g_iret (pc := 119) dX7_level_119 rfl rfl rfl (Nat.le_refl _) (Nat.le_refl _)
set_option maxRecDepth 100000 in
set_option maxHeartbeats 4000000 in
theorem M_X7_level {sc : Nat × (Nat → Int32)} {d : Nat} (hd : 0 ≤ d) {r : Int32} {u : xS} {a0 : Int32} (h : f_X7_level a0 = r) : xMt sc mX7_level d 0 0 [.int a0] (xL0, u) (some (.int r)) (xL0, u) :=
  xMt.of (by decide +kernel) (Nat.le_of_ble_eq_true rfl) (L := [some (.int a0)]) rfl ((G_X7_level_0 hd a0 h))
set_option maxRecDepth 100000 in
set_option maxHeartbeats 4000000 in
theorem G_X7_emit_0 {sc : Nat × (Nat → Int32)} {d : Nat} (hd : 0 ≤ d) {u' : xS} (v1 : Int32) (u : xS) (h : f_X7_emit v1 u = some u') : xG sc mX7_emit d 0 0 (xR none (xL0, u') 0 0) 0 0 0 [some (.ref 54), some (.int v1)] [] (xL0, u) := by
  rw [f_X7_emit] at h
  refine g_aload_n (pc := 0) dX7_emit_0 rfl ?_
  refine g_gI (pc := 1) dX7_emit_1 fI_RX7_48 xc_54 (v := (rd u 54 1)) rfl ?_
  refine g_bipush (pc := 4) dX7_emit_4 bp_64 ?_
  refine g_icmp_ge (tgt := 29) (pc := 6) dX7_emit_6 (by decide) (fun c1 => ?_) (fun c1 => ?_)
  · replace h := (if_pos c1).symm.trans h
    cases h
    exact g_ret (pc := 29) dX7_emit_29 rfl rfl rfl (Nat.le_refl _) (Nat.le_refl _)
  · replace h := (if_neg c1).symm.trans h
    refine g_aload_n (pc := 9) dX7_emit_9 rfl ?_
    refine g_gR (pc := 10) dX7_emit_10 fR_RX7_11 xc_54 (v := 55) rfl ?_
    refine g_aload_n (pc := 13) dX7_emit_13 rfl ?_
    refine g_gI (pc := 14) dX7_emit_14 fI_RX7_48 xc_54 (v := (rd u 54 1)) rfl ?_
    refine g_iload_n (pc := 17) dX7_emit_17 rfl ?_
    obtain ⟨g2, h⟩ := x_gd h
    refine g_iastore (pc := 18) dX7_emit_18 xc_55 (xin_of g2) (u' := (wr u 55 (rd u 54 1).toNatClampNeg v1)) rfl ?_
    refine g_aload_n (pc := 19) dX7_emit_19 rfl ?_
    refine g_dup (pc := 20) dX7_emit_20 rfl ?_
    refine g_gI (pc := 21) dX7_emit_21 fI_RX7_48 xc_54 (v := (rd u 54 1)) rfl ?_
    refine g_iconst (pc := 24) dX7_emit_24 ic_1 ?_
    refine g_iadd (pc := 25) dX7_emit_25 rfl ?_
    refine g_pI (pc := 26) dX7_emit_26 pI_RX7_48 xc_54 (u' := (wr (wr u 55 (rd u 54 1).toNatClampNeg v1) 54 1 ((rd u 54 1) + (1 : Int32)))) rfl ?_
    cases h
    exact g_ret (pc := 29) dX7_emit_29 rfl rfl rfl (Nat.le_refl _) (Nat.le_refl _)
set_option maxRecDepth 100000 in
set_option maxHeartbeats 4000000 in
theorem M_X7_emit {sc : Nat × (Nat → Int32)} {d : Nat} (hd : 0 ≤ d) {u u' : xS} {a1 : Int32} (h : f_X7_emit a1 u = some u') : xMt sc mX7_emit d 0 0 [.ref 54, .int a1] (xL0, u) none (xL0, u') :=
  xMt.of (by decide +kernel) (Nat.le_of_ble_eq_true rfl) (L := [some (.ref 54), some (.int a1)]) rfl ((G_X7_emit_0 hd a1 u h))
set_option maxRecDepth 100000 in
set_option maxHeartbeats 4000000 in
theorem G_X7_bringOut_0 {sc : Nat × (Nat → Int32)} {d : Nat} (hd : 1 ≤ d) {u' : xS} : ∀ (n : Nat) (v1 : Int32) (u : xS), f_X7_bringOut_0 n v1 u = some u' → xG sc mX7_bringOut d 0 0 (xR none (xL0, u') 0 0) 0 0 0 [some (.ref 54), some (.int v1)] [] (xL0, u) := by
  intro n
  induction n with
  | zero =>
    intro v1 u h
    rw [f_X7_bringOut_0] at h
    cases h
  | succ n ih =>
    intro v1 u h
    rw [f_X7_bringOut_0] at h
    refine g_aload_n (pc := 0) dX7_bringOut_0 rfl ?_
    refine g_gI (pc := 1) dX7_bringOut_1 fI_RX7_51 xc_54 (v := (rd u 54 3)) rfl ?_
    refine g_if_le (tgt := 52) (pc := 4) dX7_bringOut_4 (by decide) (fun c1 => ?_) (fun c1 => ?_)
    · replace h := (if_pos c1).symm.trans h
      cases h
      exact g_ret (pc := 52) dX7_bringOut_52 rfl rfl rfl (Nat.le_refl _) (Nat.le_refl _)
    · replace h := (if_neg c1).symm.trans h
      refine g_aload_n (pc := 7) dX7_bringOut_7 rfl ?_
      refine g_gR (pc := 8) dX7_bringOut_8 fR_RX7_15 xc_54 (v := 56) rfl ?_
      refine g_aload_n (pc := 11) dX7_bringOut_11 rfl ?_
      refine g_gI (pc := 12) dX7_bringOut_12 fI_RX7_51 xc_54 (v := (rd u 54 3)) rfl ?_
      refine g_iconst (pc := 15) dX7_bringOut_15 ic_1 ?_
      refine g_isub (pc := 16) dX7_bringOut_16 rfl ?_
      obtain ⟨g2, h⟩ := x_gd h
      refine g_iaload (pc := 17) dX7_bringOut_17 xc_56 (xin_of g2) (v := (rd u 56 ((rd u 54 3) - (1 : Int32)).toNatClampNeg)) rfl ?_
      refine g_cS (pc := 18) dX7_bringOut_18 cS_RX7_85 (M_X7_level (Nat.le_refl _) rfl) (as := [.int (rd u 56 ((rd u 54 3) - (1 : Int32)).toNatClampNeg)]) (st := []) rfl rfl (Nat.le_of_ble_eq_true rfl) (Nat.le_trans (Nat.le_of_ble_eq_true rfl) hd) rfl ?_
      refine g_iload_n (pc := 21) dX7_bringOut_21 rfl ?_
      refine g_icmp_lt (tgt := 52) (pc := 22) dX7_bringOut_22 (by decide) (fun c3 => ?_) (fun c3 => ?_)
      · replace h := (if_pos c3).symm.trans h
        cases h
        exact g_ret (pc := 52) dX7_bringOut_52 rfl rfl rfl (Nat.le_refl _) (Nat.le_refl _)
      · replace h := (if_neg c3).symm.trans h
        refine g_aload_n (pc := 25) dX7_bringOut_25 rfl ?_
        refine g_dup (pc := 26) dX7_bringOut_26 rfl ?_
        refine g_gI (pc := 27) dX7_bringOut_27 fI_RX7_51 xc_54 (v := (rd u 54 3)) rfl ?_
        refine g_iconst (pc := 30) dX7_bringOut_30 ic_1 ?_
        refine g_isub (pc := 31) dX7_bringOut_31 rfl ?_
        refine g_pI (pc := 32) dX7_bringOut_32 pI_RX7_51 xc_54 (u' := (wr u 54 3 ((rd u 54 3) - (1 : Int32)))) rfl ?_
        refine g_aload_n (pc := 35) dX7_bringOut_35 rfl ?_
        refine g_aload_n (pc := 36) dX7_bringOut_36 rfl ?_
        refine g_gR (pc := 37) dX7_bringOut_37 fR_RX7_15 xc_54 (v := 56) rfl ?_
        refine g_aload_n (pc := 40) dX7_bringOut_40 rfl ?_
        refine g_gI (pc := 41) dX7_bringOut_41 fI_RX7_51 xc_54 (v := ((rd u 54 3) - (1 : Int32))) rfl ?_
        refine g_iaload (pc := 44) dX7_bringOut_44 xc_56 (xin_of g2) (v := (rd u 56 ((rd u 54 3) - (1 : Int32)).toNatClampNeg)) rfl ?_
        refine g_ineg (pc := 45) dX7_bringOut_45 rfl ?_
        obtain ⟨u5, e4, h⟩ := x_bind h
        refine g_cV (pc := 46) dX7_bringOut_46 cV_RX7_45 (M_X7_emit (Nat.le_refl _) e4) xc_54 (as := [.int (-(rd u 56 ((rd u 54 3) - (1 : Int32)).toNatClampNeg))]) (st := []) rfl rfl (Nat.le_of_ble_eq_true rfl) (Nat.le_trans (Nat.le_of_ble_eq_true rfl) hd) rfl ?_
        refine g_goto (tgt := 0) (pc := 49) dX7_bringOut_49 (by decide) ?_
        exact ih v1 u5 h
set_option maxRecDepth 100000 in
set_option maxHeartbeats 4000000 in
theorem M_X7_bringOut {sc : Nat × (Nat → Int32)} {d : Nat} (hd : 1 ≤ d) {u u' : xS} {a1 : Int32} (h : f_X7_bringOut_0 xN a1 u = some u') : xMt sc mX7_bringOut d 0 0 [.ref 54, .int a1] (xL0, u) none (xL0, u') :=
  xMt.of (by decide +kernel) (Nat.le_of_ble_eq_true rfl) (L := [some (.ref 54), some (.int a1)]) rfl ((G_X7_bringOut_0 hd xN a1 u h))
theorem zb_X7_isDigit (v0 : Int32) : f_X7_isDigit v0 = 0 ∨ f_X7_isDigit v0 = 1 := by
  unfold f_X7_isDigit
  (repeat' split) <;> first | exact Or.inl rfl | exact Or.inr rfl | exact zb_X11_lies _ _ _
set_option maxRecDepth 100000 in
set_option maxHeartbeats 4000000 in
theorem G_X7_isDigit_0 {sc : Nat × (Nat → Int32)} {d : Nat} (hd : 1 ≤ d) {r : Int32} {u : xS} (v0 : Int32) (h : f_X7_isDigit v0 = r) : xG sc mX7_isDigit d 0 0 (xR (some (.int r)) (xL0, u) 0 0) 0 0 0 [some (.int v0)] [] (xL0, u) := by
  rw [f_X7_isDigit] at h
  refine g_iload_n (pc := 0) dX7_isDigit_0 rfl ?_
  refine g_bipush (pc := 1) dX7_isDigit_1 bp_48 ?_
  refine g_bipush (pc := 3) dX7_isDigit_3 bp_57 ?_
  refine g_cN (pc := 5) dX7_isDigit_5 cN_RX7_89 (M_X11_lies (Nat.le_refl _) rfl) (as := [.int v0, .int (48 : Int32), .int (57 : Int32)]) (st := []) rfl rfl (Nat.le_of_ble_eq_true rfl) (Nat.le_trans (Nat.le_of_ble_eq_true rfl) hd) rfl ?_
  subst h
  exact g_zret (pc := 8) dX7_isDigit_8 rfl (zb_X11_lies _ _ _) rfl rfl (Nat.le_refl _) (Nat.le_refl _)
set_option maxRecDepth 100000 in
set_option maxHeartbeats 4000000 in
theorem M_X7_isDigit {sc : Nat × (Nat → Int32)} {d : Nat} (hd : 1 ≤ d) {r : Int32} {u : xS} {a0 : Int32} (h : f_X7_isDigit a0 = r) : xMt sc mX7_isDigit d 0 0 [.int a0] (xL0, u) (some (.int r)) (xL0, u) :=
  xMt.of (by decide +kernel) (Nat.le_of_ble_eq_true rfl) (L := [some (.int a0)]) rfl ((G_X7_isDigit_0 hd a0 h))
theorem zb_X7_joins (v0 : Int32) : f_X7_joins v0 = 0 ∨ f_X7_joins v0 = 1 := by
  unfold f_X7_joins
  (repeat' split) <;> first | exact Or.inl rfl | exact Or.inr rfl | exact zb_X11_lies _ _ _
set_option maxRecDepth 100000 in
set_option maxHeartbeats 4000000 in
theorem G_X7_joins_0 {sc : Nat × (Nat → Int32)} {d : Nat} (hd : 1 ≤ d) {r : Int32} {u : xS} (v0 : Int32) (h : f_X7_joins v0 = r) : xG sc mX7_joins d 0 0 (xR (some (.int r)) (xL0, u) 0 0) 0 0 0 [some (.int v0)] [] (xL0, u) := by
  rw [f_X7_joins] at h
  refine g_iload_n (pc := 0) dX7_joins_0 rfl ?_
  refine g_cS (pc := 1) dX7_joins_1 cS_RX7_85 (M_X7_level (Nat.le_refl _) rfl) (as := [.int v0]) (st := []) rfl rfl (Nat.le_of_ble_eq_true rfl) (Nat.le_trans (Nat.le_of_ble_eq_true rfl) hd) rfl ?_
  refine g_iconst (pc := 4) dX7_joins_4 ic_1 ?_
  refine g_iconst (pc := 5) dX7_joins_5 ic_4 ?_
  refine g_cN (pc := 6) dX7_joins_6 cN_RX7_89 (M_X11_lies (Nat.le_refl _) rfl) (as := [.int (f_X7_level v0), .int (1 : Int32), .int (4 : Int32)]) (st := []) rfl rfl (Nat.le_of_ble_eq_true rfl) (Nat.le_trans (Nat.le_of_ble_eq_true rfl) hd) rfl ?_
  subst h
  exact g_zret (pc := 9) dX7_joins_9 rfl (zb_X11_lies _ _ _) rfl rfl (Nat.le_refl _) (Nat.le_refl _)
set_option maxRecDepth 100000 in
set_option maxHeartbeats 4000000 in
theorem M_X7_joins {sc : Nat × (Nat → Int32)} {d : Nat} (hd : 1 ≤ d) {r : Int32} {u : xS} {a0 : Int32} (h : f_X7_joins a0 = r) : xMt sc mX7_joins d 0 0 [.int a0] (xL0, u) (some (.int r)) (xL0, u) :=
  xMt.of (by decide +kernel) (Nat.le_of_ble_eq_true rfl) (L := [some (.int a0)]) rfl ((G_X7_joins_0 hd a0 h))
set_option maxRecDepth 100000 in
set_option maxHeartbeats 4000000 in
theorem G_X7_hold_0 {sc : Nat × (Nat → Int32)} {d : Nat} (hd : 0 ≤ d) {u' : xS} (v1 : Int32) (u : xS) (h : f_X7_hold v1 u = some u') : xG sc mX7_hold d 0 0 (xR none (xL0, u') 0 0) 0 0 0 [some (.ref 54), some (.int v1)] [] (xL0, u) := by
  rw [f_X7_hold] at h
  refine g_aload_n (pc := 0) dX7_hold_0 rfl ?_
  refine g_gI (pc := 1) dX7_hold_1 fI_RX7_51 xc_54 (v := (rd u 54 3)) rfl ?_
  refine g_bipush (pc := 4) dX7_hold_4 bp_64 ?_
  refine g_icmp_ge (tgt := 29) (pc := 6) dX7_hold_6 (by decide) (fun c1 => ?_) (fun c1 => ?_)
  · replace h := (if_pos c1).symm.trans h
    cases h
    exact g_ret (pc := 29) dX7_hold_29 rfl rfl rfl (Nat.le_refl _) (Nat.le_refl _)
  · replace h := (if_neg c1).symm.trans h
    refine g_aload_n (pc := 9) dX7_hold_9 rfl ?_
    refine g_gR (pc := 10) dX7_hold_10 fR_RX7_15 xc_54 (v := 56) rfl ?_
    refine g_aload_n (pc := 13) dX7_hold_13 rfl ?_
    refine g_gI (pc := 14) dX7_hold_14 fI_RX7_51 xc_54 (v := (rd u 54 3)) rfl ?_
    refine g_iload_n (pc := 17) dX7_hold_17 rfl ?_
    obtain ⟨g2, h⟩ := x_gd h
    refine g_iastore (pc := 18) dX7_hold_18 xc_56 (xin_of g2) (u' := (wr u 56 (rd u 54 3).toNatClampNeg v1)) rfl ?_
    refine g_aload_n (pc := 19) dX7_hold_19 rfl ?_
    refine g_dup (pc := 20) dX7_hold_20 rfl ?_
    refine g_gI (pc := 21) dX7_hold_21 fI_RX7_51 xc_54 (v := (rd u 54 3)) rfl ?_
    refine g_iconst (pc := 24) dX7_hold_24 ic_1 ?_
    refine g_iadd (pc := 25) dX7_hold_25 rfl ?_
    refine g_pI (pc := 26) dX7_hold_26 pI_RX7_51 xc_54 (u' := (wr (wr u 56 (rd u 54 3).toNatClampNeg v1) 54 3 ((rd u 54 3) + (1 : Int32)))) rfl ?_
    cases h
    exact g_ret (pc := 29) dX7_hold_29 rfl rfl rfl (Nat.le_refl _) (Nat.le_refl _)
set_option maxRecDepth 100000 in
set_option maxHeartbeats 4000000 in
theorem M_X7_hold {sc : Nat × (Nat → Int32)} {d : Nat} (hd : 0 ≤ d) {u u' : xS} {a1 : Int32} (h : f_X7_hold a1 u = some u') : xMt sc mX7_hold d 0 0 [.ref 54, .int a1] (xL0, u) none (xL0, u') :=
  xMt.of (by decide +kernel) (Nat.le_of_ble_eq_true rfl) (L := [some (.ref 54), some (.int a1)]) rfl ((G_X7_hold_0 hd a1 u h))
set_option maxRecDepth 100000 in
set_option maxHeartbeats 4000000 in
theorem G_X7_join_57 {sc : Nat × (Nat → Int32)} {d : Nat} (hd : 2 ≤ d) {r : Int32} {u' : xS} (v1 : Int32) (v2 : Int32) (u : xS) (h : f_X7_join_57 v1 v2 u = some (r, u')) : xG sc mX7_join d 0 0 (xR (some (.int r)) (xL0, u') 0 0) 0 0 57 [some (.ref 54), some (.int v1), some (.int v2)] [] (xL0, u) := by
  rw [f_X7_join_57] at h
  refine g_aload_n (pc := 57) dX7_join_57 rfl ?_
  refine g_iload_n (pc := 58) dX7_join_58 rfl ?_
  obtain ⟨u2, e1, h⟩ := x_bind h
  refine g_cV (pc := 59) dX7_join_59 cV_RX7_41 (M_X7_bringOut (Nat.le_refl _) e1) xc_54 (as := [.int v2]) (st := []) rfl rfl (Nat.le_of_ble_eq_true rfl) (Nat.le_trans (Nat.le_of_ble_eq_true rfl) hd) rfl ?_
  refine g_aload_n (pc := 62) dX7_join_62 rfl ?_
  refine g_iload_n (pc := 63) dX7_join_63 rfl ?_
  obtain ⟨u4, e3, h⟩ := x_bind h
  refine g_cV (pc := 64) dX7_join_64 cV_RX7_60 (M_X7_hold (Nat.le_refl _) e3) xc_54 (as := [.int v1]) (st := []) rfl rfl (Nat.le_of_ble_eq_true rfl) (Nat.le_trans (Nat.le_of_ble_eq_true rfl) hd) rfl ?_
  refine g_aload_n (pc := 67) dX7_join_67 rfl ?_
  refine g_iconst (pc := 68) dX7_join_68 ic_1 ?_
  refine g_pZ (pc := 69) dX7_join_69 pZ_RX7_26 xc_54 (Or.inr rfl) (u' := (wr u4 54 7 (1 : Int32))) rfl ?_
  refine g_iconst (pc := 72) dX7_join_72 ic_1 ?_
  cases h
  exact g_zret (pc := 73) dX7_join_73 rfl (Or.inr rfl) rfl rfl (Nat.le_refl _) (Nat.le_refl _)
set_option maxRecDepth 100000 in
set_option maxHeartbeats 4000000 in
theorem G_X7_join_56 {sc : Nat × (Nat → Int32)} {d : Nat} (hd : 2 ≤ d) {r : Int32} {u' : xS} (v1 : Int32) (v2 : Int32) (s1 : Int32) (s2 : Int32) (u : xS) (h : f_X7_join_56 v1 v2 s1 s2 u = some (r, u')) : xG sc mX7_join d 0 0 (xR (some (.int r)) (xL0, u') 0 0) 0 0 56 [some (.ref 54), some (.int v1), some (.int v2)] [.int s2, .int s1, .ref 57] (xL0, u) := by
  rw [f_X7_join_56] at h
  obtain ⟨g1, h⟩ := x_gd h
  obtain ⟨g2, h⟩ := x_gd h
  refine g_bastoreB (pc := 56) dX7_join_56 xc_57 (xin_of g1) (xb_of g2) (u' := (wr u 57 s1.toNatClampNeg s2)) rfl ?_
  exact G_X7_join_57 hd v1 v2 (wr u 57 s1.toNatClampNeg s2) h
set_option maxRecDepth 100000 in
set_option maxHeartbeats 4000000 in
theorem G_X7_join_33 {sc : Nat × (Nat → Int32)} {d : Nat} (hd : 2 ≤ d) {r : Int32} {u' : xS} (v1 : Int32) (v2 : Int32) (u : xS) (h : f_X7_join_33 v1 v2 u = some (r, u')) : xG sc mX7_join d 0 0 (xR (some (.int r)) (xL0, u') 0 0) 0 0 33 [some (.ref 54), some (.int v1), some (.int v2)] [] (xL0, u) := by
  rw [f_X7_join_33] at h
  refine g_iload_n (pc := 33) dX7_join_33 rfl ?_
  refine g_iconst (pc := 34) dX7_join_34 ic_2 ?_
  refine g_icmp_gt (tgt := 57) (pc := 35) dX7_join_35 (by decide) (fun c1 => ?_) (fun c1 => ?_)
  · replace h := (if_pos c1).symm.trans h
    exact G_X7_join_57 hd v1 v2 u h
  · replace h := (if_neg c1).symm.trans h
    refine g_aload_n (pc := 38) dX7_join_38 rfl ?_
    refine g_gR (pc := 39) dX7_join_39 fR_RX7_18 xc_54 (v := 57) rfl ?_
    refine g_aload_n (pc := 42) dX7_join_42 rfl ?_
    refine g_gI (pc := 43) dX7_join_43 fI_RX7_37 xc_54 (v := (rd u 54 5)) rfl ?_
    refine g_iload_n (pc := 46) dX7_join_46 rfl ?_
    refine g_iconst (pc := 47) dX7_join_47 ic_2 ?_
    refine g_icmp_ne (tgt := 55) (pc := 48) dX7_join_48 (by decide) (fun c2 => ?_) (fun c2 => ?_)
    · replace h := (if_neg c2).symm.trans h
      refine g_iconst (pc := 55) dX7_join_55 ic_0 ?_
      exact G_X7_join_56 hd v1 v2 (rd u 54 5) (0 : Int32) u h
    · replace h := (if_pos c2).symm.trans h
      refine g_iconst (pc := 51) dX7_join_51 ic_1 ?_
      refine g_goto (tgt := 56) (pc := 52) dX7_join_52 (by decide) ?_
      exact G_X7_join_56 hd v1 v2 (rd u 54 5) (1 : Int32) u h
set_option maxRecDepth 100000 in
set_option maxHeartbeats 4000000 in
theorem G_X7_join_0 {sc : Nat × (Nat → Int32)} {d : Nat} (hd : 2 ≤ d) {r : Int32} {u' : xS} (v1 : Int32) (u : xS) (h : f_X7_join v1 u = some (r, u')) : xG sc mX7_join d 0 0 (xR (some (.int r)) (xL0, u') 0 0) 0 0 0 [some (.ref 54), some (.int v1), none] [] (xL0, u) := by
  rw [f_X7_join] at h
  refine g_iload_n (pc := 0) dX7_join_0 rfl ?_
  refine g_cS (pc := 1) dX7_join_1 cS_RX7_85 (M_X7_level (Nat.le_refl _) rfl) (as := [.int v1]) (st := []) rfl rfl (Nat.le_of_ble_eq_true rfl) (Nat.le_trans (Nat.le_of_ble_eq_true rfl) hd) rfl ?_
  refine g_istore_n (pc := 4) dX7_join_4 (Nat.le_of_ble_eq_true rfl) (L' := [some (.ref 54), some (.int v1), some (.int (f_X7_level v1))]) rfl ?_
  refine g_aload_n (pc := 5) dX7_join_5 rfl ?_
  refine g_gI (pc := 6) dX7_join_6 fI_RX7_37 xc_54 (v := (rd u 54 5)) rfl ?_
  refine g_bipush (pc := 9) dX7_join_9 bp_64 ?_
  refine g_icmp_ge (tgt := 31) (pc := 11) dX7_join_11 (by decide) (fun c1 => ?_) (fun c1 => ?_)
  · replace h := (if_pos c1).symm.trans h
    refine g_iconst (pc := 31) dX7_join_31 ic_0 ?_
    cases h
    exact g_zret (pc := 32) dX7_join_32 rfl (Or.inl rfl) rfl rfl (Nat.le_refl _) (Nat.le_refl _)
  · replace h := (if_neg c1).symm.trans h
    refine g_iload_n (pc := 14) dX7_join_14 rfl ?_
    refine g_iconst (pc := 15) dX7_join_15 ic_2 ?_
    refine g_icmp_ne (tgt := 33) (pc := 16) dX7_join_16 (by decide) (fun c2 => ?_) (fun c2 => ?_)
    · replace h := (if_neg c2).symm.trans h
      exact G_X7_join_33 hd v1 (f_X7_level v1) u h
    · replace h := (if_pos c2).symm.trans h
      refine g_aload_n (pc := 19) dX7_join_19 rfl ?_
      refine g_gR (pc := 20) dX7_join_20 fR_RX7_18 xc_54 (v := 57) rfl ?_
      refine g_aload_n (pc := 23) dX7_join_23 rfl ?_
      refine g_gI (pc := 24) dX7_join_24 fI_RX7_37 xc_54 (v := (rd u 54 5)) rfl ?_
      obtain ⟨g3, h⟩ := x_gd h
      refine g_baload (pc := 27) dX7_join_27 xc_57 (xin_of g3) (v := (rd u 57 (rd u 54 5).toNatClampNeg)) rfl ?_
      refine g_if_eq (tgt := 33) (pc := 28) dX7_join_28 (by decide) (fun c4 => ?_) (fun c4 => ?_)
      · replace h := (if_pos c4).symm.trans h
        exact G_X7_join_33 hd v1 (f_X7_level v1) u h
      · replace h := (if_neg c4).symm.trans h
        refine g_iconst (pc := 31) dX7_join_31 ic_0 ?_
        cases h
        exact g_zret (pc := 32) dX7_join_32 rfl (Or.inl rfl) rfl rfl (Nat.le_refl _) (Nat.le_refl _)
set_option maxRecDepth 100000 in
set_option maxHeartbeats 4000000 in
theorem M_X7_join {sc : Nat × (Nat → Int32)} {d : Nat} (hd : 2 ≤ d) {r : Int32} {u u' : xS} {a1 : Int32} (h : f_X7_join a1 u = some (r, u')) : xMt sc mX7_join d 0 0 [.ref 54, .int a1] (xL0, u) (some (.int r)) (xL0, u') :=
  xMt.of (by decide +kernel) (Nat.le_of_ble_eq_true rfl) (L := [some (.ref 54), some (.int a1), none]) rfl ((G_X7_join_0 hd a1 u h))
set_option maxRecDepth 100000 in
set_option maxHeartbeats 4000000 in
theorem G_X7_partHere_0 {sc : Nat × (Nat → Int32)} {d : Nat} (hd : 2 ≤ d) {r : Int32} {u' : xS} (u : xS) (h : f_X7_partHere u = some (r, u')) : xG sc mX7_partHere d 0 0 (xR (some (.int r)) (xL0, u') 0 0) 0 0 0 [some (.ref 54)] [] (xL0, u) := by
  rw [f_X7_partHere] at h
  refine g_aload_n (pc := 0) dX7_partHere_0 rfl ?_
  refine g_gI (pc := 1) dX7_partHere_1 fI_RX7_57 xc_54 (v := (rd u 54 8)) rfl ?_
  refine g_if_eq (tgt := 14) (pc := 4) dX7_partHere_4 (by decide) (fun c1 => ?_) (fun c1 => ?_)
  · replace h := (if_pos c1).symm.trans h
    refine g_iconst (pc := 14) dX7_partHere_14 ic_0 ?_
    cases h
    exact g_zret (pc := 15) dX7_partHere_15 rfl (Or.inl rfl) rfl rfl (Nat.le_refl _) (Nat.le_refl _)
  · replace h := (if_neg c1).symm.trans h
    refine g_aload_n (pc := 7) dX7_partHere_7 rfl ?_
    refine g_gI (pc := 8) dX7_partHere_8 fI_RX7_37 xc_54 (v := (rd u 54 5)) rfl ?_
    refine g_if_le (tgt := 16) (pc := 11) dX7_partHere_11 (by decide) (fun c2 => ?_) (fun c2 => ?_)
    · replace h := (if_pos c2).symm.trans h
      refine g_aload_n (pc := 16) dX7_partHere_16 rfl ?_
      refine g_iconst (pc := 17) dX7_partHere_17 ic_1 ?_
      obtain ⟨u4, e3, h⟩ := x_bind h
      refine g_cV (pc := 18) dX7_partHere_18 cV_RX7_41 (M_X7_bringOut (Nat.le_refl _) e3) xc_54 (as := [.int (1 : Int32)]) (st := []) rfl rfl (Nat.le_of_ble_eq_true rfl) (Nat.le_trans (Nat.le_of_ble_eq_true rfl) hd) rfl ?_
      refine g_aload_n (pc := 21) dX7_partHere_21 rfl ?_
      refine g_bipush (pc := 22) dX7_partHere_22 bp_m59 ?_
      obtain ⟨u6, e5, h⟩ := x_bind h
      refine g_cV (pc := 24) dX7_partHere_24 cV_RX7_45 (M_X7_emit (Nat.le_refl _) e5) xc_54 (as := [.int (-59 : Int32)]) (st := []) rfl rfl (Nat.le_of_ble_eq_true rfl) (Nat.le_trans (Nat.le_of_ble_eq_true rfl) hd) rfl ?_
      refine g_aload_n (pc := 27) dX7_partHere_27 rfl ?_
      refine g_gR (pc := 28) dX7_partHere_28 fR_RX7_18 xc_54 (v := 57) rfl ?_
      refine g_iconst (pc := 31) dX7_partHere_31 ic_0 ?_
      refine g_iconst (pc := 32) dX7_partHere_32 ic_0 ?_
      refine g_bastoreB (pc := 33) dX7_partHere_33 xc_57 vin_0_64 (Or.inl rfl) (u' := (wr u6 57 0 (0 : Int32))) rfl ?_
      refine g_aload_n (pc := 34) dX7_partHere_34 rfl ?_
      refine g_iconst (pc := 35) dX7_partHere_35 ic_1 ?_
      refine g_pZ (pc := 36) dX7_partHere_36 pZ_RX7_26 xc_54 (Or.inr rfl) (u' := (wr (wr u6 57 0 (0 : Int32)) 54 7 (1 : Int32))) rfl ?_
      refine g_iconst (pc := 39) dX7_partHere_39 ic_1 ?_
      cases h
      exact g_zret (pc := 40) dX7_partHere_40 rfl (Or.inr rfl) rfl rfl (Nat.le_refl _) (Nat.le_refl _)
    · replace h := (if_neg c2).symm.trans h
      refine g_iconst (pc := 14) dX7_partHere_14 ic_0 ?_
      cases h
      exact g_zret (pc := 15) dX7_partHere_15 rfl (Or.inl rfl) rfl rfl (Nat.le_refl _) (Nat.le_refl _)
set_option maxRecDepth 100000 in
set_option maxHeartbeats 4000000 in
theorem M_X7_partHere {sc : Nat × (Nat → Int32)} {d : Nat} (hd : 2 ≤ d) {r : Int32} {u u' : xS} (h : f_X7_partHere u = some (r, u')) : xMt sc mX7_partHere d 0 0 [.ref 54] (xL0, u) (some (.int r)) (xL0, u') :=
  xMt.of (by decide +kernel) (Nat.le_of_ble_eq_true rfl) (L := [some (.ref 54)]) rfl ((G_X7_partHere_0 hd u h))
set_option maxRecDepth 100000 in
set_option maxHeartbeats 4000000 in
theorem G_X7_close_31 {sc : Nat × (Nat → Int32)} {d : Nat} (hd : 2 ≤ d) {r : Int32} {u' : xS} (u : xS) (h : f_X7_close_31 u = some (r, u')) : xG sc mX7_close d 0 0 (xR (some (.int r)) (xL0, u') 0 0) 0 0 31 [some (.ref 54)] [] (xL0, u) := by
  rw [f_X7_close_31] at h
  refine g_aload_n (pc := 31) dX7_close_31 rfl ?_
  refine g_dup (pc := 32) dX7_close_32 rfl ?_
  refine g_gI (pc := 33) dX7_close_33 fI_RX7_37 xc_54 (v := (rd u 54 5)) rfl ?_
  refine g_iconst (pc := 36) dX7_close_36 ic_1 ?_
  refine g_isub (pc := 37) dX7_close_37 rfl ?_
  refine g_pI (pc := 38) dX7_close_38 pI_RX7_37 xc_54 (u' := (wr u 54 5 ((rd u 54 5) - (1 : Int32)))) rfl ?_
  refine g_iconst (pc := 41) dX7_close_41 ic_1 ?_
  cases h
  exact g_zret (pc := 42) dX7_close_42 rfl (Or.inr rfl) rfl rfl (Nat.le_refl _) (Nat.le_refl _)
set_option maxRecDepth 100000 in
set_option maxHeartbeats 4000000 in
theorem G_X7_close_0 {sc : Nat × (Nat → Int32)} {d : Nat} (hd : 2 ≤ d) {r : Int32} {u' : xS} (u : xS) (h : f_X7_close u = some (r, u')) : xG sc mX7_close d 0 0 (xR (some (.int r)) (xL0, u') 0 0) 0 0 0 [some (.ref 54)] [] (xL0, u) := by
  rw [f_X7_close] at h
  refine g_aload_n (pc := 0) dX7_close_0 rfl ?_
  refine g_gI (pc := 1) dX7_close_1 fI_RX7_37 xc_54 (v := (rd u 54 5)) rfl ?_
  refine g_if_ne (tgt := 9) (pc := 4) dX7_close_4 (by decide) (fun c1 => ?_) (fun c1 => ?_)
  · replace h := (if_neg c1).symm.trans h
    refine g_aload_n (pc := 9) dX7_close_9 rfl ?_
    refine g_iconst (pc := 10) dX7_close_10 ic_1 ?_
    obtain ⟨u3, e2, h⟩ := x_bind h
    refine g_cV (pc := 11) dX7_close_11 cV_RX7_41 (M_X7_bringOut (Nat.le_refl _) e2) xc_54 (as := [.int (1 : Int32)]) (st := []) rfl rfl (Nat.le_of_ble_eq_true rfl) (Nat.le_trans (Nat.le_of_ble_eq_true rfl) hd) rfl ?_
    refine g_aload_n (pc := 14) dX7_close_14 rfl ?_
    refine g_gI (pc := 15) dX7_close_15 fI_RX7_51 xc_54 (v := (rd u3 54 3)) rfl ?_
    refine g_if_le (tgt := 31) (pc := 18) dX7_close_18 (by decide) (fun c4 => ?_) (fun c4 => ?_)
    · replace h := (if_pos c4).symm.trans h
      exact G_X7_close_31 hd u3 h
    · replace h := (if_neg c4).symm.trans h
      refine g_aload_n (pc := 21) dX7_close_21 rfl ?_
      refine g_dup (pc := 22) dX7_close_22 rfl ?_
      refine g_gI (pc := 23) dX7_close_23 fI_RX7_51 xc_54 (v := (rd u3 54 3)) rfl ?_
      refine g_iconst (pc := 26) dX7_close_26 ic_1 ?_
      refine g_isub (pc := 27) dX7_close_27 rfl ?_
      refine g_pI (pc := 28) dX7_close_28 pI_RX7_51 xc_54 (u' := (wr u3 54 3 ((rd u3 54 3) - (1 : Int32)))) rfl ?_
      exact G_X7_close_31 hd (wr u3 54 3 ((rd u3 54 3) - (1 : Int32))) h
  · replace h := (if_pos c1).symm.trans h
    refine g_iconst (pc := 7) dX7_close_7 ic_0 ?_
    cases h
    exact g_zret (pc := 8) dX7_close_8 rfl (Or.inl rfl) rfl rfl (Nat.le_refl _) (Nat.le_refl _)
set_option maxRecDepth 100000 in
set_option maxHeartbeats 4000000 in
theorem M_X7_close {sc : Nat × (Nat → Int32)} {d : Nat} (hd : 2 ≤ d) {r : Int32} {u u' : xS} (h : f_X7_close u = some (r, u')) : xMt sc mX7_close d 0 0 [.ref 54] (xL0, u) (some (.int r)) (xL0, u') :=
  xMt.of (by decide +kernel) (Nat.le_of_ble_eq_true rfl) (L := [some (.ref 54)]) rfl ((G_X7_close_0 hd u h))
set_option maxRecDepth 100000 in
set_option maxHeartbeats 4000000 in
theorem G_X7_lengthen_0 {sc : Nat × (Nat → Int32)} {d : Nat} (hd : 0 ≤ d) {r : Int32} {u' : xS} (v1 : Int32) (u : xS) (h : f_X7_lengthen v1 u = some (r, u')) : xG sc mX7_lengthen d 0 0 (xR (some (.int r)) (xL0, u') 0 0) 0 0 0 [some (.ref 54), some (.int v1)] [] (xL0, u) := by
  rw [f_X7_lengthen] at h
  refine g_aload_n (pc := 0) dX7_lengthen_0 rfl ?_
  refine g_gI (pc := 1) dX7_lengthen_1 fI_RX7_54 xc_54 (v := (rd u 54 6)) rfl ?_
  refine g_if_eq (tgt := 22) (pc := 4) dX7_lengthen_4 (by decide) (fun c1 => ?_) (fun c1 => ?_)
  · replace h := (if_pos c1).symm.trans h
    refine g_iconst (pc := 22) dX7_lengthen_22 ic_0 ?_
    cases h
    exact g_zret (pc := 23) dX7_lengthen_23 rfl (Or.inl rfl) rfl rfl (Nat.le_refl _) (Nat.le_refl _)
  · replace h := (if_neg c1).symm.trans h
    refine g_aload_n (pc := 7) dX7_lengthen_7 rfl ?_
    refine g_gI (pc := 8) dX7_lengthen_8 fI_RX7_54 xc_54 (v := (rd u 54 6)) rfl ?_
    refine g_iconst (pc := 11) dX7_lengthen_11 ic_4 ?_
    refine g_icmp_ge (tgt := 22) (pc := 12) dX7_lengthen_12 (by decide) (fun c2 => ?_) (fun c2 => ?_)
    · replace h := (if_pos c2).symm.trans h
      refine g_iconst (pc := 22) dX7_lengthen_22 ic_0 ?_
      cases h
      exact g_zret (pc := 23) dX7_lengthen_23 rfl (Or.inl rfl) rfl rfl (Nat.le_refl _) (Nat.le_refl _)
    · replace h := (if_neg c2).symm.trans h
      refine g_aload_n (pc := 15) dX7_lengthen_15 rfl ?_
      refine g_gI (pc := 16) dX7_lengthen_16 fI_RX7_48 xc_54 (v := (rd u 54 1)) rfl ?_
      refine g_if_ne (tgt := 24) (pc := 19) dX7_lengthen_19 (by decide) (fun c3 => ?_) (fun c3 => ?_)
      · replace h := (if_neg c3).symm.trans h
        refine g_aload_n (pc := 24) dX7_lengthen_24 rfl ?_
        refine g_dup (pc := 25) dX7_lengthen_25 rfl ?_
        refine g_gI (pc := 26) dX7_lengthen_26 fI_RX7_54 xc_54 (v := (rd u 54 6)) rfl ?_
        refine g_iconst (pc := 29) dX7_lengthen_29 ic_1 ?_
        refine g_iadd (pc := 30) dX7_lengthen_30 rfl ?_
        refine g_pI (pc := 31) dX7_lengthen_31 pI_RX7_54 xc_54 (u' := (wr u 54 6 ((rd u 54 6) + (1 : Int32)))) rfl ?_
        refine g_aload_n (pc := 34) dX7_lengthen_34 rfl ?_
        refine g_gR (pc := 35) dX7_lengthen_35 fR_RX7_11 xc_54 (v := 55) rfl ?_
        refine g_aload_n (pc := 38) dX7_lengthen_38 rfl ?_
        refine g_gI (pc := 39) dX7_lengthen_39 fI_RX7_48 xc_54 (v := (rd u 54 1)) rfl ?_
        refine g_iconst (pc := 42) dX7_lengthen_42 ic_1 ?_
        refine g_isub (pc := 43) dX7_lengthen_43 rfl ?_
        refine g_aload_n (pc := 44) dX7_lengthen_44 rfl ?_
        refine g_gR (pc := 45) dX7_lengthen_45 fR_RX7_11 xc_54 (v := 55) rfl ?_
        refine g_aload_n (pc := 48) dX7_lengthen_48 rfl ?_
        refine g_gI (pc := 49) dX7_lengthen_49 fI_RX7_48 xc_54 (v := (rd u 54 1)) rfl ?_
        refine g_iconst (pc := 52) dX7_lengthen_52 ic_1 ?_
        refine g_isub (pc := 53) dX7_lengthen_53 rfl ?_
        obtain ⟨g4, h⟩ := x_gd h
        refine g_iaload (pc := 54) dX7_lengthen_54 xc_55 (xin_of g4) (v := (rd u 55 ((rd u 54 1) - (1 : Int32)).toNatClampNeg)) rfl ?_
        refine g_bipush (pc := 55) dX7_lengthen_55 bp_10 ?_
        refine g_imul (pc := 57) dX7_lengthen_57 rfl ?_
        refine g_iload_n (pc := 58) dX7_lengthen_58 rfl ?_
        refine g_iadd (pc := 59) dX7_lengthen_59 rfl ?_
        refine g_iastore (pc := 60) dX7_lengthen_60 xc_55 (xin_of g4) (u' := (wr (wr u 54 6 ((rd u 54 6) + (1 : Int32))) 55 ((rd u 54 1) - (1 : Int32)).toNatClampNeg (((rd u 55 ((rd u 54 1) - (1 : Int32)).toNatClampNeg) * (10 : Int32)) + v1))) rfl ?_
        refine g_iconst (pc := 61) dX7_lengthen_61 ic_1 ?_
        cases h
        exact g_zret (pc := 62) dX7_lengthen_62 rfl (Or.inr rfl) rfl rfl (Nat.le_refl _) (Nat.le_refl _)
      · replace h := (if_pos c3).symm.trans h
        refine g_iconst (pc := 22) dX7_lengthen_22 ic_0 ?_
        cases h
        exact g_zret (pc := 23) dX7_lengthen_23 rfl (Or.inl rfl) rfl rfl (Nat.le_refl _) (Nat.le_refl _)
set_option maxRecDepth 100000 in
set_option maxHeartbeats 4000000 in
theorem M_X7_lengthen {sc : Nat × (Nat → Int32)} {d : Nat} (hd : 0 ≤ d) {r : Int32} {u u' : xS} {a1 : Int32} (h : f_X7_lengthen a1 u = some (r, u')) : xMt sc mX7_lengthen d 0 0 [.ref 54, .int a1] (xL0, u) (some (.int r)) (xL0, u') :=
  xMt.of (by decide +kernel) (Nat.le_of_ble_eq_true rfl) (L := [some (.ref 54), some (.int a1)]) rfl ((G_X7_lengthen_0 hd a1 u h))
set_option maxRecDepth 100000 in
set_option maxHeartbeats 4000000 in
theorem G_X7_goesOn_0 {sc : Nat × (Nat → Int32)} {d : Nat} (hd : 3 ≤ d) {r : Int32} {u' : xS} (v1 : Int32) (u : xS) (h : f_X7_goesOn v1 u = some (r, u')) : xG sc mX7_goesOn d 0 0 (xR (some (.int r)) (xL0, u') 0 0) 0 0 0 [some (.ref 54), some (.int v1)] [] (xL0, u) := by
  rw [f_X7_goesOn] at h
  refine g_iload_n (pc := 0) dX7_goesOn_0 rfl ?_
  refine g_cS (pc := 1) dX7_goesOn_1 cS_RX7_63 (M_X7_isDigit (Nat.le_refl _) rfl) (as := [.int v1]) (st := []) rfl rfl (Nat.le_of_ble_eq_true rfl) (Nat.le_trans (Nat.le_of_ble_eq_true rfl) hd) rfl ?_
  refine g_if_eq (tgt := 16) (pc := 4) dX7_goesOn_4 (by decide) (fun c1 => ?_) (fun c1 => ?_)
  · replace h := (if_pos c1).symm.trans h
    refine g_aload_n (pc := 16) dX7_goesOn_16 rfl ?_
    refine g_iconst (pc := 17) dX7_goesOn_17 ic_0 ?_
    refine g_pI (pc := 18) dX7_goesOn_18 pI_RX7_54 xc_54 (u' := (wr u 54 6 (0 : Int32))) rfl ?_
    refine g_iload_n (pc := 21) dX7_goesOn_21 rfl ?_
    refine g_bipush (pc := 22) dX7_goesOn_22 bp_41 ?_
    refine g_icmp_ne (tgt := 32) (pc := 24) dX7_goesOn_24 (by decide) (fun c2 => ?_) (fun c2 => ?_)
    · replace h := (if_neg c2).symm.trans h
      refine g_iload_n (pc := 32) dX7_goesOn_32 rfl ?_
      refine g_bipush (pc := 33) dX7_goesOn_33 bp_59 ?_
      refine g_icmp_ne (tgt := 43) (pc := 35) dX7_goesOn_35 (by decide) (fun c3 => ?_) (fun c3 => ?_)
      · replace h := (if_neg c3).symm.trans h
        refine g_iload_n (pc := 43) dX7_goesOn_43 rfl ?_
        refine g_cS (pc := 44) dX7_goesOn_44 cS_RX7_79 (M_X7_joins (Nat.le_refl _) rfl) (as := [.int v1]) (st := []) rfl rfl (Nat.le_of_ble_eq_true rfl) (Nat.le_trans (Nat.le_of_ble_eq_true rfl) hd) rfl ?_
        refine g_if_eq (tgt := 62) (pc := 47) dX7_goesOn_47 (by decide) (fun c4 => ?_) (fun c4 => ?_)
        · replace h := (if_pos c4).symm.trans h
          refine g_iconst (pc := 62) dX7_goesOn_62 ic_0 ?_
          cases h
          exact g_zret (pc := 63) dX7_goesOn_63 rfl (Or.inl rfl) rfl rfl (Nat.le_refl _) (Nat.le_refl _)
        · replace h := (if_neg c4).symm.trans h
          refine g_aload_n (pc := 50) dX7_goesOn_50 rfl ?_
          refine g_iload_n (pc := 51) dX7_goesOn_51 rfl ?_
          obtain ⟨⟨x6, u7⟩, e5, h⟩ := x_bind h
          dsimp only at h
          refine g_cV (pc := 52) dX7_goesOn_52 cV_RX7_82 (M_X7_join (Nat.le_refl _) e5) xc_54 (as := [.int v1]) (st := []) rfl rfl (Nat.le_of_ble_eq_true rfl) (Nat.le_trans (Nat.le_of_ble_eq_true rfl) hd) rfl ?_
          refine g_if_eq (tgt := 62) (pc := 55) dX7_goesOn_55 (by decide) (fun c8 => ?_) (fun c8 => ?_)
          · replace h := (if_pos c8).symm.trans h
            refine g_iconst (pc := 62) dX7_goesOn_62 ic_0 ?_
            cases h
            exact g_zret (pc := 63) dX7_goesOn_63 rfl (Or.inl rfl) rfl rfl (Nat.le_refl _) (Nat.le_refl _)
          · replace h := (if_neg c8).symm.trans h
            refine g_iconst (pc := 58) dX7_goesOn_58 ic_1 ?_
            refine g_goto (tgt := 63) (pc := 59) dX7_goesOn_59 (by decide) ?_
            cases h
            exact g_zret (pc := 63) dX7_goesOn_63 rfl (Or.inr rfl) rfl rfl (Nat.le_refl _) (Nat.le_refl _)
      · replace h := (if_pos c3).symm.trans h
        refine g_aload_n (pc := 38) dX7_goesOn_38 rfl ?_
        obtain ⟨⟨x11, u12⟩, e10, h⟩ := x_bind h
        dsimp only at h
        refine g_cV (pc := 39) dX7_goesOn_39 cV_RX7_76 (M_X7_partHere (Nat.le_refl _) e10) xc_54 (as := []) (st := []) rfl rfl (Nat.le_of_ble_eq_true rfl) (Nat.le_trans (Nat.le_of_ble_eq_true rfl) hd) rfl ?_
        obtain ⟨g13, h⟩ := x_gd h
        cases h
        exact g_zret (pc := 42) dX7_goesOn_42 rfl (xb_of g13) rfl rfl (Nat.le_refl _) (Nat.le_refl _)
    · replace h := (if_pos c2).symm.trans h
      refine g_aload_n (pc := 27) dX7_goesOn_27 rfl ?_
      obtain ⟨⟨x16, u17⟩, e15, h⟩ := x_bind h
      dsimp only at h
      refine g_cV (pc := 28) dX7_goesOn_28 cV_RX7_72 (M_X7_close (Nat.le_refl _) e15) xc_54 (as := []) (st := []) rfl rfl (Nat.le_of_ble_eq_true rfl) (Nat.le_trans (Nat.le_of_ble_eq_true rfl) hd) rfl ?_
      obtain ⟨g18, h⟩ := x_gd h
      cases h
      exact g_zret (pc := 31) dX7_goesOn_31 rfl (xb_of g18) rfl rfl (Nat.le_refl _) (Nat.le_refl _)
  · replace h := (if_neg c1).symm.trans h
    refine g_aload_n (pc := 7) dX7_goesOn_7 rfl ?_
    refine g_iload_n (pc := 8) dX7_goesOn_8 rfl ?_
    refine g_bipush (pc := 9) dX7_goesOn_9 bp_48 ?_
    refine g_isub (pc := 11) dX7_goesOn_11 rfl ?_
    obtain ⟨⟨x21, u22⟩, e20, h⟩ := x_bind h
    dsimp only at h
    refine g_cV (pc := 12) dX7_goesOn_12 cV_RX7_69 (M_X7_lengthen (Nat.le_refl _) e20) xc_54 (as := [.int (v1 - (48 : Int32))]) (st := []) rfl rfl (Nat.le_of_ble_eq_true rfl) (Nat.le_trans (Nat.le_of_ble_eq_true rfl) hd) rfl ?_
    obtain ⟨g23, h⟩ := x_gd h
    cases h
    exact g_zret (pc := 15) dX7_goesOn_15 rfl (xb_of g23) rfl rfl (Nat.le_refl _) (Nat.le_refl _)
set_option maxRecDepth 100000 in
set_option maxHeartbeats 4000000 in
theorem M_X7_goesOn {sc : Nat × (Nat → Int32)} {d : Nat} (hd : 3 ≤ d) {r : Int32} {u u' : xS} {a1 : Int32} (h : f_X7_goesOn a1 u = some (r, u')) : xMt sc mX7_goesOn d 0 0 [.ref 54, .int a1] (xL0, u) (some (.int r)) (xL0, u') :=
  xMt.of (by decide +kernel) (Nat.le_of_ble_eq_true rfl) (L := [some (.ref 54), some (.int a1)]) rfl ((G_X7_goesOn_0 hd a1 u h))
theorem zb_X7_isLetter (v0 : Int32) : f_X7_isLetter v0 = 0 ∨ f_X7_isLetter v0 = 1 := by
  unfold f_X7_isLetter
  (repeat' split) <;> first | exact Or.inl rfl | exact Or.inr rfl
set_option maxRecDepth 100000 in
set_option maxHeartbeats 4000000 in
theorem G_X7_isLetter_0 {sc : Nat × (Nat → Int32)} {d : Nat} (hd : 0 ≤ d) {r : Int32} {u : xS} (v0 : Int32) (h : f_X7_isLetter v0 = r) : xG sc mX7_isLetter d 0 0 (xR (some (.int r)) (xL0, u) 0 0) 0 0 0 [some (.int v0)] [] (xL0, u) := by
  rw [f_X7_isLetter] at h
  refine g_iload_n (pc := 0) dX7_isLetter_0 rfl ?_
  by_cases c1 : v0 = (98 : Int32)
  · replace h := (if_pos c1).symm.trans h
    refine g_tableIn (tgt := 116) (off := 115) (pc := 1) dX7_isLetter_1 (by rw [c1]; decide) (by rw [c1]; decide) (by rw [c1]; rfl) (by decide) ?_
    refine g_iconst (pc := 116) dX7_isLetter_116 ic_1 ?_
    subst h
    exact g_zret (pc := 117) dX7_isLetter_117 rfl (Or.inr rfl) rfl rfl (Nat.le_refl _) (Nat.le_refl _)
  replace h := (if_neg c1).symm.trans h
  by_cases c2 : v0 = (99 : Int32)
  · replace h := (if_pos c2).symm.trans h
    refine g_tableIn (tgt := 118) (off := 117) (pc := 1) dX7_isLetter_1 (by rw [c2]; decide) (by rw [c2]; decide) (by rw [c2]; rfl) (by decide) ?_
    refine g_iconst (pc := 118) dX7_isLetter_118 ic_0 ?_
    subst h
    exact g_zret (pc := 119) dX7_isLetter_119 rfl (Or.inl rfl) rfl rfl (Nat.le_refl _) (Nat.le_refl _)
  replace h := (if_neg c2).symm.trans h
  by_cases c3 : v0 = (100 : Int32)
  · replace h := (if_pos c3).symm.trans h
    refine g_tableIn (tgt := 116) (off := 115) (pc := 1) dX7_isLetter_1 (by rw [c3]; decide) (by rw [c3]; decide) (by rw [c3]; rfl) (by decide) ?_
    refine g_iconst (pc := 116) dX7_isLetter_116 ic_1 ?_
    subst h
    exact g_zret (pc := 117) dX7_isLetter_117 rfl (Or.inr rfl) rfl rfl (Nat.le_refl _) (Nat.le_refl _)
  replace h := (if_neg c3).symm.trans h
  by_cases c4 : v0 = (101 : Int32)
  · replace h := (if_pos c4).symm.trans h
    refine g_tableIn (tgt := 116) (off := 115) (pc := 1) dX7_isLetter_1 (by rw [c4]; decide) (by rw [c4]; decide) (by rw [c4]; rfl) (by decide) ?_
    refine g_iconst (pc := 116) dX7_isLetter_116 ic_1 ?_
    subst h
    exact g_zret (pc := 117) dX7_isLetter_117 rfl (Or.inr rfl) rfl rfl (Nat.le_refl _) (Nat.le_refl _)
  replace h := (if_neg c4).symm.trans h
  by_cases c5 : v0 = (102 : Int32)
  · replace h := (if_pos c5).symm.trans h
    refine g_tableIn (tgt := 118) (off := 117) (pc := 1) dX7_isLetter_1 (by rw [c5]; decide) (by rw [c5]; decide) (by rw [c5]; rfl) (by decide) ?_
    refine g_iconst (pc := 118) dX7_isLetter_118 ic_0 ?_
    subst h
    exact g_zret (pc := 119) dX7_isLetter_119 rfl (Or.inl rfl) rfl rfl (Nat.le_refl _) (Nat.le_refl _)
  replace h := (if_neg c5).symm.trans h
  by_cases c6 : v0 = (103 : Int32)
  · replace h := (if_pos c6).symm.trans h
    refine g_tableIn (tgt := 116) (off := 115) (pc := 1) dX7_isLetter_1 (by rw [c6]; decide) (by rw [c6]; decide) (by rw [c6]; rfl) (by decide) ?_
    refine g_iconst (pc := 116) dX7_isLetter_116 ic_1 ?_
    subst h
    exact g_zret (pc := 117) dX7_isLetter_117 rfl (Or.inr rfl) rfl rfl (Nat.le_refl _) (Nat.le_refl _)
  replace h := (if_neg c6).symm.trans h
  by_cases c7 : v0 = (104 : Int32)
  · replace h := (if_pos c7).symm.trans h
    refine g_tableIn (tgt := 118) (off := 117) (pc := 1) dX7_isLetter_1 (by rw [c7]; decide) (by rw [c7]; decide) (by rw [c7]; rfl) (by decide) ?_
    refine g_iconst (pc := 118) dX7_isLetter_118 ic_0 ?_
    subst h
    exact g_zret (pc := 119) dX7_isLetter_119 rfl (Or.inl rfl) rfl rfl (Nat.le_refl _) (Nat.le_refl _)
  replace h := (if_neg c7).symm.trans h
  by_cases c8 : v0 = (105 : Int32)
  · replace h := (if_pos c8).symm.trans h
    refine g_tableIn (tgt := 118) (off := 117) (pc := 1) dX7_isLetter_1 (by rw [c8]; decide) (by rw [c8]; decide) (by rw [c8]; rfl) (by decide) ?_
    refine g_iconst (pc := 118) dX7_isLetter_118 ic_0 ?_
    subst h
    exact g_zret (pc := 119) dX7_isLetter_119 rfl (Or.inl rfl) rfl rfl (Nat.le_refl _) (Nat.le_refl _)
  replace h := (if_neg c8).symm.trans h
  by_cases c9 : v0 = (106 : Int32)
  · replace h := (if_pos c9).symm.trans h
    refine g_tableIn (tgt := 118) (off := 117) (pc := 1) dX7_isLetter_1 (by rw [c9]; decide) (by rw [c9]; decide) (by rw [c9]; rfl) (by decide) ?_
    refine g_iconst (pc := 118) dX7_isLetter_118 ic_0 ?_
    subst h
    exact g_zret (pc := 119) dX7_isLetter_119 rfl (Or.inl rfl) rfl rfl (Nat.le_refl _) (Nat.le_refl _)
  replace h := (if_neg c9).symm.trans h
  by_cases c10 : v0 = (107 : Int32)
  · replace h := (if_pos c10).symm.trans h
    refine g_tableIn (tgt := 116) (off := 115) (pc := 1) dX7_isLetter_1 (by rw [c10]; decide) (by rw [c10]; decide) (by rw [c10]; rfl) (by decide) ?_
    refine g_iconst (pc := 116) dX7_isLetter_116 ic_1 ?_
    subst h
    exact g_zret (pc := 117) dX7_isLetter_117 rfl (Or.inr rfl) rfl rfl (Nat.le_refl _) (Nat.le_refl _)
  replace h := (if_neg c10).symm.trans h
  by_cases c11 : v0 = (108 : Int32)
  · replace h := (if_pos c11).symm.trans h
    refine g_tableIn (tgt := 116) (off := 115) (pc := 1) dX7_isLetter_1 (by rw [c11]; decide) (by rw [c11]; decide) (by rw [c11]; rfl) (by decide) ?_
    refine g_iconst (pc := 116) dX7_isLetter_116 ic_1 ?_
    subst h
    exact g_zret (pc := 117) dX7_isLetter_117 rfl (Or.inr rfl) rfl rfl (Nat.le_refl _) (Nat.le_refl _)
  replace h := (if_neg c11).symm.trans h
  by_cases c12 : v0 = (109 : Int32)
  · replace h := (if_pos c12).symm.trans h
    refine g_tableIn (tgt := 116) (off := 115) (pc := 1) dX7_isLetter_1 (by rw [c12]; decide) (by rw [c12]; decide) (by rw [c12]; rfl) (by decide) ?_
    refine g_iconst (pc := 116) dX7_isLetter_116 ic_1 ?_
    subst h
    exact g_zret (pc := 117) dX7_isLetter_117 rfl (Or.inr rfl) rfl rfl (Nat.le_refl _) (Nat.le_refl _)
  replace h := (if_neg c12).symm.trans h
  by_cases c13 : v0 = (110 : Int32)
  · replace h := (if_pos c13).symm.trans h
    refine g_tableIn (tgt := 116) (off := 115) (pc := 1) dX7_isLetter_1 (by rw [c13]; decide) (by rw [c13]; decide) (by rw [c13]; rfl) (by decide) ?_
    refine g_iconst (pc := 116) dX7_isLetter_116 ic_1 ?_
    subst h
    exact g_zret (pc := 117) dX7_isLetter_117 rfl (Or.inr rfl) rfl rfl (Nat.le_refl _) (Nat.le_refl _)
  replace h := (if_neg c13).symm.trans h
  by_cases c14 : v0 = (111 : Int32)
  · replace h := (if_pos c14).symm.trans h
    refine g_tableIn (tgt := 116) (off := 115) (pc := 1) dX7_isLetter_1 (by rw [c14]; decide) (by rw [c14]; decide) (by rw [c14]; rfl) (by decide) ?_
    refine g_iconst (pc := 116) dX7_isLetter_116 ic_1 ?_
    subst h
    exact g_zret (pc := 117) dX7_isLetter_117 rfl (Or.inr rfl) rfl rfl (Nat.le_refl _) (Nat.le_refl _)
  replace h := (if_neg c14).symm.trans h
  by_cases c15 : v0 = (112 : Int32)
  · replace h := (if_pos c15).symm.trans h
    refine g_tableIn (tgt := 116) (off := 115) (pc := 1) dX7_isLetter_1 (by rw [c15]; decide) (by rw [c15]; decide) (by rw [c15]; rfl) (by decide) ?_
    refine g_iconst (pc := 116) dX7_isLetter_116 ic_1 ?_
    subst h
    exact g_zret (pc := 117) dX7_isLetter_117 rfl (Or.inr rfl) rfl rfl (Nat.le_refl _) (Nat.le_refl _)
  replace h := (if_neg c15).symm.trans h
  by_cases c16 : v0 = (113 : Int32)
  · replace h := (if_pos c16).symm.trans h
    refine g_tableIn (tgt := 116) (off := 115) (pc := 1) dX7_isLetter_1 (by rw [c16]; decide) (by rw [c16]; decide) (by rw [c16]; rfl) (by decide) ?_
    refine g_iconst (pc := 116) dX7_isLetter_116 ic_1 ?_
    subst h
    exact g_zret (pc := 117) dX7_isLetter_117 rfl (Or.inr rfl) rfl rfl (Nat.le_refl _) (Nat.le_refl _)
  replace h := (if_neg c16).symm.trans h
  by_cases c17 : v0 = (114 : Int32)
  · replace h := (if_pos c17).symm.trans h
    refine g_tableIn (tgt := 116) (off := 115) (pc := 1) dX7_isLetter_1 (by rw [c17]; decide) (by rw [c17]; decide) (by rw [c17]; rfl) (by decide) ?_
    refine g_iconst (pc := 116) dX7_isLetter_116 ic_1 ?_
    subst h
    exact g_zret (pc := 117) dX7_isLetter_117 rfl (Or.inr rfl) rfl rfl (Nat.le_refl _) (Nat.le_refl _)
  replace h := (if_neg c17).symm.trans h
  by_cases c18 : v0 = (115 : Int32)
  · replace h := (if_pos c18).symm.trans h
    refine g_tableIn (tgt := 116) (off := 115) (pc := 1) dX7_isLetter_1 (by rw [c18]; decide) (by rw [c18]; decide) (by rw [c18]; rfl) (by decide) ?_
    refine g_iconst (pc := 116) dX7_isLetter_116 ic_1 ?_
    subst h
    exact g_zret (pc := 117) dX7_isLetter_117 rfl (Or.inr rfl) rfl rfl (Nat.le_refl _) (Nat.le_refl _)
  replace h := (if_neg c18).symm.trans h
  by_cases c19 : v0 = (116 : Int32)
  · replace h := (if_pos c19).symm.trans h
    refine g_tableIn (tgt := 118) (off := 117) (pc := 1) dX7_isLetter_1 (by rw [c19]; decide) (by rw [c19]; decide) (by rw [c19]; rfl) (by decide) ?_
    refine g_iconst (pc := 118) dX7_isLetter_118 ic_0 ?_
    subst h
    exact g_zret (pc := 119) dX7_isLetter_119 rfl (Or.inl rfl) rfl rfl (Nat.le_refl _) (Nat.le_refl _)
  replace h := (if_neg c19).symm.trans h
  by_cases c20 : v0 = (117 : Int32)
  · replace h := (if_pos c20).symm.trans h
    refine g_tableIn (tgt := 118) (off := 117) (pc := 1) dX7_isLetter_1 (by rw [c20]; decide) (by rw [c20]; decide) (by rw [c20]; rfl) (by decide) ?_
    refine g_iconst (pc := 118) dX7_isLetter_118 ic_0 ?_
    subst h
    exact g_zret (pc := 119) dX7_isLetter_119 rfl (Or.inl rfl) rfl rfl (Nat.le_refl _) (Nat.le_refl _)
  replace h := (if_neg c20).symm.trans h
  by_cases c21 : v0 = (118 : Int32)
  · replace h := (if_pos c21).symm.trans h
    refine g_tableIn (tgt := 116) (off := 115) (pc := 1) dX7_isLetter_1 (by rw [c21]; decide) (by rw [c21]; decide) (by rw [c21]; rfl) (by decide) ?_
    refine g_iconst (pc := 116) dX7_isLetter_116 ic_1 ?_
    subst h
    exact g_zret (pc := 117) dX7_isLetter_117 rfl (Or.inr rfl) rfl rfl (Nat.le_refl _) (Nat.le_refl _)
  replace h := (if_neg c21).symm.trans h
  by_cases c22 : v0 = (119 : Int32)
  · replace h := (if_pos c22).symm.trans h
    refine g_tableIn (tgt := 116) (off := 115) (pc := 1) dX7_isLetter_1 (by rw [c22]; decide) (by rw [c22]; decide) (by rw [c22]; rfl) (by decide) ?_
    refine g_iconst (pc := 116) dX7_isLetter_116 ic_1 ?_
    subst h
    exact g_zret (pc := 117) dX7_isLetter_117 rfl (Or.inr rfl) rfl rfl (Nat.le_refl _) (Nat.le_refl _)
  replace h := (if_neg c22).symm.trans h
  by_cases c23 : v0 = (120 : Int32)
  · replace h := (if_pos c23).symm.trans h
    refine g_tableIn (tgt := 118) (off := 117) (pc := 1) dX7_isLetter_1 (by rw [c23]; decide) (by rw [c23]; decide) (by rw [c23]; rfl) (by decide) ?_
    refine g_iconst (pc := 118) dX7_isLetter_118 ic_0 ?_
    subst h
    exact g_zret (pc := 119) dX7_isLetter_119 rfl (Or.inl rfl) rfl rfl (Nat.le_refl _) (Nat.le_refl _)
  replace h := (if_neg c23).symm.trans h
  by_cases c24 : v0 = (121 : Int32)
  · replace h := (if_pos c24).symm.trans h
    refine g_tableIn (tgt := 118) (off := 117) (pc := 1) dX7_isLetter_1 (by rw [c24]; decide) (by rw [c24]; decide) (by rw [c24]; rfl) (by decide) ?_
    refine g_iconst (pc := 118) dX7_isLetter_118 ic_0 ?_
    subst h
    exact g_zret (pc := 119) dX7_isLetter_119 rfl (Or.inl rfl) rfl rfl (Nat.le_refl _) (Nat.le_refl _)
  replace h := (if_neg c24).symm.trans h
  by_cases c25 : v0 = (122 : Int32)
  · replace h := (if_pos c25).symm.trans h
    refine g_tableIn (tgt := 116) (off := 115) (pc := 1) dX7_isLetter_1 (by rw [c25]; decide) (by rw [c25]; decide) (by rw [c25]; rfl) (by decide) ?_
    refine g_iconst (pc := 116) dX7_isLetter_116 ic_1 ?_
    subst h
    exact g_zret (pc := 117) dX7_isLetter_117 rfl (Or.inr rfl) rfl rfl (Nat.le_refl _) (Nat.le_refl _)
  replace h := (if_neg c25).symm.trans h
  have c1i := i32_ne c1 (m := 98) (by decide)
  have c2i := i32_ne c2 (m := 99) (by decide)
  have c3i := i32_ne c3 (m := 100) (by decide)
  have c4i := i32_ne c4 (m := 101) (by decide)
  have c5i := i32_ne c5 (m := 102) (by decide)
  have c6i := i32_ne c6 (m := 103) (by decide)
  have c7i := i32_ne c7 (m := 104) (by decide)
  have c8i := i32_ne c8 (m := 105) (by decide)
  have c9i := i32_ne c9 (m := 106) (by decide)
  have c10i := i32_ne c10 (m := 107) (by decide)
  have c11i := i32_ne c11 (m := 108) (by decide)
  have c12i := i32_ne c12 (m := 109) (by decide)
  have c13i := i32_ne c13 (m := 110) (by decide)
  have c14i := i32_ne c14 (m := 111) (by decide)
  have c15i := i32_ne c15 (m := 112) (by decide)
  have c16i := i32_ne c16 (m := 113) (by decide)
  have c17i := i32_ne c17 (m := 114) (by decide)
  have c18i := i32_ne c18 (m := 115) (by decide)
  have c19i := i32_ne c19 (m := 116) (by decide)
  have c20i := i32_ne c20 (m := 117) (by decide)
  have c21i := i32_ne c21 (m := 118) (by decide)
  have c22i := i32_ne c22 (m := 119) (by decide)
  have c23i := i32_ne c23 (m := 120) (by decide)
  have c24i := i32_ne c24 (m := 121) (by decide)
  have c25i := i32_ne c25 (m := 122) (by decide)
  refine g_tableOut (tgt := 118) (pc := 1) dX7_isLetter_1 (by omega) (by decide) ?_
  refine g_iconst (pc := 118) dX7_isLetter_118 ic_0 ?_
  subst h
  exact g_zret (pc := 119) dX7_isLetter_119 rfl (Or.inl rfl) rfl rfl (Nat.le_refl _) (Nat.le_refl _)
set_option maxRecDepth 100000 in
set_option maxHeartbeats 4000000 in
theorem M_X7_isLetter {sc : Nat × (Nat → Int32)} {d : Nat} (hd : 0 ≤ d) {r : Int32} {u : xS} {a0 : Int32} (h : f_X7_isLetter a0 = r) : xMt sc mX7_isLetter d 0 0 [.int a0] (xL0, u) (some (.int r)) (xL0, u) :=
  xMt.of (by decide +kernel) (Nat.le_of_ble_eq_true rfl) (L := [some (.int a0)]) rfl ((G_X7_isLetter_0 hd a0 h))
set_option maxRecDepth 100000 in
set_option maxHeartbeats 4000000 in
theorem G_X7_begins_25 {sc : Nat × (Nat → Int32)} {d : Nat} (hd : 2 ≤ d) {r : Int32} {u' : xS} (s1 : Int32) (u : xS) (h : f_X7_begins_25 s1 u = some (r, u')) : xG sc mX7_begins d 0 0 (xR (some (.int r)) (xL0, u') 0 0) 0 0 25 [none, none] [.int s1, .ref 54] (xL0, u) := by
  rw [f_X7_begins_25] at h
  obtain ⟨u2, e1, h⟩ := x_bind h
  refine g_cV (pc := 25) dX7_begins_25 cV_RX7_60 (M_X7_hold (Nat.le_refl _) e1) xc_54 (as := [.int s1]) (st := []) rfl rfl (Nat.le_of_ble_eq_true rfl) (Nat.le_trans (Nat.le_of_ble_eq_true rfl) hd) rfl ?_
  refine g_iconst (pc := 28) dX7_begins_28 ic_1 ?_
  cases h
  exact g_zret (pc := 29) dX7_begins_29 rfl (Or.inr rfl) rfl rfl (Nat.le_refl _) (Nat.le_refl _)
set_option maxRecDepth 100000 in
set_option maxHeartbeats 4000000 in
theorem G_X7_begins_12 {sc : Nat × (Nat → Int32)} {d : Nat} (hd : 2 ≤ d) {r : Int32} {u' : xS} (v1 : Int32) (u : xS) (h : f_X7_begins_12 v1 u = some (r, u')) : xG sc mX7_begins d 0 0 (xR (some (.int r)) (xL0, u') 0 0) 0 0 12 [some (.ref 54), some (.int v1)] [] (xL0, u) := by
  rw [f_X7_begins_12] at h
  refine g_aload_n (pc := 12) dX7_begins_12 rfl ?_
  refine g_iload_n (pc := 13) dX7_begins_13 rfl ?_
  refine g_bipush (pc := 14) dX7_begins_14 bp_45 ?_
  refine g_icmp_ne (tgt := 24) (pc := 16) dX7_begins_16 (by decide) (fun c1 => ?_) (fun c1 => ?_)
  · replace h := (if_neg c1).symm.trans h
    refine g_iload_n (pc := 24) dX7_begins_24 rfl ?_
    refine g_L (L' := [none, none]) trivial ?_
    exact G_X7_begins_25 hd v1 u h
  · replace h := (if_pos c1).symm.trans h
    refine g_bipush (pc := 19) dX7_begins_19 bp_126 ?_
    refine g_goto (tgt := 25) (pc := 21) dX7_begins_21 (by decide) ?_
    refine g_L (L' := [none, none]) trivial ?_
    exact G_X7_begins_25 hd (126 : Int32) u h
set_option maxRecDepth 100000 in
set_option maxHeartbeats 4000000 in
theorem G_X7_begins_118 {sc : Nat × (Nat → Int32)} {d : Nat} (hd : 2 ≤ d) {r : Int32} {u' : xS} (u : xS) (h : f_X7_begins_118 u = some (r, u')) : xG sc mX7_begins d 0 0 (xR (some (.int r)) (xL0, u') 0 0) 0 0 118 [some (.ref 54), none] [] (xL0, u) := by
  rw [f_X7_begins_118] at h
  refine g_aload_n (pc := 118) dX7_begins_118 rfl ?_
  refine g_iconst (pc := 119) dX7_begins_119 ic_0 ?_
  refine g_pZ (pc := 120) dX7_begins_120 pZ_RX7_26 xc_54 (Or.inl rfl) (u' := (wr u 54 7 (0 : Int32))) rfl ?_
  refine g_iconst (pc := 123) dX7_begins_123 ic_1 ?_
  cases h
  exact g_zret (pc := 124) dX7_begins_124 rfl (Or.inr rfl) rfl rfl (Nat.le_refl _) (Nat.le_refl _)
set_option maxRecDepth 100000 in
set_option maxHeartbeats 4000000 in
theorem G_X7_begins_0 {sc : Nat × (Nat → Int32)} {d : Nat} (hd : 2 ≤ d) {r : Int32} {u' : xS} (v1 : Int32) (u : xS) (h : f_X7_begins v1 u = some (r, u')) : xG sc mX7_begins d 0 0 (xR (some (.int r)) (xL0, u') 0 0) 0 0 0 [some (.ref 54), some (.int v1)] [] (xL0, u) := by
  rw [f_X7_begins] at h
  refine g_iload_n (pc := 0) dX7_begins_0 rfl ?_
  refine g_bipush (pc := 1) dX7_begins_1 bp_33 ?_
  refine g_icmp_eq (tgt := 12) (pc := 3) dX7_begins_3 (by decide) (fun c1 => ?_) (fun c1 => ?_)
  · replace h := (if_pos c1).symm.trans h
    exact G_X7_begins_12 hd v1 u h
  · replace h := (if_neg c1).symm.trans h
    refine g_iload_n (pc := 6) dX7_begins_6 rfl ?_
    refine g_bipush (pc := 7) dX7_begins_7 bp_45 ?_
    refine g_icmp_ne (tgt := 30) (pc := 9) dX7_begins_9 (by decide) (fun c2 => ?_) (fun c2 => ?_)
    · replace h := (if_neg c2).symm.trans h
      refine g_iload_n (pc := 30) dX7_begins_30 rfl ?_
      refine g_bipush (pc := 31) dX7_begins_31 bp_40 ?_
      refine g_icmp_ne (tgt := 72) (pc := 33) dX7_begins_33 (by decide) (fun c3 => ?_) (fun c3 => ?_)
      · replace h := (if_neg c3).symm.trans h
        refine g_iload_n (pc := 72) dX7_begins_72 rfl ?_
        refine g_cS (pc := 73) dX7_begins_73 cS_RX7_63 (M_X7_isDigit (Nat.le_refl _) rfl) (as := [.int v1]) (st := []) rfl rfl (Nat.le_of_ble_eq_true rfl) (Nat.le_trans (Nat.le_of_ble_eq_true rfl) hd) rfl ?_
        refine g_if_eq (tgt := 95) (pc := 76) dX7_begins_76 (by decide) (fun c4 => ?_) (fun c4 => ?_)
        · replace h := (if_pos c4).symm.trans h
          refine g_iload_n (pc := 95) dX7_begins_95 rfl ?_
          refine g_cS (pc := 96) dX7_begins_96 cS_RX7_66 (M_X7_isLetter (Nat.le_refl _) rfl) (as := [.int v1]) (st := []) rfl rfl (Nat.le_of_ble_eq_true rfl) (Nat.le_trans (Nat.le_of_ble_eq_true rfl) hd) rfl ?_
          refine g_if_eq (tgt := 116) (pc := 99) dX7_begins_99 (by decide) (fun c5 => ?_) (fun c5 => ?_)
          · replace h := (if_pos c5).symm.trans h
            refine g_iconst (pc := 116) dX7_begins_116 ic_0 ?_
            cases h
            exact g_zret (pc := 117) dX7_begins_117 rfl (Or.inl rfl) rfl rfl (Nat.le_refl _) (Nat.le_refl _)
          · replace h := (if_neg c5).symm.trans h
            refine g_aload_n (pc := 102) dX7_begins_102 rfl ?_
            refine g_iload_n (pc := 103) dX7_begins_103 rfl ?_
            refine g_ineg (pc := 104) dX7_begins_104 rfl ?_
            obtain ⟨u7, e6, h⟩ := x_bind h
            refine g_cV (pc := 105) dX7_begins_105 cV_RX7_45 (M_X7_emit (Nat.le_refl _) e6) xc_54 (as := [.int (-v1)]) (st := []) rfl rfl (Nat.le_of_ble_eq_true rfl) (Nat.le_trans (Nat.le_of_ble_eq_true rfl) hd) rfl ?_
            refine g_aload_n (pc := 108) dX7_begins_108 rfl ?_
            refine g_iconst (pc := 109) dX7_begins_109 ic_0 ?_
            refine g_pI (pc := 110) dX7_begins_110 pI_RX7_54 xc_54 (u' := (wr u7 54 6 (0 : Int32))) rfl ?_
            refine g_goto (tgt := 118) (pc := 113) dX7_begins_113 (by decide) ?_
            refine g_L (L' := [some (.ref 54), none]) ⟨rfl, trivial⟩ ?_
            exact G_X7_begins_118 hd (wr u7 54 6 (0 : Int32)) h
        · replace h := (if_neg c4).symm.trans h
          refine g_aload_n (pc := 79) dX7_begins_79 rfl ?_
          refine g_iload_n (pc := 80) dX7_begins_80 rfl ?_
          refine g_bipush (pc := 81) dX7_begins_81 bp_48 ?_
          refine g_isub (pc := 83) dX7_begins_83 rfl ?_
          obtain ⟨u9, e8, h⟩ := x_bind h
          refine g_cV (pc := 84) dX7_begins_84 cV_RX7_45 (M_X7_emit (Nat.le_refl _) e8) xc_54 (as := [.int (v1 - (48 : Int32))]) (st := []) rfl rfl (Nat.le_of_ble_eq_true rfl) (Nat.le_trans (Nat.le_of_ble_eq_true rfl) hd) rfl ?_
          refine g_aload_n (pc := 87) dX7_begins_87 rfl ?_
          refine g_iconst (pc := 88) dX7_begins_88 ic_1 ?_
          refine g_pI (pc := 89) dX7_begins_89 pI_RX7_54 xc_54 (u' := (wr u9 54 6 (1 : Int32))) rfl ?_
          refine g_goto (tgt := 118) (pc := 92) dX7_begins_92 (by decide) ?_
          refine g_L (L' := [some (.ref 54), none]) ⟨rfl, trivial⟩ ?_
          exact G_X7_begins_118 hd (wr u9 54 6 (1 : Int32)) h
      · replace h := (if_pos c3).symm.trans h
        refine g_aload_n (pc := 36) dX7_begins_36 rfl ?_
        refine g_iload_n (pc := 37) dX7_begins_37 rfl ?_
        obtain ⟨u11, e10, h⟩ := x_bind h
        refine g_cV (pc := 38) dX7_begins_38 cV_RX7_60 (M_X7_hold (Nat.le_refl _) e10) xc_54 (as := [.int v1]) (st := []) rfl rfl (Nat.le_of_ble_eq_true rfl) (Nat.le_trans (Nat.le_of_ble_eq_true rfl) hd) rfl ?_
        refine g_aload_n (pc := 41) dX7_begins_41 rfl ?_
        refine g_dup (pc := 42) dX7_begins_42 rfl ?_
        refine g_gI (pc := 43) dX7_begins_43 fI_RX7_37 xc_54 (v := (rd u11 54 5)) rfl ?_
        refine g_iconst (pc := 46) dX7_begins_46 ic_1 ?_
        refine g_iadd (pc := 47) dX7_begins_47 rfl ?_
        refine g_pI (pc := 48) dX7_begins_48 pI_RX7_37 xc_54 (u' := (wr u11 54 5 ((rd u11 54 5) + (1 : Int32)))) rfl ?_
        refine g_aload_n (pc := 51) dX7_begins_51 rfl ?_
        refine g_gI (pc := 52) dX7_begins_52 fI_RX7_37 xc_54 (v := ((rd u11 54 5) + (1 : Int32))) rfl ?_
        refine g_bipush (pc := 55) dX7_begins_55 bp_64 ?_
        refine g_icmp_ge (tgt := 70) (pc := 57) dX7_begins_57 (by decide) (fun c12 => ?_) (fun c12 => ?_)
        · replace h := (if_pos c12).symm.trans h
          refine g_iconst (pc := 70) dX7_begins_70 ic_1 ?_
          cases h
          exact g_zret (pc := 71) dX7_begins_71 rfl (Or.inr rfl) rfl rfl (Nat.le_refl _) (Nat.le_refl _)
        · replace h := (if_neg c12).symm.trans h
          refine g_aload_n (pc := 60) dX7_begins_60 rfl ?_
          refine g_gR (pc := 61) dX7_begins_61 fR_RX7_18 xc_54 (v := 57) rfl ?_
          refine g_aload_n (pc := 64) dX7_begins_64 rfl ?_
          refine g_gI (pc := 65) dX7_begins_65 fI_RX7_37 xc_54 (v := ((rd u11 54 5) + (1 : Int32))) rfl ?_
          refine g_iconst (pc := 68) dX7_begins_68 ic_0 ?_
          obtain ⟨g13, h⟩ := x_gd h
          refine g_bastoreB (pc := 69) dX7_begins_69 xc_57 (xin_of g13) (Or.inl rfl) (u' := (wr (wr u11 54 5 ((rd u11 54 5) + (1 : Int32))) 57 ((rd u11 54 5) + (1 : Int32)).toNatClampNeg (0 : Int32))) rfl ?_
          refine g_iconst (pc := 70) dX7_begins_70 ic_1 ?_
          cases h
          exact g_zret (pc := 71) dX7_begins_71 rfl (Or.inr rfl) rfl rfl (Nat.le_refl _) (Nat.le_refl _)
    · replace h := (if_pos c2).symm.trans h
      exact G_X7_begins_12 hd v1 u h
set_option maxRecDepth 100000 in
set_option maxHeartbeats 4000000 in
theorem M_X7_begins {sc : Nat × (Nat → Int32)} {d : Nat} (hd : 2 ≤ d) {r : Int32} {u u' : xS} {a1 : Int32} (h : f_X7_begins a1 u = some (r, u')) : xMt sc mX7_begins d 0 0 [.ref 54, .int a1] (xL0, u) (some (.int r)) (xL0, u') :=
  xMt.of (by decide +kernel) (Nat.le_of_ble_eq_true rfl) (L := [some (.ref 54), some (.int a1)]) rfl ((G_X7_begins_0 hd a1 u h))
set_option maxRecDepth 100000 in
set_option maxHeartbeats 4000000 in
theorem G_X7_begin_0 {sc : Nat × (Nat → Int32)} {d : Nat} (hd : 0 ≤ d) {u' : xS} (v1 : Int32) (u : xS) (h : f_X7_begin v1 u = some u') : xG sc mX7_begin d 0 0 (xR none (xL0, u') 0 0) 0 0 0 [some (.ref 54), some (.int v1)] [] (xL0, u) := by
  rw [f_X7_begin] at h
  refine g_aload_n (pc := 0) dX7_begin_0 rfl ?_
  refine g_iconst (pc := 1) dX7_begin_1 ic_0 ?_
  refine g_pI (pc := 2) dX7_begin_2 pI_RX7_48 xc_54 (u' := (wr u 54 1 (0 : Int32))) rfl ?_
  refine g_aload_n (pc := 5) dX7_begin_5 rfl ?_
  refine g_iconst (pc := 6) dX7_begin_6 ic_0 ?_
  refine g_pI (pc := 7) dX7_begin_7 pI_RX7_51 xc_54 (u' := (wr (wr u 54 1 (0 : Int32)) 54 3 (0 : Int32))) rfl ?_
  refine g_aload_n (pc := 10) dX7_begin_10 rfl ?_
  refine g_iconst (pc := 11) dX7_begin_11 ic_0 ?_
  refine g_pI (pc := 12) dX7_begin_12 pI_RX7_37 xc_54 (u' := (wr (wr (wr u 54 1 (0 : Int32)) 54 3 (0 : Int32)) 54 5 (0 : Int32))) rfl ?_
  refine g_aload_n (pc := 15) dX7_begin_15 rfl ?_
  refine g_iconst (pc := 16) dX7_begin_16 ic_0 ?_
  refine g_pI (pc := 17) dX7_begin_17 pI_RX7_54 xc_54 (u' := (wr (wr (wr (wr u 54 1 (0 : Int32)) 54 3 (0 : Int32)) 54 5 (0 : Int32)) 54 6 (0 : Int32))) rfl ?_
  refine g_aload_n (pc := 20) dX7_begin_20 rfl ?_
  refine g_gR (pc := 21) dX7_begin_21 fR_RX7_18 xc_54 (v := 57) rfl ?_
  refine g_iconst (pc := 24) dX7_begin_24 ic_0 ?_
  refine g_iconst (pc := 25) dX7_begin_25 ic_0 ?_
  refine g_bastoreB (pc := 26) dX7_begin_26 xc_57 vin_0_64 (Or.inl rfl) (u' := (wr (wr (wr (wr (wr u 54 1 (0 : Int32)) 54 3 (0 : Int32)) 54 5 (0 : Int32)) 54 6 (0 : Int32)) 57 0 (0 : Int32))) rfl ?_
  refine g_aload_n (pc := 27) dX7_begin_27 rfl ?_
  refine g_iconst (pc := 28) dX7_begin_28 ic_1 ?_
  refine g_pZ (pc := 29) dX7_begin_29 pZ_RX7_26 xc_54 (Or.inr rfl) (u' := (wr (wr (wr (wr (wr (wr u 54 1 (0 : Int32)) 54 3 (0 : Int32)) 54 5 (0 : Int32)) 54 6 (0 : Int32)) 57 0 (0 : Int32)) 54 7 (1 : Int32))) rfl ?_
  refine g_aload_n (pc := 32) dX7_begin_32 rfl ?_
  refine g_iload_n (pc := 33) dX7_begin_33 rfl ?_
  obtain ⟨g1, h⟩ := x_gd h
  refine g_pZ (pc := 34) dX7_begin_34 pZ_RX7_57 xc_54 (xb_of g1) (u' := (wr (wr (wr (wr (wr (wr (wr u 54 1 (0 : Int32)) 54 3 (0 : Int32)) 54 5 (0 : Int32)) 54 6 (0 : Int32)) 57 0 (0 : Int32)) 54 7 (1 : Int32)) 54 8 v1)) rfl ?_
  cases h
  exact g_ret (pc := 37) dX7_begin_37 rfl rfl rfl (Nat.le_refl _) (Nat.le_refl _)
set_option maxRecDepth 100000 in
set_option maxHeartbeats 4000000 in
theorem M_X7_begin {sc : Nat × (Nat → Int32)} {d : Nat} (hd : 0 ≤ d) {u u' : xS} {a1 : Int32} (h : f_X7_begin a1 u = some u') : xMt sc mX7_begin d 0 0 [.ref 54, .int a1] (xL0, u) none (xL0, u') :=
  xMt.of (by decide +kernel) (Nat.le_of_ble_eq_true rfl) (L := [some (.ref 54), some (.int a1)]) rfl ((G_X7_begin_0 hd a1 u h))
set_option maxRecDepth 100000 in
set_option maxHeartbeats 4000000 in
theorem G_X7_read_69 {sc : Nat × (Nat → Int32)} {d : Nat} (hd : 4 ≤ d) {r : Int32} {u' : xS} (v2 : Int32) (v3 : Int32) (u : xS) (h : f_X7_read_69 v2 v3 u = some (r, u')) : xG sc mX7_read d 0 0 (xR (some (.int r)) (xL0, u') 0 0) 0 0 69 [some (.ref 54), none, some (.int v2), some (.int v3), none] [] (xL0, u) := by
  rw [f_X7_read_69] at h
  refine g_iload_n (pc := 69) dX7_read_69 rfl ?_
  refine g_bipush (pc := 70) dX7_read_70 bp_60 ?_
  refine g_icmp_le (tgt := 78) (pc := 72) dX7_read_72 (by decide) (fun c1 => ?_) (fun c1 => ?_)
  · replace h := (if_pos c1).symm.trans h
    refine g_aload_n (pc := 78) dX7_read_78 rfl ?_
    refine g_gI (pc := 79) dX7_read_79 fI_RX7_26 xc_54 (v := (rd u 54 7)) rfl ?_
    refine g_if_ne (tgt := 92) (pc := 82) dX7_read_82 (by decide) (fun c2 => ?_) (fun c2 => ?_)
    · replace h := (if_neg c2).symm.trans h
      refine g_iload_n (pc := 92) dX7_read_92 rfl ?_
      cases h
      exact g_iret (pc := 93) dX7_read_93 rfl rfl rfl (Nat.le_refl _) (Nat.le_refl _)
    · replace h := (if_pos c2).symm.trans h
      refine g_aload_n (pc := 85) dX7_read_85 rfl ?_
      refine g_gI (pc := 86) dX7_read_86 fI_RX7_37 xc_54 (v := (rd u 54 5)) rfl ?_
      refine g_if_le (tgt := 94) (pc := 89) dX7_read_89 (by decide) (fun c3 => ?_) (fun c3 => ?_)
      · replace h := (if_pos c3).symm.trans h
        refine g_aload_n (pc := 94) dX7_read_94 rfl ?_
        refine g_iconst (pc := 95) dX7_read_95 ic_1 ?_
        obtain ⟨u5, e4, h⟩ := x_bind h
        refine g_cV (pc := 96) dX7_read_96 cV_RX7_41 (M_X7_bringOut (Nat.le_refl _) e4) xc_54 (as := [.int (1 : Int32)]) (st := []) rfl rfl (Nat.le_of_ble_eq_true rfl) (Nat.le_trans (Nat.le_of_ble_eq_true rfl) hd) rfl ?_
        refine g_iload_n (pc := 99) dX7_read_99 rfl ?_
        refine g_if_eq (tgt := 109) (pc := 100) dX7_read_100 (by decide) (fun c6 => ?_) (fun c6 => ?_)
        · replace h := (if_pos c6).symm.trans h
          refine g_iconst (pc := 109) dX7_read_109 ic_m1 ?_
          cases h
          exact g_iret (pc := 110) dX7_read_110 rfl rfl rfl (Nat.le_refl _) (Nat.le_refl _)
        · replace h := (if_neg c6).symm.trans h
          refine g_aload_n (pc := 103) dX7_read_103 rfl ?_
          refine g_bipush (pc := 104) dX7_read_104 bp_m59 ?_
          obtain ⟨u8, e7, h⟩ := x_bind h
          refine g_cV (pc := 106) dX7_read_106 cV_RX7_45 (M_X7_emit (Nat.le_refl _) e7) xc_54 (as := [.int (-59 : Int32)]) (st := []) rfl rfl (Nat.le_of_ble_eq_true rfl) (Nat.le_trans (Nat.le_of_ble_eq_true rfl) hd) rfl ?_
          refine g_iconst (pc := 109) dX7_read_109 ic_m1 ?_
          cases h
          exact g_iret (pc := 110) dX7_read_110 rfl rfl rfl (Nat.le_refl _) (Nat.le_refl _)
      · replace h := (if_neg c3).symm.trans h
        refine g_iload_n (pc := 92) dX7_read_92 rfl ?_
        cases h
        exact g_iret (pc := 93) dX7_read_93 rfl rfl rfl (Nat.le_refl _) (Nat.le_refl _)
  · replace h := (if_neg c1).symm.trans h
    refine g_bipush (pc := 75) dX7_read_75 bp_60 ?_
    cases h
    exact g_iret (pc := 77) dX7_read_77 rfl rfl rfl (Nat.le_refl _) (Nat.le_refl _)
set_option maxRecDepth 100000 in
set_option maxHeartbeats 4000000 in
theorem G_X7_read_63 {sc : Nat × (Nat → Int32)} {d : Nat} (hd : 4 ≤ d) {r : Int32} {u' : xS} {k8 : Nat → Int32 → Int32 → Int32 → xS → Option (Int32 × xS)} (hk8 : ∀ (v1 : Nat) (v2 : Int32) (v3 : Int32) (v4 : Int32) (u : xS), k8 v1 v2 v3 v4 u = some (r, u') → xG sc mX7_read d 0 0 (xR (some (.int r)) (xL0, u') 0 0) 0 0 8 [some (.ref 54), some (.ref v1), some (.int v2), some (.int v3), some (.int v4)] [] (xL0, u)) (v1 : Nat) (v2 : Int32) (v3 : Int32) (v4 : Int32) (u : xS) (h : f_X7_read_63 k8 v1 v2 v3 v4 u = some (r, u')) : xG sc mX7_read d 0 0 (xR (some (.int r)) (xL0, u') 0 0) 0 0 63 [some (.ref 54), some (.ref v1), some (.int v2), some (.int v3), some (.int v4)] [] (xL0, u) := by
  rw [f_X7_read_63] at h
  refine g_inc (pc := 63) dX7_read_63 (Nat.le_of_ble_eq_true rfl) rfl ic_1 (L' := [some (.ref 54), some (.ref v1), some (.int v2), some (.int v3), some (.int (v4 + (1 : Int32)))]) rfl ?_
  refine g_goto (tgt := 8) (pc := 66) dX7_read_66 (by decide) ?_
  exact hk8 v1 v2 v3 (v4 + (1 : Int32)) u h
set_option maxRecDepth 100000 in
set_option maxHeartbeats 4000000 in
theorem G_X7_read_8 {sc : Nat × (Nat → Int32)} {d : Nat} (hd : 4 ≤ d) {r : Int32} {u' : xS} : ∀ (n : Nat) (v1 : Nat) (v2 : Int32) (v3 : Int32) (v4 : Int32) (u : xS), f_X7_read_8 n v1 v2 v3 v4 u = some (r, u') → xG sc mX7_read d 0 0 (xR (some (.int r)) (xL0, u') 0 0) 0 0 8 [some (.ref 54), some (.ref v1), some (.int v2), some (.int v3), some (.int v4)] [] (xL0, u) := by
  intro n
  induction n with
  | zero =>
    intro v1 v2 v3 v4 u h
    rw [f_X7_read_8] at h
    cases h
  | succ n ih =>
    intro v1 v2 v3 v4 u h
    rw [f_X7_read_8] at h
    refine g_iload (pc := 8) dX7_read_8 rfl ?_
    refine g_iload_n (pc := 10) dX7_read_10 rfl ?_
    refine g_icmp_ge (tgt := 69) (pc := 11) dX7_read_11 (by decide) (fun c1 => ?_) (fun c1 => ?_)
    · replace h := (if_pos c1).symm.trans h
      refine g_L (L' := [some (.ref 54), none, some (.int v2), some (.int v3), none]) ⟨rfl, ⟨rfl, ⟨rfl, trivial⟩⟩⟩ ?_
      exact G_X7_read_69 hd v2 v3 u h
    · replace h := (if_neg c1).symm.trans h
      refine g_iload (pc := 14) dX7_read_14 rfl ?_
      refine g_bipush (pc := 16) dX7_read_16 bp_60 ?_
      refine g_icmp_ge (tgt := 69) (pc := 18) dX7_read_18 (by decide) (fun c2 => ?_) (fun c2 => ?_)
      · replace h := (if_pos c2).symm.trans h
        refine g_L (L' := [some (.ref 54), none, some (.int v2), some (.int v3), none]) ⟨rfl, ⟨rfl, ⟨rfl, trivial⟩⟩⟩ ?_
        exact G_X7_read_69 hd v2 v3 u h
      · replace h := (if_neg c2).symm.trans h
        refine g_iload (pc := 21) dX7_read_21 rfl ?_
        refine g_aload_n (pc := 23) dX7_read_23 rfl ?_
        obtain ⟨g3, h⟩ := x_gd h
        obtain ⟨q4, hq5⟩ := xisI_of g3
        refine g_alen (pc := 24) dX7_read_24 hq5 (by decide) (v := (Int32.ofNat (xlen v1))) rfl ?_
        refine g_icmp_ge (tgt := 69) (pc := 25) dX7_read_25 (by decide) (fun c6 => ?_) (fun c6 => ?_)
        · replace h := (if_pos c6).symm.trans h
          refine g_L (L' := [some (.ref 54), none, some (.int v2), some (.int v3), none]) ⟨rfl, ⟨rfl, ⟨rfl, trivial⟩⟩⟩ ?_
          exact G_X7_read_69 hd v2 v3 u h
        · replace h := (if_neg c6).symm.trans h
          refine g_aload_n (pc := 28) dX7_read_28 rfl ?_
          refine g_gI (pc := 29) dX7_read_29 fI_RX7_26 xc_54 (v := (rd u 54 7)) rfl ?_
          refine g_if_eq (tgt := 49) (pc := 32) dX7_read_32 (by decide) (fun c7 => ?_) (fun c7 => ?_)
          · replace h := (if_pos c7).symm.trans h
            refine g_aload_n (pc := 49) dX7_read_49 rfl ?_
            refine g_aload_n (pc := 50) dX7_read_50 rfl ?_
            refine g_iload (pc := 51) dX7_read_51 rfl ?_
            obtain ⟨g8, h⟩ := x_gd h
            obtain ⟨g9, h⟩ := x_gd h
            obtain ⟨q10, hq11⟩ := xisI_of g8
            refine g_iaload (pc := 53) dX7_read_53 hq11 (xin_of g9) (v := (rd u v1 v4.toNatClampNeg)) rfl ?_
            obtain ⟨⟨x13, u14⟩, e12, h⟩ := x_bind h
            dsimp only at h
            refine g_cV (pc := 54) dX7_read_54 cV_RX7_34 (M_X7_goesOn (Nat.le_refl _) e12) xc_54 (as := [.int (rd u v1 v4.toNatClampNeg)]) (st := []) rfl rfl (Nat.le_of_ble_eq_true rfl) (Nat.le_trans (Nat.le_of_ble_eq_true rfl) hd) rfl ?_
            refine g_if_ne (tgt := 63) (pc := 57) dX7_read_57 (by decide) (fun c15 => ?_) (fun c15 => ?_)
            · replace h := (if_neg c15).symm.trans h
              exact G_X7_read_63 hd ih v1 v2 v3 v4 u14 h
            · replace h := (if_pos c15).symm.trans h
              refine g_iload (pc := 60) dX7_read_60 rfl ?_
              cases h
              exact g_iret (pc := 62) dX7_read_62 rfl rfl rfl (Nat.le_refl _) (Nat.le_refl _)
          · replace h := (if_neg c7).symm.trans h
            refine g_aload_n (pc := 35) dX7_read_35 rfl ?_
            refine g_aload_n (pc := 36) dX7_read_36 rfl ?_
            refine g_iload (pc := 37) dX7_read_37 rfl ?_
            obtain ⟨g17, h⟩ := x_gd h
            obtain ⟨g18, h⟩ := x_gd h
            obtain ⟨q19, hq20⟩ := xisI_of g17
            refine g_iaload (pc := 39) dX7_read_39 hq20 (xin_of g18) (v := (rd u v1 v4.toNatClampNeg)) rfl ?_
            obtain ⟨⟨x22, u23⟩, e21, h⟩ := x_bind h
            dsimp only at h
            refine g_cV (pc := 40) dX7_read_40 cV_RX7_30 (M_X7_begins (Nat.le_refl _) e21) xc_54 (as := [.int (rd u v1 v4.toNatClampNeg)]) (st := []) rfl rfl (Nat.le_of_ble_eq_true rfl) (Nat.le_trans (Nat.le_of_ble_eq_true rfl) hd) rfl ?_
            refine g_if_eq (tgt := 60) (pc := 43) dX7_read_43 (by decide) (fun c24 => ?_) (fun c24 => ?_)
            · replace h := (if_pos c24).symm.trans h
              refine g_iload (pc := 60) dX7_read_60 rfl ?_
              cases h
              exact g_iret (pc := 62) dX7_read_62 rfl rfl rfl (Nat.le_refl _) (Nat.le_refl _)
            · replace h := (if_neg c24).symm.trans h
              refine g_goto (tgt := 63) (pc := 46) dX7_read_46 (by decide) ?_
              exact G_X7_read_63 hd ih v1 v2 v3 v4 u23 h
set_option maxRecDepth 100000 in
set_option maxHeartbeats 4000000 in
theorem G_X7_read_0 {sc : Nat × (Nat → Int32)} {d : Nat} (hd : 4 ≤ d) {r : Int32} {u' : xS} (v1 : Nat) (v2 : Int32) (v3 : Int32) (u : xS) (h : f_X7_read v1 v2 v3 u = some (r, u')) : xG sc mX7_read d 0 0 (xR (some (.int r)) (xL0, u') 0 0) 0 0 0 [some (.ref 54), some (.ref v1), some (.int v2), some (.int v3), none] [] (xL0, u) := by
  rw [f_X7_read] at h
  refine g_aload_n (pc := 0) dX7_read_0 rfl ?_
  refine g_iload_n (pc := 1) dX7_read_1 rfl ?_
  obtain ⟨u2, e1, h⟩ := x_bind h
  refine g_cV (pc := 2) dX7_read_2 cV_RX7_22 (M_X7_begin (Nat.le_refl _) e1) xc_54 (as := [.int v3]) (st := []) rfl rfl (Nat.le_of_ble_eq_true rfl) (Nat.le_trans (Nat.le_of_ble_eq_true rfl) hd) rfl ?_
  refine g_iconst (pc := 5) dX7_read_5 ic_0 ?_
  refine g_istore (pc := 6) dX7_read_6 (Nat.le_of_ble_eq_true rfl) (L' := [some (.ref 54), some (.ref v1), some (.int v2), some (.int v3), some (.int (0 : Int32))]) rfl ?_
  exact G_X7_read_8 hd xN v1 v2 v3 (0 : Int32) u2 h
set_option maxRecDepth 100000 in
set_option maxHeartbeats 4000000 in
theorem M_X7_read {sc : Nat × (Nat → Int32)} {d : Nat} (hd : 4 ≤ d) {r : Int32} {u u' : xS} {a1 : Nat} {a2 : Int32} {a3 : Int32} (h : f_X7_read a1 a2 a3 u = some (r, u')) : xMt sc mX7_read d 0 0 [.ref 54, .ref a1, .int a2, .int a3] (xL0, u) (some (.int r)) (xL0, u') :=
  xMt.of (by decide +kernel) (Nat.le_of_ble_eq_true rfl) (L := [some (.ref 54), some (.ref a1), some (.int a2), some (.int a3), none]) rfl ((G_X7_read_0 hd a1 a2 a3 u h))
set_option maxRecDepth 100000 in
set_option maxHeartbeats 4000000 in
theorem G_X11_text_143 {sc : Nat × (Nat → Int32)} {d : Nat} (hd : 5 ≤ d) {r : Int32} {u' : xS} (s1 : Int32) (u : xS) (h : f_X11_text_143 s1 u = some (r, u')) : xG sc mX11_text d 0 0 (xR (some (.int r)) (xL0, u') 0 0) 0 0 143 [some (.ref 0), none, none, none, none, none] [.int s1, .ref 58] (xL0, u) := by
  rw [f_X11_text_143] at h
  refine g_aload_n (pc := 143) dX11_text_143 rfl ?_
  refine g_gR (pc := 144) dX11_text_144 fR_RX11_40 xc_0 (v := 54) rfl ?_
  refine g_gR (pc := 147) dX11_text_147 fR_RX11_248 xc_54 (v := 55) rfl ?_
  refine g_aload_n (pc := 150) dX11_text_150 rfl ?_
  refine g_gR (pc := 151) dX11_text_151 fR_RX11_40 xc_0 (v := 54) rfl ?_
  refine g_gI (pc := 154) dX11_text_154 fI_RX11_251 xc_54 (v := (rd u 54 1)) rfl ?_
  obtain ⟨u2, e1, h⟩ := x_bind h
  refine g_cV (pc := 157) dX11_text_157 cV_RX11_256 (M_X10_keep (Nat.le_refl _) e1) xc_58 (as := [.int s1, .ref 55, .int (rd u 54 1)]) (st := []) rfl rfl (Nat.le_of_ble_eq_true rfl) (Nat.le_trans (Nat.le_of_ble_eq_true rfl) hd) rfl ?_
  refine g_iconst (pc := 160) dX11_text_160 ic_0 ?_
  cases h
  exact g_iret (pc := 161) dX11_text_161 rfl rfl rfl (Nat.le_refl _) (Nat.le_refl _)
set_option maxRecDepth 100000 in
set_option maxHeartbeats 4000000 in
theorem G_X11_text_86 {sc : Nat × (Nat → Int32)} {d : Nat} (hd : 5 ≤ d) {r : Int32} {u' : xS} (v1 : Int32) (v2 : Int32) (s2 : Int32) (s3 : Int32) (u : xS) (h : f_X11_text_86 v1 v2 s2 s3 u = some (r, u')) : xG sc mX11_text d 0 0 (xR (some (.int r)) (xL0, u') 0 0) 0 0 86 [some (.ref 0), some (.int v1), some (.int v2), none, none, none] [.int s3, .int s2, .ref 53, .ref 54] (xL0, u) := by
  rw [f_X11_text_86] at h
  obtain ⟨⟨x2, u3⟩, e1, h⟩ := x_bind h
  dsimp only at h
  refine g_cV (pc := 86) dX11_text_86 cV_RX11_244 (M_X7_read (Nat.le_refl _) e1) xc_54 (as := [.ref 53, .int s2, .int s3]) (st := []) rfl rfl (Nat.le_of_ble_eq_true rfl) (Nat.le_trans (Nat.le_of_ble_eq_true rfl) hd) rfl ?_
  refine g_istore (pc := 89) dX11_text_89 (Nat.le_of_ble_eq_true rfl) (L' := [some (.ref 0), some (.int v1), some (.int v2), none, none, some (.int x2)]) rfl ?_
  refine g_iload (pc := 91) dX11_text_91 rfl ?_
  refine g_iconst (pc := 93) dX11_text_93 ic_m1 ?_
  refine g_icmp_eq (tgt := 102) (pc := 94) dX11_text_94 (by decide) (fun c4 => ?_) (fun c4 => ?_)
  · replace h := (if_pos c4).symm.trans h
    refine g_iload_n (pc := 102) dX11_text_102 rfl ?_
    refine g_iconst (pc := 103) dX11_text_103 ic_1 ?_
    refine g_icmp_ne (tgt := 129) (pc := 104) dX11_text_104 (by decide) (fun c5 => ?_) (fun c5 => ?_)
    · replace h := (if_neg c5).symm.trans h
      refine g_aload_n (pc := 129) dX11_text_129 rfl ?_
      refine g_gR (pc := 130) dX11_text_130 fR_RX11_47 xc_0 (v := 58) rfl ?_
      refine g_iload_n (pc := 133) dX11_text_133 rfl ?_
      refine g_if_ne (tgt := 141) (pc := 134) dX11_text_134 (by decide) (fun c6 => ?_) (fun c6 => ?_)
      · replace h := (if_neg c6).symm.trans h
        refine g_bipush (pc := 141) dX11_text_141 bp_10 ?_
        refine g_L (L' := [some (.ref 0), none, none, none, none, none]) ⟨rfl, trivial⟩ ?_
        exact G_X11_text_143 hd (10 : Int32) u3 h
      · replace h := (if_pos c6).symm.trans h
        refine g_iload_n (pc := 137) dX11_text_137 rfl ?_
        refine g_goto (tgt := 143) (pc := 138) dX11_text_138 (by decide) ?_
        refine g_L (L' := [some (.ref 0), none, none, none, none, none]) ⟨rfl, trivial⟩ ?_
        exact G_X11_text_143 hd v2 u3 h
    · replace h := (if_pos c5).symm.trans h
      refine g_aload_n (pc := 107) dX11_text_107 rfl ?_
      refine g_gR (pc := 108) dX11_text_108 fR_RX11_47 xc_0 (v := 58) rfl ?_
      refine g_aload_n (pc := 111) dX11_text_111 rfl ?_
      refine g_gR (pc := 112) dX11_text_112 fR_RX11_40 xc_0 (v := 54) rfl ?_
      refine g_gR (pc := 115) dX11_text_115 fR_RX11_248 xc_54 (v := 55) rfl ?_
      refine g_aload_n (pc := 118) dX11_text_118 rfl ?_
      refine g_gR (pc := 119) dX11_text_119 fR_RX11_40 xc_0 (v := 54) rfl ?_
      refine g_gI (pc := 122) dX11_text_122 fI_RX11_251 xc_54 (v := (rd u3 54 1)) rfl ?_
      obtain ⟨⟨x8, u9⟩, e7, h⟩ := x_bind h
      dsimp only at h
      refine g_cV (pc := 125) dX11_text_125 cV_RX11_252 (M_X10_addRecipe (Nat.le_refl _) e7) xc_58 (as := [.ref 55, .int (rd u3 54 1)]) (st := []) rfl rfl (Nat.le_of_ble_eq_true rfl) (Nat.le_trans (Nat.le_of_ble_eq_true rfl) hd) rfl ?_
      cases h
      exact g_iret (pc := 128) dX11_text_128 rfl rfl rfl (Nat.le_refl _) (Nat.le_refl _)
  · replace h := (if_neg c4).symm.trans h
    refine g_iconst (pc := 97) dX11_text_97 ic_m1 ?_
    refine g_iload (pc := 98) dX11_text_98 rfl ?_
    refine g_isub (pc := 100) dX11_text_100 rfl ?_
    cases h
    exact g_iret (pc := 101) dX11_text_101 rfl rfl rfl (Nat.le_refl _) (Nat.le_refl _)
set_option maxRecDepth 100000 in
set_option maxHeartbeats 4000000 in
theorem G_X11_text_64 {sc : Nat × (Nat → Int32)} {d : Nat} (hd : 5 ≤ d) {r : Int32} {u' : xS} (v1 : Int32) (v2 : Int32) (v3 : Int32) (u : xS) (h : f_X11_text_64 v1 v2 v3 u = some (r, u')) : xG sc mX11_text d 0 0 (xR (some (.int r)) (xL0, u') 0 0) 0 0 64 [some (.ref 0), some (.int v1), some (.int v2), some (.int v3), none, none] [] (xL0, u) := by
  rw [f_X11_text_64] at h
  refine g_aload_n (pc := 64) dX11_text_64 rfl ?_
  refine g_gR (pc := 65) dX11_text_65 fR_RX11_40 xc_0 (v := 54) rfl ?_
  refine g_aload_n (pc := 68) dX11_text_68 rfl ?_
  refine g_gR (pc := 69) dX11_text_69 fR_RX11_33 xc_0 (v := 52) rfl ?_
  refine g_gR (pc := 72) dX11_text_72 fR_RX11_241 xc_52 (v := 53) rfl ?_
  refine g_iload_n (pc := 75) dX11_text_75 rfl ?_
  refine g_iload_n (pc := 76) dX11_text_76 rfl ?_
  refine g_iconst (pc := 77) dX11_text_77 ic_1 ?_
  refine g_icmp_ne (tgt := 85) (pc := 78) dX11_text_78 (by decide) (fun c1 => ?_) (fun c1 => ?_)
  · replace h := (if_neg c1).symm.trans h
    refine g_iconst (pc := 85) dX11_text_85 ic_0 ?_
    refine g_L (L' := [some (.ref 0), some (.int v1), some (.int v2), none, none, none]) ⟨rfl, ⟨rfl, ⟨rfl, trivial⟩⟩⟩ ?_
    exact G_X11_text_86 hd v1 v2 v3 (0 : Int32) u h
  · replace h := (if_pos c1).symm.trans h
    refine g_iconst (pc := 81) dX11_text_81 ic_1 ?_
    refine g_goto (tgt := 86) (pc := 82) dX11_text_82 (by decide) ?_
    refine g_L (L' := [some (.ref 0), some (.int v1), some (.int v2), none, none, none]) ⟨rfl, ⟨rfl, ⟨rfl, trivial⟩⟩⟩ ?_
    exact G_X11_text_86 hd v1 v2 v3 (1 : Int32) u h
set_option maxRecDepth 100000 in
set_option maxHeartbeats 4000000 in
theorem G_X11_text_37 {sc : Nat × (Nat → Int32)} {d : Nat} (hd : 5 ≤ d) {r : Int32} {u' : xS} (v1 : Int32) (v2 : Int32) (v3 : Int32) (s0 : Int32) (u : xS) (h : f_X11_text_37 v1 v2 v3 s0 u = some (r, u')) : xG sc mX11_text d 0 0 (xR (some (.int r)) (xL0, u') 0 0) 0 0 37 [some (.ref 0), some (.int v1), some (.int v2), some (.int v3), none, none] [.int s0] (xL0, u) := by
  rw [f_X11_text_37] at h
  refine g_istore (pc := 37) dX11_text_37 (Nat.le_of_ble_eq_true rfl) (L' := [some (.ref 0), some (.int v1), some (.int v2), some (.int v3), some (.int s0), none]) rfl ?_
  refine g_iload (pc := 39) dX11_text_39 rfl ?_
  refine g_if_ne (tgt := 64) (pc := 41) dX11_text_41 (by decide) (fun c1 => ?_) (fun c1 => ?_)
  · replace h := (if_neg c1).symm.trans h
    refine g_L (L' := [some (.ref 0), some (.int v1), some (.int v2), some (.int v3), none, none]) ⟨rfl, ⟨rfl, ⟨rfl, ⟨rfl, trivial⟩⟩⟩⟩ ?_
    exact G_X11_text_64 hd v1 v2 v3 u h
  · replace h := (if_pos c1).symm.trans h
    refine g_iload_n (pc := 44) dX11_text_44 rfl ?_
    refine g_iconst (pc := 45) dX11_text_45 ic_1 ?_
    refine g_icmp_ne (tgt := 61) (pc := 46) dX11_text_46 (by decide) (fun c2 => ?_) (fun c2 => ?_)
    · replace h := (if_neg c2).symm.trans h
      refine g_bipush (pc := 61) dX11_text_61 bp_m100 ?_
      cases h
      exact g_iret (pc := 63) dX11_text_63 rfl rfl rfl (Nat.le_refl _) (Nat.le_refl _)
    · replace h := (if_pos c2).symm.trans h
      refine g_aload_n (pc := 49) dX11_text_49 rfl ?_
      refine g_gR (pc := 50) dX11_text_50 fR_RX11_47 xc_0 (v := 58) rfl ?_
      refine g_gI (pc := 53) dX11_text_53 fI_RX11_238 xc_58 (v := (rd u 58 5)) rfl ?_
      refine g_bipush (pc := 56) dX11_text_56 bp_6 ?_
      refine g_icmp_lt (tgt := 64) (pc := 58) dX11_text_58 (by decide) (fun c3 => ?_) (fun c3 => ?_)
      · replace h := (if_pos c3).symm.trans h
        refine g_L (L' := [some (.ref 0), some (.int v1), some (.int v2), some (.int v3), none, none]) ⟨rfl, ⟨rfl, ⟨rfl, ⟨rfl, trivial⟩⟩⟩⟩ ?_
        exact G_X11_text_64 hd v1 v2 v3 u h
      · replace h := (if_neg c3).symm.trans h
        refine g_bipush (pc := 61) dX11_text_61 bp_m100 ?_
        cases h
        exact g_iret (pc := 63) dX11_text_63 rfl rfl rfl (Nat.le_refl _) (Nat.le_refl _)
set_option maxRecDepth 100000 in
set_option maxHeartbeats 4000000 in
theorem G_X11_text_32 {sc : Nat × (Nat → Int32)} {d : Nat} (hd : 5 ≤ d) {r : Int32} {u' : xS} (v1 : Int32) (v2 : Int32) (v3 : Int32) (u : xS) (h : f_X11_text_32 v1 v2 v3 u = some (r, u')) : xG sc mX11_text d 0 0 (xR (some (.int r)) (xL0, u') 0 0) 0 0 32 [some (.ref 0), some (.int v1), some (.int v2), some (.int v3), none, none] [] (xL0, u) := by
  rw [f_X11_text_32] at h
  refine g_iconst (pc := 32) dX11_text_32 ic_1 ?_
  refine g_goto (tgt := 37) (pc := 33) dX11_text_33 (by decide) ?_
  exact G_X11_text_37 hd v1 v2 v3 (1 : Int32) u h
set_option maxRecDepth 100000 in
set_option maxHeartbeats 4000000 in
theorem G_X11_text_27 {sc : Nat × (Nat → Int32)} {d : Nat} (hd : 5 ≤ d) {r : Int32} {u' : xS} (v1 : Int32) (v2 : Int32) (v3 : Int32) (u : xS) (h : f_X11_text_27 v1 v2 v3 u = some (r, u')) : xG sc mX11_text d 0 0 (xR (some (.int r)) (xL0, u') 0 0) 0 0 27 [some (.ref 0), some (.int v1), some (.int v2), some (.int v3), none, none] [] (xL0, u) := by
  rw [f_X11_text_27] at h
  refine g_iload_n (pc := 27) dX11_text_27 rfl ?_
  refine g_iconst (pc := 28) dX11_text_28 ic_2 ?_
  refine g_icmp_ne (tgt := 36) (pc := 29) dX11_text_29 (by decide) (fun c1 => ?_) (fun c1 => ?_)
  · replace h := (if_neg c1).symm.trans h
    refine g_iconst (pc := 36) dX11_text_36 ic_0 ?_
    exact G_X11_text_37 hd v1 v2 v3 (0 : Int32) u h
  · replace h := (if_pos c1).symm.trans h
    exact G_X11_text_32 hd v1 v2 v3 u h
set_option maxRecDepth 100000 in
set_option maxHeartbeats 4000000 in
theorem G_X11_text_0 {sc : Nat × (Nat → Int32)} {d : Nat} (hd : 5 ≤ d) {r : Int32} {u' : xS} (v1 : Int32) (v2 : Int32) (u : xS) (h : f_X11_text v1 v2 u = some (r, u')) : xG sc mX11_text d 0 0 (xR (some (.int r)) (xL0, u') 0 0) 0 0 0 [some (.ref 0), some (.int v1), some (.int v2), none, none, none] [] (xL0, u) := by
  rw [f_X11_text] at h
  refine g_aload_n (pc := 0) dX11_text_0 rfl ?_
  refine g_gR (pc := 1) dX11_text_1 fR_RX11_33 xc_0 (v := 52) rfl ?_
  refine g_gI (pc := 4) dX11_text_4 fI_RX11_233 xc_52 (v := (rd u 52 1)) rfl ?_
  refine g_istore_n (pc := 7) dX11_text_7 (Nat.le_of_ble_eq_true rfl) (L' := [some (.ref 0), some (.int v1), some (.int v2), some (.int (rd u 52 1)), none, none]) rfl ?_
  refine g_aload_n (pc := 8) dX11_text_8 rfl ?_
  refine g_gR (pc := 9) dX11_text_9 fR_RX11_33 xc_0 (v := 52) rfl ?_
  refine g_iconst (pc := 12) dX11_text_12 ic_0 ?_
  refine g_pI (pc := 13) dX11_text_13 pI_RX11_233 xc_52 (u' := (wr u 52 1 (0 : Int32))) rfl ?_
  refine g_iload_n (pc := 16) dX11_text_16 rfl ?_
  refine g_if_ne (tgt := 27) (pc := 17) dX11_text_17 (by decide) (fun c1 => ?_) (fun c1 => ?_)
  · replace h := (if_neg c1).symm.trans h
    exact G_X11_text_27 hd v1 v2 (rd u 52 1) (wr u 52 1 (0 : Int32)) h
  · replace h := (if_pos c1).symm.trans h
    refine g_iload_n (pc := 20) dX11_text_20 rfl ?_
    refine g_cS (pc := 21) dX11_text_21 cS_RX11_127 (M_X11_isSeller (Nat.le_refl _) rfl) (as := [.int v2]) (st := []) rfl rfl (Nat.le_of_ble_eq_true rfl) (Nat.le_trans (Nat.le_of_ble_eq_true rfl) hd) rfl ?_
    refine g_if_ne (tgt := 32) (pc := 24) dX11_text_24 (by decide) (fun c2 => ?_) (fun c2 => ?_)
    · replace h := (if_neg c2).symm.trans h
      exact G_X11_text_32 hd v1 v2 (rd u 52 1) (wr u 52 1 (0 : Int32)) h
    · replace h := (if_pos c2).symm.trans h
      exact G_X11_text_27 hd v1 v2 (rd u 52 1) (wr u 52 1 (0 : Int32)) h
set_option maxRecDepth 100000 in
set_option maxHeartbeats 4000000 in
theorem M_X11_text {sc : Nat × (Nat → Int32)} {d : Nat} (hd : 5 ≤ d) {r : Int32} {u u' : xS} {a1 : Int32} {a2 : Int32} (h : f_X11_text a1 a2 u = some (r, u')) : xMt sc mX11_text d 0 0 [.ref 0, .int a1, .int a2] (xL0, u) (some (.int r)) (xL0, u') :=
  xMt.of (by decide +kernel) (Nat.le_of_ble_eq_true rfl) (L := [some (.ref 0), some (.int a1), some (.int a2), none, none, none]) rfl ((G_X11_text_0 hd a1 a2 u h))
set_option maxRecDepth 100000 in
set_option maxHeartbeats 4000000 in
theorem G_X3_add_0 {sc : Nat × (Nat → Int32)} {d : Nat} (hd : 0 ≤ d) {r : Int32} {u' : xS} (v1 : Int32) (v2 : Int32) (v3 : Int32) (v4 : Int32) (u : xS) (h : f_X3_add v1 v2 v3 v4 u = some (r, u')) : xG sc mX3_add d 0 0 (xR (some (.int r)) (xL0, u') 0 0) 0 0 0 [some (.ref 113), some (.int v1), some (.int v2), some (.int v3), some (.int v4)] [] (xL0, u) := by
  rw [f_X3_add] at h
  refine g_aload_n (pc := 0) dX3_add_0 rfl ?_
  refine g_gI (pc := 1) dX3_add_1 fI_RX3_23 xc_113 (v := (rd u 113 3)) rfl ?_
  refine g_bipush (pc := 4) dX3_add_4 bp_99 ?_
  refine g_icmp_lt (tgt := 11) (pc := 6) dX3_add_6 (by decide) (fun c1 => ?_) (fun c1 => ?_)
  · replace h := (if_pos c1).symm.trans h
    refine g_aload_n (pc := 11) dX3_add_11 rfl ?_
    refine g_gR (pc := 12) dX3_add_12 fR_RX3_11 xc_113 (v := 114) rfl ?_
    refine g_iconst (pc := 15) dX3_add_15 ic_0 ?_
    refine g_aaload (pc := 16) dX3_add_16 xc_114 vin_0_2 (v := 115) rfl ?_
    refine g_aload_n (pc := 17) dX3_add_17 rfl ?_
    refine g_gI (pc := 18) dX3_add_18 fI_RX3_23 xc_113 (v := (rd u 113 3)) rfl ?_
    refine g_iload_n (pc := 21) dX3_add_21 rfl ?_
    obtain ⟨g2, h⟩ := x_gd h
    refine g_iastore (pc := 22) dX3_add_22 xc_115 (xin_of g2) (u' := (wr u 115 (rd u 113 3).toNatClampNeg v1)) rfl ?_
    refine g_aload_n (pc := 23) dX3_add_23 rfl ?_
    refine g_gR (pc := 24) dX3_add_24 fR_RX3_16 xc_113 (v := 117) rfl ?_
    refine g_iconst (pc := 27) dX3_add_27 ic_0 ?_
    refine g_aaload (pc := 28) dX3_add_28 xc_117 vin_0_2 (v := 118) rfl ?_
    refine g_aload_n (pc := 29) dX3_add_29 rfl ?_
    refine g_gI (pc := 30) dX3_add_30 fI_RX3_23 xc_113 (v := (rd u 113 3)) rfl ?_
    refine g_iload_n (pc := 33) dX3_add_33 rfl ?_
    refine g_iastore (pc := 34) dX3_add_34 xc_118 (xin_of g2) (u' := (wr (wr u 115 (rd u 113 3).toNatClampNeg v1) 118 (rd u 113 3).toNatClampNeg v2)) rfl ?_
    refine g_aload_n (pc := 35) dX3_add_35 rfl ?_
    refine g_gR (pc := 36) dX3_add_36 fR_RX3_11 xc_113 (v := 114) rfl ?_
    refine g_iconst (pc := 39) dX3_add_39 ic_1 ?_
    refine g_aaload (pc := 40) dX3_add_40 xc_114 vin_1_2 (v := 116) rfl ?_
    refine g_aload_n (pc := 41) dX3_add_41 rfl ?_
    refine g_gI (pc := 42) dX3_add_42 fI_RX3_23 xc_113 (v := (rd u 113 3)) rfl ?_
    refine g_iload_n (pc := 45) dX3_add_45 rfl ?_
    refine g_iastore (pc := 46) dX3_add_46 xc_116 (xin_of g2) (u' := (wr (wr (wr u 115 (rd u 113 3).toNatClampNeg v1) 118 (rd u 113 3).toNatClampNeg v2) 116 (rd u 113 3).toNatClampNeg v3)) rfl ?_
    refine g_aload_n (pc := 47) dX3_add_47 rfl ?_
    refine g_gR (pc := 48) dX3_add_48 fR_RX3_16 xc_113 (v := 117) rfl ?_
    refine g_iconst (pc := 51) dX3_add_51 ic_1 ?_
    refine g_aaload (pc := 52) dX3_add_52 xc_117 vin_1_2 (v := 119) rfl ?_
    refine g_aload_n (pc := 53) dX3_add_53 rfl ?_
    refine g_gI (pc := 54) dX3_add_54 fI_RX3_23 xc_113 (v := (rd u 113 3)) rfl ?_
    refine g_iload (pc := 57) dX3_add_57 rfl ?_
    refine g_iastore (pc := 59) dX3_add_59 xc_119 (xin_of g2) (u' := (wr (wr (wr (wr u 115 (rd u 113 3).toNatClampNeg v1) 118 (rd u 113 3).toNatClampNeg v2) 116 (rd u 113 3).toNatClampNeg v3) 119 (rd u 113 3).toNatClampNeg v4)) rfl ?_
    refine g_aload_n (pc := 60) dX3_add_60 rfl ?_
    refine g_dup (pc := 61) dX3_add_61 rfl ?_
    refine g_gI (pc := 62) dX3_add_62 fI_RX3_23 xc_113 (v := (rd u 113 3)) rfl ?_
    refine g_iconst (pc := 65) dX3_add_65 ic_1 ?_
    refine g_iadd (pc := 66) dX3_add_66 rfl ?_
    refine g_pI (pc := 67) dX3_add_67 pI_RX3_23 xc_113 (u' := (wr (wr (wr (wr (wr u 115 (rd u 113 3).toNatClampNeg v1) 118 (rd u 113 3).toNatClampNeg v2) 116 (rd u 113 3).toNatClampNeg v3) 119 (rd u 113 3).toNatClampNeg v4) 113 3 ((rd u 113 3) + (1 : Int32)))) rfl ?_
    refine g_aload_n (pc := 70) dX3_add_70 rfl ?_
    refine g_gI (pc := 71) dX3_add_71 fI_RX3_23 xc_113 (v := ((rd u 113 3) + (1 : Int32))) rfl ?_
    cases h
    exact g_iret (pc := 74) dX3_add_74 rfl rfl rfl (Nat.le_refl _) (Nat.le_refl _)
  · replace h := (if_neg c1).symm.trans h
    refine g_iconst (pc := 9) dX3_add_9 ic_m1 ?_
    cases h
    exact g_iret (pc := 10) dX3_add_10 rfl rfl rfl (Nat.le_refl _) (Nat.le_refl _)
set_option maxRecDepth 100000 in
set_option maxHeartbeats 4000000 in
theorem M_X3_add {sc : Nat × (Nat → Int32)} {d : Nat} (hd : 0 ≤ d) {r : Int32} {u u' : xS} {a1 : Int32} {a2 : Int32} {a3 : Int32} {a4 : Int32} (h : f_X3_add a1 a2 a3 a4 u = some (r, u')) : xMt sc mX3_add d 0 0 [.ref 113, .int a1, .int a2, .int a3, .int a4] (xL0, u) (some (.int r)) (xL0, u') :=
  xMt.of (by decide +kernel) (Nat.le_of_ble_eq_true rfl) (L := [some (.ref 113), some (.int a1), some (.int a2), some (.int a3), some (.int a4)]) rfl ((G_X3_add_0 hd a1 a2 a3 a4 u h))
