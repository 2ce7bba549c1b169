set_option maxRecDepth 100000 in
set_option maxHeartbeats 4000000 in
theorem G_X12_led_64 {sc : Nat × (Nat → Int32)} {d : Nat} (hd : 2 ≤ d) {r : Int32} {u' : xS} {k22 : Int32 → Int32 → xS → Option (Int32 × xS)} (hk22 : ∀ (v1 : Int32) (v2 : Int32) (u : xS), k22 v1 v2 u = some (r, u') → xG sc mX12_led d 0 0 (xR (some (.int r)) (xL0, u') 0 0) 0 0 22 [some (.ref 135), some (.int v1), some (.int v2)] [] (xL0, u)) (v1 : Int32) (v2 : Int32) (u : xS) (h : f_X12_led_64 k22 v1 v2 u = some (r, u')) : xG sc mX12_led d 0 0 (xR (some (.int r)) (xL0, u') 0 0) 0 0 64 [some (.ref 135), some (.int v1), some (.int v2)] [] (xL0, u) := by
  rw [f_X12_led_64] at h
  refine g_inc (pc := 64) dX12_led_64 (Nat.le_of_ble_eq_true rfl) rfl ic_1 (L' := [some (.ref 135), some (.int v1), some (.int (v2 + (1 : Int32)))]) rfl ?_
  refine g_goto (tgt := 22) (pc := 67) dX12_led_67 (by decide) ?_
  exact hk22 v1 (v2 + (1 : Int32)) u h
set_option maxRecDepth 100000 in
set_option maxHeartbeats 4000000 in
theorem G_X12_led_22 {sc : Nat × (Nat → Int32)} {d : Nat} (hd : 2 ≤ d) {r : Int32} {u' : xS} : ∀ (n : Nat) (v1 : Int32) (v2 : Int32) (u : xS), f_X12_led_22 n v1 v2 u = some (r, u') → xG sc mX12_led d 0 0 (xR (some (.int r)) (xL0, u') 0 0) 0 0 22 [some (.ref 135), some (.int v1), some (.int v2)] [] (xL0, u) := by
  intro n
  induction n with
  | zero =>
    intro v1 v2 u h
    rw [f_X12_led_22] at h
    cases h
  | succ n ih =>
    intro v1 v2 u h
    rw [f_X12_led_22] at h
    refine g_iload_n (pc := 22) dX12_led_22 rfl ?_
    refine g_aload_n (pc := 23) dX12_led_23 rfl ?_
    refine g_gI (pc := 24) dX12_led_24 fI_RX12_194 xc_135 (v := (rd u 135 7)) rfl ?_
    refine g_icmp_ge (tgt := 70) (pc := 27) dX12_led_27 (by decide) (fun c1 => ?_) (fun c1 => ?_)
    · replace h := (if_pos c1).symm.trans h
      refine g_aload_n (pc := 70) dX12_led_70 rfl ?_
      refine g_gI (pc := 71) dX12_led_71 fI_RX12_388 xc_135 (v := (rd u 135 43)) rfl ?_
      refine g_iconst (pc := 74) dX12_led_74 ic_2 ?_
      refine g_idiv (pc := 75) dX12_led_75 (by decide) rfl ?_
      cases h
      exact g_iret (pc := 76) dX12_led_76 rfl rfl rfl (Nat.le_refl _) (Nat.le_refl _)
    · replace h := (if_neg c1).symm.trans h
      refine g_aload_n (pc := 30) dX12_led_30 rfl ?_
      refine g_gR (pc := 31) dX12_led_31 fR_RX12_90 xc_135 (v := 161) rfl ?_
      refine g_bipush (pc := 34) dX12_led_34 bp_24 ?_
      refine g_iload_n (pc := 36) dX12_led_36 rfl ?_
      refine g_imul (pc := 37) dX12_led_37 rfl ?_
      refine g_iload_n (pc := 38) dX12_led_38 rfl ?_
      refine g_iadd (pc := 39) dX12_led_39 rfl ?_
      obtain ⟨g2, h⟩ := x_gd h
      refine g_iaload (pc := 40) dX12_led_40 xc_161 (xin_of g2) (v := (rd u 161 (((24 : Int32) * v1) + v2).toNatClampNeg)) rfl ?_
      refine g_if_le (tgt := 64) (pc := 41) dX12_led_41 (by decide) (fun c3 => ?_) (fun c3 => ?_)
      · replace h := (if_pos c3).symm.trans h
        exact G_X12_led_64 hd ih v1 v2 u h
      · replace h := (if_neg c3).symm.trans h
        refine g_aload_n (pc := 44) dX12_led_44 rfl ?_
        refine g_iload_n (pc := 45) dX12_led_45 rfl ?_
        obtain ⟨u5, e4, h⟩ := x_bind h
        refine g_cV (pc := 46) dX12_led_46 cV_RX12_394 (M_X12_enters (Nat.le_refl _) e4) xc_135 (as := [.int v2]) (st := []) rfl rfl (Nat.le_of_ble_eq_true rfl) (Nat.le_trans (Nat.le_of_ble_eq_true rfl) hd) rfl ?_
        refine g_aload_n (pc := 49) dX12_led_49 rfl ?_
        refine g_aload_n (pc := 50) dX12_led_50 rfl ?_
        refine g_gR (pc := 51) dX12_led_51 fR_RX12_90 xc_135 (v := 161) rfl ?_
        refine g_bipush (pc := 54) dX12_led_54 bp_24 ?_
        refine g_iload_n (pc := 56) dX12_led_56 rfl ?_
        refine g_imul (pc := 57) dX12_led_57 rfl ?_
        refine g_iload_n (pc := 58) dX12_led_58 rfl ?_
        refine g_iadd (pc := 59) dX12_led_59 rfl ?_
        refine g_iaload (pc := 60) dX12_led_60 xc_161 (xin_of g2) (v := (rd u5 161 (((24 : Int32) * v1) + v2).toNatClampNeg)) rfl ?_
        obtain ⟨u7, e6, h⟩ := x_bind h
        refine g_cV (pc := 61) dX12_led_61 cV_RX12_394 (M_X12_enters (Nat.le_refl _) e6) xc_135 (as := [.int (rd u5 161 (((24 : Int32) * v1) + v2).toNatClampNeg)]) (st := []) rfl rfl (Nat.le_of_ble_eq_true rfl) (Nat.le_trans (Nat.le_of_ble_eq_true rfl) hd) rfl ?_
        exact G_X12_led_64 hd ih v1 v2 u7 h
set_option maxRecDepth 100000 in
set_option maxHeartbeats 4000000 in
theorem G_X12_led_0 {sc : Nat × (Nat → Int32)} {d : Nat} (hd : 2 ≤ d) {r : Int32} {u' : xS} (v1 : Int32) (u : xS) (h : f_X12_led v1 u = some (r, u')) : xG sc mX12_led d 0 0 (xR (some (.int r)) (xL0, u') 0 0) 0 0 0 [some (.ref 135), some (.int v1), none] [] (xL0, u) := by
  rw [f_X12_led] at h
  refine g_aload_n (pc := 0) dX12_led_0 rfl ?_
  refine g_iconst (pc := 1) dX12_led_1 ic_0 ?_
  refine g_pI (pc := 2) dX12_led_2 pI_RX12_150 xc_135 (u' := (wr u 135 0 (0 : Int32))) rfl ?_
  refine g_aload_n (pc := 5) dX12_led_5 rfl ?_
  refine g_iload_n (pc := 6) dX12_led_6 rfl ?_
  refine g_cV (pc := 7) dX12_led_7 cV_RX12_391 (M_X12_isCloth (Nat.le_refl _) rfl) xc_135 (as := [.int v1]) (st := []) rfl rfl (Nat.le_of_ble_eq_true rfl) (Nat.le_trans (Nat.le_of_ble_eq_true rfl) hd) rfl ?_
  refine g_if_ne (tgt := 15) (pc := 10) dX12_led_10 (by decide) (fun c1 => ?_) (fun c1 => ?_)
  · replace h := (if_neg c1).symm.trans h
    refine g_aload_n (pc := 15) dX12_led_15 rfl ?_
    refine g_iconst (pc := 16) dX12_led_16 ic_0 ?_
    refine g_pI (pc := 17) dX12_led_17 pI_RX12_388 xc_135 (u' := (wr (wr u 135 0 (0 : Int32)) 135 43 (0 : Int32))) rfl ?_
    refine g_iconst (pc := 20) dX12_led_20 ic_0 ?_
    refine g_istore_n (pc := 21) dX12_led_21 (Nat.le_of_ble_eq_true rfl) (L' := [some (.ref 135), some (.int v1), some (.int (0 : Int32))]) rfl ?_
    exact G_X12_led_22 hd xN v1 (0 : Int32) (wr (wr u 135 0 (0 : Int32)) 135 43 (0 : Int32)) h
  · replace h := (if_pos c1).symm.trans h
    refine g_iconst (pc := 13) dX12_led_13 ic_m1 ?_
    cases h
    exact g_iret (pc := 14) dX12_led_14 rfl rfl rfl (Nat.le_refl _) (Nat.le_refl _)
set_option maxRecDepth 100000 in
set_option maxHeartbeats 4000000 in
theorem M_X12_led {sc : Nat × (Nat → Int32)} {d : Nat} (hd : 2 ≤ d) {r : Int32} {u u' : xS} {a1 : Int32} (h : f_X12_led a1 u = some (r, u')) : xMt sc mX12_led d 0 0 [.ref 135, .int a1] (xL0, u) (some (.int r)) (xL0, u') :=
  xMt.of (by decide +kernel) (Nat.le_of_ble_eq_true rfl) (L := [some (.ref 135), some (.int a1), none]) rfl ((G_X12_led_0 hd a1 u h))
set_option maxRecDepth 100000 in
set_option maxHeartbeats 4000000 in
theorem G_X12_look_0 {sc : Nat × (Nat → Int32)} {d : Nat} (hd : 2 ≤ d) {r : Int32} {u' : xS} (v1 : Int32) (v2 : Int32) (v3 : Int32) (v4 : Int32) (v5 : Int32) (u : xS) (h : f_X12_look v1 v2 v3 v4 v5 u = some (r, u')) : xG sc mX12_look d 0 0 (xR (some (.int r)) (xL0, u') 0 0) 0 0 0 [some (.ref 135), some (.int v1), some (.int v2), some (.int v3), some (.int v4), some (.int v5)] [] (xL0, u) := by
  rw [f_X12_look] at h
  refine g_aload_n (pc := 0) dX12_look_0 rfl ?_
  refine g_iconst (pc := 1) dX12_look_1 ic_0 ?_
  refine g_pI (pc := 2) dX12_look_2 pI_RX12_150 xc_135 (u' := (wr u 135 0 (0 : Int32))) rfl ?_
  refine g_aload_n (pc := 5) dX12_look_5 rfl ?_
  refine g_iload_n (pc := 6) dX12_look_6 rfl ?_
  refine g_cV (pc := 7) dX12_look_7 cV_RX12_205 (M_X12_isBale (Nat.le_refl _) rfl) xc_135 (as := [.int v1]) (st := []) rfl rfl (Nat.le_of_ble_eq_true rfl) (Nat.le_trans (Nat.le_of_ble_eq_true rfl) hd) rfl ?_
  refine g_if_eq (tgt := 65) (pc := 10) dX12_look_10 (by decide) (fun c1 => ?_) (fun c1 => ?_)
  · replace h := (if_pos c1).symm.trans h
    refine g_iconst (pc := 65) dX12_look_65 ic_m1 ?_
    cases h
    exact g_iret (pc := 66) dX12_look_66 rfl rfl rfl (Nat.le_refl _) (Nat.le_refl _)
  · replace h := (if_neg c1).symm.trans h
    refine g_iload_n (pc := 13) dX12_look_13 rfl ?_
    refine g_i2l (pc := 14) dX12_look_14 rfl ?_
    refine g_lconst (v := (0 : Int64)) (pc := 15) dX12_look_15 rfl ?_
    refine g_lconst (v := (1 : Int64)) (pc := 16) dX12_look_16 rfl ?_
    refine g_cS (pc := 17) dX12_look_17 cS_RX12_156 (M_X12_in (Nat.le_refl _) rfl) (as := [.long ((v2).toInt64), .long (0 : Int64), .long (1 : Int64)]) (st := []) rfl rfl (Nat.le_of_ble_eq_true rfl) (Nat.le_trans (Nat.le_of_ble_eq_true rfl) hd) rfl ?_
    refine g_if_eq (tgt := 65) (pc := 20) dX12_look_20 (by decide) (fun c2 => ?_) (fun c2 => ?_)
    · replace h := (if_pos c2).symm.trans h
      refine g_iconst (pc := 65) dX12_look_65 ic_m1 ?_
      cases h
      exact g_iret (pc := 66) dX12_look_66 rfl rfl rfl (Nat.le_refl _) (Nat.le_refl _)
    · replace h := (if_neg c2).symm.trans h
      refine g_iload_n (pc := 23) dX12_look_23 rfl ?_
      refine g_cS (pc := 24) dX12_look_24 cS_RX12_226 (M_X12_isDay (Nat.le_refl _) rfl) (as := [.int v3]) (st := []) rfl rfl (Nat.le_of_ble_eq_true rfl) (Nat.le_trans (Nat.le_of_ble_eq_true rfl) hd) rfl ?_
      refine g_if_eq (tgt := 65) (pc := 27) dX12_look_27 (by decide) (fun c3 => ?_) (fun c3 => ?_)
      · replace h := (if_pos c3).symm.trans h
        refine g_iconst (pc := 65) dX12_look_65 ic_m1 ?_
        cases h
        exact g_iret (pc := 66) dX12_look_66 rfl rfl rfl (Nat.le_refl _) (Nat.le_refl _)
      · replace h := (if_neg c3).symm.trans h
        refine g_iload (pc := 30) dX12_look_30 rfl ?_
        refine g_i2l (pc := 32) dX12_look_32 rfl ?_
        refine g_lconst (v := (0 : Int64)) (pc := 33) dX12_look_33 rfl ?_
        refine g_ldc2 (pc := 34) dX12_look_34 kl_RX12_201 ?_
        refine g_cS (pc := 37) dX12_look_37 cS_RX12_156 (M_X12_in (Nat.le_refl _) rfl) (as := [.long ((v4).toInt64), .long (0 : Int64), .long (9999 : Int64)]) (st := []) rfl rfl (Nat.le_of_ble_eq_true rfl) (Nat.le_trans (Nat.le_of_ble_eq_true rfl) hd) rfl ?_
        refine g_if_eq (tgt := 65) (pc := 40) dX12_look_40 (by decide) (fun c4 => ?_) (fun c4 => ?_)
        · replace h := (if_pos c4).symm.trans h
          refine g_iconst (pc := 65) dX12_look_65 ic_m1 ?_
          cases h
          exact g_iret (pc := 66) dX12_look_66 rfl rfl rfl (Nat.le_refl _) (Nat.le_refl _)
        · replace h := (if_neg c4).symm.trans h
          refine g_iload (pc := 43) dX12_look_43 rfl ?_
          refine g_i2l (pc := 45) dX12_look_45 rfl ?_
          refine g_lconst (v := (0 : Int64)) (pc := 46) dX12_look_46 rfl ?_
          refine g_ldc2 (pc := 47) dX12_look_47 kl_RX12_164 ?_
          refine g_cS (pc := 50) dX12_look_50 cS_RX12_156 (M_X12_in (Nat.le_refl _) rfl) (as := [.long ((v5).toInt64), .long (0 : Int64), .long (1000 : Int64)]) (st := []) rfl rfl (Nat.le_of_ble_eq_true rfl) (Nat.le_trans (Nat.le_of_ble_eq_true rfl) hd) rfl ?_
          refine g_if_eq (tgt := 65) (pc := 53) dX12_look_53 (by decide) (fun c5 => ?_) (fun c5 => ?_)
          · replace h := (if_pos c5).symm.trans h
            refine g_iconst (pc := 65) dX12_look_65 ic_m1 ?_
            cases h
            exact g_iret (pc := 66) dX12_look_66 rfl rfl rfl (Nat.le_refl _) (Nat.le_refl _)
          · replace h := (if_neg c5).symm.trans h
            refine g_aload_n (pc := 56) dX12_look_56 rfl ?_
            refine g_gI (pc := 57) dX12_look_57 fI_RX12_229 xc_135 (v := (rd u 135 18)) rfl ?_
            refine g_bipush (pc := 60) dX12_look_60 bp_60 ?_
            refine g_icmp_ne (tgt := 67) (pc := 62) dX12_look_62 (by decide) (fun c6 => ?_) (fun c6 => ?_)
            · replace h := (if_neg c6).symm.trans h
              refine g_aload_n (pc := 67) dX12_look_67 rfl ?_
              refine g_gR (pc := 68) dX12_look_68 fR_RX12_49 xc_135 (v := 149) rfl ?_
              refine g_aload_n (pc := 71) dX12_look_71 rfl ?_
              refine g_gI (pc := 72) dX12_look_72 fI_RX12_229 xc_135 (v := (rd u 135 18)) rfl ?_
              refine g_iload_n (pc := 75) dX12_look_75 rfl ?_
              obtain ⟨g7, h⟩ := x_gd h
              refine g_iastore (pc := 76) dX12_look_76 xc_149 (xin_of g7) (u' := (wr (wr u 135 0 (0 : Int32)) 149 (rd u 135 18).toNatClampNeg v1)) rfl ?_
              refine g_aload_n (pc := 77) dX12_look_77 rfl ?_
              refine g_gR (pc := 78) dX12_look_78 fR_RX12_52 xc_135 (v := 150) rfl ?_
              refine g_aload_n (pc := 81) dX12_look_81 rfl ?_
              refine g_gI (pc := 82) dX12_look_82 fI_RX12_229 xc_135 (v := (rd u 135 18)) rfl ?_
              refine g_iload_n (pc := 85) dX12_look_85 rfl ?_
              refine g_iastore (pc := 86) dX12_look_86 xc_150 (xin_of g7) (u' := (wr (wr (wr u 135 0 (0 : Int32)) 149 (rd u 135 18).toNatClampNeg v1) 150 (rd u 135 18).toNatClampNeg v2)) rfl ?_
              refine g_aload_n (pc := 87) dX12_look_87 rfl ?_
              refine g_gR (pc := 88) dX12_look_88 fR_RX12_55 xc_135 (v := 151) rfl ?_
              refine g_aload_n (pc := 91) dX12_look_91 rfl ?_
              refine g_gI (pc := 92) dX12_look_92 fI_RX12_229 xc_135 (v := (rd u 135 18)) rfl ?_
              refine g_iload_n (pc := 95) dX12_look_95 rfl ?_
              refine g_iastore (pc := 96) dX12_look_96 xc_151 (xin_of g7) (u' := (wr (wr (wr (wr u 135 0 (0 : Int32)) 149 (rd u 135 18).toNatClampNeg v1) 150 (rd u 135 18).toNatClampNeg v2) 151 (rd u 135 18).toNatClampNeg v3)) rfl ?_
              refine g_aload_n (pc := 97) dX12_look_97 rfl ?_
              refine g_gR (pc := 98) dX12_look_98 fR_RX12_58 xc_135 (v := 152) rfl ?_
              refine g_aload_n (pc := 101) dX12_look_101 rfl ?_
              refine g_gI (pc := 102) dX12_look_102 fI_RX12_229 xc_135 (v := (rd u 135 18)) rfl ?_
              refine g_iload (pc := 105) dX12_look_105 rfl ?_
              refine g_iastore (pc := 107) dX12_look_107 xc_152 (xin_of g7) (u' := (wr (wr (wr (wr (wr u 135 0 (0 : Int32)) 149 (rd u 135 18).toNatClampNeg v1) 150 (rd u 135 18).toNatClampNeg v2) 151 (rd u 135 18).toNatClampNeg v3) 152 (rd u 135 18).toNatClampNeg v4)) rfl ?_
              refine g_aload_n (pc := 108) dX12_look_108 rfl ?_
              refine g_gR (pc := 109) dX12_look_109 fR_RX12_61 xc_135 (v := 153) rfl ?_
              refine g_aload_n (pc := 112) dX12_look_112 rfl ?_
              refine g_gI (pc := 113) dX12_look_113 fI_RX12_229 xc_135 (v := (rd u 135 18)) rfl ?_
              refine g_iload (pc := 116) dX12_look_116 rfl ?_
              refine g_iastore (pc := 118) dX12_look_118 xc_153 (xin_of g7) (u' := (wr (wr (wr (wr (wr (wr u 135 0 (0 : Int32)) 149 (rd u 135 18).toNatClampNeg v1) 150 (rd u 135 18).toNatClampNeg v2) 151 (rd u 135 18).toNatClampNeg v3) 152 (rd u 135 18).toNatClampNeg v4) 153 (rd u 135 18).toNatClampNeg v5)) rfl ?_
              refine g_aload_n (pc := 119) dX12_look_119 rfl ?_
              refine g_dup (pc := 120) dX12_look_120 rfl ?_
              refine g_gI (pc := 121) dX12_look_121 fI_RX12_229 xc_135 (v := (rd u 135 18)) rfl ?_
              refine g_iconst (pc := 124) dX12_look_124 ic_1 ?_
              refine g_iadd (pc := 125) dX12_look_125 rfl ?_
              refine g_pI (pc := 126) dX12_look_126 pI_RX12_229 xc_135 (u' := (wr (wr (wr (wr (wr (wr (wr u 135 0 (0 : Int32)) 149 (rd u 135 18).toNatClampNeg v1) 150 (rd u 135 18).toNatClampNeg v2) 151 (rd u 135 18).toNatClampNeg v3) 152 (rd u 135 18).toNatClampNeg v4) 153 (rd u 135 18).toNatClampNeg v5) 135 18 ((rd u 135 18) + (1 : Int32)))) rfl ?_
              refine g_aload_n (pc := 129) dX12_look_129 rfl ?_
              refine g_gI (pc := 130) dX12_look_130 fI_RX12_229 xc_135 (v := ((rd u 135 18) + (1 : Int32))) rfl ?_
              cases h
              exact g_iret (pc := 133) dX12_look_133 rfl rfl rfl (Nat.le_refl _) (Nat.le_refl _)
            · replace h := (if_pos c6).symm.trans h
              refine g_iconst (pc := 65) dX12_look_65 ic_m1 ?_
              cases h
              exact g_iret (pc := 66) dX12_look_66 rfl rfl rfl (Nat.le_refl _) (Nat.le_refl _)
set_option maxRecDepth 100000 in
set_option maxHeartbeats 4000000 in
theorem M_X12_look {sc : Nat × (Nat → Int32)} {d : Nat} (hd : 2 ≤ d) {r : Int32} {u u' : xS} {a1 : Int32} {a2 : Int32} {a3 : Int32} {a4 : Int32} {a5 : Int32} (h : f_X12_look a1 a2 a3 a4 a5 u = some (r, u')) : xMt sc mX12_look d 0 0 [.ref 135, .int a1, .int a2, .int a3, .int a4, .int a5] (xL0, u) (some (.int r)) (xL0, u') :=
  xMt.of (by decide +kernel) (Nat.le_of_ble_eq_true rfl) (L := [some (.ref 135), some (.int a1), some (.int a2), some (.int a3), some (.int a4), some (.int a5)]) rfl ((G_X12_look_0 hd a1 a2 a3 a4 a5 u h))
set_option maxRecDepth 100000 in
set_option maxHeartbeats 4000000 in
theorem G_X12_takesOf_102 {sc : Nat × (Nat → Int32)} {d : Nat} (hd : 1 ≤ d) {u' : xS} {k6 : Int32 → Int32 → Int32 → Int32 → xS → Option xS} (hk6 : ∀ (v1 : Int32) (v3 : Int32) (v4 : Int32) (v5 : Int32) (u : xS), k6 v1 v3 v4 v5 u = some u' → xG sc mX12_takesOf d 0 0 (xR none (xL0, u') 0 0) 0 0 6 [some (.ref 135), some (.int v1), none, some (.int v3), some (.int v4), some (.int v5), none, none, none] [] (xL0, u)) (v1 : Int32) (v3 : Int32) (v4 : Int32) (v5 : Int32) (u : xS) (h : f_X12_takesOf_102 k6 v1 v3 v4 v5 u = some u') : xG sc mX12_takesOf d 0 0 (xR none (xL0, u') 0 0) 0 0 102 [some (.ref 135), some (.int v1), none, some (.int v3), some (.int v4), some (.int v5), none, none, none] [] (xL0, u) := by
  rw [f_X12_takesOf_102] at h
  refine g_inc (pc := 102) dX12_takesOf_102 (Nat.le_of_ble_eq_true rfl) rfl ic_1 (L' := [some (.ref 135), some (.int v1), none, some (.int v3), some (.int v4), some (.int (v5 + (1 : Int32))), none, none, none]) rfl ?_
  refine g_goto (tgt := 6) (pc := 105) dX12_takesOf_105 (by decide) ?_
  exact hk6 v1 v3 v4 (v5 + (1 : Int32)) u h
set_option maxRecDepth 100000 in
set_option maxHeartbeats 4000000 in
theorem G_X12_takesOf_6 {sc : Nat × (Nat → Int32)} {d : Nat} (hd : 1 ≤ d) {u' : xS} : ∀ (n : Nat) (v1 : Int32) (v3 : Int32) (v4 : Int32) (v5 : Int32) (u : xS), f_X12_takesOf_6 n v1 v3 v4 v5 u = some u' → xG sc mX12_takesOf d 0 0 (xR none (xL0, u') 0 0) 0 0 6 [some (.ref 135), some (.int v1), none, some (.int v3), some (.int v4), some (.int v5), none, none, none] [] (xL0, u) := by
  intro n
  induction n with
  | zero =>
    intro v1 v3 v4 v5 u h
    rw [f_X12_takesOf_6] at h
    cases h
  | succ n ih =>
    intro v1 v3 v4 v5 u h
    rw [f_X12_takesOf_6] at h
    refine g_iload (pc := 6) dX12_takesOf_6 rfl ?_
    refine g_aload_n (pc := 8) dX12_takesOf_8 rfl ?_
    refine g_gI (pc := 9) dX12_takesOf_9 fI_RX12_214 xc_135 (v := (rd u 135 16)) rfl ?_
    refine g_icmp_ge (tgt := 108) (pc := 12) dX12_takesOf_12 (by decide) (fun c1 => ?_) (fun c1 => ?_)
    · replace h := (if_pos c1).symm.trans h
      cases h
      exact g_ret (pc := 108) dX12_takesOf_108 rfl rfl rfl (Nat.le_refl _) (Nat.le_refl _)
    · replace h := (if_neg c1).symm.trans h
      refine g_aload_n (pc := 15) dX12_takesOf_15 rfl ?_
      refine g_gR (pc := 16) dX12_takesOf_16 fR_RX12_46 xc_135 (v := 148) rfl ?_
      refine g_iload (pc := 19) dX12_takesOf_19 rfl ?_
      obtain ⟨g2, h⟩ := x_gd h
      refine g_iaload (pc := 21) dX12_takesOf_21 xc_148 (xin_of g2) (v := (rd u 148 v5.toNatClampNeg)) rfl ?_
      refine g_istore (pc := 22) dX12_takesOf_22 (Nat.le_of_ble_eq_true rfl) (L' := [some (.ref 135), some (.int v1), none, some (.int v3), some (.int v4), some (.int v5), some (.int (rd u 148 v5.toNatClampNeg)), none, none]) rfl ?_
      refine g_bipush (pc := 24) dX12_takesOf_24 bp_24 ?_
      refine g_iload_n (pc := 26) dX12_takesOf_26 rfl ?_
      refine g_imul (pc := 27) dX12_takesOf_27 rfl ?_
      refine g_iload (pc := 28) dX12_takesOf_28 rfl ?_
      refine g_iadd (pc := 30) dX12_takesOf_30 rfl ?_
      refine g_istore (pc := 31) dX12_takesOf_31 (Nat.le_of_ble_eq_true rfl) (L' := [some (.ref 135), some (.int v1), none, some (.int v3), some (.int v4), some (.int v5), some (.int (rd u 148 v5.toNatClampNeg)), some (.int (((24 : Int32) * v1) + (rd u 148 v5.toNatClampNeg))), none]) rfl ?_
      refine g_iload (pc := 33) dX12_takesOf_33 rfl ?_
      refine g_aload_n (pc := 35) dX12_takesOf_35 rfl ?_
      refine g_gR (pc := 36) dX12_takesOf_36 fR_RX12_43 xc_135 (v := 147) rfl ?_
      refine g_iload (pc := 39) dX12_takesOf_39 rfl ?_
      obtain ⟨g3, h⟩ := x_gd h
      refine g_iaload (pc := 41) dX12_takesOf_41 xc_147 (xin_of g3) (v := (rd u 147 (((24 : Int32) * v1) + (rd u 148 v5.toNatClampNeg)).toNatClampNeg)) rfl ?_
      refine g_min (pc := 42) dX12_takesOf_42 mK_RX12_250 (Nat.le_of_ble_eq_true rfl) (Nat.le_trans (Nat.le_of_ble_eq_true rfl) hd) (Nat.le_refl _) (Nat.le_refl _) ?_
      refine g_istore (pc := 45) dX12_takesOf_45 (Nat.le_of_ble_eq_true rfl) (L' := [some (.ref 135), some (.int v1), none, some (.int v3), some (.int v4), some (.int v5), some (.int (rd u 148 v5.toNatClampNeg)), some (.int (((24 : Int32) * v1) + (rd u 148 v5.toNatClampNeg))), some (.int (imin v4 (rd u 147 (((24 : Int32) * v1) + (rd u 148 v5.toNatClampNeg)).toNatClampNeg)))]) rfl ?_
      refine g_aload_n (pc := 47) dX12_takesOf_47 rfl ?_
      refine g_gR (pc := 48) dX12_takesOf_48 fR_RX12_43 xc_135 (v := 147) rfl ?_
      refine g_iload (pc := 51) dX12_takesOf_51 rfl ?_
      refine g_dup2 (pc := 53) dX12_takesOf_53 rfl rfl ?_
      refine g_iaload (pc := 54) dX12_takesOf_54 xc_147 (xin_of g3) (v := (rd u 147 (((24 : Int32) * v1) + (rd u 148 v5.toNatClampNeg)).toNatClampNeg)) rfl ?_
      refine g_iload (pc := 55) dX12_takesOf_55 rfl ?_
      refine g_isub (pc := 57) dX12_takesOf_57 rfl ?_
      refine g_iastore (pc := 58) dX12_takesOf_58 xc_147 (xin_of g3) (u' := (wr u 147 (((24 : Int32) * v1) + (rd u 148 v5.toNatClampNeg)).toNatClampNeg ((rd u 147 (((24 : Int32) * v1) + (rd u 148 v5.toNatClampNeg)).toNatClampNeg) - (imin v4 (rd u 147 (((24 : Int32) * v1) + (rd u 148 v5.toNatClampNeg)).toNatClampNeg))))) rfl ?_
      refine g_iload (pc := 59) dX12_takesOf_59 rfl ?_
      refine g_iload (pc := 61) dX12_takesOf_61 rfl ?_
      refine g_isub (pc := 63) dX12_takesOf_63 rfl ?_
      refine g_istore (pc := 64) dX12_takesOf_64 (Nat.le_of_ble_eq_true rfl) (L' := [some (.ref 135), some (.int v1), none, some (.int v3), some (.int (v4 - (imin v4 (rd u 147 (((24 : Int32) * v1) + (rd u 148 v5.toNatClampNeg)).toNatClampNeg)))), some (.int v5), some (.int (rd u 148 v5.toNatClampNeg)), some (.int (((24 : Int32) * v1) + (rd u 148 v5.toNatClampNeg))), some (.int (imin v4 (rd u 147 (((24 : Int32) * v1) + (rd u 148 v5.toNatClampNeg)).toNatClampNeg)))]) rfl ?_
      refine g_iload_n (pc := 66) dX12_takesOf_66 rfl ?_
      refine g_if_ge (tgt := 85) (pc := 67) dX12_takesOf_67 (by decide) (fun c4 => ?_) (fun c4 => ?_)
      · replace h := (if_pos c4).symm.trans h
        refine g_aload_n (pc := 85) dX12_takesOf_85 rfl ?_
        refine g_gR (pc := 86) dX12_takesOf_86 fR_RX12_90 xc_135 (v := 161) rfl ?_
        refine g_bipush (pc := 89) dX12_takesOf_89 bp_24 ?_
        refine g_iload_n (pc := 91) dX12_takesOf_91 rfl ?_
        refine g_imul (pc := 92) dX12_takesOf_92 rfl ?_
        refine g_iload (pc := 93) dX12_takesOf_93 rfl ?_
        refine g_iadd (pc := 95) dX12_takesOf_95 rfl ?_
        refine g_dup2 (pc := 96) dX12_takesOf_96 rfl rfl ?_
        obtain ⟨g5, h⟩ := x_gd h
        refine g_iaload (pc := 97) dX12_takesOf_97 xc_161 (xin_of g5) (v := (rd u 161 (((24 : Int32) * v3) + (rd u 148 v5.toNatClampNeg)).toNatClampNeg)) rfl ?_
        refine g_iload (pc := 98) dX12_takesOf_98 rfl ?_
        refine g_iadd (pc := 100) dX12_takesOf_100 rfl ?_
        refine g_iastore (pc := 101) dX12_takesOf_101 xc_161 (xin_of g5) (u' := (wr (wr u 147 (((24 : Int32) * v1) + (rd u 148 v5.toNatClampNeg)).toNatClampNeg ((rd u 147 (((24 : Int32) * v1) + (rd u 148 v5.toNatClampNeg)).toNatClampNeg) - (imin v4 (rd u 147 (((24 : Int32) * v1) + (rd u 148 v5.toNatClampNeg)).toNatClampNeg)))) 161 (((24 : Int32) * v3) + (rd u 148 v5.toNatClampNeg)).toNatClampNeg ((rd u 161 (((24 : Int32) * v3) + (rd u 148 v5.toNatClampNeg)).toNatClampNeg) + (imin v4 (rd u 147 (((24 : Int32) * v1) + (rd u 148 v5.toNatClampNeg)).toNatClampNeg))))) rfl ?_
        refine g_L (L' := [some (.ref 135), some (.int v1), none, some (.int v3), some (.int (v4 - (imin v4 (rd u 147 (((24 : Int32) * v1) + (rd u 148 v5.toNatClampNeg)).toNatClampNeg)))), some (.int v5), none, none, none]) ⟨rfl, ⟨rfl, ⟨rfl, ⟨rfl, ⟨rfl, trivial⟩⟩⟩⟩⟩ ?_
        exact G_X12_takesOf_102 hd ih v1 v3 (v4 - (imin v4 (rd u 147 (((24 : Int32) * v1) + (rd u 148 v5.toNatClampNeg)).toNatClampNeg))) v5 (wr (wr u 147 (((24 : Int32) * v1) + (rd u 148 v5.toNatClampNeg)).toNatClampNeg ((rd u 147 (((24 : Int32) * v1) + (rd u 148 v5.toNatClampNeg)).toNatClampNeg) - (imin v4 (rd u 147 (((24 : Int32) * v1) + (rd u 148 v5.toNatClampNeg)).toNatClampNeg)))) 161 (((24 : Int32) * v3) + (rd u 148 v5.toNatClampNeg)).toNatClampNeg ((rd u 161 (((24 : Int32) * v3) + (rd u 148 v5.toNatClampNeg)).toNatClampNeg) + (imin v4 (rd u 147 (((24 : Int32) * v1) + (rd u 148 v5.toNatClampNeg)).toNatClampNeg)))) h
      · replace h := (if_neg c4).symm.trans h
        refine g_aload_n (pc := 70) dX12_takesOf_70 rfl ?_
        refine g_gR (pc := 71) dX12_takesOf_71 fR_RX12_37 xc_135 (v := 145) rfl ?_
        refine g_iload (pc := 74) dX12_takesOf_74 rfl ?_
        refine g_dup2 (pc := 76) dX12_takesOf_76 rfl rfl ?_
        obtain ⟨g6, h⟩ := x_gd h
        refine g_iaload (pc := 77) dX12_takesOf_77 xc_145 (xin_of g6) (v := (rd u 145 (rd u 148 v5.toNatClampNeg).toNatClampNeg)) rfl ?_
        refine g_iload (pc := 78) dX12_takesOf_78 rfl ?_
        refine g_iadd (pc := 80) dX12_takesOf_80 rfl ?_
        refine g_iastore (pc := 81) dX12_takesOf_81 xc_145 (xin_of g6) (u' := (wr (wr u 147 (((24 : Int32) * v1) + (rd u 148 v5.toNatClampNeg)).toNatClampNeg ((rd u 147 (((24 : Int32) * v1) + (rd u 148 v5.toNatClampNeg)).toNatClampNeg) - (imin v4 (rd u 147 (((24 : Int32) * v1) + (rd u 148 v5.toNatClampNeg)).toNatClampNeg)))) 145 (rd u 148 v5.toNatClampNeg).toNatClampNeg ((rd u 145 (rd u 148 v5.toNatClampNeg).toNatClampNeg) + (imin v4 (rd u 147 (((24 : Int32) * v1) + (rd u 148 v5.toNatClampNeg)).toNatClampNeg))))) rfl ?_
        refine g_goto (tgt := 102) (pc := 82) dX12_takesOf_82 (by decide) ?_
        refine g_L (L' := [some (.ref 135), some (.int v1), none, some (.int v3), some (.int (v4 - (imin v4 (rd u 147 (((24 : Int32) * v1) + (rd u 148 v5.toNatClampNeg)).toNatClampNeg)))), some (.int v5), none, none, none]) ⟨rfl, ⟨rfl, ⟨rfl, ⟨rfl, ⟨rfl, trivial⟩⟩⟩⟩⟩ ?_
        exact G_X12_takesOf_102 hd ih v1 v3 (v4 - (imin v4 (rd u 147 (((24 : Int32) * v1) + (rd u 148 v5.toNatClampNeg)).toNatClampNeg))) v5 (wr (wr u 147 (((24 : Int32) * v1) + (rd u 148 v5.toNatClampNeg)).toNatClampNeg ((rd u 147 (((24 : Int32) * v1) + (rd u 148 v5.toNatClampNeg)).toNatClampNeg) - (imin v4 (rd u 147 (((24 : Int32) * v1) + (rd u 148 v5.toNatClampNeg)).toNatClampNeg)))) 145 (rd u 148 v5.toNatClampNeg).toNatClampNeg ((rd u 145 (rd u 148 v5.toNatClampNeg).toNatClampNeg) + (imin v4 (rd u 147 (((24 : Int32) * v1) + (rd u 148 v5.toNatClampNeg)).toNatClampNeg)))) h
set_option maxRecDepth 100000 in
set_option maxHeartbeats 4000000 in
theorem G_X12_takesOf_0 {sc : Nat × (Nat → Int32)} {d : Nat} (hd : 1 ≤ d) {u' : xS} (v1 : Int32) (v2 : Int32) (v3 : Int32) (u : xS) (h : f_X12_takesOf v1 v2 v3 u = some u') : xG sc mX12_takesOf d 0 0 (xR none (xL0, u') 0 0) 0 0 0 [some (.ref 135), some (.int v1), some (.int v2), some (.int v3), none, none, none, none, none] [] (xL0, u) := by
  rw [f_X12_takesOf] at h
  refine g_iload_n (pc := 0) dX12_takesOf_0 rfl ?_
  refine g_istore (pc := 1) dX12_takesOf_1 (Nat.le_of_ble_eq_true rfl) (L' := [some (.ref 135), some (.int v1), some (.int v2), some (.int v3), some (.int v2), none, none, none, none]) rfl ?_
  refine g_iconst (pc := 3) dX12_takesOf_3 ic_0 ?_
  refine g_istore (pc := 4) dX12_takesOf_4 (Nat.le_of_ble_eq_true rfl) (L' := [some (.ref 135), some (.int v1), some (.int v2), some (.int v3), some (.int v2), some (.int (0 : Int32)), none, none, none]) rfl ?_
  refine g_L (L' := [some (.ref 135), some (.int v1), none, some (.int v3), some (.int v2), some (.int (0 : Int32)), none, none, none]) ⟨rfl, ⟨rfl, ⟨rfl, ⟨rfl, ⟨rfl, trivial⟩⟩⟩⟩⟩ ?_
  exact G_X12_takesOf_6 hd xN v1 v3 v2 (0 : Int32) u h
set_option maxRecDepth 100000 in
set_option maxHeartbeats 4000000 in
theorem M_X12_takesOf {sc : Nat × (Nat → Int32)} {d : Nat} (hd : 1 ≤ d) {u u' : xS} {a1 : Int32} {a2 : Int32} {a3 : Int32} (h : f_X12_takesOf a1 a2 a3 u = some u') : xMt sc mX12_takesOf d 0 0 [.ref 135, .int a1, .int a2, .int a3] (xL0, u) none (xL0, u') :=
  xMt.of (by decide +kernel) (Nat.le_of_ble_eq_true rfl) (L := [some (.ref 135), some (.int a1), some (.int a2), some (.int a3), none, none, none, none, none]) rfl ((G_X12_takesOf_0 hd a1 a2 a3 u h))
set_option maxRecDepth 100000 in
set_option maxHeartbeats 4000000 in
theorem G_X12_make_76 {sc : Nat × (Nat → Int32)} {d : Nat} (hd : 2 ≤ d) {r : Int32} {u' : xS} : ∀ (n : Nat) (v1 : Int32) (v2 : Int32) (u : xS), f_X12_make_76 n v1 v2 u = some (r, u') → xG sc mX12_make d 0 0 (xR (some (.int r)) (xL0, u') 0 0) 0 0 76 [some (.ref 135), some (.int v1), some (.int v2)] [] (xL0, u) := by
  intro n
  induction n with
  | zero =>
    intro v1 v2 u h
    rw [f_X12_make_76] at h
    cases h
  | succ n ih =>
    intro v1 v2 u h
    rw [f_X12_make_76] at h
    refine g_iload_n (pc := 76) dX12_make_76 rfl ?_
    refine g_aload_n (pc := 77) dX12_make_77 rfl ?_
    refine g_gI (pc := 78) dX12_make_78 fI_RX12_153 xc_135 (v := (rd u 135 1)) rfl ?_
    refine g_icmp_ge (tgt := 112) (pc := 81) dX12_make_81 (by decide) (fun c1 => ?_) (fun c1 => ?_)
    · replace h := (if_pos c1).symm.trans h
      refine g_aload_n (pc := 112) dX12_make_112 rfl ?_
      refine g_gI (pc := 113) dX12_make_113 fI_RX12_223 xc_135 (v := (rd u 135 37)) rfl ?_
      refine g_iconst (pc := 116) dX12_make_116 ic_1 ?_
      refine g_isub (pc := 117) dX12_make_117 rfl ?_
      cases h
      exact g_iret (pc := 118) dX12_make_118 rfl rfl rfl (Nat.le_refl _) (Nat.le_refl _)
    · replace h := (if_neg c1).symm.trans h
      refine g_aload_n (pc := 84) dX12_make_84 rfl ?_
      refine g_iload_n (pc := 85) dX12_make_85 rfl ?_
      refine g_aload_n (pc := 86) dX12_make_86 rfl ?_
      refine g_gR (pc := 87) dX12_make_87 fR_RX12_87 xc_135 (v := 160) rfl ?_
      refine g_iload_n (pc := 90) dX12_make_90 rfl ?_
      obtain ⟨g2, h⟩ := x_gd h
      refine g_iaload (pc := 91) dX12_make_91 xc_160 (xin_of g2) (v := (rd u 160 v2.toNatClampNeg)) rfl ?_
      refine g_iload_n (pc := 92) dX12_make_92 rfl ?_
      refine g_bipush (pc := 93) dX12_make_93 bp_12 ?_
      refine g_idiv (pc := 95) dX12_make_95 (by decide) rfl ?_
      refine g_imul (pc := 96) dX12_make_96 rfl ?_
      refine g_aload_n (pc := 97) dX12_make_97 rfl ?_
      refine g_gI (pc := 98) dX12_make_98 fI_RX12_223 xc_135 (v := (rd u 135 37)) rfl ?_
      refine g_iconst (pc := 101) dX12_make_101 ic_1 ?_
      refine g_isub (pc := 102) dX12_make_102 rfl ?_
      obtain ⟨u4, e3, h⟩ := x_bind h
      refine g_cV (pc := 103) dX12_make_103 cV_RX12_343 (M_X12_takesOf (Nat.le_refl _) e3) xc_135 (as := [.int v2, .int ((rd u 160 v2.toNatClampNeg) * (v1 / (12 : Int32))), .int ((rd u 135 37) - (1 : Int32))]) (st := []) rfl rfl (Nat.le_of_ble_eq_true rfl) (Nat.le_trans (Nat.le_of_ble_eq_true rfl) hd) rfl ?_
      refine g_inc (pc := 106) dX12_make_106 (Nat.le_of_ble_eq_true rfl) rfl ic_1 (L' := [some (.ref 135), some (.int v1), some (.int (v2 + (1 : Int32)))]) rfl ?_
      refine g_goto (tgt := 76) (pc := 109) dX12_make_109 (by decide) ?_
      exact ih v1 (v2 + (1 : Int32)) u4 h
set_option maxRecDepth 100000 in
set_option maxHeartbeats 4000000 in
theorem G_X12_make_0 {sc : Nat × (Nat → Int32)} {d : Nat} (hd : 2 ≤ d) {r : Int32} {u' : xS} (v1 : Int32) (u : xS) (h : f_X12_make v1 u = some (r, u')) : xG sc mX12_make d 0 0 (xR (some (.int r)) (xL0, u') 0 0) 0 0 0 [some (.ref 135), some (.int v1), none] [] (xL0, u) := by
  rw [f_X12_make] at h
  refine g_aload_n (pc := 0) dX12_make_0 rfl ?_
  refine g_iconst (pc := 1) dX12_make_1 ic_0 ?_
  refine g_pI (pc := 2) dX12_make_2 pI_RX12_150 xc_135 (u' := (wr u 135 0 (0 : Int32))) rfl ?_
  refine g_aload_n (pc := 5) dX12_make_5 rfl ?_
  obtain ⟨x2, e1, h⟩ := x_bind h
  refine g_cV (pc := 6) dX12_make_6 cV_RX12_356 (M_X12_partsInAll (Nat.le_refl _) e1) xc_135 (as := []) (st := []) rfl rfl (Nat.le_of_ble_eq_true rfl) (Nat.le_trans (Nat.le_of_ble_eq_true rfl) hd) rfl ?_
  refine g_bipush (pc := 9) dX12_make_9 bp_12 ?_
  refine g_icmp_ne (tgt := 52) (pc := 11) dX12_make_11 (by decide) (fun c3 => ?_) (fun c3 => ?_)
  · replace h := (if_neg c3).symm.trans h
    refine g_iconst (pc := 52) dX12_make_52 ic_m1 ?_
    cases h
    exact g_iret (pc := 53) dX12_make_53 rfl rfl rfl (Nat.le_refl _) (Nat.le_refl _)
  · replace h := (if_pos c3).symm.trans h
    refine g_iload_n (pc := 14) dX12_make_14 rfl ?_
    refine g_i2l (pc := 15) dX12_make_15 rfl ?_
    refine g_ldc2 (pc := 16) dX12_make_16 kl_RX12_354 ?_
    refine g_ldc2 (pc := 19) dX12_make_19 kl_RX12_386 ?_
    refine g_cS (pc := 22) dX12_make_22 cS_RX12_156 (M_X12_in (Nat.le_refl _) rfl) (as := [.long ((v1).toInt64), .long (12 : Int64), .long (9996 : Int64)]) (st := []) rfl rfl (Nat.le_of_ble_eq_true rfl) (Nat.le_trans (Nat.le_of_ble_eq_true rfl) hd) rfl ?_
    refine g_if_eq (tgt := 52) (pc := 25) dX12_make_25 (by decide) (fun c4 => ?_) (fun c4 => ?_)
    · replace h := (if_pos c4).symm.trans h
      refine g_iconst (pc := 52) dX12_make_52 ic_m1 ?_
      cases h
      exact g_iret (pc := 53) dX12_make_53 rfl rfl rfl (Nat.le_refl _) (Nat.le_refl _)
    · replace h := (if_neg c4).symm.trans h
      refine g_iload_n (pc := 28) dX12_make_28 rfl ?_
      refine g_bipush (pc := 29) dX12_make_29 bp_12 ?_
      refine g_irem (pc := 31) dX12_make_31 (by decide) rfl ?_
      refine g_if_ne (tgt := 52) (pc := 32) dX12_make_32 (by decide) (fun c5 => ?_) (fun c5 => ?_)
      · replace h := (if_neg c5).symm.trans h
        refine g_iconst (pc := 52) dX12_make_52 ic_m1 ?_
        cases h
        exact g_iret (pc := 53) dX12_make_53 rfl rfl rfl (Nat.le_refl _) (Nat.le_refl _)
      · replace h := (if_pos c5).symm.trans h
        refine g_aload_n (pc := 35) dX12_make_35 rfl ?_
        refine g_gI (pc := 36) dX12_make_36 fI_RX12_223 xc_135 (v := (rd u 135 37)) rfl ?_
        refine g_bipush (pc := 39) dX12_make_39 bp_20 ?_
        refine g_icmp_eq (tgt := 52) (pc := 41) dX12_make_41 (by decide) (fun c6 => ?_) (fun c6 => ?_)
        · replace h := (if_pos c6).symm.trans h
          refine g_iconst (pc := 52) dX12_make_52 ic_m1 ?_
          cases h
          exact g_iret (pc := 53) dX12_make_53 rfl rfl rfl (Nat.le_refl _) (Nat.le_refl _)
        · replace h := (if_neg c6).symm.trans h
          refine g_aload_n (pc := 44) dX12_make_44 rfl ?_
          refine g_iload_n (pc := 45) dX12_make_45 rfl ?_
          obtain ⟨x8, e7, h⟩ := x_bind h
          refine g_cV (pc := 46) dX12_make_46 cV_RX12_371 (M_X12_isEnough (Nat.le_refl _) e7) xc_135 (as := [.int v1]) (st := []) rfl rfl (Nat.le_of_ble_eq_true rfl) (Nat.le_trans (Nat.le_of_ble_eq_true rfl) hd) rfl ?_
          refine g_if_ne (tgt := 54) (pc := 49) dX12_make_49 (by decide) (fun c9 => ?_) (fun c9 => ?_)
          · replace h := (if_neg c9).symm.trans h
            refine g_aload_n (pc := 54) dX12_make_54 rfl ?_
            refine g_gR (pc := 55) dX12_make_55 fR_RX12_93 xc_135 (v := 162) rfl ?_
            refine g_aload_n (pc := 58) dX12_make_58 rfl ?_
            refine g_gI (pc := 59) dX12_make_59 fI_RX12_223 xc_135 (v := (rd u 135 37)) rfl ?_
            refine g_iconst (pc := 62) dX12_make_62 ic_2 ?_
            obtain ⟨g10, h⟩ := x_gd h
            refine g_iastore (pc := 63) dX12_make_63 xc_162 (xin_of g10) (u' := (wr (wr u 135 0 (0 : Int32)) 162 (rd u 135 37).toNatClampNeg (2 : Int32))) rfl ?_
            refine g_aload_n (pc := 64) dX12_make_64 rfl ?_
            refine g_dup (pc := 65) dX12_make_65 rfl ?_
            refine g_gI (pc := 66) dX12_make_66 fI_RX12_223 xc_135 (v := (rd u 135 37)) rfl ?_
            refine g_iconst (pc := 69) dX12_make_69 ic_1 ?_
            refine g_iadd (pc := 70) dX12_make_70 rfl ?_
            refine g_pI (pc := 71) dX12_make_71 pI_RX12_223 xc_135 (u' := (wr (wr (wr u 135 0 (0 : Int32)) 162 (rd u 135 37).toNatClampNeg (2 : Int32)) 135 37 ((rd u 135 37) + (1 : Int32)))) rfl ?_
            refine g_iconst (pc := 74) dX12_make_74 ic_0 ?_
            refine g_istore_n (pc := 75) dX12_make_75 (Nat.le_of_ble_eq_true rfl) (L' := [some (.ref 135), some (.int v1), some (.int (0 : Int32))]) rfl ?_
            exact G_X12_make_76 hd xN v1 (0 : Int32) (wr (wr (wr u 135 0 (0 : Int32)) 162 (rd u 135 37).toNatClampNeg (2 : Int32)) 135 37 ((rd u 135 37) + (1 : Int32))) h
          · replace h := (if_pos c9).symm.trans h
            refine g_iconst (pc := 52) dX12_make_52 ic_m1 ?_
            cases h
            exact g_iret (pc := 53) dX12_make_53 rfl rfl rfl (Nat.le_refl _) (Nat.le_refl _)
set_option maxRecDepth 100000 in
set_option maxHeartbeats 4000000 in
theorem M_X12_make {sc : Nat × (Nat → Int32)} {d : Nat} (hd : 2 ≤ d) {r : Int32} {u u' : xS} {a1 : Int32} (h : f_X12_make a1 u = some (r, u')) : xMt sc mX12_make d 0 0 [.ref 135, .int a1] (xL0, u) (some (.int r)) (xL0, u') :=
  xMt.of (by decide +kernel) (Nat.le_of_ble_eq_true rfl) (L := [some (.ref 135), some (.int a1), none]) rfl ((G_X12_make_0 hd a1 u h))
set_option maxRecDepth 100000 in
set_option maxHeartbeats 4000000 in
theorem G_X12_met_0 {sc : Nat × (Nat → Int32)} {d : Nat} (hd : 2 ≤ d) {r : Int32} {u' : xS} (v1 : Int32) (v2 : Int32) (u : xS) (h : f_X12_met v1 v2 u = some (r, u')) : xG sc mX12_met d 0 0 (xR (some (.int r)) (xL0, u') 0 0) 0 0 0 [some (.ref 135), some (.int v1), some (.int v2)] [] (xL0, u) := by
  rw [f_X12_met] at h
  refine g_aload_n (pc := 0) dX12_met_0 rfl ?_
  refine g_iconst (pc := 1) dX12_met_1 ic_0 ?_
  refine g_pI (pc := 2) dX12_met_2 pI_RX12_150 xc_135 (u' := (wr u 135 0 (0 : Int32))) rfl ?_
  refine g_iload_n (pc := 5) dX12_met_5 rfl ?_
  refine g_cS (pc := 6) dX12_met_6 cS_RX12_208 (M_X12_isSorter (Nat.le_refl _) rfl) (as := [.int v1]) (st := []) rfl rfl (Nat.le_of_ble_eq_true rfl) (Nat.le_trans (Nat.le_of_ble_eq_true rfl) hd) rfl ?_
  refine g_if_eq (tgt := 33) (pc := 9) dX12_met_9 (by decide) (fun c1 => ?_) (fun c1 => ?_)
  · replace h := (if_pos c1).symm.trans h
    refine g_iconst (pc := 33) dX12_met_33 ic_m1 ?_
    cases h
    exact g_iret (pc := 34) dX12_met_34 rfl rfl rfl (Nat.le_refl _) (Nat.le_refl _)
  · replace h := (if_neg c1).symm.trans h
    refine g_iload_n (pc := 12) dX12_met_12 rfl ?_
    refine g_cS (pc := 13) dX12_met_13 cS_RX12_208 (M_X12_isSorter (Nat.le_refl _) rfl) (as := [.int v2]) (st := []) rfl rfl (Nat.le_of_ble_eq_true rfl) (Nat.le_trans (Nat.le_of_ble_eq_true rfl) hd) rfl ?_
    refine g_if_eq (tgt := 33) (pc := 16) dX12_met_16 (by decide) (fun c2 => ?_) (fun c2 => ?_)
    · replace h := (if_pos c2).symm.trans h
      refine g_iconst (pc := 33) dX12_met_33 ic_m1 ?_
      cases h
      exact g_iret (pc := 34) dX12_met_34 rfl rfl rfl (Nat.le_refl _) (Nat.le_refl _)
    · replace h := (if_neg c2).symm.trans h
      refine g_iload_n (pc := 19) dX12_met_19 rfl ?_
      refine g_iload_n (pc := 20) dX12_met_20 rfl ?_
      refine g_icmp_eq (tgt := 33) (pc := 21) dX12_met_21 (by decide) (fun c3 => ?_) (fun c3 => ?_)
      · replace h := (if_pos c3).symm.trans h
        refine g_iconst (pc := 33) dX12_met_33 ic_m1 ?_
        cases h
        exact g_iret (pc := 34) dX12_met_34 rfl rfl rfl (Nat.le_refl _) (Nat.le_refl _)
      · replace h := (if_neg c3).symm.trans h
        refine g_aload_n (pc := 24) dX12_met_24 rfl ?_
        refine g_iload_n (pc := 25) dX12_met_25 rfl ?_
        refine g_iload_n (pc := 26) dX12_met_26 rfl ?_
        obtain ⟨x5, e4, h⟩ := x_bind h
        refine g_cV (pc := 27) dX12_met_27 cV_RX12_412 (M_X12_alike (Nat.le_refl _) e4) xc_135 (as := [.int v1, .int v2]) (st := []) rfl rfl (Nat.le_of_ble_eq_true rfl) (Nat.le_trans (Nat.le_of_ble_eq_true rfl) hd) rfl ?_
        refine g_goto (tgt := 34) (pc := 30) dX12_met_30 (by decide) ?_
        cases h
        exact g_iret (pc := 34) dX12_met_34 rfl rfl rfl (Nat.le_refl _) (Nat.le_refl _)
set_option maxRecDepth 100000 in
set_option maxHeartbeats 4000000 in
theorem M_X12_met {sc : Nat × (Nat → Int32)} {d : Nat} (hd : 2 ≤ d) {r : Int32} {u u' : xS} {a1 : Int32} {a2 : Int32} (h : f_X12_met a1 a2 u = some (r, u')) : xMt sc mX12_met d 0 0 [.ref 135, .int a1, .int a2] (xL0, u) (some (.int r)) (xL0, u') :=
  xMt.of (by decide +kernel) (Nat.le_of_ble_eq_true rfl) (L := [some (.ref 135), some (.int a1), some (.int a2)]) rfl ((G_X12_met_0 hd a1 a2 u h))
set_option maxRecDepth 100000 in
set_option maxHeartbeats 4000000 in
theorem G_X12_mixes_114 {sc : Nat × (Nat → Int32)} {d : Nat} (hd : 6 ≤ d) {u' : xS} {dk : Nat} (hkd : dk + 1 ≤ d) {k_X12_mixes : Int32 → Int32 → Int32 → Int32 → Int32 → Int32 → xS → Option xS} (hk_X12_mixes : ∀ (a1 a2 a3 a4 a5 a6 : Int32) (u u' : xS), k_X12_mixes a1 a2 a3 a4 a5 a6 u = some u' → xMt sc mX12_mixes dk 0 0 [.ref 135, .int a1, .int a2, .int a3, .int a4, .int a5, .int a6] (xL0, u) none (xL0, u')) {k96 : Int32 → Int32 → Int32 → Int32 → Int32 → Int32 → Int32 → xS → Option xS} (hk96 : ∀ (v1 : Int32) (v2 : Int32) (v3 : Int32) (v4 : Int32) (v5 : Int32) (v6 : Int32) (v7 : Int32) (u : xS), k96 v1 v2 v3 v4 v5 v6 v7 u = some u' → xG sc mX12_mixes d 0 0 (xR none (xL0, u') 0 0) 0 0 96 [some (.ref 135), some (.int v1), some (.int v2), some (.int v3), some (.int v4), some (.int v5), some (.int v6), some (.int v7)] [] (xL0, u)) (v1 : Int32) (v2 : Int32) (v3 : Int32) (v4 : Int32) (v5 : Int32) (v6 : Int32) (v7 : Int32) (s0 : Int32) (s1 : Int32) (u : xS) (h : f_X12_mixes_114 k_X12_mixes k96 v1 v2 v3 v4 v5 v6 v7 s0 s1 u = some u') : xG sc mX12_mixes d 0 0 (xR none (xL0, u') 0 0) 0 0 114 [some (.ref 135), some (.int v1), some (.int v2), some (.int v3), some (.int v4), some (.int v5), some (.int v6), some (.int v7)] [.int s1, .int s0] (xL0, u) := by
  rw [f_X12_mixes_114] at h
  refine g_icmp_gt (tgt := 150) (pc := 114) dX12_mixes_114 (by decide) (fun c1 => ?_) (fun c1 => ?_)
  · replace h := (if_pos c1).symm.trans h
    refine g_aload_n (pc := 150) dX12_mixes_150 rfl ?_
    refine g_gR (pc := 151) dX12_mixes_151 fR_RX12_87 xc_135 (v := 160) rfl ?_
    refine g_iload (pc := 154) dX12_mixes_154 rfl ?_
    refine g_iconst (pc := 156) dX12_mixes_156 ic_0 ?_
    obtain ⟨g2, h⟩ := x_gd h
    refine g_iastore (pc := 157) dX12_mixes_157 xc_160 (xin_of g2) (u' := (wr u 160 v5.toNatClampNeg (0 : Int32))) rfl ?_
    cases h
    exact g_ret (pc := 158) dX12_mixes_158 rfl rfl rfl (Nat.le_refl _) (Nat.le_refl _)
  · replace h := (if_neg c1).symm.trans h
    refine g_aload_n (pc := 117) dX12_mixes_117 rfl ?_
    refine g_gR (pc := 118) dX12_mixes_118 fR_RX12_87 xc_135 (v := 160) rfl ?_
    refine g_iload (pc := 121) dX12_mixes_121 rfl ?_
    refine g_iload (pc := 123) dX12_mixes_123 rfl ?_
    obtain ⟨g3, h⟩ := x_gd h
    refine g_iastore (pc := 125) dX12_mixes_125 xc_160 (xin_of g3) (u' := (wr u 160 v5.toNatClampNeg v7)) rfl ?_
    refine g_aload_n (pc := 126) dX12_mixes_126 rfl ?_
    refine g_iload_n (pc := 127) dX12_mixes_127 rfl ?_
    refine g_iload_n (pc := 128) dX12_mixes_128 rfl ?_
    refine g_iload_n (pc := 129) dX12_mixes_129 rfl ?_
    refine g_iload (pc := 130) dX12_mixes_130 rfl ?_
    refine g_iload (pc := 132) dX12_mixes_132 rfl ?_
    refine g_iconst (pc := 134) dX12_mixes_134 ic_1 ?_
    refine g_iadd (pc := 135) dX12_mixes_135 rfl ?_
    refine g_iload (pc := 136) dX12_mixes_136 rfl ?_
    refine g_iload (pc := 138) dX12_mixes_138 rfl ?_
    refine g_isub (pc := 140) dX12_mixes_140 rfl ?_
    obtain ⟨u5, e4, h⟩ := x_bind h
    refine g_cV (pc := 141) dX12_mixes_141 cV_RX12_377 (hk_X12_mixes _ _ _ _ _ _ _ _ e4) xc_135 (as := [.int v1, .int v2, .int v3, .int v4, .int (v5 + (1 : Int32)), .int (v6 - v7)]) (st := []) rfl rfl (Nat.le_of_ble_eq_true rfl) hkd rfl ?_
    refine g_inc (pc := 144) dX12_mixes_144 (Nat.le_of_ble_eq_true rfl) rfl ic_1 (L' := [some (.ref 135), some (.int v1), some (.int v2), some (.int v3), some (.int v4), some (.int v5), some (.int v6), some (.int (v7 + (1 : Int32)))]) rfl ?_
    refine g_goto (tgt := 96) (pc := 147) dX12_mixes_147 (by decide) ?_
    exact hk96 v1 v2 v3 v4 v5 v6 (v7 + (1 : Int32)) u5 h
set_option maxRecDepth 100000 in
set_option maxHeartbeats 4000000 in
theorem G_X12_mixes_96 {sc : Nat × (Nat → Int32)} {d : Nat} (hd : 6 ≤ d) {u' : xS} {dk : Nat} (hkd : dk + 1 ≤ d) {k_X12_mixes : Int32 → Int32 → Int32 → Int32 → Int32 → Int32 → xS → Option xS} (hk_X12_mixes : ∀ (a1 a2 a3 a4 a5 a6 : Int32) (u u' : xS), k_X12_mixes a1 a2 a3 a4 a5 a6 u = some u' → xMt sc mX12_mixes dk 0 0 [.ref 135, .int a1, .int a2, .int a3, .int a4, .int a5, .int a6] (xL0, u) none (xL0, u')) : ∀ (n : Nat) (v1 : Int32) (v2 : Int32) (v3 : Int32) (v4 : Int32) (v5 : Int32) (v6 : Int32) (v7 : Int32) (u : xS), f_X12_mixes_96 k_X12_mixes n v1 v2 v3 v4 v5 v6 v7 u = some u' → xG sc mX12_mixes d 0 0 (xR none (xL0, u') 0 0) 0 0 96 [some (.ref 135), some (.int v1), some (.int v2), some (.int v3), some (.int v4), some (.int v5), some (.int v6), some (.int v7)] [] (xL0, u) := by
  intro n
  induction n with
  | zero =>
    intro v1 v2 v3 v4 v5 v6 v7 u h
    rw [f_X12_mixes_96] at h
    cases h
  | succ n ih =>
    intro v1 v2 v3 v4 v5 v6 v7 u h
    rw [f_X12_mixes_96] at h
    refine g_iload (pc := 96) dX12_mixes_96 rfl ?_
    refine g_iload_n (pc := 98) dX12_mixes_98 rfl ?_
    refine g_iload (pc := 99) dX12_mixes_99 rfl ?_
    refine g_ishr (pc := 101) dX12_mixes_101 rfl ?_
    refine g_iconst (pc := 102) dX12_mixes_102 ic_1 ?_
    refine g_iand (pc := 103) dX12_mixes_103 rfl ?_
    refine g_iconst (pc := 104) dX12_mixes_104 ic_1 ?_
    refine g_icmp_ne (tgt := 113) (pc := 105) dX12_mixes_105 (by decide) (fun c1 => ?_) (fun c1 => ?_)
    · replace h := (if_neg c1).symm.trans h
      refine g_iconst (pc := 113) dX12_mixes_113 ic_0 ?_
      exact G_X12_mixes_114 hd hkd hk_X12_mixes ih v1 v2 v3 v4 v5 v6 v7 v7 (0 : Int32) u h
    · replace h := (if_pos c1).symm.trans h
      refine g_iload (pc := 108) dX12_mixes_108 rfl ?_
      refine g_goto (tgt := 114) (pc := 110) dX12_mixes_110 (by decide) ?_
      exact G_X12_mixes_114 hd hkd hk_X12_mixes ih v1 v2 v3 v4 v5 v6 v7 v7 v6 u h
set_option maxRecDepth 100000 in
set_option maxHeartbeats 4000000 in
theorem G_X12_mixes_63 {sc : Nat × (Nat → Int32)} {d : Nat} (hd : 6 ≤ d) {u' : xS} {dk : Nat} (hkd : dk + 1 ≤ d) {k_X12_mixes : Int32 → Int32 → Int32 → Int32 → Int32 → Int32 → xS → Option xS} (hk_X12_mixes : ∀ (a1 a2 a3 a4 a5 a6 : Int32) (u u' : xS), k_X12_mixes a1 a2 a3 a4 a5 a6 u = some u' → xMt sc mX12_mixes dk 0 0 [.ref 135, .int a1, .int a2, .int a3, .int a4, .int a5, .int a6] (xL0, u) none (xL0, u')) : ∀ (n : Nat) (v7 : Int32) (u : xS), f_X12_mixes_63 k_X12_mixes n v7 u = some u' → xG sc mX12_mixes d 0 0 (xR none (xL0, u') 0 0) 0 0 63 [some (.ref 135), none, none, none, none, none, none, some (.int v7)] [] (xL0, u) := by
  intro n
  induction n with
  | zero =>
    intro v7 u h
    rw [f_X12_mixes_63] at h
    cases h
  | succ n ih =>
    intro v7 u h
    rw [f_X12_mixes_63] at h
    refine g_iload (pc := 63) dX12_mixes_63 rfl ?_
    refine g_aload_n (pc := 65) dX12_mixes_65 rfl ?_
    refine g_gI (pc := 66) dX12_mixes_66 fI_RX12_153 xc_135 (v := (rd u 135 1)) rfl ?_
    refine g_icmp_ge (tgt := 92) (pc := 69) dX12_mixes_69 (by decide) (fun c1 => ?_) (fun c1 => ?_)
    · replace h := (if_pos c1).symm.trans h
      cases h
      exact g_ret (pc := 92) dX12_mixes_92 rfl rfl rfl (Nat.le_refl _) (Nat.le_refl _)
    · replace h := (if_neg c1).symm.trans h
      refine g_aload_n (pc := 72) dX12_mixes_72 rfl ?_
      refine g_gR (pc := 73) dX12_mixes_73 fR_RX12_99 xc_135 (v := 164) rfl ?_
      refine g_iload (pc := 76) dX12_mixes_76 rfl ?_
      refine g_aload_n (pc := 78) dX12_mixes_78 rfl ?_
      refine g_gR (pc := 79) dX12_mixes_79 fR_RX12_87 xc_135 (v := 160) rfl ?_
      refine g_iload (pc := 82) dX12_mixes_82 rfl ?_
      obtain ⟨g2, h⟩ := x_gd h
      refine g_iaload (pc := 84) dX12_mixes_84 xc_160 (xin_of g2) (v := (rd u 160 v7.toNatClampNeg)) rfl ?_
      refine g_iastore (pc := 85) dX12_mixes_85 xc_164 (xin_of g2) (u' := (wr u 164 v7.toNatClampNeg (rd u 160 v7.toNatClampNeg))) rfl ?_
      refine g_inc (pc := 86) dX12_mixes_86 (Nat.le_of_ble_eq_true rfl) rfl ic_1 (L' := [some (.ref 135), none, none, none, none, none, none, some (.int (v7 + (1 : Int32)))]) rfl ?_
      refine g_goto (tgt := 63) (pc := 89) dX12_mixes_89 (by decide) ?_
      exact ih (v7 + (1 : Int32)) (wr u 164 v7.toNatClampNeg (rd u 160 v7.toNatClampNeg)) h
set_option maxRecDepth 100000 in
set_option maxHeartbeats 4000000 in
theorem G_X12_mixes_50 {sc : Nat × (Nat → Int32)} {d : Nat} (hd : 6 ≤ d) {u' : xS} {dk : Nat} (hkd : dk + 1 ≤ d) {k_X12_mixes : Int32 → Int32 → Int32 → Int32 → Int32 → Int32 → xS → Option xS} (hk_X12_mixes : ∀ (a1 a2 a3 a4 a5 a6 : Int32) (u u' : xS), k_X12_mixes a1 a2 a3 a4 a5 a6 u = some u' → xMt sc mX12_mixes dk 0 0 [.ref 135, .int a1, .int a2, .int a3, .int a4, .int a5, .int a6] (xL0, u) none (xL0, u')) (v4 : Int32) (u : xS) (h : f_X12_mixes_50 k_X12_mixes v4 u = some u') : xG sc mX12_mixes d 0 0 (xR none (xL0, u') 0 0) 0 0 50 [some (.ref 135), none, none, none, some (.int v4), none, none, none] [] (xL0, u) := by
  rw [f_X12_mixes_50] at h
  refine g_aload_n (pc := 50) dX12_mixes_50 rfl ?_
  refine g_aload_n (pc := 51) dX12_mixes_51 rfl ?_
  refine g_iload (pc := 52) dX12_mixes_52 rfl ?_
  obtain ⟨x2, e1, h⟩ := x_bind h
  refine g_cV (pc := 54) dX12_mixes_54 cV_RX12_368 (M_X12_costOf (Nat.le_refl _) e1) xc_135 (as := [.int v4]) (st := [.ref 135]) rfl rfl (Nat.le_of_ble_eq_true rfl) (Nat.le_trans (Nat.le_of_ble_eq_true rfl) hd) rfl ?_
  refine g_pI (pc := 57) dX12_mixes_57 pI_RX12_374 xc_135 (u' := (wr u 135 42 x2)) rfl ?_
  refine g_iconst (pc := 60) dX12_mixes_60 ic_0 ?_
  refine g_istore (pc := 61) dX12_mixes_61 (Nat.le_of_ble_eq_true rfl) (L' := [some (.ref 135), none, none, none, some (.int v4), none, none, some (.int (0 : Int32))]) rfl ?_
  refine g_L (L' := [some (.ref 135), none, none, none, none, none, none, some (.int (0 : Int32))]) ⟨rfl, ⟨rfl, trivial⟩⟩ ?_
  exact G_X12_mixes_63 hd hkd hk_X12_mixes xN (0 : Int32) (wr u 135 42 x2) h
set_option maxRecDepth 100000 in
set_option maxHeartbeats 4000000 in
theorem G_X12_mixes_0 {sc : Nat × (Nat → Int32)} {d : Nat} (hd : 6 ≤ d) {u' : xS} {dk : Nat} (hkd : dk + 1 ≤ d) {k_X12_mixes : Int32 → Int32 → Int32 → Int32 → Int32 → Int32 → xS → Option xS} (hk_X12_mixes : ∀ (a1 a2 a3 a4 a5 a6 : Int32) (u u' : xS), k_X12_mixes a1 a2 a3 a4 a5 a6 u = some u' → xMt sc mX12_mixes dk 0 0 [.ref 135, .int a1, .int a2, .int a3, .int a4, .int a5, .int a6] (xL0, u) none (xL0, u')) (v1 : Int32) (v2 : Int32) (v3 : Int32) (v4 : Int32) (v5 : Int32) (v6 : Int32) (u : xS) (h : f_X12_mixes k_X12_mixes v1 v2 v3 v4 v5 v6 u = some u') : xG sc mX12_mixes d 0 0 (xR none (xL0, u') 0 0) 0 0 0 [some (.ref 135), some (.int v1), some (.int v2), some (.int v3), some (.int v4), some (.int v5), some (.int v6), none] [] (xL0, u) := by
  rw [f_X12_mixes] at h
  refine g_iload (pc := 0) dX12_mixes_0 rfl ?_
  refine g_aload_n (pc := 2) dX12_mixes_2 rfl ?_
  refine g_gI (pc := 3) dX12_mixes_3 fI_RX12_153 xc_135 (v := (rd u 135 1)) rfl ?_
  refine g_icmp_ne (tgt := 93) (pc := 6) dX12_mixes_6 (by decide) (fun c1 => ?_) (fun c1 => ?_)
  · replace h := (if_neg c1).symm.trans h
    refine g_iconst (pc := 93) dX12_mixes_93 ic_0 ?_
    refine g_istore (pc := 94) dX12_mixes_94 (Nat.le_of_ble_eq_true rfl) (L' := [some (.ref 135), some (.int v1), some (.int v2), some (.int v3), some (.int v4), some (.int v5), some (.int v6), some (.int (0 : Int32))]) rfl ?_
    exact G_X12_mixes_96 hd hkd hk_X12_mixes xN v1 v2 v3 v4 v5 v6 (0 : Int32) u h
  · replace h := (if_pos c1).symm.trans h
    refine g_iload (pc := 9) dX12_mixes_9 rfl ?_
    refine g_if_ne (tgt := 92) (pc := 11) dX12_mixes_11 (by decide) (fun c2 => ?_) (fun c2 => ?_)
    · replace h := (if_neg c2).symm.trans h
      cases h
      exact g_ret (pc := 92) dX12_mixes_92 rfl rfl rfl (Nat.le_refl _) (Nat.le_refl _)
    · replace h := (if_pos c2).symm.trans h
      refine g_aload_n (pc := 14) dX12_mixes_14 rfl ?_
      refine g_iload_n (pc := 15) dX12_mixes_15 rfl ?_
      obtain ⟨x4, e3, h⟩ := x_bind h
      refine g_cV (pc := 16) dX12_mixes_16 cV_RX12_371 (M_X12_isEnough (Nat.le_refl _) e3) xc_135 (as := [.int v3]) (st := []) rfl rfl (Nat.le_of_ble_eq_true rfl) (Nat.le_trans (Nat.le_of_ble_eq_true rfl) hd) rfl ?_
      refine g_if_eq (tgt := 92) (pc := 19) dX12_mixes_19 (by decide) (fun c5 => ?_) (fun c5 => ?_)
      · replace h := (if_pos c5).symm.trans h
        cases h
        exact g_ret (pc := 92) dX12_mixes_92 rfl rfl rfl (Nat.le_refl _) (Nat.le_refl _)
      · replace h := (if_neg c5).symm.trans h
        refine g_aload_n (pc := 22) dX12_mixes_22 rfl ?_
        refine g_iload_n (pc := 23) dX12_mixes_23 rfl ?_
        obtain ⟨⟨x7, u8⟩, e6, h⟩ := x_bind h
        dsimp only at h
        refine g_cV (pc := 24) dX12_mixes_24 cV_RX12_365 (M_X12_judged (Nat.le_refl _) e6) xc_135 (as := [.int v1]) (st := []) rfl rfl (Nat.le_of_ble_eq_true rfl) (Nat.le_trans (Nat.le_of_ble_eq_true rfl) hd) rfl ?_
        refine g_if_ge (tgt := 92) (pc := 27) dX12_mixes_27 (by decide) (fun c9 => ?_) (fun c9 => ?_)
        · replace h := (if_pos c9).symm.trans h
          cases h
          exact g_ret (pc := 92) dX12_mixes_92 rfl rfl rfl (Nat.le_refl _) (Nat.le_refl _)
        · replace h := (if_neg c9).symm.trans h
          refine g_aload_n (pc := 30) dX12_mixes_30 rfl ?_
          refine g_gI (pc := 31) dX12_mixes_31 fI_RX12_374 xc_135 (v := (rd u8 135 42)) rfl ?_
          refine g_if_lt (tgt := 50) (pc := 34) dX12_mixes_34 (by decide) (fun c10 => ?_) (fun c10 => ?_)
          · replace h := (if_pos c10).symm.trans h
            refine g_L (L' := [some (.ref 135), none, none, none, some (.int v4), none, none, none]) ⟨rfl, ⟨rfl, trivial⟩⟩ ?_
            exact G_X12_mixes_50 hd hkd hk_X12_mixes v4 u8 h
          · replace h := (if_neg c10).symm.trans h
            refine g_aload_n (pc := 37) dX12_mixes_37 rfl ?_
            refine g_iload (pc := 38) dX12_mixes_38 rfl ?_
            obtain ⟨x12, e11, h⟩ := x_bind h
            refine g_cV (pc := 40) dX12_mixes_40 cV_RX12_368 (M_X12_costOf (Nat.le_refl _) e11) xc_135 (as := [.int v4]) (st := []) rfl rfl (Nat.le_of_ble_eq_true rfl) (Nat.le_trans (Nat.le_of_ble_eq_true rfl) hd) rfl ?_
            refine g_aload_n (pc := 43) dX12_mixes_43 rfl ?_
            refine g_gI (pc := 44) dX12_mixes_44 fI_RX12_374 xc_135 (v := (rd u8 135 42)) rfl ?_
            refine g_icmp_ge (tgt := 92) (pc := 47) dX12_mixes_47 (by decide) (fun c13 => ?_) (fun c13 => ?_)
            · replace h := (if_pos c13).symm.trans h
              cases h
              exact g_ret (pc := 92) dX12_mixes_92 rfl rfl rfl (Nat.le_refl _) (Nat.le_refl _)
            · replace h := (if_neg c13).symm.trans h
              refine g_L (L' := [some (.ref 135), none, none, none, some (.int v4), none, none, none]) ⟨rfl, ⟨rfl, trivial⟩⟩ ?_
              exact G_X12_mixes_50 hd hkd hk_X12_mixes v4 u8 h
set_option maxRecDepth 100000 in
set_option maxHeartbeats 4000000 in
theorem M_X12_mixes {sc : Nat × (Nat → Int32)} {d : Nat} (hd : 6 ≤ d) {u u' : xS} {dk : Nat} (hkd : dk + 1 ≤ d) {k_X12_mixes : Int32 → Int32 → Int32 → Int32 → Int32 → Int32 → xS → Option xS} (hk_X12_mixes : ∀ (a1 a2 a3 a4 a5 a6 : Int32) (u u' : xS), k_X12_mixes a1 a2 a3 a4 a5 a6 u = some u' → xMt sc mX12_mixes dk 0 0 [.ref 135, .int a1, .int a2, .int a3, .int a4, .int a5, .int a6] (xL0, u) none (xL0, u')) {a1 : Int32} {a2 : Int32} {a3 : Int32} {a4 : Int32} {a5 : Int32} {a6 : Int32} (h : f_X12_mixes k_X12_mixes a1 a2 a3 a4 a5 a6 u = some u') : xMt sc mX12_mixes d 0 0 [.ref 135, .int a1, .int a2, .int a3, .int a4, .int a5, .int a6] (xL0, u) none (xL0, u') :=
  xMt.of (by decide +kernel) (Nat.le_of_ble_eq_true rfl) (L := [some (.ref 135), some (.int a1), some (.int a2), some (.int a3), some (.int a4), some (.int a5), some (.int a6), none]) rfl ((G_X12_mixes_0 hd hkd hk_X12_mixes a1 a2 a3 a4 a5 a6 u h))
theorem Mr_mixes {sc : Nat × (Nat → Int32)} : ∀ n : Nat, ∀ (a1 a2 a3 a4 a5 a6 : Int32) (u u' : xS), (fr_mixes n) a1 a2 a3 a4 a5 a6 u = some u' → xMt sc mX12_mixes (n + 6) 0 0 [.ref 135, .int a1, .int a2, .int a3, .int a4, .int a5, .int a6] (xL0, u) none (xL0, u') := by
  intro n
  induction n with
  | zero =>
    intro a1 a2 a3 a4 a5 a6 u u' h
    cases h
  | succ n ih =>
    intro a1 a2 a3 a4 a5 a6 u u' h
    exact M_X12_mixes (dk := n + 6) (by omega) (by omega) ih h
set_option maxRecDepth 100000 in
set_option maxHeartbeats 4000000 in
theorem M_r_X12_mixes {sc : Nat × (Nat → Int32)} {d : Nat} (hd : 26 ≤ d) {u u' : xS} {a1 a2 a3 a4 a5 a6 : Int32} (h : f_r_X12_mixes a1 a2 a3 a4 a5 a6 u = some u') : xMt sc mX12_mixes 26 0 0 [.ref 135, .int a1, .int a2, .int a3, .int a4, .int a5, .int a6] (xL0, u) none (xL0, u') := Mr_mixes 20 _ _ _ _ _ _ _ _  h
set_option maxRecDepth 100000 in
set_option maxHeartbeats 4000000 in
theorem G_J6_bitCount_0f7a4_0 {sc : Nat × (Nat → Int32)} {d : Nat} (hd : 0 ≤ d) {r : Int32} {u : xS} (v0 : Int32) (h : f_J6_bitCount_0f7a4 v0 = r) : xG sc mJ6_bitCount_0f7a4 d 0 0 (xR (some (.int r)) (xL0, u) 0 0) 0 0 0 [some (.int v0)] [] (xL0, u) := by
  rw [f_J6_bitCount_0f7a4] at h
  refine g_iload_n (pc := 0) dJ6_bitCount_0f7a4_0 rfl ?_
  refine g_iload_n (pc := 1) dJ6_bitCount_0f7a4_1 rfl ?_
  refine g_iconst (pc := 2) dJ6_bitCount_0f7a4_2 ic_1 ?_
  refine g_iushr (pc := 3) dJ6_bitCount_0f7a4_3 (v := ((v0.toUInt32 >>> ((1 : Int32).toUInt32 &&& Int32.toUInt32 31)).toInt32)) rfl ?_
  refine g_ldcw (pc := 4) dJ6_bitCount_0f7a4_4 kc_RJ6_265 ?_
  refine g_iand (pc := 7) dJ6_bitCount_0f7a4_7 rfl ?_
  refine g_isub (pc := 8) dJ6_bitCount_0f7a4_8 rfl ?_
  refine g_istore_n (pc := 9) dJ6_bitCount_0f7a4_9 (Nat.le_of_ble_eq_true rfl) (L' := [some (.int (v0 - (((v0.toUInt32 >>> ((1 : Int32).toUInt32 &&& Int32.toUInt32 31)).toInt32) &&& (1431655765 : Int32))))]) rfl ?_
  refine g_iload_n (pc := 10) dJ6_bitCount_0f7a4_10 rfl ?_
  refine g_ldcw (pc := 11) dJ6_bitCount_0f7a4_11 kc_RJ6_266 ?_
  refine g_iand (pc := 14) dJ6_bitCount_0f7a4_14 rfl ?_
  refine g_iload_n (pc := 15) dJ6_bitCount_0f7a4_15 rfl ?_
  refine g_iconst (pc := 16) dJ6_bitCount_0f7a4_16 ic_2 ?_
  refine g_iushr (pc := 17) dJ6_bitCount_0f7a4_17 (v := (((v0 - (((v0.toUInt32 >>> ((1 : Int32).toUInt32 &&& Int32.toUInt32 31)).toInt32) &&& (1431655765 : Int32))).toUInt32 >>> ((2 : Int32).toUInt32 &&& Int32.toUInt32 31)).toInt32)) rfl ?_
  refine g_ldcw (pc := 18) dJ6_bitCount_0f7a4_18 kc_RJ6_266 ?_
  refine g_iand (pc := 21) dJ6_bitCount_0f7a4_21 rfl ?_
  refine g_iadd (pc := 22) dJ6_bitCount_0f7a4_22 rfl ?_
  refine g_istore_n (pc := 23) dJ6_bitCount_0f7a4_23 (Nat.le_of_ble_eq_true rfl) (L' := [some (.int (((v0 - (((v0.toUInt32 >>> ((1 : Int32).toUInt32 &&& Int32.toUInt32 31)).toInt32) &&& (1431655765 : Int32))) &&& (858993459 : Int32)) + ((((v0 - (((v0.toUInt32 >>> ((1 : Int32).toUInt32 &&& Int32.toUInt32 31)).toInt32) &&& (1431655765 : Int32))).toUInt32 >>> ((2 : Int32).toUInt32 &&& Int32.toUInt32 31)).toInt32) &&& (858993459 : Int32))))]) rfl ?_
  refine g_iload_n (pc := 24) dJ6_bitCount_0f7a4_24 rfl ?_
  refine g_iload_n (pc := 25) dJ6_bitCount_0f7a4_25 rfl ?_
  refine g_iconst (pc := 26) dJ6_bitCount_0f7a4_26 ic_4 ?_
  refine g_iushr (pc := 27) dJ6_bitCount_0f7a4_27 (v := (((((v0 - (((v0.toUInt32 >>> ((1 : Int32).toUInt32 &&& Int32.toUInt32 31)).toInt32) &&& (1431655765 : Int32))) &&& (858993459 : Int32)) + ((((v0 - (((v0.toUInt32 >>> ((1 : Int32).toUInt32 &&& Int32.toUInt32 31)).toInt32) &&& (1431655765 : Int32))).toUInt32 >>> ((2 : Int32).toUInt32 &&& Int32.toUInt32 31)).toInt32) &&& (858993459 : Int32))).toUInt32 >>> ((4 : Int32).toUInt32 &&& Int32.toUInt32 31)).toInt32)) rfl ?_
  refine g_iadd (pc := 28) dJ6_bitCount_0f7a4_28 rfl ?_
  refine g_ldcw (pc := 29) dJ6_bitCount_0f7a4_29 kc_RJ6_267 ?_
  refine g_iand (pc := 32) dJ6_bitCount_0f7a4_32 rfl ?_
  refine g_istore_n (pc := 33) dJ6_bitCount_0f7a4_33 (Nat.le_of_ble_eq_true rfl) (L' := [some (.int (((((v0 - (((v0.toUInt32 >>> ((1 : Int32).toUInt32 &&& Int32.toUInt32 31)).toInt32) &&& (1431655765 : Int32))) &&& (858993459 : Int32)) + ((((v0 - (((v0.toUInt32 >>> ((1 : Int32).toUInt32 &&& Int32.toUInt32 31)).toInt32) &&& (1431655765 : Int32))).toUInt32 >>> ((2 : Int32).toUInt32 &&& Int32.toUInt32 31)).toInt32) &&& (858993459 : Int32))) + (((((v0 - (((v0.toUInt32 >>> ((1 : Int32).toUInt32 &&& Int32.toUInt32 31)).toInt32) &&& (1431655765 : Int32))) &&& (858993459 : Int32)) + ((((v0 - (((v0.toUInt32 >>> ((1 : Int32).toUInt32 &&& Int32.toUInt32 31)).toInt32) &&& (1431655765 : Int32))).toUInt32 >>> ((2 : Int32).toUInt32 &&& Int32.toUInt32 31)).toInt32) &&& (858993459 : Int32))).toUInt32 >>> ((4 : Int32).toUInt32 &&& Int32.toUInt32 31)).toInt32)) &&& (252645135 : Int32)))]) rfl ?_
  refine g_iload_n (pc := 34) dJ6_bitCount_0f7a4_34 rfl ?_
  refine g_iload_n (pc := 35) dJ6_bitCount_0f7a4_35 rfl ?_
  refine g_bipush (pc := 36) dJ6_bitCount_0f7a4_36 bp_8 ?_
  refine g_iushr (pc := 38) dJ6_bitCount_0f7a4_38 (v := (((((((v0 - (((v0.toUInt32 >>> ((1 : Int32).toUInt32 &&& Int32.toUInt32 31)).toInt32) &&& (1431655765 : Int32))) &&& (858993459 : Int32)) + ((((v0 - (((v0.toUInt32 >>> ((1 : Int32).toUInt32 &&& Int32.toUInt32 31)).toInt32) &&& (1431655765 : Int32))).toUInt32 >>> ((2 : Int32).toUInt32 &&& Int32.toUInt32 31)).toInt32) &&& (858993459 : Int32))) + (((((v0 - (((v0.toUInt32 >>> ((1 : Int32).toUInt32 &&& Int32.toUInt32 31)).toInt32) &&& (1431655765 : Int32))) &&& (858993459 : Int32)) + ((((v0 - (((v0.toUInt32 >>> ((1 : Int32).toUInt32 &&& Int32.toUInt32 31)).toInt32) &&& (1431655765 : Int32))).toUInt32 >>> ((2 : Int32).toUInt32 &&& Int32.toUInt32 31)).toInt32) &&& (858993459 : Int32))).toUInt32 >>> ((4 : Int32).toUInt32 &&& Int32.toUInt32 31)).toInt32)) &&& (252645135 : Int32)).toUInt32 >>> ((8 : Int32).toUInt32 &&& Int32.toUInt32 31)).toInt32)) rfl ?_
  refine g_iadd (pc := 39) dJ6_bitCount_0f7a4_39 rfl ?_
  refine g_istore_n (pc := 40) dJ6_bitCount_0f7a4_40 (Nat.le_of_ble_eq_true rfl) (L' := [some (.int ((((((v0 - (((v0.toUInt32 >>> ((1 : Int32).toUInt32 &&& Int32.toUInt32 31)).toInt32) &&& (1431655765 : Int32))) &&& (858993459 : Int32)) + ((((v0 - (((v0.toUInt32 >>> ((1 : Int32).toUInt32 &&& Int32.toUInt32 31)).toInt32) &&& (1431655765 : Int32))).toUInt32 >>> ((2 : Int32).toUInt32 &&& Int32.toUInt32 31)).toInt32) &&& (858993459 : Int32))) + (((((v0 - (((v0.toUInt32 >>> ((1 : Int32).toUInt32 &&& Int32.toUInt32 31)).toInt32) &&& (1431655765 : Int32))) &&& (858993459 : Int32)) + ((((v0 - (((v0.toUInt32 >>> ((1 : Int32).toUInt32 &&& Int32.toUInt32 31)).toInt32) &&& (1431655765 : Int32))).toUInt32 >>> ((2 : Int32).toUInt32 &&& Int32.toUInt32 31)).toInt32) &&& (858993459 : Int32))).toUInt32 >>> ((4 : Int32).toUInt32 &&& Int32.toUInt32 31)).toInt32)) &&& (252645135 : Int32)) + (((((((v0 - (((v0.toUInt32 >>> ((1 : Int32).toUInt32 &&& Int32.toUInt32 31)).toInt32) &&& (1431655765 : Int32))) &&& (858993459 : Int32)) + ((((v0 - (((v0.toUInt32 >>> ((1 : Int32).toUInt32 &&& Int32.toUInt32 31)).toInt32) &&& (1431655765 : Int32))).toUInt32 >>> ((2 : Int32).toUInt32 &&& Int32.toUInt32 31)).toInt32) &&& (858993459 : Int32))) + (((((v0 - (((v0.toUInt32 >>> ((1 : Int32).toUInt32 &&& Int32.toUInt32 31)).toInt32) &&& (1431655765 : Int32))) &&& (858993459 : Int32)) + ((((v0 - (((v0.toUInt32 >>> ((1 : Int32).toUInt32 &&& Int32.toUInt32 31)).toInt32) &&& (1431655765 : Int32))).toUInt32 >>> ((2 : Int32).toUInt32 &&& Int32.toUInt32 31)).toInt32) &&& (858993459 : Int32))).toUInt32 >>> ((4 : Int32).toUInt32 &&& Int32.toUInt32 31)).toInt32)) &&& (252645135 : Int32)).toUInt32 >>> ((8 : Int32).toUInt32 &&& Int32.toUInt32 31)).toInt32)))]) rfl ?_
  refine g_iload_n (pc := 41) dJ6_bitCount_0f7a4_41 rfl ?_
  refine g_iload_n (pc := 42) dJ6_bitCount_0f7a4_42 rfl ?_
  refine g_bipush (pc := 43) dJ6_bitCount_0f7a4_43 bp_16 ?_
  refine g_iushr (pc := 45) dJ6_bitCount_0f7a4_45 (v := ((((((((v0 - (((v0.toUInt32 >>> ((1 : Int32).toUInt32 &&& Int32.toUInt32 31)).toInt32) &&& (1431655765 : Int32))) &&& (858993459 : Int32)) + ((((v0 - (((v0.toUInt32 >>> ((1 : Int32).toUInt32 &&& Int32.toUInt32 31)).toInt32) &&& (1431655765 : Int32))).toUInt32 >>> ((2 : Int32).toUInt32 &&& Int32.toUInt32 31)).toInt32) &&& (858993459 : Int32))) + (((((v0 - (((v0.toUInt32 >>> ((1 : Int32).toUInt32 &&& Int32.toUInt32 31)).toInt32) &&& (1431655765 : Int32))) &&& (858993459 : Int32)) + ((((v0 - (((v0.toUInt32 >>> ((1 : Int32).toUInt32 &&& Int32.toUInt32 31)).toInt32) &&& (1431655765 : Int32))).toUInt32 >>> ((2 : Int32).toUInt32 &&& Int32.toUInt32 31)).toInt32) &&& (858993459 : Int32))).toUInt32 >>> ((4 : Int32).toUInt32 &&& Int32.toUInt32 31)).toInt32)) &&& (252645135 : Int32)) + (((((((v0 - (((v0.toUInt32 >>> ((1 : Int32).toUInt32 &&& Int32.toUInt32 31)).toInt32) &&& (1431655765 : Int32))) &&& (858993459 : Int32)) + ((((v0 - (((v0.toUInt32 >>> ((1 : Int32).toUInt32 &&& Int32.toUInt32 31)).toInt32) &&& (1431655765 : Int32))).toUInt32 >>> ((2 : Int32).toUInt32 &&& Int32.toUInt32 31)).toInt32) &&& (858993459 : Int32))) + (((((v0 - (((v0.toUInt32 >>> ((1 : Int32).toUInt32 &&& Int32.toUInt32 31)).toInt32) &&& (1431655765 : Int32))) &&& (858993459 : Int32)) + ((((v0 - (((v0.toUInt32 >>> ((1 : Int32).toUInt32 &&& Int32.toUInt32 31)).toInt32) &&& (1431655765 : Int32))).toUInt32 >>> ((2 : Int32).toUInt32 &&& Int32.toUInt32 31)).toInt32) &&& (858993459 : Int32))).toUInt32 >>> ((4 : Int32).toUInt32 &&& Int32.toUInt32 31)).toInt32)) &&& (252645135 : Int32)).toUInt32 >>> ((8 : Int32).toUInt32 &&& Int32.toUInt32 31)).toInt32)).toUInt32 >>> ((16 : Int32).toUInt32 &&& Int32.toUInt32 31)).toInt32)) rfl ?_
  refine g_iadd (pc := 46) dJ6_bitCount_0f7a4_46 rfl ?_
  refine g_istore_n (pc := 47) dJ6_bitCount_0f7a4_47 (Nat.le_of_ble_eq_true rfl) (L' := [some (.int (((((((v0 - (((v0.toUInt32 >>> ((1 : Int32).toUInt32 &&& Int32.toUInt32 31)).toInt32) &&& (1431655765 : Int32))) &&& (858993459 : Int32)) + ((((v0 - (((v0.toUInt32 >>> ((1 : Int32).toUInt32 &&& Int32.toUInt32 31)).toInt32) &&& (1431655765 : Int32))).toUInt32 >>> ((2 : Int32).toUInt32 &&& Int32.toUInt32 31)).toInt32) &&& (858993459 : Int32))) + (((((v0 - (((v0.toUInt32 >>> ((1 : Int32).toUInt32 &&& Int32.toUInt32 31)).toInt32) &&& (1431655765 : Int32))) &&& (858993459 : Int32)) + ((((v0 - (((v0.toUInt32 >>> ((1 : Int32).toUInt32 &&& Int32.toUInt32 31)).toInt32) &&& (1431655765 : Int32))).toUInt32 >>> ((2 : Int32).toUInt32 &&& Int32.toUInt32 31)).toInt32) &&& (858993459 : Int32))).toUInt32 >>> ((4 : Int32).toUInt32 &&& Int32.toUInt32 31)).toInt32)) &&& (252645135 : Int32)) + (((((((v0 - (((v0.toUInt32 >>> ((1 : Int32).toUInt32 &&& Int32.toUInt32 31)).toInt32) &&& (1431655765 : Int32))) &&& (858993459 : Int32)) + ((((v0 - (((v0.toUInt32 >>> ((1 : Int32).toUInt32 &&& Int32.toUInt32 31)).toInt32) &&& (1431655765 : Int32))).toUInt32 >>> ((2 : Int32).toUInt32 &&& Int32.toUInt32 31)).toInt32) &&& (858993459 : Int32))) + (((((v0 - (((v0.toUInt32 >>> ((1 : Int32).toUInt32 &&& Int32.toUInt32 31)).toInt32) &&& (1431655765 : Int32))) &&& (858993459 : Int32)) + ((((v0 - (((v0.toUInt32 >>> ((1 : Int32).toUInt32 &&& Int32.toUInt32 31)).toInt32) &&& (1431655765 : Int32))).toUInt32 >>> ((2 : Int32).toUInt32 &&& Int32.toUInt32 31)).toInt32) &&& (858993459 : Int32))).toUInt32 >>> ((4 : Int32).toUInt32 &&& Int32.toUInt32 31)).toInt32)) &&& (252645135 : Int32)).toUInt32 >>> ((8 : Int32).toUInt32 &&& Int32.toUInt32 31)).toInt32)) + ((((((((v0 - (((v0.toUInt32 >>> ((1 : Int32).toUInt32 &&& Int32.toUInt32 31)).toInt32) &&& (1431655765 : Int32))) &&& (858993459 : Int32)) + ((((v0 - (((v0.toUInt32 >>> ((1 : Int32).toUInt32 &&& Int32.toUInt32 31)).toInt32) &&& (1431655765 : Int32))).toUInt32 >>> ((2 : Int32).toUInt32 &&& Int32.toUInt32 31)).toInt32) &&& (858993459 : Int32))) + (((((v0 - (((v0.toUInt32 >>> ((1 : Int32).toUInt32 &&& Int32.toUInt32 31)).toInt32) &&& (1431655765 : Int32))) &&& (858993459 : Int32)) + ((((v0 - (((v0.toUInt32 >>> ((1 : Int32).toUInt32 &&& Int32.toUInt32 31)).toInt32) &&& (1431655765 : Int32))).toUInt32 >>> ((2 : Int32).toUInt32 &&& Int32.toUInt32 31)).toInt32) &&& (858993459 : Int32))).toUInt32 >>> ((4 : Int32).toUInt32 &&& Int32.toUInt32 31)).toInt32)) &&& (252645135 : Int32)) + (((((((v0 - (((v0.toUInt32 >>> ((1 : Int32).toUInt32 &&& Int32.toUInt32 31)).toInt32) &&& (1431655765 : Int32))) &&& (858993459 : Int32)) + ((((v0 - (((v0.toUInt32 >>> ((1 : Int32).toUInt32 &&& Int32.toUInt32 31)).toInt32) &&& (1431655765 : Int32))).toUInt32 >>> ((2 : Int32).toUInt32 &&& Int32.toUInt32 31)).toInt32) &&& (858993459 : Int32))) + (((((v0 - (((v0.toUInt32 >>> ((1 : Int32).toUInt32 &&& Int32.toUInt32 31)).toInt32) &&& (1431655765 : Int32))) &&& (858993459 : Int32)) + ((((v0 - (((v0.toUInt32 >>> ((1 : Int32).toUInt32 &&& Int32.toUInt32 31)).toInt32) &&& (1431655765 : Int32))).toUInt32 >>> ((2 : Int32).toUInt32 &&& Int32.toUInt32 31)).toInt32) &&& (858993459 : Int32))).toUInt32 >>> ((4 : Int32).toUInt32 &&& Int32.toUInt32 31)).toInt32)) &&& (252645135 : Int32)).toUInt32 >>> ((8 : Int32).toUInt32 &&& Int32.toUInt32 31)).toInt32)).toUInt32 >>> ((16 : Int32).toUInt32 &&& Int32.toUInt32 31)).toInt32)))]) rfl ?_
  refine g_iload_n (pc := 48) dJ6_bitCount_0f7a4_48 rfl ?_
  refine g_bipush (pc := 49) dJ6_bitCount_0f7a4_49 bp_63 ?_
  refine g_iand (pc := 51) dJ6_bitCount_0f7a4_51 rfl ?_
  subst h
  exact g_iret (pc := 52) dJ6_bitCount_0f7a4_52 rfl rfl rfl (Nat.le_refl _) (Nat.le_refl _)
set_option maxRecDepth 100000 in
set_option maxHeartbeats 4000000 in
theorem M_J6_bitCount_0f7a4 {sc : Nat × (Nat → Int32)} {d : Nat} (hd : 0 ≤ d) {r : Int32} {u : xS} {a0 : Int32} (h : f_J6_bitCount_0f7a4 a0 = r) : xMt sc mJ6_bitCount_0f7a4 d 0 0 [.int a0] (xL0, u) (some (.int r)) (xL0, u) :=
  xMt.of (by decide +kernel) (Nat.le_of_ble_eq_true rfl) (L := [some (.int a0)]) rfl ((G_J6_bitCount_0f7a4_0 hd a0 h))
set_option maxRecDepth 100000 in
set_option maxHeartbeats 4000000 in
theorem G_X12_mix_180 {sc : Nat × (Nat → Int32)} {d : Nat} (hd : 27 ≤ d) {r : Int32} {u' : xS} {k141 : Int32 → xS → Option (Int32 × xS)} (hk141 : ∀ (v6 : Int32) (u : xS), k141 v6 u = some (r, u') → xG sc mX12_mix d 0 0 (xR (some (.int r)) (xL0, u') 0 0) 0 0 141 [some (.ref 135), none, none, none, none, none, some (.int v6)] [] (xL0, u)) (v6 : Int32) (s1 : Int32) (s2 : Int32) (u : xS) (h : f_X12_mix_180 k141 v6 s1 s2 u = some (r, u')) : xG sc mX12_mix d 0 0 (xR (some (.int r)) (xL0, u') 0 0) 0 0 180 [some (.ref 135), none, none, none, none, none, some (.int v6)] [.int s2, .int s1, .ref 160] (xL0, u) := by
  rw [f_X12_mix_180] at h
  obtain ⟨g1, h⟩ := x_gd h
  refine g_iastore (pc := 180) dX12_mix_180 xc_160 (xin_of g1) (u' := (wr u 160 s1.toNatClampNeg s2)) rfl ?_
  refine g_inc (pc := 181) dX12_mix_181 (Nat.le_of_ble_eq_true rfl) rfl ic_1 (L' := [some (.ref 135), none, none, none, none, none, some (.int (v6 + (1 : Int32)))]) rfl ?_
  refine g_goto (tgt := 141) (pc := 184) dX12_mix_184 (by decide) ?_
  exact hk141 (v6 + (1 : Int32)) (wr u 160 s1.toNatClampNeg s2) h
set_option maxRecDepth 100000 in
set_option maxHeartbeats 4000000 in
theorem G_X12_mix_141 {sc : Nat × (Nat → Int32)} {d : Nat} (hd : 27 ≤ d) {r : Int32} {u' : xS} : ∀ (n : Nat) (v6 : Int32) (u : xS), f_X12_mix_141 n v6 u = some (r, u') → xG sc mX12_mix d 0 0 (xR (some (.int r)) (xL0, u') 0 0) 0 0 141 [some (.ref 135), none, none, none, none, none, some (.int v6)] [] (xL0, u) := by
  intro n
  induction n with
  | zero =>
    intro v6 u h
    rw [f_X12_mix_141] at h
    cases h
  | succ n ih =>
    intro v6 u h
    rw [f_X12_mix_141] at h
    refine g_iload (pc := 141) dX12_mix_141 rfl ?_
    refine g_aload_n (pc := 143) dX12_mix_143 rfl ?_
    refine g_gI (pc := 144) dX12_mix_144 fI_RX12_153 xc_135 (v := (rd u 135 1)) rfl ?_
    refine g_icmp_ge (tgt := 187) (pc := 147) dX12_mix_147 (by decide) (fun c1 => ?_) (fun c1 => ?_)
    · replace h := (if_pos c1).symm.trans h
      refine g_aload_n (pc := 187) dX12_mix_187 rfl ?_
      refine g_gI (pc := 188) dX12_mix_188 fI_RX12_374 xc_135 (v := (rd u 135 42)) rfl ?_
      refine g_if_ge (tgt := 199) (pc := 191) dX12_mix_191 (by decide) (fun c2 => ?_) (fun c2 => ?_)
      · replace h := (if_pos c2).symm.trans h
        refine g_aload_n (pc := 199) dX12_mix_199 rfl ?_
        refine g_gI (pc := 200) dX12_mix_200 fI_RX12_374 xc_135 (v := (rd u 135 42)) rfl ?_
        cases h
        exact g_iret (pc := 203) dX12_mix_203 rfl rfl rfl (Nat.le_refl _) (Nat.le_refl _)
      · replace h := (if_neg c2).symm.trans h
        refine g_bipush (pc := 194) dX12_mix_194 bp_m2 ?_
        refine g_goto (tgt := 203) (pc := 196) dX12_mix_196 (by decide) ?_
        cases h
        exact g_iret (pc := 203) dX12_mix_203 rfl rfl rfl (Nat.le_refl _) (Nat.le_refl _)
    · replace h := (if_neg c1).symm.trans h
      refine g_aload_n (pc := 150) dX12_mix_150 rfl ?_
      refine g_gR (pc := 151) dX12_mix_151 fR_RX12_87 xc_135 (v := 160) rfl ?_
      refine g_iload (pc := 154) dX12_mix_154 rfl ?_
      refine g_aload_n (pc := 156) dX12_mix_156 rfl ?_
      refine g_gI (pc := 157) dX12_mix_157 fI_RX12_374 xc_135 (v := (rd u 135 42)) rfl ?_
      refine g_if_ge (tgt := 173) (pc := 160) dX12_mix_160 (by decide) (fun c3 => ?_) (fun c3 => ?_)
      · replace h := (if_pos c3).symm.trans h
        refine g_aload_n (pc := 173) dX12_mix_173 rfl ?_
        refine g_gR (pc := 174) dX12_mix_174 fR_RX12_99 xc_135 (v := 164) rfl ?_
        refine g_iload (pc := 177) dX12_mix_177 rfl ?_
        obtain ⟨g4, h⟩ := x_gd h
        refine g_iaload (pc := 179) dX12_mix_179 xc_164 (xin_of g4) (v := (rd u 164 v6.toNatClampNeg)) rfl ?_
        exact G_X12_mix_180 hd ih v6 v6 (rd u 164 v6.toNatClampNeg) u h
      · replace h := (if_neg c3).symm.trans h
        refine g_aload_n (pc := 163) dX12_mix_163 rfl ?_
        refine g_gR (pc := 164) dX12_mix_164 fR_RX12_96 xc_135 (v := 163) rfl ?_
        refine g_iload (pc := 167) dX12_mix_167 rfl ?_
        obtain ⟨g5, h⟩ := x_gd h
        refine g_iaload (pc := 169) dX12_mix_169 xc_163 (xin_of g5) (v := (rd u 163 v6.toNatClampNeg)) rfl ?_
        refine g_goto (tgt := 180) (pc := 170) dX12_mix_170 (by decide) ?_
        exact G_X12_mix_180 hd ih v6 v6 (rd u 163 v6.toNatClampNeg) u h
set_option maxRecDepth 100000 in
set_option maxHeartbeats 4000000 in
theorem G_X12_mix_84 {sc : Nat × (Nat → Int32)} {d : Nat} (hd : 27 ≤ d) {r : Int32} {u' : xS} : ∀ (n : Nat) (v1 : Int32) (v2 : Int32) (v3 : Int32) (v4 : Int32) (v6 : Int32) (u : xS), f_X12_mix_84 n v1 v2 v3 v4 v6 u = some (r, u') → xG sc mX12_mix d 0 0 (xR (some (.int r)) (xL0, u') 0 0) 0 0 84 [some (.ref 135), some (.int v1), some (.int v2), some (.int v3), some (.int v4), none, some (.int v6)] [] (xL0, u) := by
  intro n
  induction n with
  | zero =>
    intro v1 v2 v3 v4 v6 u h
    rw [f_X12_mix_84] at h
    cases h
  | succ n ih =>
    intro v1 v2 v3 v4 v6 u h
    rw [f_X12_mix_84] at h
    refine g_iload (pc := 84) dX12_mix_84 rfl ?_
    refine g_aload_n (pc := 86) dX12_mix_86 rfl ?_
    refine g_gI (pc := 87) dX12_mix_87 fI_RX12_153 xc_135 (v := (rd u 135 1)) rfl ?_
    refine g_icmp_ge (tgt := 121) (pc := 90) dX12_mix_90 (by decide) (fun c1 => ?_) (fun c1 => ?_)
    · replace h := (if_pos c1).symm.trans h
      refine g_aload_n (pc := 121) dX12_mix_121 rfl ?_
      refine g_iconst (pc := 122) dX12_mix_122 ic_m1 ?_
      refine g_pI (pc := 123) dX12_mix_123 pI_RX12_374 xc_135 (u' := (wr u 135 42 (-1 : Int32))) rfl ?_
      refine g_aload_n (pc := 126) dX12_mix_126 rfl ?_
      refine g_iload_n (pc := 127) dX12_mix_127 rfl ?_
      refine g_iload_n (pc := 128) dX12_mix_128 rfl ?_
      refine g_iload_n (pc := 129) dX12_mix_129 rfl ?_
      refine g_iload (pc := 130) dX12_mix_130 rfl ?_
      refine g_iconst (pc := 132) dX12_mix_132 ic_0 ?_
      refine g_bipush (pc := 133) dX12_mix_133 bp_12 ?_
      obtain ⟨u3, e2, h⟩ := x_bind h
      refine g_cV (pc := 135) dX12_mix_135 cV_RX12_377 (M_r_X12_mixes (Nat.le_refl _) e2) xc_135 (as := [.int v1, .int v2, .int v3, .int v4, .int (0 : Int32), .int (12 : Int32)]) (st := []) rfl rfl (Nat.le_of_ble_eq_true rfl) (Nat.le_trans (Nat.le_of_ble_eq_true rfl) hd) rfl ?_
      refine g_iconst (pc := 138) dX12_mix_138 ic_0 ?_
      refine g_istore (pc := 139) dX12_mix_139 (Nat.le_of_ble_eq_true rfl) (L' := [some (.ref 135), some (.int v1), some (.int v2), some (.int v3), some (.int v4), none, some (.int (0 : Int32))]) rfl ?_
      refine g_L (L' := [some (.ref 135), none, none, none, none, none, some (.int (0 : Int32))]) ⟨rfl, ⟨rfl, trivial⟩⟩ ?_
      exact G_X12_mix_141 hd xN (0 : Int32) u3 h
    · replace h := (if_neg c1).symm.trans h
      refine g_aload_n (pc := 93) dX12_mix_93 rfl ?_
      refine g_gR (pc := 94) dX12_mix_94 fR_RX12_96 xc_135 (v := 163) rfl ?_
      refine g_iload (pc := 97) dX12_mix_97 rfl ?_
      refine g_aload_n (pc := 99) dX12_mix_99 rfl ?_
      refine g_gR (pc := 100) dX12_mix_100 fR_RX12_87 xc_135 (v := 160) rfl ?_
      refine g_iload (pc := 103) dX12_mix_103 rfl ?_
      obtain ⟨g4, h⟩ := x_gd h
      refine g_iaload (pc := 105) dX12_mix_105 xc_160 (xin_of g4) (v := (rd u 160 v6.toNatClampNeg)) rfl ?_
      refine g_iastore (pc := 106) dX12_mix_106 xc_163 (xin_of g4) (u' := (wr u 163 v6.toNatClampNeg (rd u 160 v6.toNatClampNeg))) rfl ?_
      refine g_aload_n (pc := 107) dX12_mix_107 rfl ?_
      refine g_gR (pc := 108) dX12_mix_108 fR_RX12_87 xc_135 (v := 160) rfl ?_
      refine g_iload (pc := 111) dX12_mix_111 rfl ?_
      refine g_iconst (pc := 113) dX12_mix_113 ic_0 ?_
      refine g_iastore (pc := 114) dX12_mix_114 xc_160 (xin_of g4) (u' := (wr (wr u 163 v6.toNatClampNeg (rd u 160 v6.toNatClampNeg)) 160 v6.toNatClampNeg (0 : Int32))) rfl ?_
      refine g_inc (pc := 115) dX12_mix_115 (Nat.le_of_ble_eq_true rfl) rfl ic_1 (L' := [some (.ref 135), some (.int v1), some (.int v2), some (.int v3), some (.int v4), none, some (.int (v6 + (1 : Int32)))]) rfl ?_
      refine g_goto (tgt := 84) (pc := 118) dX12_mix_118 (by decide) ?_
      exact ih v1 v2 v3 v4 (v6 + (1 : Int32)) (wr (wr u 163 v6.toNatClampNeg (rd u 160 v6.toNatClampNeg)) 160 v6.toNatClampNeg (0 : Int32)) h
set_option maxRecDepth 100000 in
set_option maxHeartbeats 4000000 in
theorem G_X12_mix_72 {sc : Nat × (Nat → Int32)} {d : Nat} (hd : 27 ≤ d) {r : Int32} {u' : xS} (v1 : Int32) (v2 : Int32) (v3 : Int32) (v4 : Int32) (s0 : Int32) (u : xS) (h : f_X12_mix_72 v1 v2 v3 v4 s0 u = some (r, u')) : xG sc mX12_mix d 0 0 (xR (some (.int r)) (xL0, u') 0 0) 0 0 72 [some (.ref 135), some (.int v1), some (.int v2), some (.int v3), some (.int v4), none, none] [.int s0] (xL0, u) := by
  rw [f_X12_mix_72] at h
  refine g_istore (pc := 72) dX12_mix_72 (Nat.le_of_ble_eq_true rfl) (L' := [some (.ref 135), some (.int v1), some (.int v2), some (.int v3), some (.int v4), some (.int s0), none]) rfl ?_
  refine g_iload (pc := 74) dX12_mix_74 rfl ?_
  refine g_if_ne (tgt := 81) (pc := 76) dX12_mix_76 (by decide) (fun c1 => ?_) (fun c1 => ?_)
  · replace h := (if_neg c1).symm.trans h
    refine g_iconst (pc := 81) dX12_mix_81 ic_0 ?_
    refine g_istore (pc := 82) dX12_mix_82 (Nat.le_of_ble_eq_true rfl) (L' := [some (.ref 135), some (.int v1), some (.int v2), some (.int v3), some (.int v4), some (.int s0), some (.int (0 : Int32))]) rfl ?_
    refine g_L (L' := [some (.ref 135), some (.int v1), some (.int v2), some (.int v3), some (.int v4), none, some (.int (0 : Int32))]) ⟨rfl, ⟨rfl, ⟨rfl, ⟨rfl, ⟨rfl, ⟨rfl, trivial⟩⟩⟩⟩⟩⟩ ?_
    exact G_X12_mix_84 hd xN v1 v2 v3 v4 (0 : Int32) u h
  · replace h := (if_pos c1).symm.trans h
    refine g_iconst (pc := 79) dX12_mix_79 ic_m1 ?_
    cases h
    exact g_iret (pc := 80) dX12_mix_80 rfl rfl rfl (Nat.le_refl _) (Nat.le_refl _)
set_option maxRecDepth 100000 in
set_option maxHeartbeats 4000000 in
theorem G_X12_mix_71 {sc : Nat × (Nat → Int32)} {d : Nat} (hd : 27 ≤ d) {r : Int32} {u' : xS} (v1 : Int32) (v2 : Int32) (v3 : Int32) (v4 : Int32) (u : xS) (h : f_X12_mix_71 v1 v2 v3 v4 u = some (r, u')) : xG sc mX12_mix d 0 0 (xR (some (.int r)) (xL0, u') 0 0) 0 0 71 [some (.ref 135), some (.int v1), some (.int v2), some (.int v3), some (.int v4), none, none] [] (xL0, u) := by
  rw [f_X12_mix_71] at h
  refine g_iconst (pc := 71) dX12_mix_71 ic_0 ?_
  exact G_X12_mix_72 hd v1 v2 v3 v4 (0 : Int32) u h
set_option maxRecDepth 100000 in
set_option maxHeartbeats 4000000 in
theorem G_X12_mix_0 {sc : Nat × (Nat → Int32)} {d : Nat} (hd : 27 ≤ d) {r : Int32} {u' : xS} (v1 : Int32) (v2 : Int32) (v3 : Int32) (v4 : Int32) (u : xS) (h : f_X12_mix v1 v2 v3 v4 u = some (r, u')) : xG sc mX12_mix d 0 0 (xR (some (.int r)) (xL0, u') 0 0) 0 0 0 [some (.ref 135), some (.int v1), some (.int v2), some (.int v3), some (.int v4), none, none] [] (xL0, u) := by
  rw [f_X12_mix] at h
  refine g_aload_n (pc := 0) dX12_mix_0 rfl ?_
  refine g_iconst (pc := 1) dX12_mix_1 ic_0 ?_
  refine g_pI (pc := 2) dX12_mix_2 pI_RX12_150 xc_135 (u' := (wr u 135 0 (0 : Int32))) rfl ?_
  refine g_aload_n (pc := 5) dX12_mix_5 rfl ?_
  refine g_iload_n (pc := 6) dX12_mix_6 rfl ?_
  refine g_cV (pc := 7) dX12_mix_7 cV_RX12_362 (M_X12_isRecipe (Nat.le_refl _) rfl) xc_135 (as := [.int v1]) (st := []) rfl rfl (Nat.le_of_ble_eq_true rfl) (Nat.le_trans (Nat.le_of_ble_eq_true rfl) hd) rfl ?_
  refine g_if_eq (tgt := 71) (pc := 10) dX12_mix_10 (by decide) (fun c1 => ?_) (fun c1 => ?_)
  · replace h := (if_pos c1).symm.trans h
    exact G_X12_mix_71 hd v1 v2 v3 v4 (wr u 135 0 (0 : Int32)) h
  · replace h := (if_neg c1).symm.trans h
    refine g_iload_n (pc := 13) dX12_mix_13 rfl ?_
    refine g_i2l (pc := 14) dX12_mix_14 rfl ?_
    refine g_lconst (v := (1 : Int64)) (pc := 15) dX12_mix_15 rfl ?_
    refine g_iconst (pc := 16) dX12_mix_16 ic_1 ?_
    refine g_aload_n (pc := 17) dX12_mix_17 rfl ?_
    refine g_gI (pc := 18) dX12_mix_18 fI_RX12_153 xc_135 (v := (rd u 135 1)) rfl ?_
    refine g_ishl (pc := 21) dX12_mix_21 rfl ?_
    refine g_iconst (pc := 22) dX12_mix_22 ic_1 ?_
    refine g_isub (pc := 23) dX12_mix_23 rfl ?_
    refine g_i2l (pc := 24) dX12_mix_24 rfl ?_
    refine g_cS (pc := 25) dX12_mix_25 cS_RX12_156 (M_X12_in (Nat.le_refl _) rfl) (as := [.long ((v2).toInt64), .long (1 : Int64), .long ((((1 : Int32) <<< ((rd u 135 1) &&& 31)) - (1 : Int32)).toInt64)]) (st := []) rfl rfl (Nat.le_of_ble_eq_true rfl) (Nat.le_trans (Nat.le_of_ble_eq_true rfl) hd) rfl ?_
    refine g_if_eq (tgt := 71) (pc := 28) dX12_mix_28 (by decide) (fun c2 => ?_) (fun c2 => ?_)
    · replace h := (if_pos c2).symm.trans h
      exact G_X12_mix_71 hd v1 v2 v3 v4 (wr u 135 0 (0 : Int32)) h
    · replace h := (if_neg c2).symm.trans h
      refine g_iload_n (pc := 31) dX12_mix_31 rfl ?_
      refine g_cS (pc := 32) dX12_mix_32 cS_RX12_381 (M_J6_bitCount_0f7a4 (Nat.le_refl _) rfl) (as := [.int v2]) (st := []) rfl rfl (Nat.le_of_ble_eq_true rfl) (Nat.le_trans (Nat.le_of_ble_eq_true rfl) hd) rfl ?_
      refine g_bipush (pc := 35) dX12_mix_35 bp_6 ?_
      refine g_icmp_gt (tgt := 71) (pc := 37) dX12_mix_37 (by decide) (fun c3 => ?_) (fun c3 => ?_)
      · replace h := (if_pos c3).symm.trans h
        exact G_X12_mix_71 hd v1 v2 v3 v4 (wr u 135 0 (0 : Int32)) h
      · replace h := (if_neg c3).symm.trans h
        refine g_iload_n (pc := 40) dX12_mix_40 rfl ?_
        refine g_i2l (pc := 41) dX12_mix_41 rfl ?_
        refine g_lconst (v := (0 : Int64)) (pc := 42) dX12_mix_42 rfl ?_
        refine g_ldc2 (pc := 43) dX12_mix_43 kl_RX12_386 ?_
        refine g_cS (pc := 46) dX12_mix_46 cS_RX12_156 (M_X12_in (Nat.le_refl _) rfl) (as := [.long ((v3).toInt64), .long (0 : Int64), .long (9996 : Int64)]) (st := []) rfl rfl (Nat.le_of_ble_eq_true rfl) (Nat.le_trans (Nat.le_of_ble_eq_true rfl) hd) rfl ?_
        refine g_if_eq (tgt := 71) (pc := 49) dX12_mix_49 (by decide) (fun c4 => ?_) (fun c4 => ?_)
        · replace h := (if_pos c4).symm.trans h
          exact G_X12_mix_71 hd v1 v2 v3 v4 (wr u 135 0 (0 : Int32)) h
        · replace h := (if_neg c4).symm.trans h
          refine g_iload_n (pc := 52) dX12_mix_52 rfl ?_
          refine g_bipush (pc := 53) dX12_mix_53 bp_12 ?_
          refine g_irem (pc := 55) dX12_mix_55 (by decide) rfl ?_
          refine g_if_ne (tgt := 71) (pc := 56) dX12_mix_56 (by decide) (fun c5 => ?_) (fun c5 => ?_)
          · replace h := (if_neg c5).symm.trans h
            exact G_X12_mix_71 hd v1 v2 v3 v4 (wr u 135 0 (0 : Int32)) h
          · replace h := (if_pos c5).symm.trans h
            refine g_iload (pc := 59) dX12_mix_59 rfl ?_
            refine g_cS (pc := 61) dX12_mix_61 cS_RX12_170 (M_X12_isWeek (Nat.le_refl _) rfl) (as := [.int v4]) (st := []) rfl rfl (Nat.le_of_ble_eq_true rfl) (Nat.le_trans (Nat.le_of_ble_eq_true rfl) hd) rfl ?_
            refine g_if_eq (tgt := 71) (pc := 64) dX12_mix_64 (by decide) (fun c6 => ?_) (fun c6 => ?_)
            · replace h := (if_pos c6).symm.trans h
              exact G_X12_mix_71 hd v1 v2 v3 v4 (wr u 135 0 (0 : Int32)) h
            · replace h := (if_neg c6).symm.trans h
              refine g_iconst (pc := 67) dX12_mix_67 ic_1 ?_
              refine g_goto (tgt := 72) (pc := 68) dX12_mix_68 (by decide) ?_
              exact G_X12_mix_72 hd v1 v2 v3 v4 (1 : Int32) (wr u 135 0 (0 : Int32)) h
set_option maxRecDepth 100000 in
set_option maxHeartbeats 4000000 in
theorem M_X12_mix {sc : Nat × (Nat → Int32)} {d : Nat} (hd : 27 ≤ d) {r : Int32} {u u' : xS} {a1 : Int32} {a2 : Int32} {a3 : Int32} {a4 : Int32} (h : f_X12_mix a1 a2 a3 a4 u = some (r, u')) : xMt sc mX12_mix d 0 0 [.ref 135, .int a1, .int a2, .int a3, .int a4] (xL0, u) (some (.int r)) (xL0, u') :=
  xMt.of (by decide +kernel) (Nat.le_of_ble_eq_true rfl) (L := [some (.ref 135), some (.int a1), some (.int a2), some (.int a3), some (.int a4), none, none]) rfl ((G_X12_mix_0 hd a1 a2 a3 a4 u h))
set_option maxRecDepth 100000 in
set_option maxHeartbeats 4000000 in
theorem G_X12_moth_19 {sc : Nat × (Nat → Int32)} {d : Nat} (hd : 2 ≤ d) {r : Int32} {u' : xS} : ∀ (n : Nat) (v1 : Int32) (v2 : Int32) (v3 : Int32) (u : xS), f_X12_moth_19 n v1 v2 v3 u = some (r, u') → xG sc mX12_moth d 0 0 (xR (some (.int r)) (xL0, u') 0 0) 0 0 19 [some (.ref 135), some (.int v1), some (.int v2), some (.int v3)] [] (xL0, u) := by
  intro n
  induction n with
  | zero =>
    intro v1 v2 v3 u h
    rw [f_X12_moth_19] at h
    cases h
  | succ n ih =>
    intro v1 v2 v3 u h
    rw [f_X12_moth_19] at h
    refine g_iload_n (pc := 19) dX12_moth_19 rfl ?_
    refine g_aload_n (pc := 20) dX12_moth_20 rfl ?_
    refine g_gI (pc := 21) dX12_moth_21 fI_RX12_153 xc_135 (v := (rd u 135 1)) rfl ?_
    refine g_icmp_ge (tgt := 59) (pc := 24) dX12_moth_24 (by decide) (fun c1 => ?_) (fun c1 => ?_)
    · replace h := (if_pos c1).symm.trans h
      refine g_aload_n (pc := 59) dX12_moth_59 rfl ?_
      refine g_gR (pc := 60) dX12_moth_60 fR_RX12_37 xc_135 (v := 145) rfl ?_
      refine g_iload_n (pc := 63) dX12_moth_63 rfl ?_
      refine g_dup2 (pc := 64) dX12_moth_64 rfl rfl ?_
      obtain ⟨g2, h⟩ := x_gd h
      refine g_iaload (pc := 65) dX12_moth_65 xc_145 (xin_of g2) (v := (rd u 145 v1.toNatClampNeg)) rfl ?_
      refine g_iload_n (pc := 66) dX12_moth_66 rfl ?_
      refine g_iadd (pc := 67) dX12_moth_67 rfl ?_
      refine g_iastore (pc := 68) dX12_moth_68 xc_145 (xin_of g2) (u' := (wr u 145 v1.toNatClampNeg ((rd u 145 v1.toNatClampNeg) + v2))) rfl ?_
      refine g_iload_n (pc := 69) dX12_moth_69 rfl ?_
      cases h
      exact g_iret (pc := 70) dX12_moth_70 rfl rfl rfl (Nat.le_refl _) (Nat.le_refl _)
    · replace h := (if_neg c1).symm.trans h
      refine g_iload_n (pc := 27) dX12_moth_27 rfl ?_
      refine g_aload_n (pc := 28) dX12_moth_28 rfl ?_
      refine g_gR (pc := 29) dX12_moth_29 fR_RX12_43 xc_135 (v := 147) rfl ?_
      refine g_bipush (pc := 32) dX12_moth_32 bp_24 ?_
      refine g_iload_n (pc := 34) dX12_moth_34 rfl ?_
      refine g_imul (pc := 35) dX12_moth_35 rfl ?_
      refine g_iload_n (pc := 36) dX12_moth_36 rfl ?_
      refine g_iadd (pc := 37) dX12_moth_37 rfl ?_
      obtain ⟨g3, h⟩ := x_gd h
      refine g_iaload (pc := 38) dX12_moth_38 xc_147 (xin_of g3) (v := (rd u 147 (((24 : Int32) * v3) + v1).toNatClampNeg)) rfl ?_
      refine g_iadd (pc := 39) dX12_moth_39 rfl ?_
      refine g_istore_n (pc := 40) dX12_moth_40 (Nat.le_of_ble_eq_true rfl) (L' := [some (.ref 135), some (.int v1), some (.int (v2 + (rd u 147 (((24 : Int32) * v3) + v1).toNatClampNeg))), some (.int v3)]) rfl ?_
      refine g_aload_n (pc := 41) dX12_moth_41 rfl ?_
      refine g_gR (pc := 42) dX12_moth_42 fR_RX12_43 xc_135 (v := 147) rfl ?_
      refine g_bipush (pc := 45) dX12_moth_45 bp_24 ?_
      refine g_iload_n (pc := 47) dX12_moth_47 rfl ?_
      refine g_imul (pc := 48) dX12_moth_48 rfl ?_
      refine g_iload_n (pc := 49) dX12_moth_49 rfl ?_
      refine g_iadd (pc := 50) dX12_moth_50 rfl ?_
      refine g_iconst (pc := 51) dX12_moth_51 ic_0 ?_
      refine g_iastore (pc := 52) dX12_moth_52 xc_147 (xin_of g3) (u' := (wr u 147 (((24 : Int32) * v3) + v1).toNatClampNeg (0 : Int32))) rfl ?_
      refine g_inc (pc := 53) dX12_moth_53 (Nat.le_of_ble_eq_true rfl) rfl ic_1 (L' := [some (.ref 135), some (.int v1), some (.int (v2 + (rd u 147 (((24 : Int32) * v3) + v1).toNatClampNeg))), some (.int (v3 + (1 : Int32)))]) rfl ?_
      refine g_goto (tgt := 19) (pc := 56) dX12_moth_56 (by decide) ?_
      exact ih v1 (v2 + (rd u 147 (((24 : Int32) * v3) + v1).toNatClampNeg)) (v3 + (1 : Int32)) (wr u 147 (((24 : Int32) * v3) + v1).toNatClampNeg (0 : Int32)) h
set_option maxRecDepth 100000 in
set_option maxHeartbeats 4000000 in
theorem G_X12_moth_0 {sc : Nat × (Nat → Int32)} {d : Nat} (hd : 2 ≤ d) {r : Int32} {u' : xS} (v1 : Int32) (u : xS) (h : f_X12_moth v1 u = some (r, u')) : xG sc mX12_moth d 0 0 (xR (some (.int r)) (xL0, u') 0 0) 0 0 0 [some (.ref 135), some (.int v1), none, none] [] (xL0, u) := by
  rw [f_X12_moth] at h
  refine g_aload_n (pc := 0) dX12_moth_0 rfl ?_
  refine g_iconst (pc := 1) dX12_moth_1 ic_0 ?_
  refine g_pI (pc := 2) dX12_moth_2 pI_RX12_150 xc_135 (u' := (wr u 135 0 (0 : Int32))) rfl ?_
  refine g_aload_n (pc := 5) dX12_moth_5 rfl ?_
  refine g_iload_n (pc := 6) dX12_moth_6 rfl ?_
  refine g_cV (pc := 7) dX12_moth_7 cV_RX12_205 (M_X12_isBale (Nat.le_refl _) rfl) xc_135 (as := [.int v1]) (st := []) rfl rfl (Nat.le_of_ble_eq_true rfl) (Nat.le_trans (Nat.le_of_ble_eq_true rfl) hd) rfl ?_
  refine g_if_ne (tgt := 15) (pc := 10) dX12_moth_10 (by decide) (fun c1 => ?_) (fun c1 => ?_)
  · replace h := (if_neg c1).symm.trans h
    refine g_iconst (pc := 15) dX12_moth_15 ic_0 ?_
    refine g_istore_n (pc := 16) dX12_moth_16 (Nat.le_of_ble_eq_true rfl) (L' := [some (.ref 135), some (.int v1), some (.int (0 : Int32)), none]) rfl ?_
    refine g_iconst (pc := 17) dX12_moth_17 ic_0 ?_
    refine g_istore_n (pc := 18) dX12_moth_18 (Nat.le_of_ble_eq_true rfl) (L' := [some (.ref 135), some (.int v1), some (.int (0 : Int32)), some (.int (0 : Int32))]) rfl ?_
    exact G_X12_moth_19 hd xN v1 (0 : Int32) (0 : Int32) (wr u 135 0 (0 : Int32)) h
  · replace h := (if_pos c1).symm.trans h
    refine g_iconst (pc := 13) dX12_moth_13 ic_m1 ?_
    cases h
    exact g_iret (pc := 14) dX12_moth_14 rfl rfl rfl (Nat.le_refl _) (Nat.le_refl _)
set_option maxRecDepth 100000 in
set_option maxHeartbeats 4000000 in
theorem M_X12_moth {sc : Nat × (Nat → Int32)} {d : Nat} (hd : 2 ≤ d) {r : Int32} {u u' : xS} {a1 : Int32} (h : f_X12_moth a1 u = some (r, u')) : xMt sc mX12_moth d 0 0 [.ref 135, .int a1] (xL0, u) (some (.int r)) (xL0, u') :=
  xMt.of (by decide +kernel) (Nat.le_of_ble_eq_true rfl) (L := [some (.ref 135), some (.int a1), none, none]) rfl ((G_X12_moth_0 hd a1 u h))
set_option maxRecDepth 100000 in
set_option maxHeartbeats 4000000 in
theorem G_X12_of_93 {sc : Nat × (Nat → Int32)} {d : Nat} (hd : 2 ≤ d) {r : Int32} {u' : xS} (v1 : Int32) (v2 : Int32) (v3 : Int32) (u : xS) (h : f_X12_of_93 v1 v2 v3 u = some (r, u')) : xG sc mX12_of d 0 0 (xR (some (.int r)) (xL0, u') 0 0) 0 0 93 [some (.ref 135), some (.int v1), some (.int v2), some (.int v3), none] [] (xL0, u) := by
  rw [f_X12_of_93] at h
  refine g_iload_n (pc := 93) dX12_of_93 rfl ?_
  by_cases c1 : v2 = (0 : Int32)
  · replace h := (if_pos c1).symm.trans h
    refine g_tableIn (tgt := 132) (off := 38) (pc := 94) dX12_of_94 (by rw [c1]; decide) (by rw [c1]; decide) (by rw [c1]; rfl) (by decide) ?_
    refine g_aload_n (pc := 132) dX12_of_132 rfl ?_
    refine g_gR (pc := 133) dX12_of_133 fR_RX12_28 xc_135 (v := 142) rfl ?_
    refine g_iload_n (pc := 136) dX12_of_136 rfl ?_
    obtain ⟨g2, h⟩ := x_gd h
    refine g_iaload (pc := 137) dX12_of_137 xc_142 (xin_of g2) (v := (rd u 142 v1.toNatClampNeg)) rfl ?_
    cases h
    exact g_iret (pc := 138) dX12_of_138 rfl rfl rfl (Nat.le_refl _) (Nat.le_refl _)
  replace h := (if_neg c1).symm.trans h
  by_cases c3 : v2 = (1 : Int32)
  · replace h := (if_pos c3).symm.trans h
    refine g_tableIn (tgt := 139) (off := 45) (pc := 94) dX12_of_94 (by rw [c3]; decide) (by rw [c3]; decide) (by rw [c3]; rfl) (by decide) ?_
    refine g_aload_n (pc := 139) dX12_of_139 rfl ?_
    refine g_gR (pc := 140) dX12_of_140 fR_RX12_34 xc_135 (v := 144) rfl ?_
    refine g_iload_n (pc := 143) dX12_of_143 rfl ?_
    obtain ⟨g4, h⟩ := x_gd h
    refine g_iaload (pc := 144) dX12_of_144 xc_144 (xin_of g4) (v := (rd u 144 v1.toNatClampNeg)) rfl ?_
    refine g_if_ge (tgt := 152) (pc := 145) dX12_of_145 (by decide) (fun c5 => ?_) (fun c5 => ?_)
    · replace h := (if_pos c5).symm.trans h
      refine g_aload_n (pc := 152) dX12_of_152 rfl ?_
      refine g_iload_n (pc := 153) dX12_of_153 rfl ?_
      obtain ⟨x7, e6, h⟩ := x_bind h
      refine g_cV (pc := 154) dX12_of_154 cV_RX12_217 (M_X12_dust (Nat.le_refl _) e6) xc_135 (as := [.int v1]) (st := []) rfl rfl (Nat.le_of_ble_eq_true rfl) (Nat.le_trans (Nat.le_of_ble_eq_true rfl) hd) rfl ?_
      cases h
      exact g_iret (pc := 157) dX12_of_157 rfl rfl rfl (Nat.le_refl _) (Nat.le_refl _)
    · replace h := (if_neg c5).symm.trans h
      refine g_iconst (pc := 148) dX12_of_148 ic_m1 ?_
      refine g_goto (tgt := 157) (pc := 149) dX12_of_149 (by decide) ?_
      cases h
      exact g_iret (pc := 157) dX12_of_157 rfl rfl rfl (Nat.le_refl _) (Nat.le_refl _)
  replace h := (if_neg c3).symm.trans h
  by_cases c8 : v2 = (2 : Int32)
  · replace h := (if_pos c8).symm.trans h
    refine g_tableIn (tgt := 158) (off := 64) (pc := 94) dX12_of_94 (by rw [c8]; decide) (by rw [c8]; decide) (by rw [c8]; rfl) (by decide) ?_
    refine g_aload_n (pc := 158) dX12_of_158 rfl ?_
    refine g_gR (pc := 159) dX12_of_159 fR_RX12_34 xc_135 (v := 144) rfl ?_
    refine g_iload_n (pc := 162) dX12_of_162 rfl ?_
    obtain ⟨g9, h⟩ := x_gd h
    refine g_iaload (pc := 163) dX12_of_163 xc_144 (xin_of g9) (v := (rd u 144 v1.toNatClampNeg)) rfl ?_
    cases h
    exact g_iret (pc := 164) dX12_of_164 rfl rfl rfl (Nat.le_refl _) (Nat.le_refl _)
  replace h := (if_neg c8).symm.trans h
  by_cases c10 : v2 = (3 : Int32)
  · replace h := (if_pos c10).symm.trans h
    refine g_tableIn (tgt := 165) (off := 71) (pc := 94) dX12_of_94 (by rw [c10]; decide) (by rw [c10]; decide) (by rw [c10]; rfl) (by decide) ?_
    refine g_iload_n (pc := 165) dX12_of_165 rfl ?_
    cases h
    exact g_iret (pc := 166) dX12_of_166 rfl rfl rfl (Nat.le_refl _) (Nat.le_refl _)
  replace h := (if_neg c10).symm.trans h
  by_cases c11 : v2 = (4 : Int32)
  · replace h := (if_pos c11).symm.trans h
    refine g_tableIn (tgt := 167) (off := 73) (pc := 94) dX12_of_94 (by rw [c11]; decide) (by rw [c11]; decide) (by rw [c11]; rfl) (by decide) ?_
    refine g_iload_n (pc := 167) dX12_of_167 rfl ?_
    cases h
    exact g_iret (pc := 168) dX12_of_168 rfl rfl rfl (Nat.le_refl _) (Nat.le_refl _)
  replace h := (if_neg c11).symm.trans h
  by_cases c12 : v2 = (5 : Int32)
  · replace h := (if_pos c12).symm.trans h
    refine g_tableIn (tgt := 169) (off := 75) (pc := 94) dX12_of_94 (by rw [c12]; decide) (by rw [c12]; decide) (by rw [c12]; rfl) (by decide) ?_
    refine g_aload_n (pc := 169) dX12_of_169 rfl ?_
    refine g_gR (pc := 170) dX12_of_170 fR_RX12_37 xc_135 (v := 145) rfl ?_
    refine g_iload_n (pc := 173) dX12_of_173 rfl ?_
    obtain ⟨g13, h⟩ := x_gd h
    refine g_iaload (pc := 174) dX12_of_174 xc_145 (xin_of g13) (v := (rd u 145 v1.toNatClampNeg)) rfl ?_
    cases h
    exact g_iret (pc := 175) dX12_of_175 rfl rfl rfl (Nat.le_refl _) (Nat.le_refl _)
  replace h := (if_neg c12).symm.trans h
  have c1i := i32_ne c1 (m := 0) (by decide)
  have c3i := i32_ne c3 (m := 1) (by decide)
  have c8i := i32_ne c8 (m := 2) (by decide)
  have c10i := i32_ne c10 (m := 3) (by decide)
  have c11i := i32_ne c11 (m := 4) (by decide)
  have c12i := i32_ne c12 (m := 5) (by decide)
  refine g_tableOut (tgt := 176) (pc := 94) dX12_of_94 (by omega) (by decide) ?_
  refine g_iconst (pc := 176) dX12_of_176 ic_m1 ?_
  cases h
  exact g_iret (pc := 177) dX12_of_177 rfl rfl rfl (Nat.le_refl _) (Nat.le_refl _)
set_option maxRecDepth 100000 in
set_option maxHeartbeats 4000000 in
theorem G_X12_of_58 {sc : Nat × (Nat → Int32)} {d : Nat} (hd : 2 ≤ d) {r : Int32} {u' : xS} : ∀ (n : Nat) (v1 : Int32) (v2 : Int32) (v3 : Int32) (v4 : Int32) (u : xS), f_X12_of_58 n v1 v2 v3 v4 u = some (r, u') → xG sc mX12_of d 0 0 (xR (some (.int r)) (xL0, u') 0 0) 0 0 58 [some (.ref 135), some (.int v1), some (.int v2), some (.int v3), some (.int v4)] [] (xL0, u) := by
  intro n
  induction n with
  | zero =>
    intro v1 v2 v3 v4 u h
    rw [f_X12_of_58] at h
    cases h
  | succ n ih =>
    intro v1 v2 v3 v4 u h
    rw [f_X12_of_58] at h
    refine g_iload (pc := 58) dX12_of_58 rfl ?_
    refine g_aload_n (pc := 60) dX12_of_60 rfl ?_
    refine g_gI (pc := 61) dX12_of_61 fI_RX12_223 xc_135 (v := (rd u 135 37)) rfl ?_
    refine g_icmp_ge (tgt := 93) (pc := 64) dX12_of_64 (by decide) (fun c1 => ?_) (fun c1 => ?_)
    · replace h := (if_pos c1).symm.trans h
      refine g_L (L' := [some (.ref 135), some (.int v1), some (.int v2), some (.int v3), none]) ⟨rfl, ⟨rfl, ⟨rfl, ⟨rfl, trivial⟩⟩⟩⟩ ?_
      exact G_X12_of_93 hd v1 v2 v3 u h
    · replace h := (if_neg c1).symm.trans h
      refine g_iload_n (pc := 67) dX12_of_67 rfl ?_
      refine g_iconst (pc := 68) dX12_of_68 ic_4 ?_
      refine g_icmp_ne (tgt := 93) (pc := 69) dX12_of_69 (by decide) (fun c2 => ?_) (fun c2 => ?_)
      · replace h := (if_neg c2).symm.trans h
        refine g_L (L' := [some (.ref 135), some (.int v1), some (.int v2), some (.int v3), none]) ⟨rfl, ⟨rfl, ⟨rfl, ⟨rfl, trivial⟩⟩⟩⟩ ?_
        exact G_X12_of_93 hd v1 v2 v3 u h
      · replace h := (if_pos c2).symm.trans h
        refine g_iload_n (pc := 72) dX12_of_72 rfl ?_
        refine g_aload_n (pc := 73) dX12_of_73 rfl ?_
        refine g_gR (pc := 74) dX12_of_74 fR_RX12_90 xc_135 (v := 161) rfl ?_
        refine g_bipush (pc := 77) dX12_of_77 bp_24 ?_
        refine g_iload (pc := 79) dX12_of_79 rfl ?_
        refine g_imul (pc := 81) dX12_of_81 rfl ?_
        refine g_iload_n (pc := 82) dX12_of_82 rfl ?_
        refine g_iadd (pc := 83) dX12_of_83 rfl ?_
        obtain ⟨g3, h⟩ := x_gd h
        refine g_iaload (pc := 84) dX12_of_84 xc_161 (xin_of g3) (v := (rd u 161 (((24 : Int32) * v4) + v1).toNatClampNeg)) rfl ?_
        refine g_iadd (pc := 85) dX12_of_85 rfl ?_
        refine g_istore_n (pc := 86) dX12_of_86 (Nat.le_of_ble_eq_true rfl) (L' := [some (.ref 135), some (.int v1), some (.int v2), some (.int (v3 + (rd u 161 (((24 : Int32) * v4) + v1).toNatClampNeg))), some (.int v4)]) rfl ?_
        refine g_inc (pc := 87) dX12_of_87 (Nat.le_of_ble_eq_true rfl) rfl ic_1 (L' := [some (.ref 135), some (.int v1), some (.int v2), some (.int (v3 + (rd u 161 (((24 : Int32) * v4) + v1).toNatClampNeg))), some (.int (v4 + (1 : Int32)))]) rfl ?_
        refine g_goto (tgt := 58) (pc := 90) dX12_of_90 (by decide) ?_
        exact ih v1 v2 (v3 + (rd u 161 (((24 : Int32) * v4) + v1).toNatClampNeg)) (v4 + (1 : Int32)) u h
set_option maxRecDepth 100000 in
set_option maxHeartbeats 4000000 in
theorem G_X12_of_55 {sc : Nat × (Nat → Int32)} {d : Nat} (hd : 2 ≤ d) {r : Int32} {u' : xS} (v1 : Int32) (v2 : Int32) (v3 : Int32) (u : xS) (h : f_X12_of_55 v1 v2 v3 u = some (r, u')) : xG sc mX12_of d 0 0 (xR (some (.int r)) (xL0, u') 0 0) 0 0 55 [some (.ref 135), some (.int v1), some (.int v2), some (.int v3), none] [] (xL0, u) := by
  rw [f_X12_of_55] at h
  refine g_iconst (pc := 55) dX12_of_55 ic_0 ?_
  refine g_istore (pc := 56) dX12_of_56 (Nat.le_of_ble_eq_true rfl) (L' := [some (.ref 135), some (.int v1), some (.int v2), some (.int v3), some (.int (0 : Int32))]) rfl ?_
  exact G_X12_of_58 hd xN v1 v2 v3 (0 : Int32) u h
set_option maxRecDepth 100000 in
set_option maxHeartbeats 4000000 in
theorem G_X12_of_20 {sc : Nat × (Nat → Int32)} {d : Nat} (hd : 2 ≤ d) {r : Int32} {u' : xS} : ∀ (n : Nat) (v1 : Int32) (v2 : Int32) (v3 : Int32) (v4 : Int32) (u : xS), f_X12_of_20 n v1 v2 v3 v4 u = some (r, u') → xG sc mX12_of d 0 0 (xR (some (.int r)) (xL0, u') 0 0) 0 0 20 [some (.ref 135), some (.int v1), some (.int v2), some (.int v3), some (.int v4)] [] (xL0, u) := by
  intro n
  induction n with
  | zero =>
    intro v1 v2 v3 v4 u h
    rw [f_X12_of_20] at h
    cases h
  | succ n ih =>
    intro v1 v2 v3 v4 u h
    rw [f_X12_of_20] at h
    refine g_iload (pc := 20) dX12_of_20 rfl ?_
    refine g_aload_n (pc := 22) dX12_of_22 rfl ?_
    refine g_gI (pc := 23) dX12_of_23 fI_RX12_153 xc_135 (v := (rd u 135 1)) rfl ?_
    refine g_icmp_ge (tgt := 55) (pc := 26) dX12_of_26 (by decide) (fun c1 => ?_) (fun c1 => ?_)
    · replace h := (if_pos c1).symm.trans h
      refine g_L (L' := [some (.ref 135), some (.int v1), some (.int v2), some (.int v3), none]) ⟨rfl, ⟨rfl, ⟨rfl, ⟨rfl, trivial⟩⟩⟩⟩ ?_
      exact G_X12_of_55 hd v1 v2 v3 u h
    · replace h := (if_neg c1).symm.trans h
      refine g_iload_n (pc := 29) dX12_of_29 rfl ?_
      refine g_iconst (pc := 30) dX12_of_30 ic_3 ?_
      refine g_icmp_ne (tgt := 55) (pc := 31) dX12_of_31 (by decide) (fun c2 => ?_) (fun c2 => ?_)
      · replace h := (if_neg c2).symm.trans h
        refine g_L (L' := [some (.ref 135), some (.int v1), some (.int v2), some (.int v3), none]) ⟨rfl, ⟨rfl, ⟨rfl, ⟨rfl, trivial⟩⟩⟩⟩ ?_
        exact G_X12_of_55 hd v1 v2 v3 u h
      · replace h := (if_pos c2).symm.trans h
        refine g_iload_n (pc := 34) dX12_of_34 rfl ?_
        refine g_aload_n (pc := 35) dX12_of_35 rfl ?_
        refine g_gR (pc := 36) dX12_of_36 fR_RX12_43 xc_135 (v := 147) rfl ?_
        refine g_bipush (pc := 39) dX12_of_39 bp_24 ?_
        refine g_iload (pc := 41) dX12_of_41 rfl ?_
        refine g_imul (pc := 43) dX12_of_43 rfl ?_
        refine g_iload_n (pc := 44) dX12_of_44 rfl ?_
        refine g_iadd (pc := 45) dX12_of_45 rfl ?_
        obtain ⟨g3, h⟩ := x_gd h
        refine g_iaload (pc := 46) dX12_of_46 xc_147 (xin_of g3) (v := (rd u 147 (((24 : Int32) * v4) + v1).toNatClampNeg)) rfl ?_
        refine g_iadd (pc := 47) dX12_of_47 rfl ?_
        refine g_istore_n (pc := 48) dX12_of_48 (Nat.le_of_ble_eq_true rfl) (L' := [some (.ref 135), some (.int v1), some (.int v2), some (.int (v3 + (rd u 147 (((24 : Int32) * v4) + v1).toNatClampNeg))), some (.int v4)]) rfl ?_
        refine g_inc (pc := 49) dX12_of_49 (Nat.le_of_ble_eq_true rfl) rfl ic_1 (L' := [some (.ref 135), some (.int v1), some (.int v2), some (.int (v3 + (rd u 147 (((24 : Int32) * v4) + v1).toNatClampNeg))), some (.int (v4 + (1 : Int32)))]) rfl ?_
        refine g_goto (tgt := 20) (pc := 52) dX12_of_52 (by decide) ?_
        exact ih v1 v2 (v3 + (rd u 147 (((24 : Int32) * v4) + v1).toNatClampNeg)) (v4 + (1 : Int32)) u h
set_option maxRecDepth 100000 in
set_option maxHeartbeats 4000000 in
theorem G_X12_of_0 {sc : Nat × (Nat → Int32)} {d : Nat} (hd : 2 ≤ d) {r : Int32} {u' : xS} (v1 : Int32) (v2 : Int32) (u : xS) (h : f_X12_of v1 v2 u = some (r, u')) : xG sc mX12_of d 0 0 (xR (some (.int r)) (xL0, u') 0 0) 0 0 0 [some (.ref 135), some (.int v1), some (.int v2), none, none] [] (xL0, u) := by
  rw [f_X12_of] at h
  refine g_aload_n (pc := 0) dX12_of_0 rfl ?_
  refine g_iconst (pc := 1) dX12_of_1 ic_0 ?_
  refine g_pI (pc := 2) dX12_of_2 pI_RX12_150 xc_135 (u' := (wr u 135 0 (0 : Int32))) rfl ?_
  refine g_aload_n (pc := 5) dX12_of_5 rfl ?_
  refine g_iload_n (pc := 6) dX12_of_6 rfl ?_
  refine g_cV (pc := 7) dX12_of_7 cV_RX12_205 (M_X12_isBale (Nat.le_refl _) rfl) xc_135 (as := [.int v1]) (st := []) rfl rfl (Nat.le_of_ble_eq_true rfl) (Nat.le_trans (Nat.le_of_ble_eq_true rfl) hd) rfl ?_
  refine g_if_ne (tgt := 15) (pc := 10) dX12_of_10 (by decide) (fun c1 => ?_) (fun c1 => ?_)
  · replace h := (if_neg c1).symm.trans h
    refine g_iconst (pc := 15) dX12_of_15 ic_0 ?_
    refine g_istore_n (pc := 16) dX12_of_16 (Nat.le_of_ble_eq_true rfl) (L' := [some (.ref 135), some (.int v1), some (.int v2), some (.int (0 : Int32)), none]) rfl ?_
    refine g_iconst (pc := 17) dX12_of_17 ic_0 ?_
    refine g_istore (pc := 18) dX12_of_18 (Nat.le_of_ble_eq_true rfl) (L' := [some (.ref 135), some (.int v1), some (.int v2), some (.int (0 : Int32)), some (.int (0 : Int32))]) rfl ?_
    exact G_X12_of_20 hd xN v1 v2 (0 : Int32) (0 : Int32) (wr u 135 0 (0 : Int32)) h
  · replace h := (if_pos c1).symm.trans h
    refine g_iconst (pc := 13) dX12_of_13 ic_m1 ?_
    cases h
    exact g_iret (pc := 14) dX12_of_14 rfl rfl rfl (Nat.le_refl _) (Nat.le_refl _)
set_option maxRecDepth 100000 in
set_option maxHeartbeats 4000000 in
theorem M_X12_of {sc : Nat × (Nat → Int32)} {d : Nat} (hd : 2 ≤ d) {r : Int32} {u u' : xS} {a1 : Int32} {a2 : Int32} (h : f_X12_of a1 a2 u = some (r, u')) : xMt sc mX12_of d 0 0 [.ref 135, .int a1, .int a2] (xL0, u) (some (.int r)) (xL0, u') :=
  xMt.of (by decide +kernel) (Nat.le_of_ble_eq_true rfl) (L := [some (.ref 135), some (.int a1), some (.int a2), none, none]) rfl ((G_X12_of_0 hd a1 a2 u h))
set_option maxRecDepth 100000 in
set_option maxHeartbeats 4000000 in
theorem G_X12_off_0 {sc : Nat × (Nat → Int32)} {d : Nat} (hd : 6 ≤ d) {r : Int32} {u' : xS} (v1 : Int32) (v2 : Int32) (u : xS) (h : f_X12_off v1 v2 u = some (r, u')) : xG sc mX12_off d 0 0 (xR (some (.int r)) (xL0, u') 0 0) 0 0 0 [some (.ref 135), some (.int v1), some (.int v2)] [] (xL0, u) := by
  rw [f_X12_off] at h
  refine g_aload_n (pc := 0) dX12_off_0 rfl ?_
  refine g_iconst (pc := 1) dX12_off_1 ic_0 ?_
  refine g_pI (pc := 2) dX12_off_2 pI_RX12_150 xc_135 (u' := (wr u 135 0 (0 : Int32))) rfl ?_
  refine g_aload_n (pc := 5) dX12_off_5 rfl ?_
  refine g_iload_n (pc := 6) dX12_off_6 rfl ?_
  refine g_cV (pc := 7) dX12_off_7 cV_RX12_205 (M_X12_isBale (Nat.le_refl _) rfl) xc_135 (as := [.int v1]) (st := []) rfl rfl (Nat.le_of_ble_eq_true rfl) (Nat.le_trans (Nat.le_of_ble_eq_true rfl) hd) rfl ?_
  refine g_if_eq (tgt := 32) (pc := 10) dX12_off_10 (by decide) (fun c1 => ?_) (fun c1 => ?_)
  · replace h := (if_pos c1).symm.trans h
    refine g_iconst (pc := 32) dX12_off_32 ic_m1 ?_
    cases h
    exact g_iret (pc := 33) dX12_off_33 rfl rfl rfl (Nat.le_refl _) (Nat.le_refl _)
  · replace h := (if_neg c1).symm.trans h
    refine g_iload_n (pc := 13) dX12_off_13 rfl ?_
    refine g_i2l (pc := 14) dX12_off_14 rfl ?_
    refine g_lconst (v := (0 : Int64)) (pc := 15) dX12_off_15 rfl ?_
    refine g_lconst (v := (1 : Int64)) (pc := 16) dX12_off_16 rfl ?_
    refine g_cS (pc := 17) dX12_off_17 cS_RX12_156 (M_X12_in (Nat.le_refl _) rfl) (as := [.long ((v2).toInt64), .long (0 : Int64), .long (1 : Int64)]) (st := []) rfl rfl (Nat.le_of_ble_eq_true rfl) (Nat.le_trans (Nat.le_of_ble_eq_true rfl) hd) rfl ?_
    refine g_if_eq (tgt := 32) (pc := 20) dX12_off_20 (by decide) (fun c2 => ?_) (fun c2 => ?_)
    · replace h := (if_pos c2).symm.trans h
      refine g_iconst (pc := 32) dX12_off_32 ic_m1 ?_
      cases h
      exact g_iret (pc := 33) dX12_off_33 rfl rfl rfl (Nat.le_refl _) (Nat.le_refl _)
    · replace h := (if_neg c2).symm.trans h
      refine g_aload_n (pc := 23) dX12_off_23 rfl ?_
      refine g_iload_n (pc := 24) dX12_off_24 rfl ?_
      refine g_iload_n (pc := 25) dX12_off_25 rfl ?_
      obtain ⟨⟨x4, u5⟩, e3, h⟩ := x_bind h
      dsimp only at h
      refine g_cV (pc := 26) dX12_off_26 cV_RX12_253 (M_X12_offOf (Nat.le_refl _) e3) xc_135 (as := [.int v1, .int v2]) (st := []) rfl rfl (Nat.le_of_ble_eq_true rfl) (Nat.le_trans (Nat.le_of_ble_eq_true rfl) hd) rfl ?_
      refine g_goto (tgt := 33) (pc := 29) dX12_off_29 (by decide) ?_
      cases h
      exact g_iret (pc := 33) dX12_off_33 rfl rfl rfl (Nat.le_refl _) (Nat.le_refl _)
set_option maxRecDepth 100000 in
set_option maxHeartbeats 4000000 in
theorem M_X12_off {sc : Nat × (Nat → Int32)} {d : Nat} (hd : 6 ≤ d) {r : Int32} {u u' : xS} {a1 : Int32} {a2 : Int32} (h : f_X12_off a1 a2 u = some (r, u')) : xMt sc mX12_off d 0 0 [.ref 135, .int a1, .int a2] (xL0, u) (some (.int r)) (xL0, u') :=
  xMt.of (by decide +kernel) (Nat.le_of_ble_eq_true rfl) (L := [some (.ref 135), some (.int a1), some (.int a2)]) rfl ((G_X12_off_0 hd a1 a2 u h))
set_option maxRecDepth 100000 in
set_option maxHeartbeats 4000000 in
theorem G_X12_open_162 {sc : Nat × (Nat → Int32)} {d : Nat} (hd : 2 ≤ d) {r : Int32} {u' : xS} : ∀ (n : Nat) (v1 : Int32) (v2 : Int32) (v3 : Int32) (v4 : Int32) (v6 : Int32) (v9 : Int32) (v11 : Int32) (u : xS), f_X12_open_162 n v1 v2 v3 v4 v6 v9 v11 u = some (r, u') → xG sc mX12_open d 0 0 (xR (some (.int r)) (xL0, u') 0 0) 0 0 162 [some (.ref 135), some (.int v1), some (.int v2), some (.int v3), some (.int v4), none, some (.int v6), none, none, some (.int v9), none, some (.int v11), none] [] (xL0, u) := by
  intro n
  induction n with
  | zero =>
    intro v1 v2 v3 v4 v6 v9 v11 u h
    rw [f_X12_open_162] at h
    cases h
  | succ n ih =>
    intro v1 v2 v3 v4 v6 v9 v11 u h
    rw [f_X12_open_162] at h
    refine g_iload (pc := 162) dX12_open_162 rfl ?_
    refine g_iload (pc := 164) dX12_open_164 rfl ?_
    refine g_icmp_ge (tgt := 218) (pc := 166) dX12_open_166 (by decide) (fun c1 => ?_) (fun c1 => ?_)
    · replace h := (if_pos c1).symm.trans h
      refine g_aload_n (pc := 218) dX12_open_218 rfl ?_
      refine g_gR (pc := 219) dX12_open_219 fR_RX12_34 xc_135 (v := 144) rfl ?_
      refine g_iload_n (pc := 222) dX12_open_222 rfl ?_
      refine g_iload_n (pc := 223) dX12_open_223 rfl ?_
      obtain ⟨g2, h⟩ := x_gd h
      refine g_iastore (pc := 224) dX12_open_224 xc_144 (xin_of g2) (u' := (wr u 144 v1.toNatClampNeg v2)) rfl ?_
      refine g_aload_n (pc := 225) dX12_open_225 rfl ?_
      refine g_gR (pc := 226) dX12_open_226 fR_RX12_46 xc_135 (v := 148) rfl ?_
      refine g_aload_n (pc := 229) dX12_open_229 rfl ?_
      refine g_gI (pc := 230) dX12_open_230 fI_RX12_214 xc_135 (v := (rd u 135 16)) rfl ?_
      refine g_iload_n (pc := 233) dX12_open_233 rfl ?_
      obtain ⟨g3, h⟩ := x_gd h
      refine g_iastore (pc := 234) dX12_open_234 xc_148 (xin_of g3) (u' := (wr (wr u 144 v1.toNatClampNeg v2) 148 (rd u 135 16).toNatClampNeg v1)) rfl ?_
      refine g_aload_n (pc := 235) dX12_open_235 rfl ?_
      refine g_dup (pc := 236) dX12_open_236 rfl ?_
      refine g_gI (pc := 237) dX12_open_237 fI_RX12_214 xc_135 (v := (rd u 135 16)) rfl ?_
      refine g_iconst (pc := 240) dX12_open_240 ic_1 ?_
      refine g_iadd (pc := 241) dX12_open_241 rfl ?_
      refine g_pI (pc := 242) dX12_open_242 pI_RX12_214 xc_135 (u' := (wr (wr (wr u 144 v1.toNatClampNeg v2) 148 (rd u 135 16).toNatClampNeg v1) 135 16 ((rd u 135 16) + (1 : Int32)))) rfl ?_
      refine g_aload_n (pc := 245) dX12_open_245 rfl ?_
      refine g_iload_n (pc := 246) dX12_open_246 rfl ?_
      obtain ⟨x5, e4, h⟩ := x_bind h
      refine g_cV (pc := 247) dX12_open_247 cV_RX12_217 (M_X12_dust (Nat.le_refl _) e4) xc_135 (as := [.int v1]) (st := []) rfl rfl (Nat.le_of_ble_eq_true rfl) (Nat.le_trans (Nat.le_of_ble_eq_true rfl) hd) rfl ?_
      cases h
      exact g_iret (pc := 250) dX12_open_250 rfl rfl rfl (Nat.le_refl _) (Nat.le_refl _)
    · replace h := (if_neg c1).symm.trans h
      refine g_aload_n (pc := 169) dX12_open_169 rfl ?_
      refine g_gR (pc := 170) dX12_open_170 fR_RX12_40 xc_135 (v := 146) rfl ?_
      refine g_bipush (pc := 173) dX12_open_173 bp_24 ?_
      refine g_iload (pc := 175) dX12_open_175 rfl ?_
      refine g_imul (pc := 177) dX12_open_177 rfl ?_
      refine g_iload_n (pc := 178) dX12_open_178 rfl ?_
      refine g_iadd (pc := 179) dX12_open_179 rfl ?_
      refine g_iload_n (pc := 180) dX12_open_180 rfl ?_
      refine g_iload (pc := 181) dX12_open_181 rfl ?_
      refine g_cS (pc := 183) dX12_open_183 cS_RX12_211 (M_X12_entry (Nat.le_refl _) rfl) (as := [.int v3, .int v9]) (st := [.int (((24 : Int32) * v11) + v1), .ref 146]) rfl rfl (Nat.le_of_ble_eq_true rfl) (Nat.le_trans (Nat.le_of_ble_eq_true rfl) hd) rfl ?_
      obtain ⟨g6, h⟩ := x_gd h
      refine g_iastore (pc := 186) dX12_open_186 xc_146 (xin_of g6) (u' := (wr u 146 (((24 : Int32) * v11) + v1).toNatClampNeg (f_X12_entry v3 v9))) rfl ?_
      refine g_aload_n (pc := 187) dX12_open_187 rfl ?_
      refine g_gR (pc := 188) dX12_open_188 fR_RX12_43 xc_135 (v := 147) rfl ?_
      refine g_bipush (pc := 191) dX12_open_191 bp_24 ?_
      refine g_iload (pc := 193) dX12_open_193 rfl ?_
      refine g_imul (pc := 195) dX12_open_195 rfl ?_
      refine g_iload_n (pc := 196) dX12_open_196 rfl ?_
      refine g_iadd (pc := 197) dX12_open_197 rfl ?_
      refine g_iload_n (pc := 198) dX12_open_198 rfl ?_
      refine g_iload (pc := 199) dX12_open_199 rfl ?_
      refine g_cS (pc := 201) dX12_open_201 cS_RX12_211 (M_X12_entry (Nat.le_refl _) rfl) (as := [.int v3, .int v9]) (st := [.int (((24 : Int32) * v11) + v1), .ref 147]) rfl rfl (Nat.le_of_ble_eq_true rfl) (Nat.le_trans (Nat.le_of_ble_eq_true rfl) hd) rfl ?_
      refine g_iastore (pc := 204) dX12_open_204 xc_147 (xin_of g6) (u' := (wr (wr u 146 (((24 : Int32) * v11) + v1).toNatClampNeg (f_X12_entry v3 v9)) 147 (((24 : Int32) * v11) + v1).toNatClampNeg (f_X12_entry v3 v9))) rfl ?_
      refine g_iload (pc := 205) dX12_open_205 rfl ?_
      refine g_iload (pc := 207) dX12_open_207 rfl ?_
      refine g_iadd (pc := 209) dX12_open_209 rfl ?_
      refine g_istore (pc := 210) dX12_open_210 (Nat.le_of_ble_eq_true rfl) (L' := [some (.ref 135), some (.int v1), some (.int v2), some (.int v3), some (.int v4), none, some (.int v6), none, none, some (.int (v9 + v6)), none, some (.int v11), none]) rfl ?_
      refine g_inc (pc := 212) dX12_open_212 (Nat.le_of_ble_eq_true rfl) rfl ic_1 (L' := [some (.ref 135), some (.int v1), some (.int v2), some (.int v3), some (.int v4), none, some (.int v6), none, none, some (.int (v9 + v6)), none, some (.int (v11 + (1 : Int32))), none]) rfl ?_
      refine g_goto (tgt := 162) (pc := 215) dX12_open_215 (by decide) ?_
      exact ih v1 v2 v3 v4 v6 (v9 + v6) (v11 + (1 : Int32)) (wr (wr u 146 (((24 : Int32) * v11) + v1).toNatClampNeg (f_X12_entry v3 v9)) 147 (((24 : Int32) * v11) + v1).toNatClampNeg (f_X12_entry v3 v9)) h
set_option maxRecDepth 100000 in
set_option maxHeartbeats 4000000 in
theorem G_X12_open_111 {sc : Nat × (Nat → Int32)} {d : Nat} (hd : 2 ≤ d) {r : Int32} {u' : xS} {k81 : Int32 → Int32 → Int32 → Int32 → Int32 → Int32 → Int64 → Int32 → Int32 → Int32 → xS → Option (Int32 × xS)} (hk81 : ∀ (v1 : Int32) (v2 : Int32) (v3 : Int32) (v4 : Int32) (v5 : Int32) (v6 : Int32) (v7 : Int64) (v9 : Int32) (v10 : Int32) (v11 : Int32) (u : xS), k81 v1 v2 v3 v4 v5 v6 v7 v9 v10 v11 u = some (r, u') → xG sc mX12_open d 0 0 (xR (some (.int r)) (xL0, u') 0 0) 0 0 81 [some (.ref 135), some (.int v1), some (.int v2), some (.int v3), some (.int v4), some (.int v5), some (.int v6), some (.long v7), none, some (.int v9), some (.int v10), some (.int v11), none] [] (xL0, u)) (v1 : Int32) (v2 : Int32) (v3 : Int32) (v4 : Int32) (v5 : Int32) (v6 : Int32) (v7 : Int64) (v9 : Int32) (v11 : Int32) (v12 : Int32) (s0 : Int32) (u : xS) (h : f_X12_open_111 k81 v1 v2 v3 v4 v5 v6 v7 v9 v11 v12 s0 u = some (r, u')) : xG sc mX12_open d 0 0 (xR (some (.int r)) (xL0, u') 0 0) 0 0 111 [some (.ref 135), some (.int v1), some (.int v2), some (.int v3), some (.int v4), some (.int v5), some (.int v6), some (.long v7), none, some (.int v9), none, some (.int v11), some (.int v12)] [.int s0] (xL0, u) := by
  rw [f_X12_open_111] at h
  refine g_istore (pc := 111) dX12_open_111 (Nat.le_of_ble_eq_true rfl) (L' := [some (.ref 135), some (.int v1), some (.int v2), some (.int v3), some (.int v4), some (.int v5), some (.int v6), some (.long v7), none, some (.int v9), some (.int s0), some (.int v11), some (.int v12)]) rfl ?_
  refine g_lload (pc := 113) dX12_open_113 rfl ?_
  refine g_iload (pc := 115) dX12_open_115 rfl ?_
  refine g_i2l (pc := 117) dX12_open_117 rfl ?_
  refine g_ladd (pc := 118) dX12_open_118 rfl ?_
  refine g_lstore (pc := 119) dX12_open_119 (Nat.le_of_ble_eq_true rfl) (Nat.le_of_ble_eq_true rfl) (L' := [some (.ref 135), some (.int v1), some (.int v2), some (.int v3), some (.int v4), some (.int v5), some (.int v6), some (.long (v7 + ((v12).toInt64))), none, some (.int v9), some (.int s0), some (.int v11), some (.int v12)]) rfl ?_
  refine g_iload (pc := 121) dX12_open_121 rfl ?_
  refine g_iload (pc := 123) dX12_open_123 rfl ?_
  refine g_iadd (pc := 125) dX12_open_125 rfl ?_
  refine g_istore (pc := 126) dX12_open_126 (Nat.le_of_ble_eq_true rfl) (L' := [some (.ref 135), some (.int v1), some (.int v2), some (.int v3), some (.int v4), some (.int v5), some (.int v6), some (.long (v7 + ((v12).toInt64))), none, some (.int (v9 + v6)), some (.int s0), some (.int v11), some (.int v12)]) rfl ?_
  refine g_inc (pc := 128) dX12_open_128 (Nat.le_of_ble_eq_true rfl) rfl ic_1 (L' := [some (.ref 135), some (.int v1), some (.int v2), some (.int v3), some (.int v4), some (.int v5), some (.int v6), some (.long (v7 + ((v12).toInt64))), none, some (.int (v9 + v6)), some (.int s0), some (.int (v11 + (1 : Int32))), some (.int v12)]) rfl ?_
  refine g_goto (tgt := 81) (pc := 131) dX12_open_131 (by decide) ?_
  refine g_L (L' := [some (.ref 135), some (.int v1), some (.int v2), some (.int v3), some (.int v4), some (.int v5), some (.int v6), some (.long (v7 + ((v12).toInt64))), none, some (.int (v9 + v6)), some (.int s0), some (.int (v11 + (1 : Int32))), none]) ⟨rfl, ⟨rfl, ⟨rfl, ⟨rfl, ⟨rfl, ⟨rfl, ⟨rfl, ⟨rfl, ⟨rfl, ⟨rfl, ⟨rfl, trivial⟩⟩⟩⟩⟩⟩⟩⟩⟩⟩⟩ ?_
  exact hk81 v1 v2 v3 v4 v5 v6 (v7 + ((v12).toInt64)) (v9 + v6) s0 (v11 + (1 : Int32)) u h
set_option maxRecDepth 100000 in
set_option maxHeartbeats 4000000 in
theorem G_X12_open_110 {sc : Nat × (Nat → Int32)} {d : Nat} (hd : 2 ≤ d) {r : Int32} {u' : xS} {k81 : Int32 → Int32 → Int32 → Int32 → Int32 → Int32 → Int64 → Int32 → Int32 → Int32 → xS → Option (Int32 × xS)} (hk81 : ∀ (v1 : Int32) (v2 : Int32) (v3 : Int32) (v4 : Int32) (v5 : Int32) (v6 : Int32) (v7 : Int64) (v9 : Int32) (v10 : Int32) (v11 : Int32) (u : xS), k81 v1 v2 v3 v4 v5 v6 v7 v9 v10 v11 u = some (r, u') → xG sc mX12_open d 0 0 (xR (some (.int r)) (xL0, u') 0 0) 0 0 81 [some (.ref 135), some (.int v1), some (.int v2), some (.int v3), some (.int v4), some (.int v5), some (.int v6), some (.long v7), none, some (.int v9), some (.int v10), some (.int v11), none] [] (xL0, u)) (v1 : Int32) (v2 : Int32) (v3 : Int32) (v4 : Int32) (v5 : Int32) (v6 : Int32) (v7 : Int64) (v9 : Int32) (v11 : Int32) (v12 : Int32) (u : xS) (h : f_X12_open_110 k81 v1 v2 v3 v4 v5 v6 v7 v9 v11 v12 u = some (r, u')) : xG sc mX12_open d 0 0 (xR (some (.int r)) (xL0, u') 0 0) 0 0 110 [some (.ref 135), some (.int v1), some (.int v2), some (.int v3), some (.int v4), some (.int v5), some (.int v6), some (.long v7), none, some (.int v9), none, some (.int v11), some (.int v12)] [] (xL0, u) := by
  rw [f_X12_open_110] at h
  refine g_iconst (pc := 110) dX12_open_110 ic_0 ?_
  exact G_X12_open_111 hd hk81 v1 v2 v3 v4 v5 v6 v7 v9 v11 v12 (0 : Int32) u h
set_option maxRecDepth 100000 in
set_option maxHeartbeats 4000000 in
theorem G_X12_open_81 {sc : Nat × (Nat → Int32)} {d : Nat} (hd : 2 ≤ d) {r : Int32} {u' : xS} : ∀ (n : Nat) (v1 : Int32) (v2 : Int32) (v3 : Int32) (v4 : Int32) (v5 : Int32) (v6 : Int32) (v7 : Int64) (v9 : Int32) (v10 : Int32) (v11 : Int32) (u : xS), f_X12_open_81 n v1 v2 v3 v4 v5 v6 v7 v9 v10 v11 u = some (r, u') → xG sc mX12_open d 0 0 (xR (some (.int r)) (xL0, u') 0 0) 0 0 81 [some (.ref 135), some (.int v1), some (.int v2), some (.int v3), some (.int v4), some (.int v5), some (.int v6), some (.long v7), none, some (.int v9), some (.int v10), some (.int v11), none] [] (xL0, u) := by
  intro n
  induction n with
  | zero =>
    intro v1 v2 v3 v4 v5 v6 v7 v9 v10 v11 u h
    rw [f_X12_open_81] at h
    cases h
  | succ n ih =>
    intro v1 v2 v3 v4 v5 v6 v7 v9 v10 v11 u h
    rw [f_X12_open_81] at h
    refine g_iload (pc := 81) dX12_open_81 rfl ?_
    refine g_iload (pc := 83) dX12_open_83 rfl ?_
    refine g_icmp_ge (tgt := 134) (pc := 85) dX12_open_85 (by decide) (fun c1 => ?_) (fun c1 => ?_)
    · replace h := (if_pos c1).symm.trans h
      refine g_iload (pc := 134) dX12_open_134 rfl ?_
      refine g_if_eq (tgt := 152) (pc := 136) dX12_open_136 (by decide) (fun c2 => ?_) (fun c2 => ?_)
      · replace h := (if_pos c2).symm.trans h
        refine g_bipush (pc := 152) dX12_open_152 bp_m4 ?_
        cases h
        exact g_iret (pc := 154) dX12_open_154 rfl rfl rfl (Nat.le_refl _) (Nat.le_refl _)
      · replace h := (if_neg c2).symm.trans h
        refine g_lload (pc := 139) dX12_open_139 rfl ?_
        refine g_aload_n (pc := 141) dX12_open_141 rfl ?_
        refine g_gR (pc := 142) dX12_open_142 fR_RX12_28 xc_135 (v := 142) rfl ?_
        refine g_iload_n (pc := 145) dX12_open_145 rfl ?_
        obtain ⟨g3, h⟩ := x_gd h
        refine g_iaload (pc := 146) dX12_open_146 xc_142 (xin_of g3) (v := (rd u 142 v1.toNatClampNeg)) rfl ?_
        refine g_i2l (pc := 147) dX12_open_147 rfl ?_
        refine g_lcmp (pc := 148) dX12_open_148 rfl ?_
        refine g_if_le (tgt := 155) (pc := 149) dX12_open_149 (by decide) (fun c4 => ?_) (fun c4 => ?_)
        · replace h := (if_pos c4).symm.trans h
          refine g_iload (pc := 155) dX12_open_155 rfl ?_
          refine g_istore (pc := 157) dX12_open_157 (Nat.le_of_ble_eq_true rfl) (L' := [some (.ref 135), some (.int v1), some (.int v2), some (.int v3), some (.int v4), some (.int v5), some (.int v6), some (.long v7), none, some (.int v5), some (.int v10), some (.int v11), none]) rfl ?_
          refine g_iconst (pc := 159) dX12_open_159 ic_0 ?_
          refine g_istore (pc := 160) dX12_open_160 (Nat.le_of_ble_eq_true rfl) (L' := [some (.ref 135), some (.int v1), some (.int v2), some (.int v3), some (.int v4), some (.int v5), some (.int v6), some (.long v7), none, some (.int v5), some (.int v10), some (.int (0 : Int32)), none]) rfl ?_
          refine g_L (L' := [some (.ref 135), some (.int v1), some (.int v2), some (.int v3), some (.int v4), none, some (.int v6), none, none, some (.int v5), none, some (.int (0 : Int32)), none]) ⟨rfl, ⟨rfl, ⟨rfl, ⟨rfl, ⟨rfl, ⟨rfl, ⟨rfl, ⟨rfl, trivial⟩⟩⟩⟩⟩⟩⟩⟩ ?_
          exact G_X12_open_162 hd xN v1 v2 v3 v4 v6 v5 (0 : Int32) u h
        · replace h := (if_neg c4).symm.trans h
          refine g_bipush (pc := 152) dX12_open_152 bp_m4 ?_
          cases h
          exact g_iret (pc := 154) dX12_open_154 rfl rfl rfl (Nat.le_refl _) (Nat.le_refl _)
    · replace h := (if_neg c1).symm.trans h
      refine g_iload_n (pc := 88) dX12_open_88 rfl ?_
      refine g_iload (pc := 89) dX12_open_89 rfl ?_
      refine g_cS (pc := 91) dX12_open_91 cS_RX12_211 (M_X12_entry (Nat.le_refl _) rfl) (as := [.int v3, .int v9]) (st := []) rfl rfl (Nat.le_of_ble_eq_true rfl) (Nat.le_trans (Nat.le_of_ble_eq_true rfl) hd) rfl ?_
      refine g_istore (pc := 94) dX12_open_94 (Nat.le_of_ble_eq_true rfl) (L' := [some (.ref 135), some (.int v1), some (.int v2), some (.int v3), some (.int v4), some (.int v5), some (.int v6), some (.long v7), none, some (.int v9), some (.int v10), some (.int v11), some (.int (f_X12_entry v3 v9))]) rfl ?_
      refine g_iload (pc := 96) dX12_open_96 rfl ?_
      refine g_if_eq (tgt := 110) (pc := 98) dX12_open_98 (by decide) (fun c5 => ?_) (fun c5 => ?_)
      · replace h := (if_pos c5).symm.trans h
        refine g_L (L' := [some (.ref 135), some (.int v1), some (.int v2), some (.int v3), some (.int v4), some (.int v5), some (.int v6), some (.long v7), none, some (.int v9), none, some (.int v11), some (.int (f_X12_entry v3 v9))]) ⟨rfl, ⟨rfl, ⟨rfl, ⟨rfl, ⟨rfl, ⟨rfl, ⟨rfl, ⟨rfl, ⟨rfl, ⟨rfl, ⟨rfl, trivial⟩⟩⟩⟩⟩⟩⟩⟩⟩⟩⟩ ?_
        exact G_X12_open_110 hd ih v1 v2 v3 v4 v5 v6 v7 v9 v11 (f_X12_entry v3 v9) u h
      · replace h := (if_neg c5).symm.trans h
        refine g_iload (pc := 101) dX12_open_101 rfl ?_
        refine g_if_lt (tgt := 110) (pc := 103) dX12_open_103 (by decide) (fun c6 => ?_) (fun c6 => ?_)
        · replace h := (if_pos c6).symm.trans h
          refine g_L (L' := [some (.ref 135), some (.int v1), some (.int v2), some (.int v3), some (.int v4), some (.int v5), some (.int v6), some (.long v7), none, some (.int v9), none, some (.int v11), some (.int (f_X12_entry v3 v9))]) ⟨rfl, ⟨rfl, ⟨rfl, ⟨rfl, ⟨rfl, ⟨rfl, ⟨rfl, ⟨rfl, ⟨rfl, ⟨rfl, ⟨rfl, trivial⟩⟩⟩⟩⟩⟩⟩⟩⟩⟩⟩ ?_
          exact G_X12_open_110 hd ih v1 v2 v3 v4 v5 v6 v7 v9 v11 (f_X12_entry v3 v9) u h
        · replace h := (if_neg c6).symm.trans h
          refine g_iconst (pc := 106) dX12_open_106 ic_1 ?_
          refine g_goto (tgt := 111) (pc := 107) dX12_open_107 (by decide) ?_
          refine g_L (L' := [some (.ref 135), some (.int v1), some (.int v2), some (.int v3), some (.int v4), some (.int v5), some (.int v6), some (.long v7), none, some (.int v9), none, some (.int v11), some (.int (f_X12_entry v3 v9))]) ⟨rfl, ⟨rfl, ⟨rfl, ⟨rfl, ⟨rfl, ⟨rfl, ⟨rfl, ⟨rfl, ⟨rfl, ⟨rfl, ⟨rfl, trivial⟩⟩⟩⟩⟩⟩⟩⟩⟩⟩⟩ ?_
          exact G_X12_open_111 hd ih v1 v2 v3 v4 v5 v6 v7 v9 v11 (f_X12_entry v3 v9) (1 : Int32) u h
set_option maxRecDepth 100000 in
set_option maxHeartbeats 4000000 in
theorem G_X12_open_0 {sc : Nat × (Nat → Int32)} {d : Nat} (hd : 2 ≤ d) {r : Int32} {u' : xS} (v1 : Int32) (v2 : Int32) (v3 : Int32) (v4 : Int32) (v5 : Int32) (v6 : Int32) (u : xS) (h : f_X12_open v1 v2 v3 v4 v5 v6 u = some (r, u')) : xG sc mX12_open d 0 0 (xR (some (.int r)) (xL0, u') 0 0) 0 0 0 [some (.ref 135), some (.int v1), some (.int v2), some (.int v3), some (.int v4), some (.int v5), some (.int v6), none, none, none, none, none, none] [] (xL0, u) := by
  rw [f_X12_open] at h
  refine g_aload_n (pc := 0) dX12_open_0 rfl ?_
  refine g_iconst (pc := 1) dX12_open_1 ic_0 ?_
  refine g_pI (pc := 2) dX12_open_2 pI_RX12_150 xc_135 (u' := (wr u 135 0 (0 : Int32))) rfl ?_
  refine g_aload_n (pc := 5) dX12_open_5 rfl ?_
  refine g_iload_n (pc := 6) dX12_open_6 rfl ?_
  refine g_cV (pc := 7) dX12_open_7 cV_RX12_205 (M_X12_isBale (Nat.le_refl _) rfl) xc_135 (as := [.int v1]) (st := []) rfl rfl (Nat.le_of_ble_eq_true rfl) (Nat.le_trans (Nat.le_of_ble_eq_true rfl) hd) rfl ?_
  refine g_if_eq (tgt := 50) (pc := 10) dX12_open_10 (by decide) (fun c1 => ?_) (fun c1 => ?_)
  · replace h := (if_pos c1).symm.trans h
    refine g_iconst (pc := 50) dX12_open_50 ic_m1 ?_
    cases h
    exact g_iret (pc := 51) dX12_open_51 rfl rfl rfl (Nat.le_refl _) (Nat.le_refl _)
  · replace h := (if_neg c1).symm.trans h
    refine g_iload_n (pc := 13) dX12_open_13 rfl ?_
    refine g_cS (pc := 14) dX12_open_14 cS_RX12_208 (M_X12_isSorter (Nat.le_refl _) rfl) (as := [.int v2]) (st := []) rfl rfl (Nat.le_of_ble_eq_true rfl) (Nat.le_trans (Nat.le_of_ble_eq_true rfl) hd) rfl ?_
    refine g_if_eq (tgt := 50) (pc := 17) dX12_open_17 (by decide) (fun c2 => ?_) (fun c2 => ?_)
    · replace h := (if_pos c2).symm.trans h
      refine g_iconst (pc := 50) dX12_open_50 ic_m1 ?_
      cases h
      exact g_iret (pc := 51) dX12_open_51 rfl rfl rfl (Nat.le_refl _) (Nat.le_refl _)
    · replace h := (if_neg c2).symm.trans h
      refine g_iload_n (pc := 20) dX12_open_20 rfl ?_
      refine g_i2l (pc := 21) dX12_open_21 rfl ?_
      refine g_lconst (v := (0 : Int64)) (pc := 22) dX12_open_22 rfl ?_
      refine g_ldc2 (pc := 23) dX12_open_23 kl_RX12_197 ?_
      refine g_cS (pc := 26) dX12_open_26 cS_RX12_156 (M_X12_in (Nat.le_refl _) rfl) (as := [.long ((v3).toInt64), .long (0 : Int64), .long (3 : Int64)]) (st := []) rfl rfl (Nat.le_of_ble_eq_true rfl) (Nat.le_trans (Nat.le_of_ble_eq_true rfl) hd) rfl ?_
      refine g_if_eq (tgt := 50) (pc := 29) dX12_open_29 (by decide) (fun c3 => ?_) (fun c3 => ?_)
      · replace h := (if_pos c3).symm.trans h
        refine g_iconst (pc := 50) dX12_open_50 ic_m1 ?_
        cases h
        exact g_iret (pc := 51) dX12_open_51 rfl rfl rfl (Nat.le_refl _) (Nat.le_refl _)
      · replace h := (if_neg c3).symm.trans h
        refine g_aload_n (pc := 32) dX12_open_32 rfl ?_
        refine g_gR (pc := 33) dX12_open_33 fR_RX12_34 xc_135 (v := 144) rfl ?_
        refine g_iload_n (pc := 36) dX12_open_36 rfl ?_
        obtain ⟨g4, h⟩ := x_gd h
        refine g_iaload (pc := 37) dX12_open_37 xc_144 (xin_of g4) (v := (rd u 144 v1.toNatClampNeg)) rfl ?_
        refine g_if_ge (tgt := 50) (pc := 38) dX12_open_38 (by decide) (fun c5 => ?_) (fun c5 => ?_)
        · replace h := (if_pos c5).symm.trans h
          refine g_iconst (pc := 50) dX12_open_50 ic_m1 ?_
          cases h
          exact g_iret (pc := 51) dX12_open_51 rfl rfl rfl (Nat.le_refl _) (Nat.le_refl _)
        · replace h := (if_neg c5).symm.trans h
          refine g_iload (pc := 41) dX12_open_41 rfl ?_
          refine g_aload_n (pc := 43) dX12_open_43 rfl ?_
          refine g_gI (pc := 44) dX12_open_44 fI_RX12_153 xc_135 (v := (rd u 135 1)) rfl ?_
          refine g_icmp_le (tgt := 52) (pc := 47) dX12_open_47 (by decide) (fun c6 => ?_) (fun c6 => ?_)
          · replace h := (if_pos c6).symm.trans h
            refine g_iload_n (pc := 52) dX12_open_52 rfl ?_
            refine g_iconst (pc := 53) dX12_open_53 ic_3 ?_
            refine g_icmp_ne (tgt := 60) (pc := 54) dX12_open_54 (by decide) (fun c7 => ?_) (fun c7 => ?_)
            · replace h := (if_neg c7).symm.trans h
              refine g_iload (pc := 60) dX12_open_60 rfl ?_
              refine g_if_ge (tgt := 68) (pc := 62) dX12_open_62 (by decide) (fun c8 => ?_) (fun c8 => ?_)
              · replace h := (if_pos c8).symm.trans h
                refine g_lconst (v := (0 : Int64)) (pc := 68) dX12_open_68 rfl ?_
                refine g_lstore (pc := 69) dX12_open_69 (Nat.le_of_ble_eq_true rfl) (Nat.le_of_ble_eq_true rfl) (L' := [some (.ref 135), some (.int v1), some (.int v2), some (.int v3), some (.int v4), some (.int v5), some (.int v6), some (.long (0 : Int64)), none, none, none, none, none]) rfl ?_
                refine g_iload (pc := 71) dX12_open_71 rfl ?_
                refine g_istore (pc := 73) dX12_open_73 (Nat.le_of_ble_eq_true rfl) (L' := [some (.ref 135), some (.int v1), some (.int v2), some (.int v3), some (.int v4), some (.int v5), some (.int v6), some (.long (0 : Int64)), none, some (.int v5), none, none, none]) rfl ?_
                refine g_iconst (pc := 75) dX12_open_75 ic_1 ?_
                refine g_istore (pc := 76) dX12_open_76 (Nat.le_of_ble_eq_true rfl) (L' := [some (.ref 135), some (.int v1), some (.int v2), some (.int v3), some (.int v4), some (.int v5), some (.int v6), some (.long (0 : Int64)), none, some (.int v5), some (.int (1 : Int32)), none, none]) rfl ?_
                refine g_iconst (pc := 78) dX12_open_78 ic_0 ?_
                refine g_istore (pc := 79) dX12_open_79 (Nat.le_of_ble_eq_true rfl) (L' := [some (.ref 135), some (.int v1), some (.int v2), some (.int v3), some (.int v4), some (.int v5), some (.int v6), some (.long (0 : Int64)), none, some (.int v5), some (.int (1 : Int32)), some (.int (0 : Int32)), none]) rfl ?_
                exact G_X12_open_81 hd xN v1 v2 v3 v4 v5 v6 (0 : Int64) v5 (1 : Int32) (0 : Int32) (wr u 135 0 (0 : Int32)) h
              · replace h := (if_neg c8).symm.trans h
                refine g_bipush (pc := 65) dX12_open_65 bp_m2 ?_
                cases h
                exact g_iret (pc := 67) dX12_open_67 rfl rfl rfl (Nat.le_refl _) (Nat.le_refl _)
            · replace h := (if_pos c7).symm.trans h
              refine g_bipush (pc := 57) dX12_open_57 bp_m3 ?_
              cases h
              exact g_iret (pc := 59) dX12_open_59 rfl rfl rfl (Nat.le_refl _) (Nat.le_refl _)
          · replace h := (if_neg c6).symm.trans h
            refine g_iconst (pc := 50) dX12_open_50 ic_m1 ?_
            cases h
            exact g_iret (pc := 51) dX12_open_51 rfl rfl rfl (Nat.le_refl _) (Nat.le_refl _)
set_option maxRecDepth 100000 in
set_option maxHeartbeats 4000000 in
theorem M_X12_open {sc : Nat × (Nat → Int32)} {d : Nat} (hd : 2 ≤ d) {r : Int32} {u u' : xS} {a1 : Int32} {a2 : Int32} {a3 : Int32} {a4 : Int32} {a5 : Int32} {a6 : Int32} (h : f_X12_open a1 a2 a3 a4 a5 a6 u = some (r, u')) : xMt sc mX12_open d 0 0 [.ref 135, .int a1, .int a2, .int a3, .int a4, .int a5, .int a6] (xL0, u) (some (.int r)) (xL0, u') :=
  xMt.of (by decide +kernel) (Nat.le_of_ble_eq_true rfl) (L := [some (.ref 135), some (.int a1), some (.int a2), some (.int a3), some (.int a4), some (.int a5), some (.int a6), none, none, none, none, none, none]) rfl ((G_X12_open_0 hd a1 a2 a3 a4 a5 a6 u h))
set_option maxRecDepth 100000 in
set_option maxHeartbeats 4000000 in
theorem G_X12_pack_190 {sc : Nat × (Nat → Int32)} {d : Nat} (hd : 2 ≤ d) {r : Int32} {u' : xS} (u : xS) (h : f_X12_pack_190 u = some (r, u')) : xG sc mX12_pack d 0 0 (xR (some (.int r)) (xL0, u') 0 0) 0 0 190 [some (.ref 135), none, none, none, none, none] [] (xL0, u) := by
  rw [f_X12_pack_190] at h
  refine g_aload_n (pc := 190) dX12_pack_190 rfl ?_
  refine g_gI (pc := 191) dX12_pack_191 fI_RX12_420 xc_135 (v := (rd u 135 54)) rfl ?_
  refine g_iconst (pc := 194) dX12_pack_194 ic_1 ?_
  refine g_isub (pc := 195) dX12_pack_195 rfl ?_
  cases h
  exact g_iret (pc := 196) dX12_pack_196 rfl rfl rfl (Nat.le_refl _) (Nat.le_refl _)
set_option maxRecDepth 100000 in
set_option maxHeartbeats 4000000 in
theorem G_X12_pack_148 {sc : Nat × (Nat → Int32)} {d : Nat} (hd : 2 ≤ d) {r : Int32} {u' : xS} (v1 : Int32) (v2 : Int32) (v3 : Int32) (v4 : Int32) (s1 : Int32) (s2 : Int32) (u : xS) (h : f_X12_pack_148 v1 v2 v3 v4 s1 s2 u = some (r, u')) : xG sc mX12_pack d 0 0 (xR (some (.int r)) (xL0, u') 0 0) 0 0 148 [some (.ref 135), some (.int v1), some (.int v2), some (.int v3), some (.int v4), none] [.int s2, .int s1, .ref 176] (xL0, u) := by
  rw [f_X12_pack_148] at h
  obtain ⟨g1, h⟩ := x_gd h
  refine g_iastore (pc := 148) dX12_pack_148 xc_176 (xin_of g1) (u' := (wr u 176 s1.toNatClampNeg s2)) rfl ?_
  refine g_aload_n (pc := 149) dX12_pack_149 rfl ?_
  refine g_gR (pc := 150) dX12_pack_150 fR_RX12_138 xc_135 (v := 177) rfl ?_
  refine g_aload_n (pc := 153) dX12_pack_153 rfl ?_
  refine g_gI (pc := 154) dX12_pack_154 fI_RX12_420 xc_135 (v := (rd u 135 54)) rfl ?_
  refine g_iload (pc := 157) dX12_pack_157 rfl ?_
  obtain ⟨g2, h⟩ := x_gd h
  refine g_iastore (pc := 159) dX12_pack_159 xc_177 (xin_of g2) (u' := (wr (wr u 176 s1.toNatClampNeg s2) 177 (rd u 135 54).toNatClampNeg v4)) rfl ?_
  refine g_aload_n (pc := 160) dX12_pack_160 rfl ?_
  refine g_dup (pc := 161) dX12_pack_161 rfl ?_
  refine g_gI (pc := 162) dX12_pack_162 fI_RX12_420 xc_135 (v := (rd u 135 54)) rfl ?_
  refine g_iconst (pc := 165) dX12_pack_165 ic_1 ?_
  refine g_iadd (pc := 166) dX12_pack_166 rfl ?_
  refine g_pI (pc := 167) dX12_pack_167 pI_RX12_420 xc_135 (u' := (wr (wr (wr u 176 s1.toNatClampNeg s2) 177 (rd u 135 54).toNatClampNeg v4) 135 54 ((rd u 135 54) + (1 : Int32)))) rfl ?_
  refine g_aload_n (pc := 170) dX12_pack_170 rfl ?_
  refine g_iload_n (pc := 171) dX12_pack_171 rfl ?_
  refine g_iload_n (pc := 172) dX12_pack_172 rfl ?_
  refine g_iconst (pc := 173) dX12_pack_173 ic_m1 ?_
  obtain ⟨u4, e3, h⟩ := x_bind h
  refine g_cV (pc := 174) dX12_pack_174 cV_RX12_343 (M_X12_takesOf (Nat.le_refl _) e3) xc_135 (as := [.int v1, .int v2, .int (-1 : Int32)]) (st := []) rfl rfl (Nat.le_of_ble_eq_true rfl) (Nat.le_trans (Nat.le_of_ble_eq_true rfl) hd) rfl ?_
  refine g_iload (pc := 177) dX12_pack_177 rfl ?_
  refine g_if_le (tgt := 190) (pc := 179) dX12_pack_179 (by decide) (fun c5 => ?_) (fun c5 => ?_)
  · replace h := (if_pos c5).symm.trans h
    refine g_L (L' := [some (.ref 135), none, none, none, none, none]) ⟨rfl, trivial⟩ ?_
    exact G_X12_pack_190 hd u4 h
  · replace h := (if_neg c5).symm.trans h
    refine g_aload_n (pc := 182) dX12_pack_182 rfl ?_
    refine g_iload_n (pc := 183) dX12_pack_183 rfl ?_
    refine g_iload (pc := 184) dX12_pack_184 rfl ?_
    refine g_iconst (pc := 186) dX12_pack_186 ic_m1 ?_
    obtain ⟨u7, e6, h⟩ := x_bind h
    refine g_cV (pc := 187) dX12_pack_187 cV_RX12_343 (M_X12_takesOf (Nat.le_refl _) e6) xc_135 (as := [.int v3, .int v4, .int (-1 : Int32)]) (st := []) rfl rfl (Nat.le_of_ble_eq_true rfl) (Nat.le_trans (Nat.le_of_ble_eq_true rfl) hd) rfl ?_
    refine g_L (L' := [some (.ref 135), none, none, none, none, none]) ⟨rfl, trivial⟩ ?_
    exact G_X12_pack_190 hd u7 h
set_option maxRecDepth 100000 in
set_option maxHeartbeats 4000000 in
theorem G_X12_pack_101 {sc : Nat × (Nat → Int32)} {d : Nat} (hd : 2 ≤ d) {r : Int32} {u' : xS} (v1 : Int32) (v2 : Int32) (v3 : Int32) (v4 : Int32) (s0 : Int32) (u : xS) (h : f_X12_pack_101 v1 v2 v3 v4 s0 u = some (r, u')) : xG sc mX12_pack d 0 0 (xR (some (.int r)) (xL0, u') 0 0) 0 0 101 [some (.ref 135), some (.int v1), some (.int v2), some (.int v3), some (.int v4), none] [.int s0] (xL0, u) := by
  rw [f_X12_pack_101] at h
  refine g_istore (pc := 101) dX12_pack_101 (Nat.le_of_ble_eq_true rfl) (L' := [some (.ref 135), some (.int v1), some (.int v2), some (.int v3), some (.int v4), some (.int s0)]) rfl ?_
  refine g_iload (pc := 103) dX12_pack_103 rfl ?_
  refine g_if_ne (tgt := 110) (pc := 105) dX12_pack_105 (by decide) (fun c1 => ?_) (fun c1 => ?_)
  · replace h := (if_neg c1).symm.trans h
    refine g_aload_n (pc := 110) dX12_pack_110 rfl ?_
    refine g_gR (pc := 111) dX12_pack_111 fR_RX12_129 xc_135 (v := 174) rfl ?_
    refine g_aload_n (pc := 114) dX12_pack_114 rfl ?_
    refine g_gI (pc := 115) dX12_pack_115 fI_RX12_420 xc_135 (v := (rd u 135 54)) rfl ?_
    refine g_iload_n (pc := 118) dX12_pack_118 rfl ?_
    obtain ⟨g2, h⟩ := x_gd h
    refine g_iastore (pc := 119) dX12_pack_119 xc_174 (xin_of g2) (u' := (wr u 174 (rd u 135 54).toNatClampNeg v1)) rfl ?_
    refine g_aload_n (pc := 120) dX12_pack_120 rfl ?_
    refine g_gR (pc := 121) dX12_pack_121 fR_RX12_132 xc_135 (v := 175) rfl ?_
    refine g_aload_n (pc := 124) dX12_pack_124 rfl ?_
    refine g_gI (pc := 125) dX12_pack_125 fI_RX12_420 xc_135 (v := (rd u 135 54)) rfl ?_
    refine g_iload_n (pc := 128) dX12_pack_128 rfl ?_
    refine g_iastore (pc := 129) dX12_pack_129 xc_175 (xin_of g2) (u' := (wr (wr u 174 (rd u 135 54).toNatClampNeg v1) 175 (rd u 135 54).toNatClampNeg v2)) rfl ?_
    refine g_aload_n (pc := 130) dX12_pack_130 rfl ?_
    refine g_gR (pc := 131) dX12_pack_131 fR_RX12_135 xc_135 (v := 176) rfl ?_
    refine g_aload_n (pc := 134) dX12_pack_134 rfl ?_
    refine g_gI (pc := 135) dX12_pack_135 fI_RX12_420 xc_135 (v := (rd u 135 54)) rfl ?_
    refine g_iload (pc := 138) dX12_pack_138 rfl ?_
    refine g_if_ne (tgt := 147) (pc := 140) dX12_pack_140 (by decide) (fun c3 => ?_) (fun c3 => ?_)
    · replace h := (if_neg c3).symm.trans h
      refine g_iload_n (pc := 147) dX12_pack_147 rfl ?_
      refine g_L (L' := [some (.ref 135), some (.int v1), some (.int v2), some (.int v3), some (.int v4), none]) ⟨rfl, ⟨rfl, ⟨rfl, ⟨rfl, ⟨rfl, trivial⟩⟩⟩⟩⟩ ?_
      exact G_X12_pack_148 hd v1 v2 v3 v4 (rd u 135 54) v3 (wr (wr u 174 (rd u 135 54).toNatClampNeg v1) 175 (rd u 135 54).toNatClampNeg v2) h
    · replace h := (if_pos c3).symm.trans h
      refine g_iload_n (pc := 143) dX12_pack_143 rfl ?_
      refine g_goto (tgt := 148) (pc := 144) dX12_pack_144 (by decide) ?_
      refine g_L (L' := [some (.ref 135), some (.int v1), some (.int v2), some (.int v3), some (.int v4), none]) ⟨rfl, ⟨rfl, ⟨rfl, ⟨rfl, ⟨rfl, trivial⟩⟩⟩⟩⟩ ?_
      exact G_X12_pack_148 hd v1 v2 v3 v4 (rd u 135 54) v1 (wr (wr u 174 (rd u 135 54).toNatClampNeg v1) 175 (rd u 135 54).toNatClampNeg v2) h
  · replace h := (if_pos c1).symm.trans h
    refine g_iconst (pc := 108) dX12_pack_108 ic_m1 ?_
    cases h
    exact g_iret (pc := 109) dX12_pack_109 rfl rfl rfl (Nat.le_refl _) (Nat.le_refl _)
set_option maxRecDepth 100000 in
set_option maxHeartbeats 4000000 in
theorem G_X12_pack_100 {sc : Nat × (Nat → Int32)} {d : Nat} (hd : 2 ≤ d) {r : Int32} {u' : xS} (v1 : Int32) (v2 : Int32) (v3 : Int32) (v4 : Int32) (u : xS) (h : f_X12_pack_100 v1 v2 v3 v4 u = some (r, u')) : xG sc mX12_pack d 0 0 (xR (some (.int r)) (xL0, u') 0 0) 0 0 100 [some (.ref 135), some (.int v1), some (.int v2), some (.int v3), some (.int v4), none] [] (xL0, u) := by
  rw [f_X12_pack_100] at h
  refine g_iconst (pc := 100) dX12_pack_100 ic_0 ?_
  exact G_X12_pack_101 hd v1 v2 v3 v4 (0 : Int32) u h
set_option maxRecDepth 100000 in
set_option maxHeartbeats 4000000 in
theorem G_X12_pack_96 {sc : Nat × (Nat → Int32)} {d : Nat} (hd : 2 ≤ d) {r : Int32} {u' : xS} (v1 : Int32) (v2 : Int32) (v3 : Int32) (v4 : Int32) (u : xS) (h : f_X12_pack_96 v1 v2 v3 v4 u = some (r, u')) : xG sc mX12_pack d 0 0 (xR (some (.int r)) (xL0, u') 0 0) 0 0 96 [some (.ref 135), some (.int v1), some (.int v2), some (.int v3), some (.int v4), none] [] (xL0, u) := by
  rw [f_X12_pack_96] at h
  refine g_iconst (pc := 96) dX12_pack_96 ic_1 ?_
  refine g_goto (tgt := 101) (pc := 97) dX12_pack_97 (by decide) ?_
  exact G_X12_pack_101 hd v1 v2 v3 v4 (1 : Int32) u h
set_option maxRecDepth 100000 in
set_option maxHeartbeats 4000000 in
theorem G_X12_pack_61 {sc : Nat × (Nat → Int32)} {d : Nat} (hd : 2 ≤ d) {r : Int32} {u' : xS} (v1 : Int32) (v2 : Int32) (v3 : Int32) (v4 : Int32) (s0 : Int32) (u : xS) (h : f_X12_pack_61 v1 v2 v3 v4 s0 u = some (r, u')) : xG sc mX12_pack d 0 0 (xR (some (.int r)) (xL0, u') 0 0) 0 0 61 [some (.ref 135), some (.int v1), some (.int v2), some (.int v3), some (.int v4), none] [.int s0] (xL0, u) := by
  rw [f_X12_pack_61] at h
  refine g_istore (pc := 61) dX12_pack_61 (Nat.le_of_ble_eq_true rfl) (L' := [some (.ref 135), some (.int v1), some (.int v2), some (.int v3), some (.int v4), some (.int s0)]) rfl ?_
  refine g_iload (pc := 63) dX12_pack_63 rfl ?_
  refine g_if_eq (tgt := 100) (pc := 65) dX12_pack_65 (by decide) (fun c1 => ?_) (fun c1 => ?_)
  · replace h := (if_pos c1).symm.trans h
    refine g_L (L' := [some (.ref 135), some (.int v1), some (.int v2), some (.int v3), some (.int v4), none]) ⟨rfl, ⟨rfl, ⟨rfl, ⟨rfl, ⟨rfl, trivial⟩⟩⟩⟩⟩ ?_
    exact G_X12_pack_100 hd v1 v2 v3 v4 u h
  · replace h := (if_neg c1).symm.trans h
    refine g_iload (pc := 68) dX12_pack_68 rfl ?_
    refine g_if_eq (tgt := 96) (pc := 70) dX12_pack_70 (by decide) (fun c2 => ?_) (fun c2 => ?_)
    · replace h := (if_pos c2).symm.trans h
      refine g_L (L' := [some (.ref 135), some (.int v1), some (.int v2), some (.int v3), some (.int v4), none]) ⟨rfl, ⟨rfl, ⟨rfl, ⟨rfl, ⟨rfl, trivial⟩⟩⟩⟩⟩ ?_
      exact G_X12_pack_96 hd v1 v2 v3 v4 u h
    · replace h := (if_neg c2).symm.trans h
      refine g_aload_n (pc := 73) dX12_pack_73 rfl ?_
      refine g_iload_n (pc := 74) dX12_pack_74 rfl ?_
      refine g_cV (pc := 75) dX12_pack_75 cV_RX12_166 (M_X12_isSort (Nat.le_refl _) rfl) xc_135 (as := [.int v3]) (st := []) rfl rfl (Nat.le_of_ble_eq_true rfl) (Nat.le_trans (Nat.le_of_ble_eq_true rfl) hd) rfl ?_
      refine g_if_eq (tgt := 100) (pc := 78) dX12_pack_78 (by decide) (fun c3 => ?_) (fun c3 => ?_)
      · replace h := (if_pos c3).symm.trans h
        refine g_L (L' := [some (.ref 135), some (.int v1), some (.int v2), some (.int v3), some (.int v4), none]) ⟨rfl, ⟨rfl, ⟨rfl, ⟨rfl, ⟨rfl, trivial⟩⟩⟩⟩⟩ ?_
        exact G_X12_pack_100 hd v1 v2 v3 v4 u h
      · replace h := (if_neg c3).symm.trans h
        refine g_iload_n (pc := 81) dX12_pack_81 rfl ?_
        refine g_iload_n (pc := 82) dX12_pack_82 rfl ?_
        refine g_icmp_eq (tgt := 100) (pc := 83) dX12_pack_83 (by decide) (fun c4 => ?_) (fun c4 => ?_)
        · replace h := (if_pos c4).symm.trans h
          refine g_L (L' := [some (.ref 135), some (.int v1), some (.int v2), some (.int v3), some (.int v4), none]) ⟨rfl, ⟨rfl, ⟨rfl, ⟨rfl, ⟨rfl, trivial⟩⟩⟩⟩⟩ ?_
          exact G_X12_pack_100 hd v1 v2 v3 v4 u h
        · replace h := (if_neg c4).symm.trans h
          refine g_aload_n (pc := 86) dX12_pack_86 rfl ?_
          refine g_iload_n (pc := 87) dX12_pack_87 rfl ?_
          obtain ⟨x6, e5, h⟩ := x_bind h
          refine g_cV (pc := 88) dX12_pack_88 cV_RX12_340 (M_X12_stored (Nat.le_refl _) e5) xc_135 (as := [.int v3]) (st := []) rfl rfl (Nat.le_of_ble_eq_true rfl) (Nat.le_trans (Nat.le_of_ble_eq_true rfl) hd) rfl ?_
          refine g_iload (pc := 91) dX12_pack_91 rfl ?_
          refine g_icmp_lt (tgt := 100) (pc := 93) dX12_pack_93 (by decide) (fun c7 => ?_) (fun c7 => ?_)
          · replace h := (if_pos c7).symm.trans h
            refine g_L (L' := [some (.ref 135), some (.int v1), some (.int v2), some (.int v3), some (.int v4), none]) ⟨rfl, ⟨rfl, ⟨rfl, ⟨rfl, ⟨rfl, trivial⟩⟩⟩⟩⟩ ?_
            exact G_X12_pack_100 hd v1 v2 v3 v4 u h
          · replace h := (if_neg c7).symm.trans h
            refine g_L (L' := [some (.ref 135), some (.int v1), some (.int v2), some (.int v3), some (.int v4), none]) ⟨rfl, ⟨rfl, ⟨rfl, ⟨rfl, ⟨rfl, trivial⟩⟩⟩⟩⟩ ?_
            exact G_X12_pack_96 hd v1 v2 v3 v4 u h
set_option maxRecDepth 100000 in
set_option maxHeartbeats 4000000 in
theorem G_X12_pack_60 {sc : Nat × (Nat → Int32)} {d : Nat} (hd : 2 ≤ d) {r : Int32} {u' : xS} (v1 : Int32) (v2 : Int32) (v3 : Int32) (v4 : Int32) (u : xS) (h : f_X12_pack_60 v1 v2 v3 v4 u = some (r, u')) : xG sc mX12_pack d 0 0 (xR (some (.int r)) (xL0, u') 0 0) 0 0 60 [some (.ref 135), some (.int v1), some (.int v2), some (.int v3), some (.int v4), none] [] (xL0, u) := by
  rw [f_X12_pack_60] at h
  refine g_iconst (pc := 60) dX12_pack_60 ic_0 ?_
  exact G_X12_pack_61 hd v1 v2 v3 v4 (0 : Int32) u h
set_option maxRecDepth 100000 in
set_option maxHeartbeats 4000000 in
theorem G_X12_pack_0 {sc : Nat × (Nat → Int32)} {d : Nat} (hd : 2 ≤ d) {r : Int32} {u' : xS} (v1 : Int32) (v2 : Int32) (v3 : Int32) (v4 : Int32) (u : xS) (h : f_X12_pack v1 v2 v3 v4 u = some (r, u')) : xG sc mX12_pack d 0 0 (xR (some (.int r)) (xL0, u') 0 0) 0 0 0 [some (.ref 135), some (.int v1), some (.int v2), some (.int v3), some (.int v4), none] [] (xL0, u) := by
  rw [f_X12_pack] at h
  refine g_aload_n (pc := 0) dX12_pack_0 rfl ?_
  refine g_iconst (pc := 1) dX12_pack_1 ic_0 ?_
  refine g_pI (pc := 2) dX12_pack_2 pI_RX12_150 xc_135 (u' := (wr u 135 0 (0 : Int32))) rfl ?_
  refine g_aload_n (pc := 5) dX12_pack_5 rfl ?_
  refine g_iload_n (pc := 6) dX12_pack_6 rfl ?_
  refine g_cV (pc := 7) dX12_pack_7 cV_RX12_166 (M_X12_isSort (Nat.le_refl _) rfl) xc_135 (as := [.int v1]) (st := []) rfl rfl (Nat.le_of_ble_eq_true rfl) (Nat.le_trans (Nat.le_of_ble_eq_true rfl) hd) rfl ?_
  refine g_if_eq (tgt := 60) (pc := 10) dX12_pack_10 (by decide) (fun c1 => ?_) (fun c1 => ?_)
  · replace h := (if_pos c1).symm.trans h
    exact G_X12_pack_60 hd v1 v2 v3 v4 (wr u 135 0 (0 : Int32)) h
  · replace h := (if_neg c1).symm.trans h
    refine g_iload_n (pc := 13) dX12_pack_13 rfl ?_
    refine g_i2l (pc := 14) dX12_pack_14 rfl ?_
    refine g_lconst (v := (1 : Int64)) (pc := 15) dX12_pack_15 rfl ?_
    refine g_ldc2 (pc := 16) dX12_pack_16 kl_RX12_201 ?_
    refine g_cS (pc := 19) dX12_pack_19 cS_RX12_156 (M_X12_in (Nat.le_refl _) rfl) (as := [.long ((v2).toInt64), .long (1 : Int64), .long (9999 : Int64)]) (st := []) rfl rfl (Nat.le_of_ble_eq_true rfl) (Nat.le_trans (Nat.le_of_ble_eq_true rfl) hd) rfl ?_
    refine g_if_eq (tgt := 60) (pc := 22) dX12_pack_22 (by decide) (fun c2 => ?_) (fun c2 => ?_)
    · replace h := (if_pos c2).symm.trans h
      exact G_X12_pack_60 hd v1 v2 v3 v4 (wr u 135 0 (0 : Int32)) h
    · replace h := (if_neg c2).symm.trans h
      refine g_iload (pc := 25) dX12_pack_25 rfl ?_
      refine g_i2l (pc := 27) dX12_pack_27 rfl ?_
      refine g_lconst (v := (0 : Int64)) (pc := 28) dX12_pack_28 rfl ?_
      refine g_ldc2 (pc := 29) dX12_pack_29 kl_RX12_201 ?_
      refine g_cS (pc := 32) dX12_pack_32 cS_RX12_156 (M_X12_in (Nat.le_refl _) rfl) (as := [.long ((v4).toInt64), .long (0 : Int64), .long (9999 : Int64)]) (st := []) rfl rfl (Nat.le_of_ble_eq_true rfl) (Nat.le_trans (Nat.le_of_ble_eq_true rfl) hd) rfl ?_
      refine g_if_eq (tgt := 60) (pc := 35) dX12_pack_35 (by decide) (fun c3 => ?_) (fun c3 => ?_)
      · replace h := (if_pos c3).symm.trans h
        exact G_X12_pack_60 hd v1 v2 v3 v4 (wr u 135 0 (0 : Int32)) h
      · replace h := (if_neg c3).symm.trans h
        refine g_aload_n (pc := 38) dX12_pack_38 rfl ?_
        refine g_iload_n (pc := 39) dX12_pack_39 rfl ?_
        obtain ⟨x5, e4, h⟩ := x_bind h
        refine g_cV (pc := 40) dX12_pack_40 cV_RX12_340 (M_X12_stored (Nat.le_refl _) e4) xc_135 (as := [.int v1]) (st := []) rfl rfl (Nat.le_of_ble_eq_true rfl) (Nat.le_trans (Nat.le_of_ble_eq_true rfl) hd) rfl ?_
        refine g_iload_n (pc := 43) dX12_pack_43 rfl ?_
        refine g_icmp_lt (tgt := 60) (pc := 44) dX12_pack_44 (by decide) (fun c6 => ?_) (fun c6 => ?_)
        · replace h := (if_pos c6).symm.trans h
          exact G_X12_pack_60 hd v1 v2 v3 v4 (wr u 135 0 (0 : Int32)) h
        · replace h := (if_neg c6).symm.trans h
          refine g_aload_n (pc := 47) dX12_pack_47 rfl ?_
          refine g_gI (pc := 48) dX12_pack_48 fI_RX12_420 xc_135 (v := (rd u 135 54)) rfl ?_
          refine g_bipush (pc := 51) dX12_pack_51 bp_8 ?_
          refine g_icmp_ge (tgt := 60) (pc := 53) dX12_pack_53 (by decide) (fun c7 => ?_) (fun c7 => ?_)
          · replace h := (if_pos c7).symm.trans h
            exact G_X12_pack_60 hd v1 v2 v3 v4 (wr u 135 0 (0 : Int32)) h
          · replace h := (if_neg c7).symm.trans h
            refine g_iconst (pc := 56) dX12_pack_56 ic_1 ?_
            refine g_goto (tgt := 61) (pc := 57) dX12_pack_57 (by decide) ?_
            exact G_X12_pack_61 hd v1 v2 v3 v4 (1 : Int32) (wr u 135 0 (0 : Int32)) h
set_option maxRecDepth 100000 in
set_option maxHeartbeats 4000000 in
theorem M_X12_pack {sc : Nat × (Nat → Int32)} {d : Nat} (hd : 2 ≤ d) {r : Int32} {u u' : xS} {a1 : Int32} {a2 : Int32} {a3 : Int32} {a4 : Int32} (h : f_X12_pack a1 a2 a3 a4 u = some (r, u')) : xMt sc mX12_pack d 0 0 [.ref 135, .int a1, .int a2, .int a3, .int a4] (xL0, u) (some (.int r)) (xL0, u') :=
  xMt.of (by decide +kernel) (Nat.le_of_ble_eq_true rfl) (L := [some (.ref 135), some (.int a1), some (.int a2), some (.int a3), some (.int a4), none]) rfl ((G_X12_pack_0 hd a1 a2 a3 a4 u h))
set_option maxRecDepth 100000 in
set_option maxHeartbeats 4000000 in
theorem G_X12_part_0 {sc : Nat × (Nat → Int32)} {d : Nat} (hd : 2 ≤ d) {r : Int32} {u' : xS} (v1 : Int32) (v2 : Int32) (u : xS) (h : f_X12_part v1 v2 u = some (r, u')) : xG sc mX12_part d 0 0 (xR (some (.int r)) (xL0, u') 0 0) 0 0 0 [some (.ref 135), some (.int v1), some (.int v2)] [] (xL0, u) := by
  rw [f_X12_part] at h
  refine g_aload_n (pc := 0) dX12_part_0 rfl ?_
  refine g_iconst (pc := 1) dX12_part_1 ic_0 ?_
  refine g_pI (pc := 2) dX12_part_2 pI_RX12_150 xc_135 (u' := (wr u 135 0 (0 : Int32))) rfl ?_
  refine g_aload_n (pc := 5) dX12_part_5 rfl ?_
  refine g_iload_n (pc := 6) dX12_part_6 rfl ?_
  refine g_cV (pc := 7) dX12_part_7 cV_RX12_166 (M_X12_isSort (Nat.le_refl _) rfl) xc_135 (as := [.int v1]) (st := []) rfl rfl (Nat.le_of_ble_eq_true rfl) (Nat.le_trans (Nat.le_of_ble_eq_true rfl) hd) rfl ?_
  refine g_if_eq (tgt := 25) (pc := 10) dX12_part_10 (by decide) (fun c1 => ?_) (fun c1 => ?_)
  · replace h := (if_pos c1).symm.trans h
    refine g_iconst (pc := 25) dX12_part_25 ic_m1 ?_
    cases h
    exact g_iret (pc := 26) dX12_part_26 rfl rfl rfl (Nat.le_refl _) (Nat.le_refl _)
  · replace h := (if_neg c1).symm.trans h
    refine g_iload_n (pc := 13) dX12_part_13 rfl ?_
    refine g_i2l (pc := 14) dX12_part_14 rfl ?_
    refine g_lconst (v := (0 : Int64)) (pc := 15) dX12_part_15 rfl ?_
    refine g_ldc2 (pc := 16) dX12_part_16 kl_RX12_354 ?_
    refine g_cS (pc := 19) dX12_part_19 cS_RX12_156 (M_X12_in (Nat.le_refl _) rfl) (as := [.long ((v2).toInt64), .long (0 : Int64), .long (12 : Int64)]) (st := []) rfl rfl (Nat.le_of_ble_eq_true rfl) (Nat.le_trans (Nat.le_of_ble_eq_true rfl) hd) rfl ?_
    refine g_if_ne (tgt := 27) (pc := 22) dX12_part_22 (by decide) (fun c2 => ?_) (fun c2 => ?_)
    · replace h := (if_neg c2).symm.trans h
      refine g_aload_n (pc := 27) dX12_part_27 rfl ?_
      refine g_gR (pc := 28) dX12_part_28 fR_RX12_87 xc_135 (v := 160) rfl ?_
      refine g_iload_n (pc := 31) dX12_part_31 rfl ?_
      refine g_iload_n (pc := 32) dX12_part_32 rfl ?_
      obtain ⟨g3, h⟩ := x_gd h
      refine g_iastore (pc := 33) dX12_part_33 xc_160 (xin_of g3) (u' := (wr (wr u 135 0 (0 : Int32)) 160 v1.toNatClampNeg v2)) rfl ?_
      refine g_aload_n (pc := 34) dX12_part_34 rfl ?_
      obtain ⟨x5, e4, h⟩ := x_bind h
      refine g_cV (pc := 35) dX12_part_35 cV_RX12_356 (M_X12_partsInAll (Nat.le_refl _) e4) xc_135 (as := []) (st := []) rfl rfl (Nat.le_of_ble_eq_true rfl) (Nat.le_trans (Nat.le_of_ble_eq_true rfl) hd) rfl ?_
      cases h
      exact g_iret (pc := 38) dX12_part_38 rfl rfl rfl (Nat.le_refl _) (Nat.le_refl _)
    · replace h := (if_pos c2).symm.trans h
      refine g_iconst (pc := 25) dX12_part_25 ic_m1 ?_
      cases h
      exact g_iret (pc := 26) dX12_part_26 rfl rfl rfl (Nat.le_refl _) (Nat.le_refl _)
set_option maxRecDepth 100000 in
set_option maxHeartbeats 4000000 in
theorem M_X12_part {sc : Nat × (Nat → Int32)} {d : Nat} (hd : 2 ≤ d) {r : Int32} {u u' : xS} {a1 : Int32} {a2 : Int32} (h : f_X12_part a1 a2 u = some (r, u')) : xMt sc mX12_part d 0 0 [.ref 135, .int a1, .int a2] (xL0, u) (some (.int r)) (xL0, u') :=
  xMt.of (by decide +kernel) (Nat.le_of_ble_eq_true rfl) (L := [some (.ref 135), some (.int a1), some (.int a2)]) rfl ((G_X12_part_0 hd a1 a2 u h))
set_option maxRecDepth 100000 in
set_option maxHeartbeats 4000000 in
theorem G_X12_pay_132 {sc : Nat × (Nat → Int32)} {d : Nat} (hd : 5 ≤ d) {r : Int32} {u' : xS} (s1 : Int32) (s2 : Int32) (u : xS) (h : f_X12_pay_132 s1 s2 u = some (r, u')) : xG sc mX12_pay d 0 0 (xR (some (.int r)) (xL0, u') 0 0) 0 0 132 [some (.ref 135), none, none, none, none, none] [.int s2, .int s1, .ref 135] (xL0, u) := by
  rw [f_X12_pay_132] at h
  obtain ⟨u2, e1, h⟩ := x_bind h
  refine g_cV (pc := 132) dX12_pay_132 cV_RX12_243 (M_X12_says (Nat.le_refl _) e1) xc_135 (as := [.int s1, .int s2]) (st := []) rfl rfl (Nat.le_of_ble_eq_true rfl) (Nat.le_trans (Nat.le_of_ble_eq_true rfl) hd) rfl ?_
  refine g_aload_n (pc := 135) dX12_pay_135 rfl ?_
  refine g_bipush (pc := 136) dX12_pay_136 bp_10 ?_
  obtain ⟨⟨x4, u5⟩, e3, h⟩ := x_bind h
  dsimp only at h
  refine g_cV (pc := 138) dX12_pay_138 cV_RX12_247 (M_X12_value (Nat.le_refl _) e3) xc_135 (as := [.int (10 : Int32)]) (st := []) rfl rfl (Nat.le_of_ble_eq_true rfl) (Nat.le_trans (Nat.le_of_ble_eq_true rfl) hd) rfl ?_
  cases h
  exact g_iret (pc := 141) dX12_pay_141 rfl rfl rfl (Nat.le_refl _) (Nat.le_refl _)
set_option maxRecDepth 100000 in
set_option maxHeartbeats 4000000 in
theorem G_X12_pay_77 {sc : Nat × (Nat → Int32)} {d : Nat} (hd : 5 ≤ d) {r : Int32} {u' : xS} {k36 : Int32 → Int32 → Int32 → Int32 → Int32 → xS → Option (Int32 × xS)} (hk36 : ∀ (v1 : Int32) (v2 : Int32) (v3 : Int32) (v4 : Int32) (v5 : Int32) (u : xS), k36 v1 v2 v3 v4 v5 u = some (r, u') → xG sc mX12_pay d 0 0 (xR (some (.int r)) (xL0, u') 0 0) 0 0 36 [some (.ref 135), some (.int v1), some (.int v2), some (.int v3), some (.int v4), some (.int v5)] [] (xL0, u)) (v1 : Int32) (v2 : Int32) (v3 : Int32) (v4 : Int32) (v5 : Int32) (u : xS) (h : f_X12_pay_77 k36 v1 v2 v3 v4 v5 u = some (r, u')) : xG sc mX12_pay d 0 0 (xR (some (.int r)) (xL0, u') 0 0) 0 0 77 [some (.ref 135), some (.int v1), some (.int v2), some (.int v3), some (.int v4), some (.int v5)] [] (xL0, u) := by
  rw [f_X12_pay_77] at h
  refine g_inc (pc := 77) dX12_pay_77 (Nat.le_of_ble_eq_true rfl) rfl ic_1 (L' := [some (.ref 135), some (.int v1), some (.int v2), some (.int v3), some (.int v4), some (.int (v5 + (1 : Int32)))]) rfl ?_
  refine g_goto (tgt := 36) (pc := 80) dX12_pay_80 (by decide) ?_
  exact hk36 v1 v2 v3 v4 (v5 + (1 : Int32)) u h
set_option maxRecDepth 100000 in
set_option maxHeartbeats 4000000 in
theorem G_X12_pay_36 {sc : Nat × (Nat → Int32)} {d : Nat} (hd : 5 ≤ d) {r : Int32} {u' : xS} : ∀ (n : Nat) (v1 : Int32) (v2 : Int32) (v3 : Int32) (v4 : Int32) (v5 : Int32) (u : xS), f_X12_pay_36 n v1 v2 v3 v4 v5 u = some (r, u') → xG sc mX12_pay d 0 0 (xR (some (.int r)) (xL0, u') 0 0) 0 0 36 [some (.ref 135), some (.int v1), some (.int v2), some (.int v3), some (.int v4), some (.int v5)] [] (xL0, u) := by
  intro n
  induction n with
  | zero =>
    intro v1 v2 v3 v4 v5 u h
    rw [f_X12_pay_36] at h
    cases h
  | succ n ih =>
    intro v1 v2 v3 v4 v5 u h
    rw [f_X12_pay_36] at h
    refine g_iload (pc := 36) dX12_pay_36 rfl ?_
    refine g_aload_n (pc := 38) dX12_pay_38 rfl ?_
    refine g_gI (pc := 39) dX12_pay_39 fI_RX12_194 xc_135 (v := (rd u 135 7)) rfl ?_
    refine g_icmp_ge (tgt := 83) (pc := 42) dX12_pay_42 (by decide) (fun c1 => ?_) (fun c1 => ?_)
    · replace h := (if_pos c1).symm.trans h
      refine g_aload_n (pc := 83) dX12_pay_83 rfl ?_
      refine g_iload_n (pc := 84) dX12_pay_84 rfl ?_
      obtain ⟨x3, e2, h⟩ := x_bind h
      refine g_cV (pc := 85) dX12_pay_85 cV_RX12_337 (M_X12_eyeOf (Nat.le_refl _) e2) xc_135 (as := [.int v1]) (st := []) rfl rfl (Nat.le_of_ble_eq_true rfl) (Nat.le_trans (Nat.le_of_ble_eq_true rfl) hd) rfl ?_
      refine g_istore (pc := 88) dX12_pay_88 (Nat.le_of_ble_eq_true rfl) (L' := [some (.ref 135), some (.int v1), some (.int v2), some (.int v3), some (.int v4), some (.int x3)]) rfl ?_
      refine g_aload_n (pc := 90) dX12_pay_90 rfl ?_
      obtain ⟨u5, e4, h⟩ := x_bind h
      refine g_cV (pc := 91) dX12_pay_91 cV_RX12_235 (M_X12_hush (Nat.le_refl _) e4) xc_135 (as := []) (st := []) rfl rfl (Nat.le_of_ble_eq_true rfl) (Nat.le_trans (Nat.le_of_ble_eq_true rfl) hd) rfl ?_
      refine g_aload_n (pc := 94) dX12_pay_94 rfl ?_
      refine g_bipush (pc := 95) dX12_pay_95 bp_112 ?_
      refine g_iload_n (pc := 97) dX12_pay_97 rfl ?_
      obtain ⟨u7, e6, h⟩ := x_bind h
      refine g_cV (pc := 98) dX12_pay_98 cV_RX12_243 (M_X12_says (Nat.le_refl _) e6) xc_135 (as := [.int (112 : Int32), .int v2]) (st := []) rfl rfl (Nat.le_of_ble_eq_true rfl) (Nat.le_trans (Nat.le_of_ble_eq_true rfl) hd) rfl ?_
      refine g_aload_n (pc := 101) dX12_pay_101 rfl ?_
      refine g_bipush (pc := 102) dX12_pay_102 bp_122 ?_
      refine g_iload_n (pc := 104) dX12_pay_104 rfl ?_
      obtain ⟨u9, e8, h⟩ := x_bind h
      refine g_cV (pc := 105) dX12_pay_105 cV_RX12_243 (M_X12_says (Nat.le_refl _) e8) xc_135 (as := [.int (122 : Int32), .int v3]) (st := []) rfl rfl (Nat.le_of_ble_eq_true rfl) (Nat.le_trans (Nat.le_of_ble_eq_true rfl) hd) rfl ?_
      refine g_aload_n (pc := 108) dX12_pay_108 rfl ?_
      refine g_bipush (pc := 109) dX12_pay_109 bp_110 ?_
      refine g_iload (pc := 111) dX12_pay_111 rfl ?_
      obtain ⟨u11, e10, h⟩ := x_bind h
      refine g_cV (pc := 113) dX12_pay_113 cV_RX12_243 (M_X12_says (Nat.le_refl _) e10) xc_135 (as := [.int (110 : Int32), .int v4]) (st := []) rfl rfl (Nat.le_of_ble_eq_true rfl) (Nat.le_trans (Nat.le_of_ble_eq_true rfl) hd) rfl ?_
      refine g_aload_n (pc := 116) dX12_pay_116 rfl ?_
      refine g_bipush (pc := 117) dX12_pay_117 bp_101 ?_
      refine g_iload (pc := 119) dX12_pay_119 rfl ?_
      refine g_if_ge (tgt := 130) (pc := 121) dX12_pay_121 (by decide) (fun c12 => ?_) (fun c12 => ?_)
      · replace h := (if_pos c12).symm.trans h
        refine g_iload (pc := 130) dX12_pay_130 rfl ?_
        refine g_L (L' := [some (.ref 135), none, none, none, none, none]) ⟨rfl, trivial⟩ ?_
        exact G_X12_pay_132 hd (101 : Int32) x3 u11 h
      · replace h := (if_neg c12).symm.trans h
        refine g_sipush (pc := 124) dX12_pay_124 sp_1000 ?_
        refine g_goto (tgt := 132) (pc := 127) dX12_pay_127 (by decide) ?_
        refine g_L (L' := [some (.ref 135), none, none, none, none, none]) ⟨rfl, trivial⟩ ?_
        exact G_X12_pay_132 hd (101 : Int32) (1000 : Int32) u11 h
    · replace h := (if_neg c1).symm.trans h
      refine g_aload_n (pc := 45) dX12_pay_45 rfl ?_
      refine g_gR (pc := 46) dX12_pay_46 fR_RX12_34 xc_135 (v := 144) rfl ?_
      refine g_iload (pc := 49) dX12_pay_49 rfl ?_
      obtain ⟨g13, h⟩ := x_gd h
      refine g_iaload (pc := 51) dX12_pay_51 xc_144 (xin_of g13) (v := (rd u 144 v5.toNatClampNeg)) rfl ?_
      refine g_iload_n (pc := 52) dX12_pay_52 rfl ?_
      refine g_icmp_ne (tgt := 77) (pc := 53) dX12_pay_53 (by decide) (fun c14 => ?_) (fun c14 => ?_)
      · replace h := (if_neg c14).symm.trans h
        exact G_X12_pay_77 hd ih v1 v2 v3 v4 v5 u h
      · replace h := (if_pos c14).symm.trans h
        refine g_iload_n (pc := 56) dX12_pay_56 rfl ?_
        refine g_aload_n (pc := 57) dX12_pay_57 rfl ?_
        refine g_iload (pc := 58) dX12_pay_58 rfl ?_
        obtain ⟨x16, e15, h⟩ := x_bind h
        refine g_cV (pc := 60) dX12_pay_60 cV_RX12_220 (M_X12_found (Nat.le_refl _) e15) xc_135 (as := [.int v5]) (st := [.int v2]) rfl rfl (Nat.le_of_ble_eq_true rfl) (Nat.le_trans (Nat.le_of_ble_eq_true rfl) hd) rfl ?_
        refine g_iadd (pc := 63) dX12_pay_63 rfl ?_
        refine g_istore_n (pc := 64) dX12_pay_64 (Nat.le_of_ble_eq_true rfl) (L' := [some (.ref 135), some (.int v1), some (.int (v2 + x16)), some (.int v3), some (.int v4), some (.int v5)]) rfl ?_
        refine g_iload_n (pc := 65) dX12_pay_65 rfl ?_
        refine g_aload_n (pc := 66) dX12_pay_66 rfl ?_
        refine g_iload (pc := 67) dX12_pay_67 rfl ?_
        obtain ⟨x18, e17, h⟩ := x_bind h
        refine g_cV (pc := 69) dX12_pay_69 cV_RX12_217 (M_X12_dust (Nat.le_refl _) e17) xc_135 (as := [.int v5]) (st := [.int v3]) rfl rfl (Nat.le_of_ble_eq_true rfl) (Nat.le_trans (Nat.le_of_ble_eq_true rfl) hd) rfl ?_
        refine g_iadd (pc := 72) dX12_pay_72 rfl ?_
        refine g_istore_n (pc := 73) dX12_pay_73 (Nat.le_of_ble_eq_true rfl) (L' := [some (.ref 135), some (.int v1), some (.int (v2 + x16)), some (.int (v3 + x18)), some (.int v4), some (.int v5)]) rfl ?_
        refine g_inc (pc := 74) dX12_pay_74 (Nat.le_of_ble_eq_true rfl) rfl ic_1 (L' := [some (.ref 135), some (.int v1), some (.int (v2 + x16)), some (.int (v3 + x18)), some (.int (v4 + (1 : Int32))), some (.int v5)]) rfl ?_
        exact G_X12_pay_77 hd ih v1 (v2 + x16) (v3 + x18) (v4 + (1 : Int32)) v5 u h
set_option maxRecDepth 100000 in
set_option maxHeartbeats 4000000 in
theorem G_X12_pay_0 {sc : Nat × (Nat → Int32)} {d : Nat} (hd : 5 ≤ d) {r : Int32} {u' : xS} (v1 : Int32) (u : xS) (h : f_X12_pay v1 u = some (r, u')) : xG sc mX12_pay d 0 0 (xR (some (.int r)) (xL0, u') 0 0) 0 0 0 [some (.ref 135), some (.int v1), none, none, none, none] [] (xL0, u) := by
  rw [f_X12_pay] at h
  refine g_aload_n (pc := 0) dX12_pay_0 rfl ?_
  refine g_iconst (pc := 1) dX12_pay_1 ic_0 ?_
  refine g_pI (pc := 2) dX12_pay_2 pI_RX12_150 xc_135 (u' := (wr u 135 0 (0 : Int32))) rfl ?_
  refine g_iload_n (pc := 5) dX12_pay_5 rfl ?_
  refine g_cS (pc := 6) dX12_pay_6 cS_RX12_208 (M_X12_isSorter (Nat.le_refl _) rfl) (as := [.int v1]) (st := []) rfl rfl (Nat.le_of_ble_eq_true rfl) (Nat.le_trans (Nat.le_of_ble_eq_true rfl) hd) rfl ?_
  refine g_if_ne (tgt := 14) (pc := 9) dX12_pay_9 (by decide) (fun c1 => ?_) (fun c1 => ?_)
  · replace h := (if_neg c1).symm.trans h
    refine g_aload_n (pc := 14) dX12_pay_14 rfl ?_
    refine g_gR (pc := 15) dX12_pay_15 fR_RX12_68 xc_135 (v := 154) rfl ?_
    refine g_bipush (pc := 18) dX12_pay_18 bp_10 ?_
    refine g_baload (pc := 20) dX12_pay_20 xc_154 vin_10_12 (v := (rd u 154 10)) rfl ?_
    refine g_if_ne (tgt := 26) (pc := 21) dX12_pay_21 (by decide) (fun c2 => ?_) (fun c2 => ?_)
    · replace h := (if_neg c2).symm.trans h
      refine g_iconst (pc := 26) dX12_pay_26 ic_0 ?_
      refine g_istore_n (pc := 27) dX12_pay_27 (Nat.le_of_ble_eq_true rfl) (L' := [some (.ref 135), some (.int v1), some (.int (0 : Int32)), none, none, none]) rfl ?_
      refine g_iconst (pc := 28) dX12_pay_28 ic_0 ?_
      refine g_istore_n (pc := 29) dX12_pay_29 (Nat.le_of_ble_eq_true rfl) (L' := [some (.ref 135), some (.int v1), some (.int (0 : Int32)), some (.int (0 : Int32)), none, none]) rfl ?_
      refine g_iconst (pc := 30) dX12_pay_30 ic_0 ?_
      refine g_istore (pc := 31) dX12_pay_31 (Nat.le_of_ble_eq_true rfl) (L' := [some (.ref 135), some (.int v1), some (.int (0 : Int32)), some (.int (0 : Int32)), some (.int (0 : Int32)), none]) rfl ?_
      refine g_iconst (pc := 33) dX12_pay_33 ic_0 ?_
      refine g_istore (pc := 34) dX12_pay_34 (Nat.le_of_ble_eq_true rfl) (L' := [some (.ref 135), some (.int v1), some (.int (0 : Int32)), some (.int (0 : Int32)), some (.int (0 : Int32)), some (.int (0 : Int32))]) rfl ?_
      exact G_X12_pay_36 hd xN v1 (0 : Int32) (0 : Int32) (0 : Int32) (0 : Int32) (wr u 135 0 (0 : Int32)) h
    · replace h := (if_pos c2).symm.trans h
      refine g_iconst (pc := 24) dX12_pay_24 ic_0 ?_
      cases h
      exact g_iret (pc := 25) dX12_pay_25 rfl rfl rfl (Nat.le_refl _) (Nat.le_refl _)
  · replace h := (if_pos c1).symm.trans h
    refine g_iconst (pc := 12) dX12_pay_12 ic_m1 ?_
    cases h
    exact g_iret (pc := 13) dX12_pay_13 rfl rfl rfl (Nat.le_refl _) (Nat.le_refl _)
set_option maxRecDepth 100000 in
set_option maxHeartbeats 4000000 in
theorem M_X12_pay {sc : Nat × (Nat → Int32)} {d : Nat} (hd : 5 ≤ d) {r : Int32} {u u' : xS} {a1 : Int32} (h : f_X12_pay a1 u = some (r, u')) : xMt sc mX12_pay d 0 0 [.ref 135, .int a1] (xL0, u) (some (.int r)) (xL0, u') :=
  xMt.of (by decide +kernel) (Nat.le_of_ble_eq_true rfl) (L := [some (.ref 135), some (.int a1), none, none, none, none]) rfl ((G_X12_pay_0 hd a1 u h))
set_option maxRecDepth 100000 in
set_option maxHeartbeats 4000000 in
theorem G_X12_price_0 {sc : Nat × (Nat → Int32)} {d : Nat} (hd : 2 ≤ d) {r : Int32} {u' : xS} (v1 : Int32) (v2 : Int32) (v3 : Int32) (u : xS) (h : f_X12_price v1 v2 v3 u = some (r, u')) : xG sc mX12_price d 0 0 (xR (some (.int r)) (xL0, u') 0 0) 0 0 0 [some (.ref 135), some (.int v1), some (.int v2), some (.int v3)] [] (xL0, u) := by
  rw [f_X12_price] at h
  refine g_aload_n (pc := 0) dX12_price_0 rfl ?_
  refine g_iconst (pc := 1) dX12_price_1 ic_0 ?_
  refine g_pI (pc := 2) dX12_price_2 pI_RX12_150 xc_135 (u' := (wr u 135 0 (0 : Int32))) rfl ?_
  refine g_aload_n (pc := 5) dX12_price_5 rfl ?_
  refine g_iload_n (pc := 6) dX12_price_6 rfl ?_
  refine g_cV (pc := 7) dX12_price_7 cV_RX12_166 (M_X12_isSort (Nat.le_refl _) rfl) xc_135 (as := [.int v1]) (st := []) rfl rfl (Nat.le_of_ble_eq_true rfl) (Nat.le_trans (Nat.le_of_ble_eq_true rfl) hd) rfl ?_
  refine g_if_eq (tgt := 41) (pc := 10) dX12_price_10 (by decide) (fun c1 => ?_) (fun c1 => ?_)
  · replace h := (if_pos c1).symm.trans h
    refine g_iconst (pc := 41) dX12_price_41 ic_m1 ?_
    cases h
    exact g_iret (pc := 42) dX12_price_42 rfl rfl rfl (Nat.le_refl _) (Nat.le_refl _)
  · replace h := (if_neg c1).symm.trans h
    refine g_iload_n (pc := 13) dX12_price_13 rfl ?_
    refine g_cS (pc := 14) dX12_price_14 cS_RX12_170 (M_X12_isWeek (Nat.le_refl _) rfl) (as := [.int v2]) (st := []) rfl rfl (Nat.le_of_ble_eq_true rfl) (Nat.le_trans (Nat.le_of_ble_eq_true rfl) hd) rfl ?_
    refine g_if_eq (tgt := 41) (pc := 17) dX12_price_17 (by decide) (fun c2 => ?_) (fun c2 => ?_)
    · replace h := (if_pos c2).symm.trans h
      refine g_iconst (pc := 41) dX12_price_41 ic_m1 ?_
      cases h
      exact g_iret (pc := 42) dX12_price_42 rfl rfl rfl (Nat.le_refl _) (Nat.le_refl _)
    · replace h := (if_neg c2).symm.trans h
      refine g_iload_n (pc := 20) dX12_price_20 rfl ?_
      refine g_i2l (pc := 21) dX12_price_21 rfl ?_
      refine g_lconst (v := (0 : Int64)) (pc := 22) dX12_price_22 rfl ?_
      refine g_ldc2 (pc := 23) dX12_price_23 kl_RX12_173 ?_
      refine g_cS (pc := 26) dX12_price_26 cS_RX12_156 (M_X12_in (Nat.le_refl _) rfl) (as := [.long ((v3).toInt64), .long (0 : Int64), .long (999 : Int64)]) (st := []) rfl rfl (Nat.le_of_ble_eq_true rfl) (Nat.le_trans (Nat.le_of_ble_eq_true rfl) hd) rfl ?_
      refine g_if_eq (tgt := 41) (pc := 29) dX12_price_29 (by decide) (fun c3 => ?_) (fun c3 => ?_)
      · replace h := (if_pos c3).symm.trans h
        refine g_iconst (pc := 41) dX12_price_41 ic_m1 ?_
        cases h
        exact g_iret (pc := 42) dX12_price_42 rfl rfl rfl (Nat.le_refl _) (Nat.le_refl _)
      · replace h := (if_neg c3).symm.trans h
        refine g_aload_n (pc := 32) dX12_price_32 rfl ?_
        refine g_gI (pc := 33) dX12_price_33 fI_RX12_175 xc_135 (v := (rd u 135 3)) rfl ?_
        refine g_bipush (pc := 36) dX12_price_36 bp_60 ?_
        refine g_icmp_ne (tgt := 43) (pc := 38) dX12_price_38 (by decide) (fun c4 => ?_) (fun c4 => ?_)
        · replace h := (if_neg c4).symm.trans h
          refine g_aload_n (pc := 43) dX12_price_43 rfl ?_
          refine g_gR (pc := 44) dX12_price_44 fR_RX12_13 xc_135 (v := 137) rfl ?_
          refine g_aload_n (pc := 47) dX12_price_47 rfl ?_
          refine g_gI (pc := 48) dX12_price_48 fI_RX12_175 xc_135 (v := (rd u 135 3)) rfl ?_
          refine g_iload_n (pc := 51) dX12_price_51 rfl ?_
          obtain ⟨g5, h⟩ := x_gd h
          refine g_iastore (pc := 52) dX12_price_52 xc_137 (xin_of g5) (u' := (wr (wr u 135 0 (0 : Int32)) 137 (rd u 135 3).toNatClampNeg v1)) rfl ?_
          refine g_aload_n (pc := 53) dX12_price_53 rfl ?_
          refine g_gR (pc := 54) dX12_price_54 fR_RX12_16 xc_135 (v := 138) rfl ?_
          refine g_aload_n (pc := 57) dX12_price_57 rfl ?_
          refine g_gI (pc := 58) dX12_price_58 fI_RX12_175 xc_135 (v := (rd u 135 3)) rfl ?_
          refine g_iload_n (pc := 61) dX12_price_61 rfl ?_
          refine g_iastore (pc := 62) dX12_price_62 xc_138 (xin_of g5) (u' := (wr (wr (wr u 135 0 (0 : Int32)) 137 (rd u 135 3).toNatClampNeg v1) 138 (rd u 135 3).toNatClampNeg v2)) rfl ?_
          refine g_aload_n (pc := 63) dX12_price_63 rfl ?_
          refine g_gR (pc := 64) dX12_price_64 fR_RX12_19 xc_135 (v := 139) rfl ?_
          refine g_aload_n (pc := 67) dX12_price_67 rfl ?_
          refine g_gI (pc := 68) dX12_price_68 fI_RX12_175 xc_135 (v := (rd u 135 3)) rfl ?_
          refine g_iload_n (pc := 71) dX12_price_71 rfl ?_
          refine g_iastore (pc := 72) dX12_price_72 xc_139 (xin_of g5) (u' := (wr (wr (wr (wr u 135 0 (0 : Int32)) 137 (rd u 135 3).toNatClampNeg v1) 138 (rd u 135 3).toNatClampNeg v2) 139 (rd u 135 3).toNatClampNeg v3)) rfl ?_
          refine g_aload_n (pc := 73) dX12_price_73 rfl ?_
          refine g_dup (pc := 74) dX12_price_74 rfl ?_
          refine g_gI (pc := 75) dX12_price_75 fI_RX12_175 xc_135 (v := (rd u 135 3)) rfl ?_
          refine g_iconst (pc := 78) dX12_price_78 ic_1 ?_
          refine g_iadd (pc := 79) dX12_price_79 rfl ?_
          refine g_pI (pc := 80) dX12_price_80 pI_RX12_175 xc_135 (u' := (wr (wr (wr (wr (wr u 135 0 (0 : Int32)) 137 (rd u 135 3).toNatClampNeg v1) 138 (rd u 135 3).toNatClampNeg v2) 139 (rd u 135 3).toNatClampNeg v3) 135 3 ((rd u 135 3) + (1 : Int32)))) rfl ?_
          refine g_aload_n (pc := 83) dX12_price_83 rfl ?_
          refine g_gI (pc := 84) dX12_price_84 fI_RX12_175 xc_135 (v := ((rd u 135 3) + (1 : Int32))) rfl ?_
          cases h
          exact g_iret (pc := 87) dX12_price_87 rfl rfl rfl (Nat.le_refl _) (Nat.le_refl _)
        · replace h := (if_pos c4).symm.trans h
          refine g_iconst (pc := 41) dX12_price_41 ic_m1 ?_
          cases h
          exact g_iret (pc := 42) dX12_price_42 rfl rfl rfl (Nat.le_refl _) (Nat.le_refl _)
set_option maxRecDepth 100000 in
set_option maxHeartbeats 4000000 in
theorem M_X12_price {sc : Nat × (Nat → Int32)} {d : Nat} (hd : 2 ≤ d) {r : Int32} {u u' : xS} {a1 : Int32} {a2 : Int32} {a3 : Int32} (h : f_X12_price a1 a2 a3 u = some (r, u')) : xMt sc mX12_price d 0 0 [.ref 135, .int a1, .int a2, .int a3] (xL0, u) (some (.int r)) (xL0, u') :=
  xMt.of (by decide +kernel) (Nat.le_of_ble_eq_true rfl) (L := [some (.ref 135), some (.int a1), some (.int a2), some (.int a3)]) rfl ((G_X12_price_0 hd a1 a2 a3 u h))
set_option maxRecDepth 100000 in
set_option maxHeartbeats 4000000 in
theorem G_X12_refuse_0 {sc : Nat × (Nat → Int32)} {d : Nat} (hd : 0 ≤ d) {r : Int32} {u' : xS} (u : xS) (h : f_X12_refuse u = some (r, u')) : xG sc mX12_refuse d 0 0 (xR (some (.int r)) (xL0, u') 0 0) 0 0 0 [some (.ref 135)] [] (xL0, u) := by
  rw [f_X12_refuse] at h
  refine g_aload_n (pc := 0) dX12_refuse_0 rfl ?_
  refine g_iconst (pc := 1) dX12_refuse_1 ic_1 ?_
  refine g_pI (pc := 2) dX12_refuse_2 pI_RX12_150 xc_135 (u' := (wr u 135 0 (1 : Int32))) rfl ?_
  refine g_iconst (pc := 5) dX12_refuse_5 ic_0 ?_
  cases h
  exact g_iret (pc := 6) dX12_refuse_6 rfl rfl rfl (Nat.le_refl _) (Nat.le_refl _)
set_option maxRecDepth 100000 in
set_option maxHeartbeats 4000000 in
theorem M_X12_refuse {sc : Nat × (Nat → Int32)} {d : Nat} (hd : 0 ≤ d) {r : Int32} {u u' : xS} (h : f_X12_refuse u = some (r, u')) : xMt sc mX12_refuse d 0 0 [.ref 135] (xL0, u) (some (.int r)) (xL0, u') :=
  xMt.of (by decide +kernel) (Nat.le_of_ble_eq_true rfl) (L := [some (.ref 135)]) rfl ((G_X12_refuse_0 hd u h))
set_option maxRecDepth 100000 in
set_option maxHeartbeats 4000000 in
theorem G_X12_ring_149 {sc : Nat × (Nat → Int32)} {d : Nat} (hd : 2 ≤ d) {r : Int32} {u' : xS} {k129 : Int32 → xS → Option (Int32 × xS)} (hk129 : ∀ (v3 : Int32) (u : xS), k129 v3 u = some (r, u') → xG sc mX12_ring d 0 0 (xR (some (.int r)) (xL0, u') 0 0) 0 0 129 [some (.ref 135), none, none, some (.int v3)] [] (xL0, u)) (v3 : Int32) (u : xS) (h : f_X12_ring_149 k129 v3 u = some (r, u')) : xG sc mX12_ring d 0 0 (xR (some (.int r)) (xL0, u') 0 0) 0 0 149 [some (.ref 135), none, none, some (.int v3)] [] (xL0, u) := by
  rw [f_X12_ring_149] at h
  refine g_inc (pc := 149) dX12_ring_149 (Nat.le_of_ble_eq_true rfl) rfl ic_1 (L' := [some (.ref 135), none, none, some (.int (v3 + (1 : Int32)))]) rfl ?_
  refine g_goto (tgt := 129) (pc := 152) dX12_ring_152 (by decide) ?_
  exact hk129 (v3 + (1 : Int32)) u h
set_option maxRecDepth 100000 in
set_option maxHeartbeats 4000000 in
theorem G_X12_ring_129 {sc : Nat × (Nat → Int32)} {d : Nat} (hd : 2 ≤ d) {r : Int32} {u' : xS} : ∀ (n : Nat) (v3 : Int32) (u : xS), f_X12_ring_129 n v3 u = some (r, u') → xG sc mX12_ring d 0 0 (xR (some (.int r)) (xL0, u') 0 0) 0 0 129 [some (.ref 135), none, none, some (.int v3)] [] (xL0, u) := by
  intro n
  induction n with
  | zero =>
    intro v3 u h
    rw [f_X12_ring_129] at h
    cases h
  | succ n ih =>
    intro v3 u h
    rw [f_X12_ring_129] at h
    refine g_iload_n (pc := 129) dX12_ring_129 rfl ?_
    refine g_bipush (pc := 130) dX12_ring_130 bp_6 ?_
    refine g_icmp_ge (tgt := 155) (pc := 132) dX12_ring_132 (by decide) (fun c1 => ?_) (fun c1 => ?_)
    · replace h := (if_pos c1).symm.trans h
      refine g_aload_n (pc := 155) dX12_ring_155 rfl ?_
      refine g_gI (pc := 156) dX12_ring_156 fI_RX12_388 xc_135 (v := (rd u 135 43)) rfl ?_
      cases h
      exact g_iret (pc := 159) dX12_ring_159 rfl rfl rfl (Nat.le_refl _) (Nat.le_refl _)
    · replace h := (if_neg c1).symm.trans h
      refine g_aload_n (pc := 135) dX12_ring_135 rfl ?_
      refine g_gR (pc := 136) dX12_ring_136 fR_RX12_120 xc_135 (v := 171) rfl ?_
      refine g_iload_n (pc := 139) dX12_ring_139 rfl ?_
      obtain ⟨g2, h⟩ := x_gd h
      refine g_baload (pc := 140) dX12_ring_140 xc_171 (xin_of g2) (v := (rd u 171 v3.toNatClampNeg)) rfl ?_
      refine g_if_eq (tgt := 149) (pc := 141) dX12_ring_141 (by decide) (fun c3 => ?_) (fun c3 => ?_)
      · replace h := (if_pos c3).symm.trans h
        exact G_X12_ring_149 hd ih v3 u h
      · replace h := (if_neg c3).symm.trans h
        refine g_aload_n (pc := 144) dX12_ring_144 rfl ?_
        refine g_iload_n (pc := 145) dX12_ring_145 rfl ?_
        obtain ⟨u5, e4, h⟩ := x_bind h
        refine g_cV (pc := 146) dX12_ring_146 cV_RX12_394 (M_X12_enters (Nat.le_refl _) e4) xc_135 (as := [.int v3]) (st := []) rfl rfl (Nat.le_of_ble_eq_true rfl) (Nat.le_trans (Nat.le_of_ble_eq_true rfl) hd) rfl ?_
        exact G_X12_ring_149 hd ih v3 u5 h
set_option maxRecDepth 100000 in
set_option maxHeartbeats 4000000 in
theorem G_X12_ring_113 {sc : Nat × (Nat → Int32)} {d : Nat} (hd : 2 ≤ d) {r : Int32} {u' : xS} {k54 : Int32 → Int32 → xS → Option (Int32 × xS)} (hk54 : ∀ (v2 : Int32) (v3 : Int32) (u : xS), k54 v2 v3 u = some (r, u') → xG sc mX12_ring d 0 0 (xR (some (.int r)) (xL0, u') 0 0) 0 0 54 [some (.ref 135), none, some (.int v2), some (.int v3)] [] (xL0, u)) {k46 : Int32 → xS → Option (Int32 × xS)} (hk46 : ∀ (v2 : Int32) (u : xS), k46 v2 u = some (r, u') → xG sc mX12_ring d 0 0 (xR (some (.int r)) (xL0, u') 0 0) 0 0 46 [some (.ref 135), none, some (.int v2), none] [] (xL0, u)) (v2 : Int32) (v3 : Int32) (u : xS) (h : f_X12_ring_113 k54 k46 v2 v3 u = some (r, u')) : xG sc mX12_ring d 0 0 (xR (some (.int r)) (xL0, u') 0 0) 0 0 113 [some (.ref 135), none, some (.int v2), some (.int v3)] [] (xL0, u) := by
  rw [f_X12_ring_113] at h
  refine g_inc (pc := 113) dX12_ring_113 (Nat.le_of_ble_eq_true rfl) rfl ic_1 (L' := [some (.ref 135), none, some (.int v2), some (.int (v3 + (1 : Int32)))]) rfl ?_
  refine g_goto (tgt := 54) (pc := 116) dX12_ring_116 (by decide) ?_
  exact hk54 v2 (v3 + (1 : Int32)) u h
set_option maxRecDepth 100000 in
set_option maxHeartbeats 4000000 in
theorem G_X12_ring_54 {sc : Nat × (Nat → Int32)} {d : Nat} (hd : 2 ≤ d) {r : Int32} {u' : xS} {k46 : Int32 → xS → Option (Int32 × xS)} (hk46 : ∀ (v2 : Int32) (u : xS), k46 v2 u = some (r, u') → xG sc mX12_ring d 0 0 (xR (some (.int r)) (xL0, u') 0 0) 0 0 46 [some (.ref 135), none, some (.int v2), none] [] (xL0, u)) : ∀ (n : Nat) (v2 : Int32) (v3 : Int32) (u : xS), f_X12_ring_54 k46 n v2 v3 u = some (r, u') → xG sc mX12_ring d 0 0 (xR (some (.int r)) (xL0, u') 0 0) 0 0 54 [some (.ref 135), none, some (.int v2), some (.int v3)] [] (xL0, u) := by
  intro n
  induction n with
  | zero =>
    intro v2 v3 u h
    rw [f_X12_ring_54] at h
    cases h
  | succ n ih =>
    intro v2 v3 u h
    rw [f_X12_ring_54] at h
    refine g_iload_n (pc := 54) dX12_ring_54 rfl ?_
    refine g_aload_n (pc := 55) dX12_ring_55 rfl ?_
    refine g_gI (pc := 56) dX12_ring_56 fI_RX12_409 xc_135 (v := (rd u 135 46)) rfl ?_
    refine g_icmp_ge (tgt := 119) (pc := 59) dX12_ring_59 (by decide) (fun c1 => ?_) (fun c1 => ?_)
    · replace h := (if_pos c1).symm.trans h
      refine g_goto (tgt := 46) (pc := 119) dX12_ring_119 (by decide) ?_
      refine g_L (L' := [some (.ref 135), none, some (.int v2), none]) ⟨rfl, ⟨rfl, trivial⟩⟩ ?_
      exact hk46 v2 u h
    · replace h := (if_neg c1).symm.trans h
      refine g_aload_n (pc := 62) dX12_ring_62 rfl ?_
      refine g_gR (pc := 63) dX12_ring_63 fR_RX12_120 xc_135 (v := 171) rfl ?_
      refine g_aload_n (pc := 66) dX12_ring_66 rfl ?_
      refine g_gR (pc := 67) dX12_ring_67 fR_RX12_108 xc_135 (v := 167) rfl ?_
      refine g_iload_n (pc := 70) dX12_ring_70 rfl ?_
      obtain ⟨g2, h⟩ := x_gd h
      refine g_iaload (pc := 71) dX12_ring_71 xc_167 (xin_of g2) (v := (rd u 167 v3.toNatClampNeg)) rfl ?_
      obtain ⟨g3, h⟩ := x_gd h
      refine g_baload (pc := 72) dX12_ring_72 xc_171 (xin_of g3) (v := (rd u 171 (rd u 167 v3.toNatClampNeg).toNatClampNeg)) rfl ?_
      refine g_aload_n (pc := 73) dX12_ring_73 rfl ?_
      refine g_gR (pc := 74) dX12_ring_74 fR_RX12_120 xc_135 (v := 171) rfl ?_
      refine g_aload_n (pc := 77) dX12_ring_77 rfl ?_
      refine g_gR (pc := 78) dX12_ring_78 fR_RX12_111 xc_135 (v := 168) rfl ?_
      refine g_iload_n (pc := 81) dX12_ring_81 rfl ?_
      refine g_iaload (pc := 82) dX12_ring_82 xc_168 (xin_of g2) (v := (rd u 168 v3.toNatClampNeg)) rfl ?_
      obtain ⟨g4, h⟩ := x_gd h
      refine g_baload (pc := 83) dX12_ring_83 xc_171 (xin_of g4) (v := (rd u 171 (rd u 168 v3.toNatClampNeg).toNatClampNeg)) rfl ?_
      refine g_icmp_eq (tgt := 113) (pc := 84) dX12_ring_84 (by decide) (fun c5 => ?_) (fun c5 => ?_)
      · replace h := (if_pos c5).symm.trans h
        exact G_X12_ring_113 hd ih hk46 v2 v3 u h
      · replace h := (if_neg c5).symm.trans h
        refine g_aload_n (pc := 87) dX12_ring_87 rfl ?_
        refine g_gR (pc := 88) dX12_ring_88 fR_RX12_120 xc_135 (v := 171) rfl ?_
        refine g_aload_n (pc := 91) dX12_ring_91 rfl ?_
        refine g_gR (pc := 92) dX12_ring_92 fR_RX12_108 xc_135 (v := 167) rfl ?_
        refine g_iload_n (pc := 95) dX12_ring_95 rfl ?_
        refine g_iaload (pc := 96) dX12_ring_96 xc_167 (xin_of g2) (v := (rd u 167 v3.toNatClampNeg)) rfl ?_
        refine g_iconst (pc := 97) dX12_ring_97 ic_1 ?_
        refine g_bastoreB (pc := 98) dX12_ring_98 xc_171 (xin_of g3) (Or.inr rfl) (u' := (wr u 171 (rd u 167 v3.toNatClampNeg).toNatClampNeg (1 : Int32))) rfl ?_
        refine g_aload_n (pc := 99) dX12_ring_99 rfl ?_
        refine g_gR (pc := 100) dX12_ring_100 fR_RX12_120 xc_135 (v := 171) rfl ?_
        refine g_aload_n (pc := 103) dX12_ring_103 rfl ?_
        refine g_gR (pc := 104) dX12_ring_104 fR_RX12_111 xc_135 (v := 168) rfl ?_
        refine g_iload_n (pc := 107) dX12_ring_107 rfl ?_
        refine g_iaload (pc := 108) dX12_ring_108 xc_168 (xin_of g2) (v := (rd u 168 v3.toNatClampNeg)) rfl ?_
        refine g_iconst (pc := 109) dX12_ring_109 ic_1 ?_
        refine g_bastoreB (pc := 110) dX12_ring_110 xc_171 (xin_of g4) (Or.inr rfl) (u' := (wr (wr u 171 (rd u 167 v3.toNatClampNeg).toNatClampNeg (1 : Int32)) 171 (rd u 168 v3.toNatClampNeg).toNatClampNeg (1 : Int32))) rfl ?_
        refine g_iconst (pc := 111) dX12_ring_111 ic_1 ?_
        refine g_istore_n (pc := 112) dX12_ring_112 (Nat.le_of_ble_eq_true rfl) (L' := [some (.ref 135), none, some (.int (1 : Int32)), some (.int v3)]) rfl ?_
        exact G_X12_ring_113 hd ih hk46 (1 : Int32) v3 (wr (wr u 171 (rd u 167 v3.toNatClampNeg).toNatClampNeg (1 : Int32)) 171 (rd u 168 v3.toNatClampNeg).toNatClampNeg (1 : Int32)) h
set_option maxRecDepth 100000 in
set_option maxHeartbeats 4000000 in
theorem G_X12_ring_46 {sc : Nat × (Nat → Int32)} {d : Nat} (hd : 2 ≤ d) {r : Int32} {u' : xS} : ∀ (n : Nat) (v2 : Int32) (u : xS), f_X12_ring_46 n v2 u = some (r, u') → xG sc mX12_ring d 0 0 (xR (some (.int r)) (xL0, u') 0 0) 0 0 46 [some (.ref 135), none, some (.int v2), none] [] (xL0, u) := by
  intro n
  induction n with
  | zero =>
    intro v2 u h
    rw [f_X12_ring_46] at h
    cases h
  | succ n ih =>
    intro v2 u h
    rw [f_X12_ring_46] at h
    refine g_iload_n (pc := 46) dX12_ring_46 rfl ?_
    refine g_if_eq (tgt := 122) (pc := 47) dX12_ring_47 (by decide) (fun c1 => ?_) (fun c1 => ?_)
    · replace h := (if_pos c1).symm.trans h
      refine g_aload_n (pc := 122) dX12_ring_122 rfl ?_
      refine g_iconst (pc := 123) dX12_ring_123 ic_0 ?_
      refine g_pI (pc := 124) dX12_ring_124 pI_RX12_388 xc_135 (u' := (wr u 135 43 (0 : Int32))) rfl ?_
      refine g_iconst (pc := 127) dX12_ring_127 ic_0 ?_
      refine g_istore_n (pc := 128) dX12_ring_128 (Nat.le_of_ble_eq_true rfl) (L' := [some (.ref 135), none, some (.int v2), some (.int (0 : Int32))]) rfl ?_
      refine g_L (L' := [some (.ref 135), none, none, some (.int (0 : Int32))]) ⟨rfl, ⟨rfl, trivial⟩⟩ ?_
      exact G_X12_ring_129 hd xN (0 : Int32) (wr u 135 43 (0 : Int32)) h
    · replace h := (if_neg c1).symm.trans h
      refine g_iconst (pc := 50) dX12_ring_50 ic_0 ?_
      refine g_istore_n (pc := 51) dX12_ring_51 (Nat.le_of_ble_eq_true rfl) (L' := [some (.ref 135), none, some (.int (0 : Int32)), none]) rfl ?_
      refine g_iconst (pc := 52) dX12_ring_52 ic_0 ?_
      refine g_istore_n (pc := 53) dX12_ring_53 (Nat.le_of_ble_eq_true rfl) (L' := [some (.ref 135), none, some (.int (0 : Int32)), some (.int (0 : Int32))]) rfl ?_
      exact G_X12_ring_54 hd ih xN (0 : Int32) (0 : Int32) u h
set_option maxRecDepth 100000 in
set_option maxHeartbeats 4000000 in
theorem G_X12_ring_37 {sc : Nat × (Nat → Int32)} {d : Nat} (hd : 2 ≤ d) {r : Int32} {u' : xS} {k16 : Int32 → Int32 → xS → Option (Int32 × xS)} (hk16 : ∀ (v1 : Int32) (v2 : Int32) (u : xS), k16 v1 v2 u = some (r, u') → xG sc mX12_ring d 0 0 (xR (some (.int r)) (xL0, u') 0 0) 0 0 16 [some (.ref 135), some (.int v1), some (.int v2), none] [] (xL0, u)) (v1 : Int32) (v2 : Int32) (s1 : Int32) (s2 : Int32) (u : xS) (h : f_X12_ring_37 k16 v1 v2 s1 s2 u = some (r, u')) : xG sc mX12_ring d 0 0 (xR (some (.int r)) (xL0, u') 0 0) 0 0 37 [some (.ref 135), some (.int v1), some (.int v2), none] [.int s2, .int s1, .ref 171] (xL0, u) := by
  rw [f_X12_ring_37] at h
  obtain ⟨g1, h⟩ := x_gd h
  obtain ⟨g2, h⟩ := x_gd h
  refine g_bastoreB (pc := 37) dX12_ring_37 xc_171 (xin_of g1) (xb_of g2) (u' := (wr u 171 s1.toNatClampNeg s2)) rfl ?_
  refine g_inc (pc := 38) dX12_ring_38 (Nat.le_of_ble_eq_true rfl) rfl ic_1 (L' := [some (.ref 135), some (.int v1), some (.int (v2 + (1 : Int32))), none]) rfl ?_
  refine g_goto (tgt := 16) (pc := 41) dX12_ring_41 (by decide) ?_
  exact hk16 v1 (v2 + (1 : Int32)) (wr u 171 s1.toNatClampNeg s2) h
set_option maxRecDepth 100000 in
set_option maxHeartbeats 4000000 in
theorem G_X12_ring_16 {sc : Nat × (Nat → Int32)} {d : Nat} (hd : 2 ≤ d) {r : Int32} {u' : xS} : ∀ (n : Nat) (v1 : Int32) (v2 : Int32) (u : xS), f_X12_ring_16 n v1 v2 u = some (r, u') → xG sc mX12_ring d 0 0 (xR (some (.int r)) (xL0, u') 0 0) 0 0 16 [some (.ref 135), some (.int v1), some (.int v2), none] [] (xL0, u) := by
  intro n
  induction n with
  | zero =>
    intro v1 v2 u h
    rw [f_X12_ring_16] at h
    cases h
  | succ n ih =>
    intro v1 v2 u h
    rw [f_X12_ring_16] at h
    refine g_iload_n (pc := 16) dX12_ring_16 rfl ?_
    refine g_bipush (pc := 17) dX12_ring_17 bp_6 ?_
    refine g_icmp_ge (tgt := 44) (pc := 19) dX12_ring_19 (by decide) (fun c1 => ?_) (fun c1 => ?_)
    · replace h := (if_pos c1).symm.trans h
      refine g_iconst (pc := 44) dX12_ring_44 ic_1 ?_
      refine g_istore_n (pc := 45) dX12_ring_45 (Nat.le_of_ble_eq_true rfl) (L' := [some (.ref 135), some (.int v1), some (.int (1 : Int32)), none]) rfl ?_
      refine g_L (L' := [some (.ref 135), none, some (.int (1 : Int32)), none]) ⟨rfl, ⟨rfl, trivial⟩⟩ ?_
      exact G_X12_ring_46 hd xN (1 : Int32) u h
    · replace h := (if_neg c1).symm.trans h
      refine g_aload_n (pc := 22) dX12_ring_22 rfl ?_
      refine g_gR (pc := 23) dX12_ring_23 fR_RX12_120 xc_135 (v := 171) rfl ?_
      refine g_iload_n (pc := 26) dX12_ring_26 rfl ?_
      refine g_iload_n (pc := 27) dX12_ring_27 rfl ?_
      refine g_iload_n (pc := 28) dX12_ring_28 rfl ?_
      refine g_icmp_ne (tgt := 36) (pc := 29) dX12_ring_29 (by decide) (fun c2 => ?_) (fun c2 => ?_)
      · replace h := (if_neg c2).symm.trans h
        refine g_iconst (pc := 36) dX12_ring_36 ic_0 ?_
        exact G_X12_ring_37 hd ih v1 v2 v2 (0 : Int32) u h
      · replace h := (if_pos c2).symm.trans h
        refine g_iconst (pc := 32) dX12_ring_32 ic_1 ?_
        refine g_goto (tgt := 37) (pc := 33) dX12_ring_33 (by decide) ?_
        exact G_X12_ring_37 hd ih v1 v2 v2 (1 : Int32) u h
set_option maxRecDepth 100000 in
set_option maxHeartbeats 4000000 in
theorem G_X12_ring_0 {sc : Nat × (Nat → Int32)} {d : Nat} (hd : 2 ≤ d) {r : Int32} {u' : xS} (v1 : Int32) (u : xS) (h : f_X12_ring v1 u = some (r, u')) : xG sc mX12_ring d 0 0 (xR (some (.int r)) (xL0, u') 0 0) 0 0 0 [some (.ref 135), some (.int v1), none, none] [] (xL0, u) := by
  rw [f_X12_ring] at h
  refine g_aload_n (pc := 0) dX12_ring_0 rfl ?_
  refine g_iconst (pc := 1) dX12_ring_1 ic_0 ?_
  refine g_pI (pc := 2) dX12_ring_2 pI_RX12_150 xc_135 (u' := (wr u 135 0 (0 : Int32))) rfl ?_
  refine g_iload_n (pc := 5) dX12_ring_5 rfl ?_
  refine g_cS (pc := 6) dX12_ring_6 cS_RX12_208 (M_X12_isSorter (Nat.le_refl _) rfl) (as := [.int v1]) (st := []) rfl rfl (Nat.le_of_ble_eq_true rfl) (Nat.le_trans (Nat.le_of_ble_eq_true rfl) hd) rfl ?_
  refine g_if_ne (tgt := 14) (pc := 9) dX12_ring_9 (by decide) (fun c1 => ?_) (fun c1 => ?_)
  · replace h := (if_neg c1).symm.trans h
    refine g_iconst (pc := 14) dX12_ring_14 ic_0 ?_
    refine g_istore_n (pc := 15) dX12_ring_15 (Nat.le_of_ble_eq_true rfl) (L' := [some (.ref 135), some (.int v1), some (.int (0 : Int32)), none]) rfl ?_
    exact G_X12_ring_16 hd xN v1 (0 : Int32) (wr u 135 0 (0 : Int32)) h
  · replace h := (if_pos c1).symm.trans h
    refine g_iconst (pc := 12) dX12_ring_12 ic_m1 ?_
    cases h
    exact g_iret (pc := 13) dX12_ring_13 rfl rfl rfl (Nat.le_refl _) (Nat.le_refl _)
set_option maxRecDepth 100000 in
set_option maxHeartbeats 4000000 in
theorem M_X12_ring {sc : Nat × (Nat → Int32)} {d : Nat} (hd : 2 ≤ d) {r : Int32} {u u' : xS} {a1 : Int32} (h : f_X12_ring a1 u = some (r, u')) : xMt sc mX12_ring d 0 0 [.ref 135, .int a1] (xL0, u) (some (.int r)) (xL0, u') :=
  xMt.of (by decide +kernel) (Nat.le_of_ble_eq_true rfl) (L := [some (.ref 135), some (.int a1), none, none]) rfl ((G_X12_ring_0 hd a1 u h))
set_option maxRecDepth 100000 in
set_option maxHeartbeats 4000000 in
theorem G_X12_row_0 {sc : Nat × (Nat → Int32)} {d : Nat} (hd : 1 ≤ d) {r : Int32} {u' : xS} (v1 : Int32) (u : xS) (h : f_X12_row v1 u = some (r, u')) : xG sc mX12_row d 0 0 (xR (some (.int r)) (xL0, u') 0 0) 0 0 0 [some (.ref 135), some (.int v1)] [] (xL0, u) := by
  rw [f_X12_row] at h
  refine g_aload_n (pc := 0) dX12_row_0 rfl ?_
  refine g_iconst (pc := 1) dX12_row_1 ic_0 ?_
  refine g_pI (pc := 2) dX12_row_2 pI_RX12_150 xc_135 (u' := (wr u 135 0 (0 : Int32))) rfl ?_
  refine g_iload_n (pc := 5) dX12_row_5 rfl ?_
  refine g_i2l (pc := 6) dX12_row_6 rfl ?_
  refine g_lconst (v := (0 : Int64)) (pc := 7) dX12_row_7 rfl ?_
  refine g_aload_n (pc := 8) dX12_row_8 rfl ?_
  refine g_gI (pc := 9) dX12_row_9 fI_RX12_388 xc_135 (v := (rd u 135 43)) rfl ?_
  refine g_iconst (pc := 12) dX12_row_12 ic_1 ?_
  refine g_isub (pc := 13) dX12_row_13 rfl ?_
  refine g_i2l (pc := 14) dX12_row_14 rfl ?_
  refine g_cS (pc := 15) dX12_row_15 cS_RX12_156 (M_X12_in (Nat.le_refl _) rfl) (as := [.long ((v1).toInt64), .long (0 : Int64), .long (((rd u 135 43) - (1 : Int32)).toInt64)]) (st := []) rfl rfl (Nat.le_of_ble_eq_true rfl) (Nat.le_trans (Nat.le_of_ble_eq_true rfl) hd) rfl ?_
  refine g_if_eq (tgt := 30) (pc := 18) dX12_row_18 (by decide) (fun c1 => ?_) (fun c1 => ?_)
  · replace h := (if_pos c1).symm.trans h
    refine g_aload_n (pc := 30) dX12_row_30 rfl ?_
    obtain ⟨⟨x3, u4⟩, e2, h⟩ := x_bind h
    dsimp only at h
    refine g_cV (pc := 31) dX12_row_31 cV_RX12_347 (M_X12_refuse (Nat.le_refl _) e2) xc_135 (as := []) (st := []) rfl rfl (Nat.le_of_ble_eq_true rfl) (Nat.le_trans (Nat.le_of_ble_eq_true rfl) hd) rfl ?_
    cases h
    exact g_iret (pc := 34) dX12_row_34 rfl rfl rfl (Nat.le_refl _) (Nat.le_refl _)
  · replace h := (if_neg c1).symm.trans h
    refine g_aload_n (pc := 21) dX12_row_21 rfl ?_
    refine g_gR (pc := 22) dX12_row_22 fR_RX12_102 xc_135 (v := 165) rfl ?_
    refine g_iload_n (pc := 25) dX12_row_25 rfl ?_
    obtain ⟨g6, h⟩ := x_gd h
    refine g_iaload (pc := 26) dX12_row_26 xc_165 (xin_of g6) (v := (rd u 165 v1.toNatClampNeg)) rfl ?_
    refine g_goto (tgt := 34) (pc := 27) dX12_row_27 (by decide) ?_
    cases h
    exact g_iret (pc := 34) dX12_row_34 rfl rfl rfl (Nat.le_refl _) (Nat.le_refl _)
set_option maxRecDepth 100000 in
set_option maxHeartbeats 4000000 in
theorem M_X12_row {sc : Nat × (Nat → Int32)} {d : Nat} (hd : 1 ≤ d) {r : Int32} {u u' : xS} {a1 : Int32} (h : f_X12_row a1 u = some (r, u')) : xMt sc mX12_row d 0 0 [.ref 135, .int a1] (xL0, u) (some (.int r)) (xL0, u') :=
  xMt.of (by decide +kernel) (Nat.le_of_ble_eq_true rfl) (L := [some (.ref 135), some (.int a1)]) rfl ((G_X12_row_0 hd a1 u h))
set_option maxRecDepth 100000 in
set_option maxHeartbeats 4000000 in
theorem G_X12_shares_126 {sc : Nat × (Nat → Int32)} {d : Nat} (hd : 1 ≤ d) {u' : xS} {dk : Nat} (hkd : dk + 1 ≤ d) {k_X12_shares : Int32 → Int32 → xS → Option xS} (hk_X12_shares : ∀ (a1 a2 : Int32) (u u' : xS), k_X12_shares a1 a2 u = some u' → xMt sc mX12_shares dk 0 0 [.ref 135, .int a1, .int a2] (xL0, u) none (xL0, u')) {k52 : Int32 → Int32 → Int32 → xS → Option xS} (hk52 : ∀ (v1 : Int32) (v2 : Int32) (v3 : Int32) (u : xS), k52 v1 v2 v3 u = some u' → xG sc mX12_shares d 0 0 (xR none (xL0, u') 0 0) 0 0 52 [some (.ref 135), some (.int v1), some (.int v2), some (.int v3), none] [] (xL0, u)) (v1 : Int32) (v2 : Int32) (v3 : Int32) (u : xS) (h : f_X12_shares_126 k_X12_shares k52 v1 v2 v3 u = some u') : xG sc mX12_shares d 0 0 (xR none (xL0, u') 0 0) 0 0 126 [some (.ref 135), some (.int v1), some (.int v2), some (.int v3), none] [] (xL0, u) := by
  rw [f_X12_shares_126] at h
  refine g_inc (pc := 126) dX12_shares_126 (Nat.le_of_ble_eq_true rfl) rfl ic_1 (L' := [some (.ref 135), some (.int v1), some (.int v2), some (.int (v3 + (1 : Int32))), none]) rfl ?_
  refine g_goto (tgt := 52) (pc := 129) dX12_shares_129 (by decide) ?_
  exact hk52 v1 v2 (v3 + (1 : Int32)) u h
set_option maxRecDepth 100000 in
set_option maxHeartbeats 4000000 in
theorem G_X12_shares_52 {sc : Nat × (Nat → Int32)} {d : Nat} (hd : 1 ≤ d) {u' : xS} {dk : Nat} (hkd : dk + 1 ≤ d) {k_X12_shares : Int32 → Int32 → xS → Option xS} (hk_X12_shares : ∀ (a1 a2 : Int32) (u u' : xS), k_X12_shares a1 a2 u = some u' → xMt sc mX12_shares dk 0 0 [.ref 135, .int a1, .int a2] (xL0, u) none (xL0, u')) : ∀ (n : Nat) (v1 : Int32) (v2 : Int32) (v3 : Int32) (u : xS), f_X12_shares_52 k_X12_shares n v1 v2 v3 u = some u' → xG sc mX12_shares d 0 0 (xR none (xL0, u') 0 0) 0 0 52 [some (.ref 135), some (.int v1), some (.int v2), some (.int v3), none] [] (xL0, u) := by
  intro n
  induction n with
  | zero =>
    intro v1 v2 v3 u h
    rw [f_X12_shares_52] at h
    cases h
  | succ n ih =>
    intro v1 v2 v3 u h
    rw [f_X12_shares_52] at h
    refine g_iload_n (pc := 52) dX12_shares_52 rfl ?_
    refine g_iconst (pc := 53) dX12_shares_53 ic_4 ?_
    refine g_icmp_ge (tgt := 132) (pc := 54) dX12_shares_54 (by decide) (fun c1 => ?_) (fun c1 => ?_)
    · replace h := (if_pos c1).symm.trans h
      refine g_aload_n (pc := 132) dX12_shares_132 rfl ?_
      refine g_gR (pc := 133) dX12_shares_133 fR_RX12_141 xc_135 (v := 178) rfl ?_
      refine g_iload_n (pc := 136) dX12_shares_136 rfl ?_
      refine g_iconst (pc := 137) dX12_shares_137 ic_m1 ?_
      obtain ⟨g2, h⟩ := x_gd h
      refine g_iastore (pc := 138) dX12_shares_138 xc_178 (xin_of g2) (u' := (wr u 178 v1.toNatClampNeg (-1 : Int32))) rfl ?_
      refine g_aload_n (pc := 139) dX12_shares_139 rfl ?_
      refine g_iload_n (pc := 140) dX12_shares_140 rfl ?_
      refine g_iconst (pc := 141) dX12_shares_141 ic_1 ?_
      refine g_iadd (pc := 142) dX12_shares_142 rfl ?_
      refine g_iload_n (pc := 143) dX12_shares_143 rfl ?_
      obtain ⟨u4, e3, h⟩ := x_bind h
      refine g_cV (pc := 144) dX12_shares_144 cV_RX12_429 (hk_X12_shares _ _ _ _ e3) xc_135 (as := [.int (v1 + (1 : Int32)), .int v2]) (st := []) rfl rfl (Nat.le_of_ble_eq_true rfl) hkd rfl ?_
      cases h
      exact g_ret (pc := 147) dX12_shares_147 rfl rfl rfl (Nat.le_refl _) (Nat.le_refl _)
    · replace h := (if_neg c1).symm.trans h
      refine g_aload_n (pc := 57) dX12_shares_57 rfl ?_
      refine g_iload_n (pc := 58) dX12_shares_58 rfl ?_
      refine g_iload_n (pc := 59) dX12_shares_59 rfl ?_
      obtain ⟨x6, e5, h⟩ := x_bind h
      refine g_cV (pc := 60) dX12_shares_60 cV_RX12_423 (M_X12_given (Nat.le_refl _) e5) xc_135 (as := [.int v3, .int v1]) (st := []) rfl rfl (Nat.le_of_ble_eq_true rfl) (Nat.le_trans (Nat.le_of_ble_eq_true rfl) hd) rfl ?_
      refine g_istore (pc := 63) dX12_shares_63 (Nat.le_of_ble_eq_true rfl) (L' := [some (.ref 135), some (.int v1), some (.int v2), some (.int v3), some (.int x6)]) rfl ?_
      refine g_iload (pc := 65) dX12_shares_65 rfl ?_
      refine g_if_lt (tgt := 126) (pc := 67) dX12_shares_67 (by decide) (fun c7 => ?_) (fun c7 => ?_)
      · replace h := (if_pos c7).symm.trans h
        refine g_L (L' := [some (.ref 135), some (.int v1), some (.int v2), some (.int v3), none]) ⟨rfl, ⟨rfl, ⟨rfl, ⟨rfl, trivial⟩⟩⟩⟩ ?_
        exact G_X12_shares_126 hd hkd hk_X12_shares ih v1 v2 v3 u h
      · replace h := (if_neg c7).symm.trans h
        refine g_aload_n (pc := 70) dX12_shares_70 rfl ?_
        refine g_gR (pc := 71) dX12_shares_71 fR_RX12_147 xc_135 (v := 180) rfl ?_
        refine g_iload_n (pc := 74) dX12_shares_74 rfl ?_
        obtain ⟨g8, h⟩ := x_gd h
        refine g_iaload (pc := 75) dX12_shares_75 xc_180 (xin_of g8) (v := (rd u 180 v3.toNatClampNeg)) rfl ?_
        refine g_aload_n (pc := 76) dX12_shares_76 rfl ?_
        refine g_gR (pc := 77) dX12_shares_77 fR_RX12_126 xc_135 (v := 173) rfl ?_
        refine g_iload_n (pc := 80) dX12_shares_80 rfl ?_
        refine g_iaload (pc := 81) dX12_shares_81 xc_173 (xin_of g8) (v := (rd u 173 v3.toNatClampNeg)) rfl ?_
        refine g_icmp_ne (tgt := 88) (pc := 82) dX12_shares_82 (by decide) (fun c9 => ?_) (fun c9 => ?_)
        · replace h := (if_neg c9).symm.trans h
          refine g_aload_n (pc := 88) dX12_shares_88 rfl ?_
          refine g_gR (pc := 89) dX12_shares_89 fR_RX12_147 xc_135 (v := 180) rfl ?_
          refine g_iload_n (pc := 92) dX12_shares_92 rfl ?_
          refine g_dup2 (pc := 93) dX12_shares_93 rfl rfl ?_
          refine g_iaload (pc := 94) dX12_shares_94 xc_180 (xin_of g8) (v := (rd u 180 v3.toNatClampNeg)) rfl ?_
          refine g_iconst (pc := 95) dX12_shares_95 ic_1 ?_
          refine g_iadd (pc := 96) dX12_shares_96 rfl ?_
          refine g_iastore (pc := 97) dX12_shares_97 xc_180 (xin_of g8) (u' := (wr u 180 v3.toNatClampNeg ((rd u 180 v3.toNatClampNeg) + (1 : Int32)))) rfl ?_
          refine g_aload_n (pc := 98) dX12_shares_98 rfl ?_
          refine g_gR (pc := 99) dX12_shares_99 fR_RX12_141 xc_135 (v := 178) rfl ?_
          refine g_iload_n (pc := 102) dX12_shares_102 rfl ?_
          refine g_iload_n (pc := 103) dX12_shares_103 rfl ?_
          obtain ⟨g10, h⟩ := x_gd h
          refine g_iastore (pc := 104) dX12_shares_104 xc_178 (xin_of g10) (u' := (wr (wr u 180 v3.toNatClampNeg ((rd u 180 v3.toNatClampNeg) + (1 : Int32))) 178 v1.toNatClampNeg v3)) rfl ?_
          refine g_aload_n (pc := 105) dX12_shares_105 rfl ?_
          refine g_iload_n (pc := 106) dX12_shares_106 rfl ?_
          refine g_iconst (pc := 107) dX12_shares_107 ic_1 ?_
          refine g_iadd (pc := 108) dX12_shares_108 rfl ?_
          refine g_iload_n (pc := 109) dX12_shares_109 rfl ?_
          refine g_iload (pc := 110) dX12_shares_110 rfl ?_
          refine g_iadd (pc := 112) dX12_shares_112 rfl ?_
          obtain ⟨u12, e11, h⟩ := x_bind h
          refine g_cV (pc := 113) dX12_shares_113 cV_RX12_429 (hk_X12_shares _ _ _ _ e11) xc_135 (as := [.int (v1 + (1 : Int32)), .int (v2 + x6)]) (st := []) rfl rfl (Nat.le_of_ble_eq_true rfl) hkd rfl ?_
          refine g_aload_n (pc := 116) dX12_shares_116 rfl ?_
          refine g_gR (pc := 117) dX12_shares_117 fR_RX12_147 xc_135 (v := 180) rfl ?_
          refine g_iload_n (pc := 120) dX12_shares_120 rfl ?_
          refine g_dup2 (pc := 121) dX12_shares_121 rfl rfl ?_
          refine g_iaload (pc := 122) dX12_shares_122 xc_180 (xin_of g8) (v := (rd u12 180 v3.toNatClampNeg)) rfl ?_
          refine g_iconst (pc := 123) dX12_shares_123 ic_1 ?_
          refine g_isub (pc := 124) dX12_shares_124 rfl ?_
          refine g_iastore (pc := 125) dX12_shares_125 xc_180 (xin_of g8) (u' := (wr u12 180 v3.toNatClampNeg ((rd u12 180 v3.toNatClampNeg) - (1 : Int32)))) rfl ?_
          refine g_L (L' := [some (.ref 135), some (.int v1), some (.int v2), some (.int v3), none]) ⟨rfl, ⟨rfl, ⟨rfl, ⟨rfl, trivial⟩⟩⟩⟩ ?_
          exact G_X12_shares_126 hd hkd hk_X12_shares ih v1 v2 v3 (wr u12 180 v3.toNatClampNeg ((rd u12 180 v3.toNatClampNeg) - (1 : Int32))) h
        · replace h := (if_pos c9).symm.trans h
          refine g_goto (tgt := 126) (pc := 85) dX12_shares_85 (by decide) ?_
          refine g_L (L' := [some (.ref 135), some (.int v1), some (.int v2), some (.int v3), none]) ⟨rfl, ⟨rfl, ⟨rfl, ⟨rfl, trivial⟩⟩⟩⟩ ?_
          exact G_X12_shares_126 hd hkd hk_X12_shares ih v1 v2 v3 u h
set_option maxRecDepth 100000 in
set_option maxHeartbeats 4000000 in
theorem G_X12_shares_23 {sc : Nat × (Nat → Int32)} {d : Nat} (hd : 1 ≤ d) {u' : xS} {dk : Nat} (hkd : dk + 1 ≤ d) {k_X12_shares : Int32 → Int32 → xS → Option xS} (hk_X12_shares : ∀ (a1 a2 : Int32) (u u' : xS), k_X12_shares a1 a2 u = some u' → xMt sc mX12_shares dk 0 0 [.ref 135, .int a1, .int a2] (xL0, u) none (xL0, u')) : ∀ (n : Nat) (v3 : Int32) (u : xS), f_X12_shares_23 k_X12_shares n v3 u = some u' → xG sc mX12_shares d 0 0 (xR none (xL0, u') 0 0) 0 0 23 [some (.ref 135), none, none, some (.int v3), none] [] (xL0, u) := by
  intro n
  induction n with
  | zero =>
    intro v3 u h
    rw [f_X12_shares_23] at h
    cases h
  | succ n ih =>
    intro v3 u h
    rw [f_X12_shares_23] at h
    refine g_iload_n (pc := 23) dX12_shares_23 rfl ?_
    refine g_aload_n (pc := 24) dX12_shares_24 rfl ?_
    refine g_gI (pc := 25) dX12_shares_25 fI_RX12_420 xc_135 (v := (rd u 135 54)) rfl ?_
    refine g_icmp_ge (tgt := 49) (pc := 28) dX12_shares_28 (by decide) (fun c1 => ?_) (fun c1 => ?_)
    · replace h := (if_pos c1).symm.trans h
      cases h
      exact g_ret (pc := 49) dX12_shares_49 rfl rfl rfl (Nat.le_refl _) (Nat.le_refl _)
    · replace h := (if_neg c1).symm.trans h
      refine g_aload_n (pc := 31) dX12_shares_31 rfl ?_
      refine g_gR (pc := 32) dX12_shares_32 fR_RX12_144 xc_135 (v := 179) rfl ?_
      refine g_iload_n (pc := 35) dX12_shares_35 rfl ?_
      refine g_aload_n (pc := 36) dX12_shares_36 rfl ?_
      refine g_gR (pc := 37) dX12_shares_37 fR_RX12_141 xc_135 (v := 178) rfl ?_
      refine g_iload_n (pc := 40) dX12_shares_40 rfl ?_
      obtain ⟨g2, h⟩ := x_gd h
      refine g_iaload (pc := 41) dX12_shares_41 xc_178 (xin_of g2) (v := (rd u 178 v3.toNatClampNeg)) rfl ?_
      refine g_iastore (pc := 42) dX12_shares_42 xc_179 (xin_of g2) (u' := (wr u 179 v3.toNatClampNeg (rd u 178 v3.toNatClampNeg))) rfl ?_
      refine g_inc (pc := 43) dX12_shares_43 (Nat.le_of_ble_eq_true rfl) rfl ic_1 (L' := [some (.ref 135), none, none, some (.int (v3 + (1 : Int32))), none]) rfl ?_
      refine g_goto (tgt := 23) (pc := 46) dX12_shares_46 (by decide) ?_
      exact ih (v3 + (1 : Int32)) (wr u 179 v3.toNatClampNeg (rd u 178 v3.toNatClampNeg)) h
set_option maxRecDepth 100000 in
set_option maxHeartbeats 4000000 in
theorem G_X12_shares_0 {sc : Nat × (Nat → Int32)} {d : Nat} (hd : 1 ≤ d) {u' : xS} {dk : Nat} (hkd : dk + 1 ≤ d) {k_X12_shares : Int32 → Int32 → xS → Option xS} (hk_X12_shares : ∀ (a1 a2 : Int32) (u u' : xS), k_X12_shares a1 a2 u = some u' → xMt sc mX12_shares dk 0 0 [.ref 135, .int a1, .int a2] (xL0, u) none (xL0, u')) (v1 : Int32) (v2 : Int32) (u : xS) (h : f_X12_shares k_X12_shares v1 v2 u = some u') : xG sc mX12_shares d 0 0 (xR none (xL0, u') 0 0) 0 0 0 [some (.ref 135), some (.int v1), some (.int v2), none, none] [] (xL0, u) := by
  rw [f_X12_shares] at h
  refine g_iload_n (pc := 0) dX12_shares_0 rfl ?_
  refine g_aload_n (pc := 1) dX12_shares_1 rfl ?_
  refine g_gI (pc := 2) dX12_shares_2 fI_RX12_420 xc_135 (v := (rd u 135 54)) rfl ?_
  refine g_icmp_ne (tgt := 50) (pc := 5) dX12_shares_5 (by decide) (fun c1 => ?_) (fun c1 => ?_)
  · replace h := (if_neg c1).symm.trans h
    refine g_iconst (pc := 50) dX12_shares_50 ic_0 ?_
    refine g_istore_n (pc := 51) dX12_shares_51 (Nat.le_of_ble_eq_true rfl) (L' := [some (.ref 135), some (.int v1), some (.int v2), some (.int (0 : Int32)), none]) rfl ?_
    exact G_X12_shares_52 hd hkd hk_X12_shares xN v1 v2 (0 : Int32) u h
  · replace h := (if_pos c1).symm.trans h
    refine g_iload_n (pc := 8) dX12_shares_8 rfl ?_
    refine g_aload_n (pc := 9) dX12_shares_9 rfl ?_
    refine g_gI (pc := 10) dX12_shares_10 fI_RX12_426 xc_135 (v := (rd u 135 62)) rfl ?_
    refine g_icmp_le (tgt := 49) (pc := 13) dX12_shares_13 (by decide) (fun c2 => ?_) (fun c2 => ?_)
    · replace h := (if_pos c2).symm.trans h
      cases h
      exact g_ret (pc := 49) dX12_shares_49 rfl rfl rfl (Nat.le_refl _) (Nat.le_refl _)
    · replace h := (if_neg c2).symm.trans h
      refine g_aload_n (pc := 16) dX12_shares_16 rfl ?_
      refine g_iload_n (pc := 17) dX12_shares_17 rfl ?_
      refine g_pI (pc := 18) dX12_shares_18 pI_RX12_426 xc_135 (u' := (wr u 135 62 v2)) rfl ?_
      refine g_iconst (pc := 21) dX12_shares_21 ic_0 ?_
      refine g_istore_n (pc := 22) dX12_shares_22 (Nat.le_of_ble_eq_true rfl) (L' := [some (.ref 135), some (.int v1), some (.int v2), some (.int (0 : Int32)), none]) rfl ?_
      refine g_L (L' := [some (.ref 135), none, none, some (.int (0 : Int32)), none]) ⟨rfl, ⟨rfl, trivial⟩⟩ ?_
      exact G_X12_shares_23 hd hkd hk_X12_shares xN (0 : Int32) (wr u 135 62 v2) h
set_option maxRecDepth 100000 in
set_option maxHeartbeats 4000000 in
theorem M_X12_shares {sc : Nat × (Nat → Int32)} {d : Nat} (hd : 1 ≤ d) {u u' : xS} {dk : Nat} (hkd : dk + 1 ≤ d) {k_X12_shares : Int32 → Int32 → xS → Option xS} (hk_X12_shares : ∀ (a1 a2 : Int32) (u u' : xS), k_X12_shares a1 a2 u = some u' → xMt sc mX12_shares dk 0 0 [.ref 135, .int a1, .int a2] (xL0, u) none (xL0, u')) {a1 : Int32} {a2 : Int32} (h : f_X12_shares k_X12_shares a1 a2 u = some u') : xMt sc mX12_shares d 0 0 [.ref 135, .int a1, .int a2] (xL0, u) none (xL0, u') :=
  xMt.of (by decide +kernel) (Nat.le_of_ble_eq_true rfl) (L := [some (.ref 135), some (.int a1), some (.int a2), none, none]) rfl ((G_X12_shares_0 hd hkd hk_X12_shares a1 a2 u h))
theorem Mr_shares {sc : Nat × (Nat → Int32)} : ∀ n : Nat, ∀ (a1 a2 : Int32) (u u' : xS), (fr_shares n) a1 a2 u = some u' → xMt sc mX12_shares (n + 1) 0 0 [.ref 135, .int a1, .int a2] (xL0, u) none (xL0, u') := by
  intro n
  induction n with
  | zero =>
    intro a1 a2 u u' h
    cases h
  | succ n ih =>
    intro a1 a2 u u' h
    exact M_X12_shares (dk := n + 1) (by omega) (by omega) ih h
set_option maxRecDepth 100000 in
set_option maxHeartbeats 4000000 in
theorem M_r_X12_shares {sc : Nat × (Nat → Int32)} {d : Nat} (hd : 13 ≤ d) {u u' : xS} {a1 a2 : Int32} (h : f_r_X12_shares a1 a2 u = some u') : xMt sc mX12_shares 13 0 0 [.ref 135, .int a1, .int a2] (xL0, u) none (xL0, u') := Mr_shares 12 _ _ _ _  h
set_option maxRecDepth 100000 in
set_option maxHeartbeats 4000000 in
theorem G_X12_share_23 {sc : Nat × (Nat → Int32)} {d : Nat} (hd : 14 ≤ d) {r : Int32} {u' : xS} : ∀ (n : Nat) (v1 : Int32) (u : xS), f_X12_share_23 n v1 u = some (r, u') → xG sc mX12_share d 0 0 (xR (some (.int r)) (xL0, u') 0 0) 0 0 23 [some (.ref 135), some (.int v1)] [] (xL0, u) := by
  intro n
  induction n with
  | zero =>
    intro v1 u h
    rw [f_X12_share_23] at h
    cases h
  | succ n ih =>
    intro v1 u h
    rw [f_X12_share_23] at h
    refine g_iload_n (pc := 23) dX12_share_23 rfl ?_
    refine g_aload_n (pc := 24) dX12_share_24 rfl ?_
    refine g_gI (pc := 25) dX12_share_25 fI_RX12_420 xc_135 (v := (rd u 135 54)) rfl ?_
    refine g_icmp_ge (tgt := 47) (pc := 28) dX12_share_28 (by decide) (fun c1 => ?_) (fun c1 => ?_)
    · replace h := (if_pos c1).symm.trans h
      refine g_aload_n (pc := 47) dX12_share_47 rfl ?_
      refine g_gI (pc := 48) dX12_share_48 fI_RX12_426 xc_135 (v := (rd u 135 62)) rfl ?_
      cases h
      exact g_iret (pc := 51) dX12_share_51 rfl rfl rfl (Nat.le_refl _) (Nat.le_refl _)
    · replace h := (if_neg c1).symm.trans h
      refine g_aload_n (pc := 31) dX12_share_31 rfl ?_
      refine g_aload_n (pc := 32) dX12_share_32 rfl ?_
      refine g_gR (pc := 33) dX12_share_33 fR_RX12_144 xc_135 (v := 179) rfl ?_
      refine g_iload_n (pc := 36) dX12_share_36 rfl ?_
      obtain ⟨g2, h⟩ := x_gd h
      refine g_iaload (pc := 37) dX12_share_37 xc_179 (xin_of g2) (v := (rd u 179 v1.toNatClampNeg)) rfl ?_
      obtain ⟨u4, e3, h⟩ := x_bind h
      refine g_cV (pc := 38) dX12_share_38 cV_RX12_394 (M_X12_enters (Nat.le_refl _) e3) xc_135 (as := [.int (rd u 179 v1.toNatClampNeg)]) (st := []) rfl rfl (Nat.le_of_ble_eq_true rfl) (Nat.le_trans (Nat.le_of_ble_eq_true rfl) hd) rfl ?_
      refine g_inc (pc := 41) dX12_share_41 (Nat.le_of_ble_eq_true rfl) rfl ic_1 (L' := [some (.ref 135), some (.int (v1 + (1 : Int32)))]) rfl ?_
      refine g_goto (tgt := 23) (pc := 44) dX12_share_44 (by decide) ?_
      exact ih (v1 + (1 : Int32)) u4 h
set_option maxRecDepth 100000 in
set_option maxHeartbeats 4000000 in
theorem G_X12_share_0 {sc : Nat × (Nat → Int32)} {d : Nat} (hd : 14 ≤ d) {r : Int32} {u' : xS} (u : xS) (h : f_X12_share u = some (r, u')) : xG sc mX12_share d 0 0 (xR (some (.int r)) (xL0, u') 0 0) 0 0 0 [some (.ref 135), none] [] (xL0, u) := by
  rw [f_X12_share] at h
  refine g_aload_n (pc := 0) dX12_share_0 rfl ?_
  refine g_iconst (pc := 1) dX12_share_1 ic_0 ?_
  refine g_pI (pc := 2) dX12_share_2 pI_RX12_150 xc_135 (u' := (wr u 135 0 (0 : Int32))) rfl ?_
  refine g_aload_n (pc := 5) dX12_share_5 rfl ?_
  refine g_iconst (pc := 6) dX12_share_6 ic_m1 ?_
  refine g_pI (pc := 7) dX12_share_7 pI_RX12_426 xc_135 (u' := (wr (wr u 135 0 (0 : Int32)) 135 62 (-1 : Int32))) rfl ?_
  refine g_aload_n (pc := 10) dX12_share_10 rfl ?_
  refine g_iconst (pc := 11) dX12_share_11 ic_0 ?_
  refine g_iconst (pc := 12) dX12_share_12 ic_0 ?_
  obtain ⟨u2, e1, h⟩ := x_bind h
  refine g_cV (pc := 13) dX12_share_13 cV_RX12_429 (M_r_X12_shares (Nat.le_refl _) e1) xc_135 (as := [.int (0 : Int32), .int (0 : Int32)]) (st := []) rfl rfl (Nat.le_of_ble_eq_true rfl) (Nat.le_trans (Nat.le_of_ble_eq_true rfl) hd) rfl ?_
  refine g_aload_n (pc := 16) dX12_share_16 rfl ?_
  refine g_iconst (pc := 17) dX12_share_17 ic_0 ?_
  refine g_pI (pc := 18) dX12_share_18 pI_RX12_388 xc_135 (u' := (wr u2 135 43 (0 : Int32))) rfl ?_
  refine g_iconst (pc := 21) dX12_share_21 ic_0 ?_
  refine g_istore_n (pc := 22) dX12_share_22 (Nat.le_of_ble_eq_true rfl) (L' := [some (.ref 135), some (.int (0 : Int32))]) rfl ?_
  exact G_X12_share_23 hd xN (0 : Int32) (wr u2 135 43 (0 : Int32)) h
set_option maxRecDepth 100000 in
set_option maxHeartbeats 4000000 in
theorem M_X12_share {sc : Nat × (Nat → Int32)} {d : Nat} (hd : 14 ≤ d) {r : Int32} {u u' : xS} (h : f_X12_share u = some (r, u')) : xMt sc mX12_share d 0 0 [.ref 135] (xL0, u) (some (.int r)) (xL0, u') :=
  xMt.of (by decide +kernel) (Nat.le_of_ble_eq_true rfl) (L := [some (.ref 135), none]) rfl ((G_X12_share_0 hd u h))
set_option maxRecDepth 100000 in
set_option maxHeartbeats 4000000 in
theorem G_X12_sign_18 {sc : Nat × (Nat → Int32)} {d : Nat} (hd : 0 ≤ d) {r : Int32} {u' : xS} : ∀ (n : Nat) (v1 : Int32) (v2 : Int32) (u : xS), f_X12_sign_18 n v1 v2 u = some (r, u') → xG sc mX12_sign d 0 0 (xR (some (.int r)) (xL0, u') 0 0) 0 0 18 [some (.ref 135), some (.int v1), some (.int v2)] [] (xL0, u) := by
  intro n
  induction n with
  | zero =>
    intro v1 v2 u h
    rw [f_X12_sign_18] at h
    cases h
  | succ n ih =>
    intro v1 v2 u h
    rw [f_X12_sign_18] at h
    refine g_iload_n (pc := 18) dX12_sign_18 rfl ?_
    refine g_iconst (pc := 19) dX12_sign_19 ic_4 ?_
    refine g_icmp_ge (tgt := 53) (pc := 20) dX12_sign_20 (by decide) (fun c1 => ?_) (fun c1 => ?_)
    · replace h := (if_pos c1).symm.trans h
      refine g_aload_n (pc := 53) dX12_sign_53 rfl ?_
      refine g_dup (pc := 54) dX12_sign_54 rfl ?_
      refine g_gI (pc := 55) dX12_sign_55 fI_RX12_256 xc_135 (v := (rd u 135 32)) rfl ?_
      refine g_iconst (pc := 58) dX12_sign_58 ic_4 ?_
      refine g_iadd (pc := 59) dX12_sign_59 rfl ?_
      refine g_pI (pc := 60) dX12_sign_60 pI_RX12_256 xc_135 (u' := (wr u 135 32 ((rd u 135 32) + (4 : Int32)))) rfl ?_
      refine g_aload_n (pc := 63) dX12_sign_63 rfl ?_
      refine g_gI (pc := 64) dX12_sign_64 fI_RX12_256 xc_135 (v := ((rd u 135 32) + (4 : Int32))) rfl ?_
      cases h
      exact g_iret (pc := 67) dX12_sign_67 rfl rfl rfl (Nat.le_refl _) (Nat.le_refl _)
    · replace h := (if_neg c1).symm.trans h
      refine g_aload_n (pc := 23) dX12_sign_23 rfl ?_
      refine g_gR (pc := 24) dX12_sign_24 fR_RX12_84 xc_135 (v := 159) rfl ?_
      refine g_aload_n (pc := 27) dX12_sign_27 rfl ?_
      refine g_gI (pc := 28) dX12_sign_28 fI_RX12_256 xc_135 (v := (rd u 135 32)) rfl ?_
      refine g_iload_n (pc := 31) dX12_sign_31 rfl ?_
      refine g_iadd (pc := 32) dX12_sign_32 rfl ?_
      refine g_iload_n (pc := 33) dX12_sign_33 rfl ?_
      refine g_bipush (pc := 34) dX12_sign_34 bp_24 ?_
      refine g_bipush (pc := 36) dX12_sign_36 bp_8 ?_
      refine g_iload_n (pc := 38) dX12_sign_38 rfl ?_
      refine g_imul (pc := 39) dX12_sign_39 rfl ?_
      refine g_isub (pc := 40) dX12_sign_40 rfl ?_
      refine g_ishr (pc := 41) dX12_sign_41 rfl ?_
      refine g_sipush (pc := 42) dX12_sign_42 sp_255 ?_
      refine g_iand (pc := 45) dX12_sign_45 rfl ?_
      obtain ⟨g2, h⟩ := x_gd h
      refine g_iastore (pc := 46) dX12_sign_46 xc_159 (xin_of g2) (u' := (wr u 159 ((rd u 135 32) + v2).toNatClampNeg ((v1 >>> (((24 : Int32) - ((8 : Int32) * v2)) &&& 31)) &&& (255 : Int32)))) rfl ?_
      refine g_inc (pc := 47) dX12_sign_47 (Nat.le_of_ble_eq_true rfl) rfl ic_1 (L' := [some (.ref 135), some (.int v1), some (.int (v2 + (1 : Int32)))]) rfl ?_
      refine g_goto (tgt := 18) (pc := 50) dX12_sign_50 (by decide) ?_
      exact ih v1 (v2 + (1 : Int32)) (wr u 159 ((rd u 135 32) + v2).toNatClampNeg ((v1 >>> (((24 : Int32) - ((8 : Int32) * v2)) &&& 31)) &&& (255 : Int32))) h
set_option maxRecDepth 100000 in
set_option maxHeartbeats 4000000 in
theorem G_X12_sign_0 {sc : Nat × (Nat → Int32)} {d : Nat} (hd : 0 ≤ d) {r : Int32} {u' : xS} (v1 : Int32) (u : xS) (h : f_X12_sign v1 u = some (r, u')) : xG sc mX12_sign d 0 0 (xR (some (.int r)) (xL0, u') 0 0) 0 0 0 [some (.ref 135), some (.int v1), none] [] (xL0, u) := by
  rw [f_X12_sign] at h
  refine g_aload_n (pc := 0) dX12_sign_0 rfl ?_
  refine g_iconst (pc := 1) dX12_sign_1 ic_0 ?_
  refine g_pI (pc := 2) dX12_sign_2 pI_RX12_150 xc_135 (u' := (wr u 135 0 (0 : Int32))) rfl ?_
  refine g_aload_n (pc := 5) dX12_sign_5 rfl ?_
  refine g_gI (pc := 6) dX12_sign_6 fI_RX12_256 xc_135 (v := (rd u 135 32)) rfl ?_
  refine g_bipush (pc := 9) dX12_sign_9 bp_96 ?_
  refine g_icmp_le (tgt := 16) (pc := 11) dX12_sign_11 (by decide) (fun c1 => ?_) (fun c1 => ?_)
  · replace h := (if_pos c1).symm.trans h
    refine g_iconst (pc := 16) dX12_sign_16 ic_0 ?_
    refine g_istore_n (pc := 17) dX12_sign_17 (Nat.le_of_ble_eq_true rfl) (L' := [some (.ref 135), some (.int v1), some (.int (0 : Int32))]) rfl ?_
    exact G_X12_sign_18 hd xN v1 (0 : Int32) (wr u 135 0 (0 : Int32)) h
  · replace h := (if_neg c1).symm.trans h
    refine g_iconst (pc := 14) dX12_sign_14 ic_m1 ?_
    cases h
    exact g_iret (pc := 15) dX12_sign_15 rfl rfl rfl (Nat.le_refl _) (Nat.le_refl _)
set_option maxRecDepth 100000 in
set_option maxHeartbeats 4000000 in
theorem M_X12_sign {sc : Nat × (Nat → Int32)} {d : Nat} (hd : 0 ≤ d) {r : Int32} {u u' : xS} {a1 : Int32} (h : f_X12_sign a1 u = some (r, u')) : xMt sc mX12_sign d 0 0 [.ref 135, .int a1] (xL0, u) (some (.int r)) (xL0, u') :=
  xMt.of (by decide +kernel) (Nat.le_of_ble_eq_true rfl) (L := [some (.ref 135), some (.int a1), none]) rfl ((G_X12_sign_0 hd a1 u h))
set_option maxRecDepth 100000 in
set_option maxHeartbeats 4000000 in
theorem G_X12_sort_109 {sc : Nat × (Nat → Int32)} {d : Nat} (hd : 2 ≤ d) {r : Int32} {u' : xS} (v1 : Int32) (v2 : Int32) (v3 : Int32) (v4 : Int32) (v5 : Int32) (v6 : Int32) (v7 : Int32) (u : xS) (h : f_X12_sort_109 v1 v2 v3 v4 v5 v6 v7 u = some (r, u')) : xG sc mX12_sort d 0 0 (xR (some (.int r)) (xL0, u') 0 0) 0 0 109 [some (.ref 135), some (.int v1), some (.int v2), some (.int v3), some (.int v4), some (.int v5), some (.int v6), some (.int v7), none, none] [] (xL0, u) := by
  rw [f_X12_sort_109] at h
  refine g_aload_n (pc := 109) dX12_sort_109 rfl ?_
  refine g_gI (pc := 110) dX12_sort_110 fI_RX12_153 xc_135 (v := (rd u 135 1)) rfl ?_
  refine g_bipush (pc := 113) dX12_sort_113 bp_16 ?_
  refine g_icmp_ne (tgt := 120) (pc := 115) dX12_sort_115 (by decide) (fun c1 => ?_) (fun c1 => ?_)
  · replace h := (if_neg c1).symm.trans h
    refine g_bipush (pc := 120) dX12_sort_120 bp_7 ?_
    refine g_aload_n (pc := 122) dX12_sort_122 rfl ?_
    refine g_gI (pc := 123) dX12_sort_123 fI_RX12_153 xc_135 (v := (rd u 135 1)) rfl ?_
    refine g_imul (pc := 126) dX12_sort_126 rfl ?_
    refine g_istore (pc := 127) dX12_sort_127 (Nat.le_of_ble_eq_true rfl) (L' := [some (.ref 135), some (.int v1), some (.int v2), some (.int v3), some (.int v4), some (.int v5), some (.int v6), some (.int v7), none, some (.int ((7 : Int32) * (rd u 135 1)))]) rfl ?_
    refine g_aload_n (pc := 129) dX12_sort_129 rfl ?_
    refine g_gR (pc := 130) dX12_sort_130 fR_RX12_9 xc_135 (v := 136) rfl ?_
    refine g_iload (pc := 133) dX12_sort_133 rfl ?_
    refine g_iload_n (pc := 135) dX12_sort_135 rfl ?_
    obtain ⟨g2, h⟩ := x_gd h
    refine g_iastore (pc := 136) dX12_sort_136 xc_136 (xin_of g2) (u' := (wr u 136 ((7 : Int32) * (rd u 135 1)).toNatClampNeg v1)) rfl ?_
    refine g_aload_n (pc := 137) dX12_sort_137 rfl ?_
    refine g_gR (pc := 138) dX12_sort_138 fR_RX12_9 xc_135 (v := 136) rfl ?_
    refine g_iload (pc := 141) dX12_sort_141 rfl ?_
    refine g_iconst (pc := 143) dX12_sort_143 ic_1 ?_
    refine g_iadd (pc := 144) dX12_sort_144 rfl ?_
    refine g_iload_n (pc := 145) dX12_sort_145 rfl ?_
    obtain ⟨g3, h⟩ := x_gd h
    refine g_iastore (pc := 146) dX12_sort_146 xc_136 (xin_of g3) (u' := (wr (wr u 136 ((7 : Int32) * (rd u 135 1)).toNatClampNeg v1) 136 (((7 : Int32) * (rd u 135 1)) + (1 : Int32)).toNatClampNeg v2)) rfl ?_
    refine g_aload_n (pc := 147) dX12_sort_147 rfl ?_
    refine g_gR (pc := 148) dX12_sort_148 fR_RX12_9 xc_135 (v := 136) rfl ?_
    refine g_iload (pc := 151) dX12_sort_151 rfl ?_
    refine g_iconst (pc := 153) dX12_sort_153 ic_2 ?_
    refine g_iadd (pc := 154) dX12_sort_154 rfl ?_
    refine g_iload_n (pc := 155) dX12_sort_155 rfl ?_
    obtain ⟨g4, h⟩ := x_gd h
    refine g_iastore (pc := 156) dX12_sort_156 xc_136 (xin_of g4) (u' := (wr (wr (wr u 136 ((7 : Int32) * (rd u 135 1)).toNatClampNeg v1) 136 (((7 : Int32) * (rd u 135 1)) + (1 : Int32)).toNatClampNeg v2) 136 (((7 : Int32) * (rd u 135 1)) + (2 : Int32)).toNatClampNeg v3)) rfl ?_
    refine g_aload_n (pc := 157) dX12_sort_157 rfl ?_
    refine g_gR (pc := 158) dX12_sort_158 fR_RX12_9 xc_135 (v := 136) rfl ?_
    refine g_iload (pc := 161) dX12_sort_161 rfl ?_
    refine g_iconst (pc := 163) dX12_sort_163 ic_3 ?_
    refine g_iadd (pc := 164) dX12_sort_164 rfl ?_
    refine g_iload (pc := 165) dX12_sort_165 rfl ?_
    obtain ⟨g5, h⟩ := x_gd h
    refine g_iastore (pc := 167) dX12_sort_167 xc_136 (xin_of g5) (u' := (wr (wr (wr (wr u 136 ((7 : Int32) * (rd u 135 1)).toNatClampNeg v1) 136 (((7 : Int32) * (rd u 135 1)) + (1 : Int32)).toNatClampNeg v2) 136 (((7 : Int32) * (rd u 135 1)) + (2 : Int32)).toNatClampNeg v3) 136 (((7 : Int32) * (rd u 135 1)) + (3 : Int32)).toNatClampNeg v4)) rfl ?_
    refine g_aload_n (pc := 168) dX12_sort_168 rfl ?_
    refine g_gR (pc := 169) dX12_sort_169 fR_RX12_9 xc_135 (v := 136) rfl ?_
    refine g_iload (pc := 172) dX12_sort_172 rfl ?_
    refine g_iconst (pc := 174) dX12_sort_174 ic_4 ?_
    refine g_iadd (pc := 175) dX12_sort_175 rfl ?_
    refine g_iload (pc := 176) dX12_sort_176 rfl ?_
    obtain ⟨g6, h⟩ := x_gd h
    refine g_iastore (pc := 178) dX12_sort_178 xc_136 (xin_of g6) (u' := (wr (wr (wr (wr (wr u 136 ((7 : Int32) * (rd u 135 1)).toNatClampNeg v1) 136 (((7 : Int32) * (rd u 135 1)) + (1 : Int32)).toNatClampNeg v2) 136 (((7 : Int32) * (rd u 135 1)) + (2 : Int32)).toNatClampNeg v3) 136 (((7 : Int32) * (rd u 135 1)) + (3 : Int32)).toNatClampNeg v4) 136 (((7 : Int32) * (rd u 135 1)) + (4 : Int32)).toNatClampNeg v5)) rfl ?_
    refine g_aload_n (pc := 179) dX12_sort_179 rfl ?_
    refine g_gR (pc := 180) dX12_sort_180 fR_RX12_9 xc_135 (v := 136) rfl ?_
    refine g_iload (pc := 183) dX12_sort_183 rfl ?_
    refine g_iconst (pc := 185) dX12_sort_185 ic_5 ?_
    refine g_iadd (pc := 186) dX12_sort_186 rfl ?_
    refine g_iload (pc := 187) dX12_sort_187 rfl ?_
    obtain ⟨g7, h⟩ := x_gd h
    refine g_iastore (pc := 189) dX12_sort_189 xc_136 (xin_of g7) (u' := (wr (wr (wr (wr (wr (wr u 136 ((7 : Int32) * (rd u 135 1)).toNatClampNeg v1) 136 (((7 : Int32) * (rd u 135 1)) + (1 : Int32)).toNatClampNeg v2) 136 (((7 : Int32) * (rd u 135 1)) + (2 : Int32)).toNatClampNeg v3) 136 (((7 : Int32) * (rd u 135 1)) + (3 : Int32)).toNatClampNeg v4) 136 (((7 : Int32) * (rd u 135 1)) + (4 : Int32)).toNatClampNeg v5) 136 (((7 : Int32) * (rd u 135 1)) + (5 : Int32)).toNatClampNeg v6)) rfl ?_
    refine g_aload_n (pc := 190) dX12_sort_190 rfl ?_
    refine g_gR (pc := 191) dX12_sort_191 fR_RX12_9 xc_135 (v := 136) rfl ?_
    refine g_iload (pc := 194) dX12_sort_194 rfl ?_
    refine g_bipush (pc := 196) dX12_sort_196 bp_6 ?_
    refine g_iadd (pc := 198) dX12_sort_198 rfl ?_
    refine g_iload (pc := 199) dX12_sort_199 rfl ?_
    obtain ⟨g8, h⟩ := x_gd h
    refine g_iastore (pc := 201) dX12_sort_201 xc_136 (xin_of g8) (u' := (wr (wr (wr (wr (wr (wr (wr u 136 ((7 : Int32) * (rd u 135 1)).toNatClampNeg v1) 136 (((7 : Int32) * (rd u 135 1)) + (1 : Int32)).toNatClampNeg v2) 136 (((7 : Int32) * (rd u 135 1)) + (2 : Int32)).toNatClampNeg v3) 136 (((7 : Int32) * (rd u 135 1)) + (3 : Int32)).toNatClampNeg v4) 136 (((7 : Int32) * (rd u 135 1)) + (4 : Int32)).toNatClampNeg v5) 136 (((7 : Int32) * (rd u 135 1)) + (5 : Int32)).toNatClampNeg v6) 136 (((7 : Int32) * (rd u 135 1)) + (6 : Int32)).toNatClampNeg v7)) rfl ?_
    refine g_aload_n (pc := 202) dX12_sort_202 rfl ?_
    refine g_dup (pc := 203) dX12_sort_203 rfl ?_
    refine g_gI (pc := 204) dX12_sort_204 fI_RX12_153 xc_135 (v := (rd u 135 1)) rfl ?_
    refine g_iconst (pc := 207) dX12_sort_207 ic_1 ?_
    refine g_iadd (pc := 208) dX12_sort_208 rfl ?_
    refine g_pI (pc := 209) dX12_sort_209 pI_RX12_153 xc_135 (u' := (wr (wr (wr (wr (wr (wr (wr (wr u 136 ((7 : Int32) * (rd u 135 1)).toNatClampNeg v1) 136 (((7 : Int32) * (rd u 135 1)) + (1 : Int32)).toNatClampNeg v2) 136 (((7 : Int32) * (rd u 135 1)) + (2 : Int32)).toNatClampNeg v3) 136 (((7 : Int32) * (rd u 135 1)) + (3 : Int32)).toNatClampNeg v4) 136 (((7 : Int32) * (rd u 135 1)) + (4 : Int32)).toNatClampNeg v5) 136 (((7 : Int32) * (rd u 135 1)) + (5 : Int32)).toNatClampNeg v6) 136 (((7 : Int32) * (rd u 135 1)) + (6 : Int32)).toNatClampNeg v7) 135 1 ((rd u 135 1) + (1 : Int32)))) rfl ?_
    refine g_aload_n (pc := 212) dX12_sort_212 rfl ?_
    refine g_gI (pc := 213) dX12_sort_213 fI_RX12_153 xc_135 (v := ((rd u 135 1) + (1 : Int32))) rfl ?_
    refine g_iconst (pc := 216) dX12_sort_216 ic_1 ?_
    refine g_isub (pc := 217) dX12_sort_217 rfl ?_
    cases h
    exact g_iret (pc := 218) dX12_sort_218 rfl rfl rfl (Nat.le_refl _) (Nat.le_refl _)
  · replace h := (if_pos c1).symm.trans h
    refine g_iconst (pc := 118) dX12_sort_118 ic_m1 ?_
    cases h
    exact g_iret (pc := 119) dX12_sort_119 rfl rfl rfl (Nat.le_refl _) (Nat.le_refl _)
set_option maxRecDepth 100000 in
set_option maxHeartbeats 4000000 in
theorem G_X12_sort_87 {sc : Nat × (Nat → Int32)} {d : Nat} (hd : 2 ≤ d) {r : Int32} {u' : xS} (v1 : Int32) (v2 : Int32) (v3 : Int32) (v4 : Int32) (v5 : Int32) (v6 : Int32) (v7 : Int32) (s0 : Int32) (u : xS) (h : f_X12_sort_87 v1 v2 v3 v4 v5 v6 v7 s0 u = some (r, u')) : xG sc mX12_sort d 0 0 (xR (some (.int r)) (xL0, u') 0 0) 0 0 87 [some (.ref 135), some (.int v1), some (.int v2), some (.int v3), some (.int v4), some (.int v5), some (.int v6), some (.int v7), none, none] [.int s0] (xL0, u) := by
  rw [f_X12_sort_87] at h
  refine g_istore (pc := 87) dX12_sort_87 (Nat.le_of_ble_eq_true rfl) (L' := [some (.ref 135), some (.int v1), some (.int v2), some (.int v3), some (.int v4), some (.int v5), some (.int v6), some (.int v7), some (.int s0), none]) rfl ?_
  refine g_iload (pc := 89) dX12_sort_89 rfl ?_
  refine g_if_eq (tgt := 118) (pc := 91) dX12_sort_91 (by decide) (fun c1 => ?_) (fun c1 => ?_)
  · replace h := (if_pos c1).symm.trans h
    refine g_iconst (pc := 118) dX12_sort_118 ic_m1 ?_
    cases h
    exact g_iret (pc := 119) dX12_sort_119 rfl rfl rfl (Nat.le_refl _) (Nat.le_refl _)
  · replace h := (if_neg c1).symm.trans h
    refine g_iload (pc := 94) dX12_sort_94 rfl ?_
    refine g_iconst (pc := 96) dX12_sort_96 ic_m1 ?_
    refine g_icmp_eq (tgt := 109) (pc := 97) dX12_sort_97 (by decide) (fun c2 => ?_) (fun c2 => ?_)
    · replace h := (if_pos c2).symm.trans h
      refine g_L (L' := [some (.ref 135), some (.int v1), some (.int v2), some (.int v3), some (.int v4), some (.int v5), some (.int v6), some (.int v7), none, none]) ⟨rfl, ⟨rfl, ⟨rfl, ⟨rfl, ⟨rfl, ⟨rfl, ⟨rfl, ⟨rfl, trivial⟩⟩⟩⟩⟩⟩⟩⟩ ?_
      exact G_X12_sort_109 hd v1 v2 v3 v4 v5 v6 v7 u h
    · replace h := (if_neg c2).symm.trans h
      refine g_aload_n (pc := 100) dX12_sort_100 rfl ?_
      refine g_iload (pc := 101) dX12_sort_101 rfl ?_
      refine g_cV (pc := 103) dX12_sort_103 cV_RX12_166 (M_X12_isSort (Nat.le_refl _) rfl) xc_135 (as := [.int v7]) (st := []) rfl rfl (Nat.le_of_ble_eq_true rfl) (Nat.le_trans (Nat.le_of_ble_eq_true rfl) hd) rfl ?_
      refine g_if_eq (tgt := 118) (pc := 106) dX12_sort_106 (by decide) (fun c3 => ?_) (fun c3 => ?_)
      · replace h := (if_pos c3).symm.trans h
        refine g_iconst (pc := 118) dX12_sort_118 ic_m1 ?_
        cases h
        exact g_iret (pc := 119) dX12_sort_119 rfl rfl rfl (Nat.le_refl _) (Nat.le_refl _)
      · replace h := (if_neg c3).symm.trans h
        refine g_L (L' := [some (.ref 135), some (.int v1), some (.int v2), some (.int v3), some (.int v4), some (.int v5), some (.int v6), some (.int v7), none, none]) ⟨rfl, ⟨rfl, ⟨rfl, ⟨rfl, ⟨rfl, ⟨rfl, ⟨rfl, ⟨rfl, trivial⟩⟩⟩⟩⟩⟩⟩⟩ ?_
        exact G_X12_sort_109 hd v1 v2 v3 v4 v5 v6 v7 u h
set_option maxRecDepth 100000 in
set_option maxHeartbeats 4000000 in
theorem G_X12_sort_86 {sc : Nat × (Nat → Int32)} {d : Nat} (hd : 2 ≤ d) {r : Int32} {u' : xS} (v1 : Int32) (v2 : Int32) (v3 : Int32) (v4 : Int32) (v5 : Int32) (v6 : Int32) (v7 : Int32) (u : xS) (h : f_X12_sort_86 v1 v2 v3 v4 v5 v6 v7 u = some (r, u')) : xG sc mX12_sort d 0 0 (xR (some (.int r)) (xL0, u') 0 0) 0 0 86 [some (.ref 135), some (.int v1), some (.int v2), some (.int v3), some (.int v4), some (.int v5), some (.int v6), some (.int v7), none, none] [] (xL0, u) := by
  rw [f_X12_sort_86] at h
  refine g_iconst (pc := 86) dX12_sort_86 ic_0 ?_
  exact G_X12_sort_87 hd v1 v2 v3 v4 v5 v6 v7 (0 : Int32) u h
set_option maxRecDepth 100000 in
set_option maxHeartbeats 4000000 in
theorem G_X12_sort_0 {sc : Nat × (Nat → Int32)} {d : Nat} (hd : 2 ≤ d) {r : Int32} {u' : xS} (v1 : Int32) (v2 : Int32) (v3 : Int32) (v4 : Int32) (v5 : Int32) (v6 : Int32) (v7 : Int32) (u : xS) (h : f_X12_sort v1 v2 v3 v4 v5 v6 v7 u = some (r, u')) : xG sc mX12_sort d 0 0 (xR (some (.int r)) (xL0, u') 0 0) 0 0 0 [some (.ref 135), some (.int v1), some (.int v2), some (.int v3), some (.int v4), some (.int v5), some (.int v6), some (.int v7), none, none] [] (xL0, u) := by
  rw [f_X12_sort] at h
  refine g_aload_n (pc := 0) dX12_sort_0 rfl ?_
  refine g_iconst (pc := 1) dX12_sort_1 ic_0 ?_
  refine g_pI (pc := 2) dX12_sort_2 pI_RX12_150 xc_135 (u' := (wr u 135 0 (0 : Int32))) rfl ?_
  refine g_iload_n (pc := 5) dX12_sort_5 rfl ?_
  refine g_i2l (pc := 6) dX12_sort_6 rfl ?_
  refine g_lconst (v := (0 : Int64)) (pc := 7) dX12_sort_7 rfl ?_
  refine g_ldc2 (pc := 8) dX12_sort_8 kl_RX12_162 ?_
  refine g_cS (pc := 11) dX12_sort_11 cS_RX12_156 (M_X12_in (Nat.le_refl _) rfl) (as := [.long ((v1).toInt64), .long (0 : Int64), .long (255 : Int64)]) (st := []) rfl rfl (Nat.le_of_ble_eq_true rfl) (Nat.le_trans (Nat.le_of_ble_eq_true rfl) hd) rfl ?_
  refine g_if_eq (tgt := 86) (pc := 14) dX12_sort_14 (by decide) (fun c1 => ?_) (fun c1 => ?_)
  · replace h := (if_pos c1).symm.trans h
    exact G_X12_sort_86 hd v1 v2 v3 v4 v5 v6 v7 (wr u 135 0 (0 : Int32)) h
  · replace h := (if_neg c1).symm.trans h
    refine g_iload_n (pc := 17) dX12_sort_17 rfl ?_
    refine g_i2l (pc := 18) dX12_sort_18 rfl ?_
    refine g_lconst (v := (0 : Int64)) (pc := 19) dX12_sort_19 rfl ?_
    refine g_ldc2 (pc := 20) dX12_sort_20 kl_RX12_162 ?_
    refine g_cS (pc := 23) dX12_sort_23 cS_RX12_156 (M_X12_in (Nat.le_refl _) rfl) (as := [.long ((v2).toInt64), .long (0 : Int64), .long (255 : Int64)]) (st := []) rfl rfl (Nat.le_of_ble_eq_true rfl) (Nat.le_trans (Nat.le_of_ble_eq_true rfl) hd) rfl ?_
    refine g_if_eq (tgt := 86) (pc := 26) dX12_sort_26 (by decide) (fun c2 => ?_) (fun c2 => ?_)
    · replace h := (if_pos c2).symm.trans h
      exact G_X12_sort_86 hd v1 v2 v3 v4 v5 v6 v7 (wr u 135 0 (0 : Int32)) h
    · replace h := (if_neg c2).symm.trans h
      refine g_iload_n (pc := 29) dX12_sort_29 rfl ?_
      refine g_i2l (pc := 30) dX12_sort_30 rfl ?_
      refine g_lconst (v := (0 : Int64)) (pc := 31) dX12_sort_31 rfl ?_
      refine g_ldc2 (pc := 32) dX12_sort_32 kl_RX12_162 ?_
      refine g_cS (pc := 35) dX12_sort_35 cS_RX12_156 (M_X12_in (Nat.le_refl _) rfl) (as := [.long ((v3).toInt64), .long (0 : Int64), .long (255 : Int64)]) (st := []) rfl rfl (Nat.le_of_ble_eq_true rfl) (Nat.le_trans (Nat.le_of_ble_eq_true rfl) hd) rfl ?_
      refine g_if_eq (tgt := 86) (pc := 38) dX12_sort_38 (by decide) (fun c3 => ?_) (fun c3 => ?_)
      · replace h := (if_pos c3).symm.trans h
        exact G_X12_sort_86 hd v1 v2 v3 v4 v5 v6 v7 (wr u 135 0 (0 : Int32)) h
      · replace h := (if_neg c3).symm.trans h
        refine g_iload (pc := 41) dX12_sort_41 rfl ?_
        refine g_i2l (pc := 43) dX12_sort_43 rfl ?_
        refine g_lconst (v := (1 : Int64)) (pc := 44) dX12_sort_44 rfl ?_
        refine g_ldc2 (pc := 45) dX12_sort_45 kl_RX12_160 ?_
        refine g_cS (pc := 48) dX12_sort_48 cS_RX12_156 (M_X12_in (Nat.le_refl _) rfl) (as := [.long ((v4).toInt64), .long (1 : Int64), .long (99 : Int64)]) (st := []) rfl rfl (Nat.le_of_ble_eq_true rfl) (Nat.le_trans (Nat.le_of_ble_eq_true rfl) hd) rfl ?_
        refine g_if_eq (tgt := 86) (pc := 51) dX12_sort_51 (by decide) (fun c4 => ?_) (fun c4 => ?_)
        · replace h := (if_pos c4).symm.trans h
          exact G_X12_sort_86 hd v1 v2 v3 v4 v5 v6 v7 (wr u 135 0 (0 : Int32)) h
        · replace h := (if_neg c4).symm.trans h
          refine g_iload (pc := 54) dX12_sort_54 rfl ?_
          refine g_i2l (pc := 56) dX12_sort_56 rfl ?_
          refine g_lconst (v := (0 : Int64)) (pc := 57) dX12_sort_57 rfl ?_
          refine g_ldc2 (pc := 58) dX12_sort_58 kl_RX12_164 ?_
          refine g_cS (pc := 61) dX12_sort_61 cS_RX12_156 (M_X12_in (Nat.le_refl _) rfl) (as := [.long ((v5).toInt64), .long (0 : Int64), .long (1000 : Int64)]) (st := []) rfl rfl (Nat.le_of_ble_eq_true rfl) (Nat.le_trans (Nat.le_of_ble_eq_true rfl) hd) rfl ?_
          refine g_if_eq (tgt := 86) (pc := 64) dX12_sort_64 (by decide) (fun c5 => ?_) (fun c5 => ?_)
          · replace h := (if_pos c5).symm.trans h
            exact G_X12_sort_86 hd v1 v2 v3 v4 v5 v6 v7 (wr u 135 0 (0 : Int32)) h
          · replace h := (if_neg c5).symm.trans h
            refine g_iload (pc := 67) dX12_sort_67 rfl ?_
            refine g_i2l (pc := 69) dX12_sort_69 rfl ?_
            refine g_iload (pc := 70) dX12_sort_70 rfl ?_
            refine g_i2l (pc := 72) dX12_sort_72 rfl ?_
            refine g_ldc2 (pc := 73) dX12_sort_73 kl_RX12_164 ?_
            refine g_cS (pc := 76) dX12_sort_76 cS_RX12_156 (M_X12_in (Nat.le_refl _) rfl) (as := [.long ((v6).toInt64), .long ((v5).toInt64), .long (1000 : Int64)]) (st := []) rfl rfl (Nat.le_of_ble_eq_true rfl) (Nat.le_trans (Nat.le_of_ble_eq_true rfl) hd) rfl ?_
            refine g_if_eq (tgt := 86) (pc := 79) dX12_sort_79 (by decide) (fun c6 => ?_) (fun c6 => ?_)
            · replace h := (if_pos c6).symm.trans h
              exact G_X12_sort_86 hd v1 v2 v3 v4 v5 v6 v7 (wr u 135 0 (0 : Int32)) h
            · replace h := (if_neg c6).symm.trans h
              refine g_iconst (pc := 82) dX12_sort_82 ic_1 ?_
              refine g_goto (tgt := 87) (pc := 83) dX12_sort_83 (by decide) ?_
              exact G_X12_sort_87 hd v1 v2 v3 v4 v5 v6 v7 (1 : Int32) (wr u 135 0 (0 : Int32)) h
set_option maxRecDepth 100000 in
set_option maxHeartbeats 4000000 in
theorem M_X12_sort {sc : Nat × (Nat → Int32)} {d : Nat} (hd : 2 ≤ d) {r : Int32} {u u' : xS} {a1 : Int32} {a2 : Int32} {a3 : Int32} {a4 : Int32} {a5 : Int32} {a6 : Int32} {a7 : Int32} (h : f_X12_sort a1 a2 a3 a4 a5 a6 a7 u = some (r, u')) : xMt sc mX12_sort d 0 0 [.ref 135, .int a1, .int a2, .int a3, .int a4, .int a5, .int a6, .int a7] (xL0, u) (some (.int r)) (xL0, u') :=
  xMt.of (by decide +kernel) (Nat.le_of_ble_eq_true rfl) (L := [some (.ref 135), some (.int a1), some (.int a2), some (.int a3), some (.int a4), some (.int a5), some (.int a6), some (.int a7), none, none]) rfl ((G_X12_sort_0 hd a1 a2 a3 a4 a5 a6 a7 u h))
set_option maxRecDepth 100000 in
set_option maxHeartbeats 4000000 in
theorem G_X12_split_20 {sc : Nat × (Nat → Int32)} {d : Nat} (hd : 2 ≤ d) {r : Int32} {u' : xS} (u : xS) (h : f_X12_split_20 u = some (r, u')) : xG sc mX12_split d 0 0 (xR (some (.int r)) (xL0, u') 0 0) 0 0 20 [some (.ref 135), none, none, none, none, none, none, none, none, none] [] (xL0, u) := by
  rw [f_X12_split_20] at h
  refine g_aload_n (pc := 20) dX12_split_20 rfl ?_
  obtain ⟨⟨x2, u3⟩, e1, h⟩ := x_bind h
  dsimp only at h
  refine g_cV (pc := 21) dX12_split_21 cV_RX12_347 (M_X12_refuse (Nat.le_refl _) e1) xc_135 (as := []) (st := []) rfl rfl (Nat.le_of_ble_eq_true rfl) (Nat.le_trans (Nat.le_of_ble_eq_true rfl) hd) rfl ?_
  cases h
  exact g_iret (pc := 24) dX12_split_24 rfl rfl rfl (Nat.le_refl _) (Nat.le_refl _)
set_option maxRecDepth 100000 in
set_option maxHeartbeats 4000000 in
theorem G_X12_split_150 {sc : Nat × (Nat → Int32)} {d : Nat} (hd : 2 ≤ d) {r : Int32} {u' : xS} {k104 : Int32 → Int32 → Int64 → Int64 → Int64 → Int32 → xS → Option (Int32 × xS)} (hk104 : ∀ (v1 : Int32) (v2 : Int32) (v3 : Int64) (v5 : Int64) (v7 : Int64) (v9 : Int32) (u : xS), k104 v1 v2 v3 v5 v7 v9 u = some (r, u') → xG sc mX12_split d 0 0 (xR (some (.int r)) (xL0, u') 0 0) 0 0 104 [some (.ref 135), some (.int v1), some (.int v2), some (.long v3), none, some (.long v5), none, some (.long v7), none, some (.int v9)] [] (xL0, u)) (v1 : Int32) (v2 : Int32) (v3 : Int64) (v5 : Int64) (v9 : Int32) (s0 : Int64) (s1 : Int64) (u : xS) (h : f_X12_split_150 k104 v1 v2 v3 v5 v9 s0 s1 u = some (r, u')) : xG sc mX12_split d 0 0 (xR (some (.int r)) (xL0, u') 0 0) 0 0 150 [some (.ref 135), some (.int v1), some (.int v2), some (.long v3), none, some (.long v5), none, none, none, some (.int v9)] [.long s1, .long s0] (xL0, u) := by
  rw [f_X12_split_150] at h
  refine g_ladd (pc := 150) dX12_split_150 rfl ?_
  refine g_lstore (pc := 151) dX12_split_151 (Nat.le_of_ble_eq_true rfl) (Nat.le_of_ble_eq_true rfl) (L' := [some (.ref 135), some (.int v1), some (.int v2), some (.long v3), none, some (.long v5), none, some (.long (s0 + s1)), none, some (.int v9)]) rfl ?_
  refine g_inc (pc := 153) dX12_split_153 (Nat.le_of_ble_eq_true rfl) rfl ic_1 (L' := [some (.ref 135), some (.int v1), some (.int v2), some (.long v3), none, some (.long v5), none, some (.long (s0 + s1)), none, some (.int (v9 + (1 : Int32)))]) rfl ?_
  refine g_goto (tgt := 104) (pc := 156) dX12_split_156 (by decide) ?_
  exact hk104 v1 v2 v3 v5 (s0 + s1) (v9 + (1 : Int32)) u h
set_option maxRecDepth 100000 in
set_option maxHeartbeats 4000000 in
theorem G_X12_split_104 {sc : Nat × (Nat → Int32)} {d : Nat} (hd : 2 ≤ d) {r : Int32} {u' : xS} : ∀ (n : Nat) (v1 : Int32) (v2 : Int32) (v3 : Int64) (v5 : Int64) (v7 : Int64) (v9 : Int32) (u : xS), f_X12_split_104 n v1 v2 v3 v5 v7 v9 u = some (r, u') → xG sc mX12_split d 0 0 (xR (some (.int r)) (xL0, u') 0 0) 0 0 104 [some (.ref 135), some (.int v1), some (.int v2), some (.long v3), none, some (.long v5), none, some (.long v7), none, some (.int v9)] [] (xL0, u) := by
  intro n
  induction n with
  | zero =>
    intro v1 v2 v3 v5 v7 v9 u h
    rw [f_X12_split_104] at h
    cases h
  | succ n ih =>
    intro v1 v2 v3 v5 v7 v9 u h
    rw [f_X12_split_104] at h
    refine g_iload (pc := 104) dX12_split_104 rfl ?_
    refine g_aload_n (pc := 106) dX12_split_106 rfl ?_
    refine g_gI (pc := 107) dX12_split_107 fI_RX12_153 xc_135 (v := (rd u 135 1)) rfl ?_
    refine g_icmp_ge (tgt := 159) (pc := 110) dX12_split_110 (by decide) (fun c1 => ?_) (fun c1 => ?_)
    · replace h := (if_pos c1).symm.trans h
      refine g_lload (pc := 159) dX12_split_159 rfl ?_
      refine g_l2i (pc := 161) dX12_split_161 rfl ?_
      cases h
      exact g_iret (pc := 162) dX12_split_162 rfl rfl rfl (Nat.le_refl _) (Nat.le_refl _)
    · replace h := (if_neg c1).symm.trans h
      refine g_lload (pc := 113) dX12_split_113 rfl ?_
      refine g_aload_n (pc := 115) dX12_split_115 rfl ?_
      refine g_iload (pc := 116) dX12_split_116 rfl ?_
      obtain ⟨x3, e2, h⟩ := x_bind h
      refine g_cV (pc := 118) dX12_split_118 cV_RX12_182 (M_X12_parent (Nat.le_refl _) e2) xc_135 (as := [.int v9]) (st := [.long v7]) rfl rfl (Nat.le_of_ble_eq_true rfl) (Nat.le_trans (Nat.le_of_ble_eq_true rfl) hd) rfl ?_
      refine g_iload_n (pc := 121) dX12_split_121 rfl ?_
      refine g_icmp_ne (tgt := 149) (pc := 122) dX12_split_122 (by decide) (fun c4 => ?_) (fun c4 => ?_)
      · replace h := (if_neg c4).symm.trans h
        refine g_lconst (v := (0 : Int64)) (pc := 149) dX12_split_149 rfl ?_
        refine g_L (L' := [some (.ref 135), some (.int v1), some (.int v2), some (.long v3), none, some (.long v5), none, none, none, some (.int v9)]) ⟨rfl, ⟨rfl, ⟨rfl, ⟨rfl, ⟨rfl, ⟨rfl, trivial⟩⟩⟩⟩⟩⟩ ?_
        exact G_X12_split_150 hd ih v1 v2 v3 v5 v9 v7 (0 : Int64) u h
      · replace h := (if_pos c4).symm.trans h
        refine g_lload (pc := 125) dX12_split_125 rfl ?_
        refine g_aload_n (pc := 127) dX12_split_127 rfl ?_
        refine g_iload (pc := 128) dX12_split_128 rfl ?_
        obtain ⟨x6, e5, h⟩ := x_bind h
        refine g_cV (pc := 130) dX12_split_130 cV_RX12_351 (M_X12_hadOf (Nat.le_refl _) e5) xc_135 (as := [.int v9]) (st := [.long v5, .long v7]) rfl rfl (Nat.le_of_ble_eq_true rfl) (Nat.le_trans (Nat.le_of_ble_eq_true rfl) hd) rfl ?_
        refine g_i2l (pc := 133) dX12_split_133 rfl ?_
        refine g_lmul (pc := 134) dX12_split_134 rfl ?_
        refine g_lload_n (pc := 135) dX12_split_135 rfl ?_
        obtain ⟨g7, h⟩ := x_gd h
        refine g_ldiv (pc := 136) dX12_split_136 (xnzJ_of g7) rfl ?_
        refine g_aload_n (pc := 137) dX12_split_137 rfl ?_
        refine g_iload (pc := 138) dX12_split_138 rfl ?_
        refine g_iload_n (pc := 140) dX12_split_140 rfl ?_
        obtain ⟨x9, e8, h⟩ := x_bind h
        refine g_cV (pc := 141) dX12_split_141 cV_RX12_178 (M_X12_priceOf (Nat.le_refl _) e8) xc_135 (as := [.int v9, .int v2]) (st := [.long ((v5 * ((x6).toInt64)) / v3), .long v7]) rfl rfl (Nat.le_of_ble_eq_true rfl) (Nat.le_trans (Nat.le_of_ble_eq_true rfl) hd) rfl ?_
        refine g_i2l (pc := 144) dX12_split_144 rfl ?_
        refine g_lmul (pc := 145) dX12_split_145 rfl ?_
        refine g_goto (tgt := 150) (pc := 146) dX12_split_146 (by decide) ?_
        refine g_L (L' := [some (.ref 135), some (.int v1), some (.int v2), some (.long v3), none, some (.long v5), none, none, none, some (.int v9)]) ⟨rfl, ⟨rfl, ⟨rfl, ⟨rfl, ⟨rfl, ⟨rfl, trivial⟩⟩⟩⟩⟩⟩ ?_
        exact G_X12_split_150 hd ih v1 v2 v3 v5 v9 v7 (((v5 * ((x6).toInt64)) / v3) * ((x9).toInt64)) u h
set_option maxRecDepth 100000 in
set_option maxHeartbeats 4000000 in
theorem G_X12_split_61 {sc : Nat × (Nat → Int32)} {d : Nat} (hd : 2 ≤ d) {r : Int32} {u' : xS} {k30 : Int32 → Int32 → Int64 → Int32 → xS → Option (Int32 × xS)} (hk30 : ∀ (v1 : Int32) (v2 : Int32) (v3 : Int64) (v5 : Int32) (u : xS), k30 v1 v2 v3 v5 u = some (r, u') → xG sc mX12_split d 0 0 (xR (some (.int r)) (xL0, u') 0 0) 0 0 30 [some (.ref 135), some (.int v1), some (.int v2), some (.long v3), none, some (.int v5), none, none, none, none] [] (xL0, u)) (v1 : Int32) (v2 : Int32) (v5 : Int32) (s0 : Int64) (s1 : Int64) (u : xS) (h : f_X12_split_61 k30 v1 v2 v5 s0 s1 u = some (r, u')) : xG sc mX12_split d 0 0 (xR (some (.int r)) (xL0, u') 0 0) 0 0 61 [some (.ref 135), some (.int v1), some (.int v2), none, none, some (.int v5), none, none, none, none] [.long s1, .long s0] (xL0, u) := by
  rw [f_X12_split_61] at h
  refine g_ladd (pc := 61) dX12_split_61 rfl ?_
  refine g_lstore_n (pc := 62) dX12_split_62 (Nat.le_of_ble_eq_true rfl) (Nat.le_of_ble_eq_true rfl) (L' := [some (.ref 135), some (.int v1), some (.int v2), some (.long (s0 + s1)), none, some (.int v5), none, none, none, none]) rfl ?_
  refine g_inc (pc := 63) dX12_split_63 (Nat.le_of_ble_eq_true rfl) rfl ic_1 (L' := [some (.ref 135), some (.int v1), some (.int v2), some (.long (s0 + s1)), none, some (.int (v5 + (1 : Int32))), none, none, none, none]) rfl ?_
  refine g_goto (tgt := 30) (pc := 66) dX12_split_66 (by decide) ?_
  exact hk30 v1 v2 (s0 + s1) (v5 + (1 : Int32)) u h
set_option maxRecDepth 100000 in
set_option maxHeartbeats 4000000 in
theorem G_X12_split_30 {sc : Nat × (Nat → Int32)} {d : Nat} (hd : 2 ≤ d) {r : Int32} {u' : xS} : ∀ (n : Nat) (v1 : Int32) (v2 : Int32) (v3 : Int64) (v5 : Int32) (u : xS), f_X12_split_30 n v1 v2 v3 v5 u = some (r, u') → xG sc mX12_split d 0 0 (xR (some (.int r)) (xL0, u') 0 0) 0 0 30 [some (.ref 135), some (.int v1), some (.int v2), some (.long v3), none, some (.int v5), none, none, none, none] [] (xL0, u) := by
  intro n
  induction n with
  | zero =>
    intro v1 v2 v3 v5 u h
    rw [f_X12_split_30] at h
    cases h
  | succ n ih =>
    intro v1 v2 v3 v5 u h
    rw [f_X12_split_30] at h
    refine g_iload (pc := 30) dX12_split_30 rfl ?_
    refine g_aload_n (pc := 32) dX12_split_32 rfl ?_
    refine g_gI (pc := 33) dX12_split_33 fI_RX12_153 xc_135 (v := (rd u 135 1)) rfl ?_
    refine g_icmp_ge (tgt := 69) (pc := 36) dX12_split_36 (by decide) (fun c1 => ?_) (fun c1 => ?_)
    · replace h := (if_pos c1).symm.trans h
      refine g_lload_n (pc := 69) dX12_split_69 rfl ?_
      refine g_lconst (v := (0 : Int64)) (pc := 70) dX12_split_70 rfl ?_
      refine g_lcmp (pc := 71) dX12_split_71 rfl ?_
      refine g_if_ne (tgt := 80) (pc := 72) dX12_split_72 (by decide) (fun c2 => ?_) (fun c2 => ?_)
      · replace h := (if_neg c2).symm.trans h
        refine g_aload_n (pc := 80) dX12_split_80 rfl ?_
        refine g_iload_n (pc := 81) dX12_split_81 rfl ?_
        obtain ⟨x4, e3, h⟩ := x_bind h
        refine g_cV (pc := 82) dX12_split_82 cV_RX12_340 (M_X12_stored (Nat.le_refl _) e3) xc_135 (as := [.int v1]) (st := []) rfl rfl (Nat.le_of_ble_eq_true rfl) (Nat.le_trans (Nat.le_of_ble_eq_true rfl) hd) rfl ?_
        refine g_i2l (pc := 85) dX12_split_85 rfl ?_
        refine g_lstore (pc := 86) dX12_split_86 (Nat.le_of_ble_eq_true rfl) (Nat.le_of_ble_eq_true rfl) (L' := [some (.ref 135), some (.int v1), some (.int v2), some (.long v3), none, some (.long ((x4).toInt64)), none, none, none, none]) rfl ?_
        refine g_lload (pc := 88) dX12_split_88 rfl ?_
        refine g_lneg (pc := 90) dX12_split_90 rfl ?_
        refine g_aload_n (pc := 91) dX12_split_91 rfl ?_
        refine g_iload_n (pc := 92) dX12_split_92 rfl ?_
        refine g_iload_n (pc := 93) dX12_split_93 rfl ?_
        obtain ⟨x6, e5, h⟩ := x_bind h
        refine g_cV (pc := 94) dX12_split_94 cV_RX12_178 (M_X12_priceOf (Nat.le_refl _) e5) xc_135 (as := [.int v1, .int v2]) (st := [.long (-((x4).toInt64))]) rfl rfl (Nat.le_of_ble_eq_true rfl) (Nat.le_trans (Nat.le_of_ble_eq_true rfl) hd) rfl ?_
        refine g_i2l (pc := 97) dX12_split_97 rfl ?_
        refine g_lmul (pc := 98) dX12_split_98 rfl ?_
        refine g_lstore (pc := 99) dX12_split_99 (Nat.le_of_ble_eq_true rfl) (Nat.le_of_ble_eq_true rfl) (L' := [some (.ref 135), some (.int v1), some (.int v2), some (.long v3), none, some (.long ((x4).toInt64)), none, some (.long ((-((x4).toInt64)) * ((x6).toInt64))), none, none]) rfl ?_
        refine g_iconst (pc := 101) dX12_split_101 ic_0 ?_
        refine g_istore (pc := 102) dX12_split_102 (Nat.le_of_ble_eq_true rfl) (L' := [some (.ref 135), some (.int v1), some (.int v2), some (.long v3), none, some (.long ((x4).toInt64)), none, some (.long ((-((x4).toInt64)) * ((x6).toInt64))), none, some (.int (0 : Int32))]) rfl ?_
        exact G_X12_split_104 hd xN v1 v2 v3 ((x4).toInt64) ((-((x4).toInt64)) * ((x6).toInt64)) (0 : Int32) u h
      · replace h := (if_pos c2).symm.trans h
        refine g_aload_n (pc := 75) dX12_split_75 rfl ?_
        obtain ⟨⟨x8, u9⟩, e7, h⟩ := x_bind h
        dsimp only at h
        refine g_cV (pc := 76) dX12_split_76 cV_RX12_347 (M_X12_refuse (Nat.le_refl _) e7) xc_135 (as := []) (st := []) rfl rfl (Nat.le_of_ble_eq_true rfl) (Nat.le_trans (Nat.le_of_ble_eq_true rfl) hd) rfl ?_
        cases h
        exact g_iret (pc := 79) dX12_split_79 rfl rfl rfl (Nat.le_refl _) (Nat.le_refl _)
    · replace h := (if_neg c1).symm.trans h
      refine g_lload_n (pc := 39) dX12_split_39 rfl ?_
      refine g_aload_n (pc := 40) dX12_split_40 rfl ?_
      refine g_iload (pc := 41) dX12_split_41 rfl ?_
      obtain ⟨x12, e11, h⟩ := x_bind h
      refine g_cV (pc := 43) dX12_split_43 cV_RX12_182 (M_X12_parent (Nat.le_refl _) e11) xc_135 (as := [.int v5]) (st := [.long v3]) rfl rfl (Nat.le_of_ble_eq_true rfl) (Nat.le_trans (Nat.le_of_ble_eq_true rfl) hd) rfl ?_
      refine g_iload_n (pc := 46) dX12_split_46 rfl ?_
      refine g_icmp_ne (tgt := 60) (pc := 47) dX12_split_47 (by decide) (fun c13 => ?_) (fun c13 => ?_)
      · replace h := (if_neg c13).symm.trans h
        refine g_lconst (v := (0 : Int64)) (pc := 60) dX12_split_60 rfl ?_
        refine g_L (L' := [some (.ref 135), some (.int v1), some (.int v2), none, none, some (.int v5), none, none, none, none]) ⟨rfl, ⟨rfl, ⟨rfl, ⟨rfl, trivial⟩⟩⟩⟩ ?_
        exact G_X12_split_61 hd ih v1 v2 v5 v3 (0 : Int64) u h
      · replace h := (if_pos c13).symm.trans h
        refine g_aload_n (pc := 50) dX12_split_50 rfl ?_
        refine g_iload (pc := 51) dX12_split_51 rfl ?_
        obtain ⟨x15, e14, h⟩ := x_bind h
        refine g_cV (pc := 53) dX12_split_53 cV_RX12_351 (M_X12_hadOf (Nat.le_refl _) e14) xc_135 (as := [.int v5]) (st := [.long v3]) rfl rfl (Nat.le_of_ble_eq_true rfl) (Nat.le_trans (Nat.le_of_ble_eq_true rfl) hd) rfl ?_
        refine g_i2l (pc := 56) dX12_split_56 rfl ?_
        refine g_goto (tgt := 61) (pc := 57) dX12_split_57 (by decide) ?_
        refine g_L (L' := [some (.ref 135), some (.int v1), some (.int v2), none, none, some (.int v5), none, none, none, none]) ⟨rfl, ⟨rfl, ⟨rfl, ⟨rfl, trivial⟩⟩⟩⟩ ?_
        exact G_X12_split_61 hd ih v1 v2 v5 v3 ((x15).toInt64) u h
set_option maxRecDepth 100000 in
set_option maxHeartbeats 4000000 in
theorem G_X12_split_0 {sc : Nat × (Nat → Int32)} {d : Nat} (hd : 2 ≤ d) {r : Int32} {u' : xS} (v1 : Int32) (v2 : Int32) (u : xS) (h : f_X12_split v1 v2 u = some (r, u')) : xG sc mX12_split d 0 0 (xR (some (.int r)) (xL0, u') 0 0) 0 0 0 [some (.ref 135), some (.int v1), some (.int v2), none, none, none, none, none, none, none] [] (xL0, u) := by
  rw [f_X12_split] at h
  refine g_aload_n (pc := 0) dX12_split_0 rfl ?_
  refine g_iconst (pc := 1) dX12_split_1 ic_0 ?_
  refine g_pI (pc := 2) dX12_split_2 pI_RX12_150 xc_135 (u' := (wr u 135 0 (0 : Int32))) rfl ?_
  refine g_aload_n (pc := 5) dX12_split_5 rfl ?_
  refine g_iload_n (pc := 6) dX12_split_6 rfl ?_
  refine g_cV (pc := 7) dX12_split_7 cV_RX12_166 (M_X12_isSort (Nat.le_refl _) rfl) xc_135 (as := [.int v1]) (st := []) rfl rfl (Nat.le_of_ble_eq_true rfl) (Nat.le_trans (Nat.le_of_ble_eq_true rfl) hd) rfl ?_
  refine g_if_eq (tgt := 20) (pc := 10) dX12_split_10 (by decide) (fun c1 => ?_) (fun c1 => ?_)
  · replace h := (if_pos c1).symm.trans h
    refine g_L (L' := [some (.ref 135), none, none, none, none, none, none, none, none, none]) ⟨rfl, trivial⟩ ?_
    exact G_X12_split_20 hd (wr u 135 0 (0 : Int32)) h
  · replace h := (if_neg c1).symm.trans h
    refine g_iload_n (pc := 13) dX12_split_13 rfl ?_
    refine g_cS (pc := 14) dX12_split_14 cS_RX12_170 (M_X12_isWeek (Nat.le_refl _) rfl) (as := [.int v2]) (st := []) rfl rfl (Nat.le_of_ble_eq_true rfl) (Nat.le_trans (Nat.le_of_ble_eq_true rfl) hd) rfl ?_
    refine g_if_ne (tgt := 25) (pc := 17) dX12_split_17 (by decide) (fun c2 => ?_) (fun c2 => ?_)
    · replace h := (if_neg c2).symm.trans h
      refine g_lconst (v := (0 : Int64)) (pc := 25) dX12_split_25 rfl ?_
      refine g_lstore_n (pc := 26) dX12_split_26 (Nat.le_of_ble_eq_true rfl) (Nat.le_of_ble_eq_true rfl) (L' := [some (.ref 135), some (.int v1), some (.int v2), some (.long (0 : Int64)), none, none, none, none, none, none]) rfl ?_
      refine g_iconst (pc := 27) dX12_split_27 ic_0 ?_
      refine g_istore (pc := 28) dX12_split_28 (Nat.le_of_ble_eq_true rfl) (L' := [some (.ref 135), some (.int v1), some (.int v2), some (.long (0 : Int64)), none, some (.int (0 : Int32)), none, none, none, none]) rfl ?_
      exact G_X12_split_30 hd xN v1 v2 (0 : Int64) (0 : Int32) (wr u 135 0 (0 : Int32)) h
    · replace h := (if_pos c2).symm.trans h
      refine g_L (L' := [some (.ref 135), none, none, none, none, none, none, none, none, none]) ⟨rfl, trivial⟩ ?_
      exact G_X12_split_20 hd (wr u 135 0 (0 : Int32)) h
set_option maxRecDepth 100000 in
set_option maxHeartbeats 4000000 in
theorem M_X12_split {sc : Nat × (Nat → Int32)} {d : Nat} (hd : 2 ≤ d) {r : Int32} {u u' : xS} {a1 : Int32} {a2 : Int32} (h : f_X12_split a1 a2 u = some (r, u')) : xMt sc mX12_split d 0 0 [.ref 135, .int a1, .int a2] (xL0, u) (some (.int r)) (xL0, u') :=
  xMt.of (by decide +kernel) (Nat.le_of_ble_eq_true rfl) (L := [some (.ref 135), some (.int a1), some (.int a2), none, none, none, none, none, none, none]) rfl ((G_X12_split_0 hd a1 a2 u h))
set_option maxRecDepth 100000 in
set_option maxHeartbeats 4000000 in
theorem G_X12_store_71 {sc : Nat × (Nat → Int32)} {d : Nat} (hd : 2 ≤ d) {r : Int32} {u' : xS} {k30 : Int32 → Int32 → Int32 → Int32 → xS → Option (Int32 × xS)} (hk30 : ∀ (v1 : Int32) (v2 : Int32) (v3 : Int32) (v4 : Int32) (u : xS), k30 v1 v2 v3 v4 u = some (r, u') → xG sc mX12_store d 0 0 (xR (some (.int r)) (xL0, u') 0 0) 0 0 30 [some (.ref 135), some (.int v1), some (.int v2), some (.int v3), some (.int v4)] [] (xL0, u)) (v1 : Int32) (v2 : Int32) (v4 : Int32) (s0 : Int32) (s1 : Int32) (u : xS) (h : f_X12_store_71 k30 v1 v2 v4 s0 s1 u = some (r, u')) : xG sc mX12_store d 0 0 (xR (some (.int r)) (xL0, u') 0 0) 0 0 71 [some (.ref 135), some (.int v1), some (.int v2), none, some (.int v4)] [.int s1, .int s0] (xL0, u) := by
  rw [f_X12_store_71] at h
  refine g_iadd (pc := 71) dX12_store_71 rfl ?_
  refine g_istore_n (pc := 72) dX12_store_72 (Nat.le_of_ble_eq_true rfl) (L' := [some (.ref 135), some (.int v1), some (.int v2), some (.int (s0 + s1)), some (.int v4)]) rfl ?_
  refine g_inc (pc := 73) dX12_store_73 (Nat.le_of_ble_eq_true rfl) rfl ic_1 (L' := [some (.ref 135), some (.int v1), some (.int v2), some (.int (s0 + s1)), some (.int (v4 + (1 : Int32)))]) rfl ?_
  refine g_goto (tgt := 30) (pc := 76) dX12_store_76 (by decide) ?_
  exact hk30 v1 v2 (s0 + s1) (v4 + (1 : Int32)) u h
set_option maxRecDepth 100000 in
set_option maxHeartbeats 4000000 in
theorem G_X12_store_61 {sc : Nat × (Nat → Int32)} {d : Nat} (hd : 2 ≤ d) {r : Int32} {u' : xS} {k30 : Int32 → Int32 → Int32 → Int32 → xS → Option (Int32 × xS)} (hk30 : ∀ (v1 : Int32) (v2 : Int32) (v3 : Int32) (v4 : Int32) (u : xS), k30 v1 v2 v3 v4 u = some (r, u') → xG sc mX12_store d 0 0 (xR (some (.int r)) (xL0, u') 0 0) 0 0 30 [some (.ref 135), some (.int v1), some (.int v2), some (.int v3), some (.int v4)] [] (xL0, u)) (v1 : Int32) (v2 : Int32) (v4 : Int32) (s0 : Int32) (u : xS) (h : f_X12_store_61 k30 v1 v2 v4 s0 u = some (r, u')) : xG sc mX12_store d 0 0 (xR (some (.int r)) (xL0, u') 0 0) 0 0 61 [some (.ref 135), some (.int v1), some (.int v2), none, some (.int v4)] [.int s0] (xL0, u) := by
  rw [f_X12_store_61] at h
  refine g_aload_n (pc := 61) dX12_store_61 rfl ?_
  refine g_iload (pc := 62) dX12_store_62 rfl ?_
  obtain ⟨x2, e1, h⟩ := x_bind h
  refine g_cV (pc := 64) dX12_store_64 cV_RX12_340 (M_X12_stored (Nat.le_refl _) e1) xc_135 (as := [.int v4]) (st := [.int s0]) rfl rfl (Nat.le_of_ble_eq_true rfl) (Nat.le_trans (Nat.le_of_ble_eq_true rfl) hd) rfl ?_
  refine g_goto (tgt := 71) (pc := 67) dX12_store_67 (by decide) ?_
  exact G_X12_store_71 hd hk30 v1 v2 v4 s0 x2 u h
set_option maxRecDepth 100000 in
set_option maxHeartbeats 4000000 in
theorem G_X12_store_70 {sc : Nat × (Nat → Int32)} {d : Nat} (hd : 2 ≤ d) {r : Int32} {u' : xS} {k30 : Int32 → Int32 → Int32 → Int32 → xS → Option (Int32 × xS)} (hk30 : ∀ (v1 : Int32) (v2 : Int32) (v3 : Int32) (v4 : Int32) (u : xS), k30 v1 v2 v3 v4 u = some (r, u') → xG sc mX12_store d 0 0 (xR (some (.int r)) (xL0, u') 0 0) 0 0 30 [some (.ref 135), some (.int v1), some (.int v2), some (.int v3), some (.int v4)] [] (xL0, u)) (v1 : Int32) (v2 : Int32) (v4 : Int32) (s0 : Int32) (u : xS) (h : f_X12_store_70 k30 v1 v2 v4 s0 u = some (r, u')) : xG sc mX12_store d 0 0 (xR (some (.int r)) (xL0, u') 0 0) 0 0 70 [some (.ref 135), some (.int v1), some (.int v2), none, some (.int v4)] [.int s0] (xL0, u) := by
  rw [f_X12_store_70] at h
  refine g_iconst (pc := 70) dX12_store_70 ic_0 ?_
  exact G_X12_store_71 hd hk30 v1 v2 v4 s0 (0 : Int32) u h
set_option maxRecDepth 100000 in
set_option maxHeartbeats 4000000 in
theorem G_X12_store_30 {sc : Nat × (Nat → Int32)} {d : Nat} (hd : 2 ≤ d) {r : Int32} {u' : xS} : ∀ (n : Nat) (v1 : Int32) (v2 : Int32) (v3 : Int32) (v4 : Int32) (u : xS), f_X12_store_30 n v1 v2 v3 v4 u = some (r, u') → xG sc mX12_store d 0 0 (xR (some (.int r)) (xL0, u') 0 0) 0 0 30 [some (.ref 135), some (.int v1), some (.int v2), some (.int v3), some (.int v4)] [] (xL0, u) := by
  intro n
  induction n with
  | zero =>
    intro v1 v2 v3 v4 u h
    rw [f_X12_store_30] at h
    cases h
  | succ n ih =>
    intro v1 v2 v3 v4 u h
    rw [f_X12_store_30] at h
    refine g_iload (pc := 30) dX12_store_30 rfl ?_
    refine g_aload_n (pc := 32) dX12_store_32 rfl ?_
    refine g_gI (pc := 33) dX12_store_33 fI_RX12_153 xc_135 (v := (rd u 135 1)) rfl ?_
    refine g_icmp_ge (tgt := 79) (pc := 36) dX12_store_36 (by decide) (fun c1 => ?_) (fun c1 => ?_)
    · replace h := (if_pos c1).symm.trans h
      refine g_iload_n (pc := 79) dX12_store_79 rfl ?_
      cases h
      exact g_iret (pc := 80) dX12_store_80 rfl rfl rfl (Nat.le_refl _) (Nat.le_refl _)
    · replace h := (if_neg c1).symm.trans h
      refine g_iload_n (pc := 39) dX12_store_39 rfl ?_
      refine g_iload (pc := 40) dX12_store_40 rfl ?_
      refine g_iload_n (pc := 42) dX12_store_42 rfl ?_
      refine g_icmp_eq (tgt := 61) (pc := 43) dX12_store_43 (by decide) (fun c2 => ?_) (fun c2 => ?_)
      · replace h := (if_pos c2).symm.trans h
        refine g_L (L' := [some (.ref 135), some (.int v1), some (.int v2), none, some (.int v4)]) ⟨rfl, ⟨rfl, ⟨rfl, ⟨rfl, trivial⟩⟩⟩⟩ ?_
        exact G_X12_store_61 hd ih v1 v2 v4 v3 u h
      · replace h := (if_neg c2).symm.trans h
        refine g_iload_n (pc := 46) dX12_store_46 rfl ?_
        refine g_iconst (pc := 47) dX12_store_47 ic_1 ?_
        refine g_icmp_ne (tgt := 70) (pc := 48) dX12_store_48 (by decide) (fun c3 => ?_) (fun c3 => ?_)
        · replace h := (if_neg c3).symm.trans h
          refine g_L (L' := [some (.ref 135), some (.int v1), some (.int v2), none, some (.int v4)]) ⟨rfl, ⟨rfl, ⟨rfl, ⟨rfl, trivial⟩⟩⟩⟩ ?_
          exact G_X12_store_70 hd ih v1 v2 v4 v3 u h
        · replace h := (if_pos c3).symm.trans h
          refine g_aload_n (pc := 51) dX12_store_51 rfl ?_
          refine g_iload (pc := 52) dX12_store_52 rfl ?_
          refine g_iload_n (pc := 54) dX12_store_54 rfl ?_
          obtain ⟨x5, e4, h⟩ := x_bind h
          refine g_cV (pc := 55) dX12_store_55 cV_RX12_186 (M_X12_isWithin (Nat.le_refl _) e4) xc_135 (as := [.int v4, .int v1]) (st := [.int v3]) rfl rfl (Nat.le_of_ble_eq_true rfl) (Nat.le_trans (Nat.le_of_ble_eq_true rfl) hd) rfl ?_
          refine g_if_eq (tgt := 70) (pc := 58) dX12_store_58 (by decide) (fun c6 => ?_) (fun c6 => ?_)
          · replace h := (if_pos c6).symm.trans h
            refine g_L (L' := [some (.ref 135), some (.int v1), some (.int v2), none, some (.int v4)]) ⟨rfl, ⟨rfl, ⟨rfl, ⟨rfl, trivial⟩⟩⟩⟩ ?_
            exact G_X12_store_70 hd ih v1 v2 v4 v3 u h
          · replace h := (if_neg c6).symm.trans h
            refine g_L (L' := [some (.ref 135), some (.int v1), some (.int v2), none, some (.int v4)]) ⟨rfl, ⟨rfl, ⟨rfl, ⟨rfl, trivial⟩⟩⟩⟩ ?_
            exact G_X12_store_61 hd ih v1 v2 v4 v3 u h
set_option maxRecDepth 100000 in
set_option maxHeartbeats 4000000 in
theorem G_X12_store_0 {sc : Nat × (Nat → Int32)} {d : Nat} (hd : 2 ≤ d) {r : Int32} {u' : xS} (v1 : Int32) (v2 : Int32) (u : xS) (h : f_X12_store v1 v2 u = some (r, u')) : xG sc mX12_store d 0 0 (xR (some (.int r)) (xL0, u') 0 0) 0 0 0 [some (.ref 135), some (.int v1), some (.int v2), none, none] [] (xL0, u) := by
  rw [f_X12_store] at h
  refine g_aload_n (pc := 0) dX12_store_0 rfl ?_
  refine g_iconst (pc := 1) dX12_store_1 ic_0 ?_
  refine g_pI (pc := 2) dX12_store_2 pI_RX12_150 xc_135 (u' := (wr u 135 0 (0 : Int32))) rfl ?_
  refine g_aload_n (pc := 5) dX12_store_5 rfl ?_
  refine g_iload_n (pc := 6) dX12_store_6 rfl ?_
  refine g_cV (pc := 7) dX12_store_7 cV_RX12_166 (M_X12_isSort (Nat.le_refl _) rfl) xc_135 (as := [.int v1]) (st := []) rfl rfl (Nat.le_of_ble_eq_true rfl) (Nat.le_trans (Nat.le_of_ble_eq_true rfl) hd) rfl ?_
  refine g_if_eq (tgt := 23) (pc := 10) dX12_store_10 (by decide) (fun c1 => ?_) (fun c1 => ?_)
  · replace h := (if_pos c1).symm.trans h
    refine g_iconst (pc := 23) dX12_store_23 ic_m1 ?_
    cases h
    exact g_iret (pc := 24) dX12_store_24 rfl rfl rfl (Nat.le_refl _) (Nat.le_refl _)
  · replace h := (if_neg c1).symm.trans h
    refine g_iload_n (pc := 13) dX12_store_13 rfl ?_
    refine g_i2l (pc := 14) dX12_store_14 rfl ?_
    refine g_lconst (v := (0 : Int64)) (pc := 15) dX12_store_15 rfl ?_
    refine g_lconst (v := (1 : Int64)) (pc := 16) dX12_store_16 rfl ?_
    refine g_cS (pc := 17) dX12_store_17 cS_RX12_156 (M_X12_in (Nat.le_refl _) rfl) (as := [.long ((v2).toInt64), .long (0 : Int64), .long (1 : Int64)]) (st := []) rfl rfl (Nat.le_of_ble_eq_true rfl) (Nat.le_trans (Nat.le_of_ble_eq_true rfl) hd) rfl ?_
    refine g_if_ne (tgt := 25) (pc := 20) dX12_store_20 (by decide) (fun c2 => ?_) (fun c2 => ?_)
    · replace h := (if_neg c2).symm.trans h
      refine g_iconst (pc := 25) dX12_store_25 ic_0 ?_
      refine g_istore_n (pc := 26) dX12_store_26 (Nat.le_of_ble_eq_true rfl) (L' := [some (.ref 135), some (.int v1), some (.int v2), some (.int (0 : Int32)), none]) rfl ?_
      refine g_iconst (pc := 27) dX12_store_27 ic_0 ?_
      refine g_istore (pc := 28) dX12_store_28 (Nat.le_of_ble_eq_true rfl) (L' := [some (.ref 135), some (.int v1), some (.int v2), some (.int (0 : Int32)), some (.int (0 : Int32))]) rfl ?_
      exact G_X12_store_30 hd xN v1 v2 (0 : Int32) (0 : Int32) (wr u 135 0 (0 : Int32)) h
    · replace h := (if_pos c2).symm.trans h
      refine g_iconst (pc := 23) dX12_store_23 ic_m1 ?_
      cases h
      exact g_iret (pc := 24) dX12_store_24 rfl rfl rfl (Nat.le_refl _) (Nat.le_refl _)
set_option maxRecDepth 100000 in
set_option maxHeartbeats 4000000 in
theorem M_X12_store {sc : Nat × (Nat → Int32)} {d : Nat} (hd : 2 ≤ d) {r : Int32} {u u' : xS} {a1 : Int32} {a2 : Int32} (h : f_X12_store a1 a2 u = some (r, u')) : xMt sc mX12_store d 0 0 [.ref 135, .int a1, .int a2] (xL0, u) (some (.int r)) (xL0, u') :=
  xMt.of (by decide +kernel) (Nat.le_of_ble_eq_true rfl) (L := [some (.ref 135), some (.int a1), some (.int a2), none, none]) rfl ((G_X12_store_0 hd a1 a2 u h))
