set_option maxRecDepth 100000 in
set_option maxHeartbeats 4000000 in
theorem G_X12_make_76 {sc : Nat × (Nat → Int32)} {d : Nat} (hd : 2 ≤ d) {r : Int32} {u' : xS} : ∀ (n : Nat) (v1 : Int32) (v2 : Int32) (u : xS), f_X12_make_76 n v1 v2 u = some (r, u') → xG sc mX12_make d 0 0 (xR (some (.int r)) (xL0, u') 0 0) 0 0 76 [some (.ref 135), some (.int v1), some (.int v2)] [] (xL0, u) := by
  intro n
  induction n with
  | zero =>
    intro v1 v2 u h
    rw [f_X12_make_76] at h
    cases h
  | succ n ih =>
    intro v1 v2 u h
    rw [f_X12_make_76] at h
    refine g_iload_n (pc := 76) dX12_make_76 rfl ?_
    refine g_aload_n (pc := 77) dX12_make_77 rfl ?_
    refine g_gI (pc := 78) dX12_make_78 fI_RX12_153 xc_135 (v := (rd u 135 1)) rfl ?_
    refine g_icmp_ge (tgt := 112) (pc := 81) dX12_make_81 (by decide) (fun c1 => ?_) (fun c1 => ?_)
    · replace h := (if_pos c1).symm.trans h
      refine g_aload_n (pc := 112) dX12_make_112 rfl ?_
      refine g_gI (pc := 113) dX12_make_113 fI_RX12_223 xc_135 (v := (rd u 135 37)) rfl ?_
      refine g_iconst (pc := 116) dX12_make_116 ic_1 ?_
      refine g_isub (pc := 117) dX12_make_117 rfl ?_
      obtain ⟨h1, h2⟩ := x_inj2 h
      subst h1
      subst h2
      exact g_iret (pc := 118) dX12_make_118 rfl rfl rfl (Nat.le_refl _) (Nat.le_refl _)
    · replace h := (if_neg c1).symm.trans h
      refine g_aload_n (pc := 84) dX12_make_84 rfl ?_
      refine g_iload_n (pc := 85) dX12_make_85 rfl ?_
      refine g_aload_n (pc := 86) dX12_make_86 rfl ?_
      refine g_gR (pc := 87) dX12_make_87 fR_RX12_87 xc_135 (v := 160) rfl ?_
      refine g_iload_n (pc := 90) dX12_make_90 rfl ?_
      obtain ⟨g2, h⟩ := x_gd h
      refine g_iaload (pc := 91) dX12_make_91 xc_160 (xin_of g2) (v := (rd u 160 v2.toNatClampNeg)) rfl ?_
      refine g_iload_n (pc := 92) dX12_make_92 rfl ?_
      refine g_bipush (pc := 93) dX12_make_93 bp_12 ?_
      refine g_idiv (pc := 95) dX12_make_95 (by decide) rfl ?_
      refine g_imul (pc := 96) dX12_make_96 rfl ?_
      refine g_aload_n (pc := 97) dX12_make_97 rfl ?_
      refine g_gI (pc := 98) dX12_make_98 fI_RX12_223 xc_135 (v := (rd u 135 37)) rfl ?_
      refine g_iconst (pc := 101) dX12_make_101 ic_1 ?_
      refine g_isub (pc := 102) dX12_make_102 rfl ?_
      obtain ⟨u4, e3, h⟩ := x_bind h
      refine g_cV (pc := 103) dX12_make_103 cV_RX12_343 (M_X12_takesOf (Nat.le_refl _) e3) xc_135 (as := [.int v2, .int ((rd u 160 v2.toNatClampNeg) * (v1 / (12 : Int32))), .int ((rd u 135 37) - (1 : Int32))]) (st := []) rfl rfl (Nat.le_of_ble_eq_true rfl) (Nat.le_trans (Nat.le_of_ble_eq_true rfl) hd) rfl ?_
      refine g_inc (pc := 106) dX12_make_106 (Nat.le_of_ble_eq_true rfl) rfl ic_1 (L' := [some (.ref 135), some (.int v1), some (.int (v2 + (1 : Int32)))]) rfl ?_
      refine g_goto (tgt := 76) (pc := 109) dX12_make_109 (by decide) ?_
      exact ih v1 (v2 + (1 : Int32)) u4 h
set_option maxRecDepth 100000 in
set_option maxHeartbeats 4000000 in
theorem G_X12_make_0 {sc : Nat × (Nat → Int32)} {d : Nat} (hd : 2 ≤ d) {r : Int32} {u' : xS} (v1 : Int32) (u : xS) (h : f_X12_make v1 u = some (r, u')) : xG sc mX12_make d 0 0 (xR (some (.int r)) (xL0, u') 0 0) 0 0 0 [some (.ref 135), some (.int v1), none] [] (xL0, u) := by
  rw [f_X12_make] at h
  refine g_aload_n (pc := 0) dX12_make_0 rfl ?_
  refine g_iconst (pc := 1) dX12_make_1 ic_0 ?_
  refine g_pI (pc := 2) dX12_make_2 pI_RX12_150 xc_135 (u' := (wr u 135 0 (0 : Int32))) rfl ?_
  refine g_aload_n (pc := 5) dX12_make_5 rfl ?_
  obtain ⟨x2, e1, h⟩ := x_bind h
  refine g_cV (pc := 6) dX12_make_6 cV_RX12_356 (M_X12_partsInAll (Nat.le_refl _) e1) xc_135 (as := []) (st := []) rfl rfl (Nat.le_of_ble_eq_true rfl) (Nat.le_trans (Nat.le_of_ble_eq_true rfl) hd) rfl ?_
  refine g_bipush (pc := 9) dX12_make_9 bp_12 ?_
  refine g_icmp_ne (tgt := 52) (pc := 11) dX12_make_11 (by decide) (fun c3 => ?_) (fun c3 => ?_)
  · replace h := (if_neg c3).symm.trans h
    refine g_iconst (pc := 52) dX12_make_52 ic_m1 ?_
    obtain ⟨h1, h2⟩ := x_inj2 h
    subst h1
    subst h2
    exact g_iret (pc := 53) dX12_make_53 rfl rfl rfl (Nat.le_refl _) (Nat.le_refl _)
  · replace h := (if_pos c3).symm.trans h
    refine g_iload_n (pc := 14) dX12_make_14 rfl ?_
    refine g_i2l (pc := 15) dX12_make_15 rfl ?_
    refine g_ldc2 (pc := 16) dX12_make_16 kl_RX12_354 ?_
    refine g_ldc2 (pc := 19) dX12_make_19 kl_RX12_386 ?_
    refine g_cS (pc := 22) dX12_make_22 cS_RX12_156 (M_X12_in (Nat.le_refl _) rfl) (as := [.long ((v1).toInt64), .long (12 : Int64), .long (9996 : Int64)]) (st := []) rfl rfl (Nat.le_of_ble_eq_true rfl) (Nat.le_trans (Nat.le_of_ble_eq_true rfl) hd) rfl ?_
    refine g_if_eq (tgt := 52) (pc := 25) dX12_make_25 (by decide) (fun c4 => ?_) (fun c4 => ?_)
    · replace h := (if_pos c4).symm.trans h
      refine g_iconst (pc := 52) dX12_make_52 ic_m1 ?_
      obtain ⟨h1, h2⟩ := x_inj2 h
      subst h1
      subst h2
      exact g_iret (pc := 53) dX12_make_53 rfl rfl rfl (Nat.le_refl _) (Nat.le_refl _)
    · replace h := (if_neg c4).symm.trans h
      refine g_iload_n (pc := 28) dX12_make_28 rfl ?_
      refine g_bipush (pc := 29) dX12_make_29 bp_12 ?_
      refine g_irem (pc := 31) dX12_make_31 (by decide) rfl ?_
      refine g_if_ne (tgt := 52) (pc := 32) dX12_make_32 (by decide) (fun c5 => ?_) (fun c5 => ?_)
      · replace h := (if_neg c5).symm.trans h
        refine g_iconst (pc := 52) dX12_make_52 ic_m1 ?_
        obtain ⟨h1, h2⟩ := x_inj2 h
        subst h1
        subst h2
        exact g_iret (pc := 53) dX12_make_53 rfl rfl rfl (Nat.le_refl _) (Nat.le_refl _)
      · replace h := (if_pos c5).symm.trans h
        refine g_aload_n (pc := 35) dX12_make_35 rfl ?_
        refine g_gI (pc := 36) dX12_make_36 fI_RX12_223 xc_135 (v := (rd u 135 37)) rfl ?_
        refine g_bipush (pc := 39) dX12_make_39 bp_20 ?_
        refine g_icmp_eq (tgt := 52) (pc := 41) dX12_make_41 (by decide) (fun c6 => ?_) (fun c6 => ?_)
        · replace h := (if_pos c6).symm.trans h
          refine g_iconst (pc := 52) dX12_make_52 ic_m1 ?_
          obtain ⟨h1, h2⟩ := x_inj2 h
          subst h1
          subst h2
          exact g_iret (pc := 53) dX12_make_53 rfl rfl rfl (Nat.le_refl _) (Nat.le_refl _)
        · replace h := (if_neg c6).symm.trans h
          refine g_aload_n (pc := 44) dX12_make_44 rfl ?_
          refine g_iload_n (pc := 45) dX12_make_45 rfl ?_
          obtain ⟨x8, e7, h⟩ := x_bind h
          refine g_cV (pc := 46) dX12_make_46 cV_RX12_371 (M_X12_isEnough (Nat.le_refl _) e7) xc_135 (as := [.int v1]) (st := []) rfl rfl (Nat.le_of_ble_eq_true rfl) (Nat.le_trans (Nat.le_of_ble_eq_true rfl) hd) rfl ?_
          refine g_if_ne (tgt := 54) (pc := 49) dX12_make_49 (by decide) (fun c9 => ?_) (fun c9 => ?_)
          · replace h := (if_neg c9).symm.trans h
            refine g_aload_n (pc := 54) dX12_make_54 rfl ?_
            refine g_gR (pc := 55) dX12_make_55 fR_RX12_93 xc_135 (v := 162) rfl ?_
            refine g_aload_n (pc := 58) dX12_make_58 rfl ?_
            refine g_gI (pc := 59) dX12_make_59 fI_RX12_223 xc_135 (v := (rd u 135 37)) rfl ?_
            refine g_iconst (pc := 62) dX12_make_62 ic_2 ?_
            obtain ⟨g10, h⟩ := x_gd h
            refine g_iastore (pc := 63) dX12_make_63 xc_162 (xin_of g10) (u' := (wr (wr u 135 0 (0 : Int32)) 162 (rd u 135 37).toNatClampNeg (2 : Int32))) rfl ?_
            refine g_aload_n (pc := 64) dX12_make_64 rfl ?_
            refine g_dup (pc := 65) dX12_make_65 rfl ?_
            refine g_gI (pc := 66) dX12_make_66 fI_RX12_223 xc_135 (v := (rd u 135 37)) rfl ?_
            refine g_iconst (pc := 69) dX12_make_69 ic_1 ?_
            refine g_iadd (pc := 70) dX12_make_70 rfl ?_
            refine g_pI (pc := 71) dX12_make_71 pI_RX12_223 xc_135 (u' := (wr (wr (wr u 135 0 (0 : Int32)) 162 (rd u 135 37).toNatClampNeg (2 : Int32)) 135 37 ((rd u 135 37) + (1 : Int32)))) rfl ?_
            refine g_iconst (pc := 74) dX12_make_74 ic_0 ?_
            refine g_istore_n (pc := 75) dX12_make_75 (Nat.le_of_ble_eq_true rfl) (L' := [some (.ref 135), some (.int v1), some (.int (0 : Int32))]) rfl ?_
            exact G_X12_make_76 hd xN v1 (0 : Int32) (wr (wr (wr u 135 0 (0 : Int32)) 162 (rd u 135 37).toNatClampNeg (2 : Int32)) 135 37 ((rd u 135 37) + (1 : Int32))) h
          · replace h := (if_pos c9).symm.trans h
            refine g_iconst (pc := 52) dX12_make_52 ic_m1 ?_
            obtain ⟨h1, h2⟩ := x_inj2 h
            subst h1
            subst h2
            exact g_iret (pc := 53) dX12_make_53 rfl rfl rfl (Nat.le_refl _) (Nat.le_refl _)
set_option maxRecDepth 100000 in
set_option maxHeartbeats 4000000 in
theorem M_X12_make {sc : Nat × (Nat → Int32)} {d : Nat} (hd : 2 ≤ d) {r : Int32} {u u' : xS} {a1 : Int32} (h : f_X12_make a1 u = some (r, u')) : xMt sc mX12_make d 0 0 [.ref 135, .int a1] (xL0, u) (some (.int r)) (xL0, u') :=
  xMt.of (by decide +kernel) (by decide +kernel) (Nat.le_of_ble_eq_true rfl) (L := [some (.ref 135), some (.int a1), none]) rfl ((G_X12_make_0 hd a1 u h))
set_option maxRecDepth 100000 in
set_option maxHeartbeats 4000000 in
theorem G_X12_met_0 {sc : Nat × (Nat → Int32)} {d : Nat} (hd : 2 ≤ d) {r : Int32} {u' : xS} (v1 : Int32) (v2 : Int32) (u : xS) (h : f_X12_met v1 v2 u = some (r, u')) : xG sc mX12_met d 0 0 (xR (some (.int r)) (xL0, u') 0 0) 0 0 0 [some (.ref 135), some (.int v1), some (.int v2)] [] (xL0, u) := by
  rw [f_X12_met] at h
  refine g_aload_n (pc := 0) dX12_met_0 rfl ?_
  refine g_iconst (pc := 1) dX12_met_1 ic_0 ?_
  refine g_pI (pc := 2) dX12_met_2 pI_RX12_150 xc_135 (u' := (wr u 135 0 (0 : Int32))) rfl ?_
  refine g_iload_n (pc := 5) dX12_met_5 rfl ?_
  refine g_cS (pc := 6) dX12_met_6 cS_RX12_208 (M_X12_isSorter (Nat.le_refl _) rfl) (as := [.int v1]) (st := []) rfl rfl (Nat.le_of_ble_eq_true rfl) (Nat.le_trans (Nat.le_of_ble_eq_true rfl) hd) rfl ?_
  refine g_if_eq (tgt := 33) (pc := 9) dX12_met_9 (by decide) (fun c1 => ?_) (fun c1 => ?_)
  · replace h := (if_pos c1).symm.trans h
    refine g_iconst (pc := 33) dX12_met_33 ic_m1 ?_
    obtain ⟨h1, h2⟩ := x_inj2 h
    subst h1
    subst h2
    exact g_iret (pc := 34) dX12_met_34 rfl rfl rfl (Nat.le_refl _) (Nat.le_refl _)
  · replace h := (if_neg c1).symm.trans h
    refine g_iload_n (pc := 12) dX12_met_12 rfl ?_
    refine g_cS (pc := 13) dX12_met_13 cS_RX12_208 (M_X12_isSorter (Nat.le_refl _) rfl) (as := [.int v2]) (st := []) rfl rfl (Nat.le_of_ble_eq_true rfl) (Nat.le_trans (Nat.le_of_ble_eq_true rfl) hd) rfl ?_
    refine g_if_eq (tgt := 33) (pc := 16) dX12_met_16 (by decide) (fun c2 => ?_) (fun c2 => ?_)
    · replace h := (if_pos c2).symm.trans h
      refine g_iconst (pc := 33) dX12_met_33 ic_m1 ?_
      obtain ⟨h1, h2⟩ := x_inj2 h
      subst h1
      subst h2
      exact g_iret (pc := 34) dX12_met_34 rfl rfl rfl (Nat.le_refl _) (Nat.le_refl _)
    · replace h := (if_neg c2).symm.trans h
      refine g_iload_n (pc := 19) dX12_met_19 rfl ?_
      refine g_iload_n (pc := 20) dX12_met_20 rfl ?_
      refine g_icmp_eq (tgt := 33) (pc := 21) dX12_met_21 (by decide) (fun c3 => ?_) (fun c3 => ?_)
      · replace h := (if_pos c3).symm.trans h
        refine g_iconst (pc := 33) dX12_met_33 ic_m1 ?_
        obtain ⟨h1, h2⟩ := x_inj2 h
        subst h1
        subst h2
        exact g_iret (pc := 34) dX12_met_34 rfl rfl rfl (Nat.le_refl _) (Nat.le_refl _)
      · replace h := (if_neg c3).symm.trans h
        refine g_aload_n (pc := 24) dX12_met_24 rfl ?_
        refine g_iload_n (pc := 25) dX12_met_25 rfl ?_
        refine g_iload_n (pc := 26) dX12_met_26 rfl ?_
        obtain ⟨x5, e4, h⟩ := x_bind h
        refine g_cV (pc := 27) dX12_met_27 cV_RX12_412 (M_X12_alike (Nat.le_refl _) e4) xc_135 (as := [.int v1, .int v2]) (st := []) rfl rfl (Nat.le_of_ble_eq_true rfl) (Nat.le_trans (Nat.le_of_ble_eq_true rfl) hd) rfl ?_
        refine g_goto (tgt := 34) (pc := 30) dX12_met_30 (by decide) ?_
        obtain ⟨h1, h2⟩ := x_inj2 h
        subst h1
        subst h2
        exact g_iret (pc := 34) dX12_met_34 rfl rfl rfl (Nat.le_refl _) (Nat.le_refl _)
set_option maxRecDepth 100000 in
set_option maxHeartbeats 4000000 in
theorem M_X12_met {sc : Nat × (Nat → Int32)} {d : Nat} (hd : 2 ≤ d) {r : Int32} {u u' : xS} {a1 : Int32} {a2 : Int32} (h : f_X12_met a1 a2 u = some (r, u')) : xMt sc mX12_met d 0 0 [.ref 135, .int a1, .int a2] (xL0, u) (some (.int r)) (xL0, u') :=
  xMt.of (by decide +kernel) (by decide +kernel) (Nat.le_of_ble_eq_true rfl) (L := [some (.ref 135), some (.int a1), some (.int a2)]) rfl ((G_X12_met_0 hd a1 a2 u h))
set_option maxRecDepth 100000 in
set_option maxHeartbeats 4000000 in
theorem G_X12_mixes_114 {sc : Nat × (Nat → Int32)} {d : Nat} (hd : 6 ≤ d) {u' : xS} {dk : Nat} (hkd : dk + 1 ≤ d) {k_X12_mixes : Int32 → Int32 → Int32 → Int32 → Int32 → Int32 → xS → Option xS} (hk_X12_mixes : ∀ (a1 a2 a3 a4 a5 a6 : Int32) (u u' : xS), k_X12_mixes a1 a2 a3 a4 a5 a6 u = some u' → xMt sc mX12_mixes dk 0 0 [.ref 135, .int a1, .int a2, .int a3, .int a4, .int a5, .int a6] (xL0, u) none (xL0, u')) {k96 : Int32 → Int32 → Int32 → Int32 → Int32 → Int32 → Int32 → xS → Option xS} (hk96 : ∀ (v1 : Int32) (v2 : Int32) (v3 : Int32) (v4 : Int32) (v5 : Int32) (v6 : Int32) (v7 : Int32) (u : xS), k96 v1 v2 v3 v4 v5 v6 v7 u = some u' → xG sc mX12_mixes d 0 0 (xR none (xL0, u') 0 0) 0 0 96 [some (.ref 135), some (.int v1), some (.int v2), some (.int v3), some (.int v4), some (.int v5), some (.int v6), some (.int v7)] [] (xL0, u)) (v1 : Int32) (v2 : Int32) (v3 : Int32) (v4 : Int32) (v5 : Int32) (v6 : Int32) (v7 : Int32) (s0 : Int32) (s1 : Int32) (u : xS) (h : f_X12_mixes_114 k_X12_mixes k96 v1 v2 v3 v4 v5 v6 v7 s0 s1 u = some u') : xG sc mX12_mixes d 0 0 (xR none (xL0, u') 0 0) 0 0 114 [some (.ref 135), some (.int v1), some (.int v2), some (.int v3), some (.int v4), some (.int v5), some (.int v6), some (.int v7)] [.int s1, .int s0] (xL0, u) := by
  rw [f_X12_mixes_114] at h
  refine g_icmp_gt (tgt := 150) (pc := 114) dX12_mixes_114 (by decide) (fun c1 => ?_) (fun c1 => ?_)
  · replace h := (if_pos c1).symm.trans h
    refine g_aload_n (pc := 150) dX12_mixes_150 rfl ?_
    refine g_gR (pc := 151) dX12_mixes_151 fR_RX12_87 xc_135 (v := 160) rfl ?_
    refine g_iload (pc := 154) dX12_mixes_154 rfl ?_
    refine g_iconst (pc := 156) dX12_mixes_156 ic_0 ?_
    obtain ⟨g2, h⟩ := x_gd h
    refine g_iastore (pc := 157) dX12_mixes_157 xc_160 (xin_of g2) (u' := (wr u 160 v5.toNatClampNeg (0 : Int32))) rfl ?_
    replace h := Option.some.inj h
    subst h
    exact g_ret (pc := 158) dX12_mixes_158 rfl rfl rfl (Nat.le_refl _) (Nat.le_refl _)
  · replace h := (if_neg c1).symm.trans h
    refine g_aload_n (pc := 117) dX12_mixes_117 rfl ?_
    refine g_gR (pc := 118) dX12_mixes_118 fR_RX12_87 xc_135 (v := 160) rfl ?_
    refine g_iload (pc := 121) dX12_mixes_121 rfl ?_
    refine g_iload (pc := 123) dX12_mixes_123 rfl ?_
    obtain ⟨g3, h⟩ := x_gd h
    refine g_iastore (pc := 125) dX12_mixes_125 xc_160 (xin_of g3) (u' := (wr u 160 v5.toNatClampNeg v7)) rfl ?_
    refine g_aload_n (pc := 126) dX12_mixes_126 rfl ?_
    refine g_iload_n (pc := 127) dX12_mixes_127 rfl ?_
    refine g_iload_n (pc := 128) dX12_mixes_128 rfl ?_
    refine g_iload_n (pc := 129) dX12_mixes_129 rfl ?_
    refine g_iload (pc := 130) dX12_mixes_130 rfl ?_
    refine g_iload (pc := 132) dX12_mixes_132 rfl ?_
    refine g_iconst (pc := 134) dX12_mixes_134 ic_1 ?_
    refine g_iadd (pc := 135) dX12_mixes_135 rfl ?_
    refine g_iload (pc := 136) dX12_mixes_136 rfl ?_
    refine g_iload (pc := 138) dX12_mixes_138 rfl ?_
    refine g_isub (pc := 140) dX12_mixes_140 rfl ?_
    obtain ⟨u5, e4, h⟩ := x_bind h
    refine g_cV (pc := 141) dX12_mixes_141 cV_RX12_377 (hk_X12_mixes _ _ _ _ _ _ _ _ e4) xc_135 (as := [.int v1, .int v2, .int v3, .int v4, .int (v5 + (1 : Int32)), .int (v6 - v7)]) (st := []) rfl rfl (Nat.le_of_ble_eq_true rfl) hkd rfl ?_
    refine g_inc (pc := 144) dX12_mixes_144 (Nat.le_of_ble_eq_true rfl) rfl ic_1 (L' := [some (.ref 135), some (.int v1), some (.int v2), some (.int v3), some (.int v4), some (.int v5), some (.int v6), some (.int (v7 + (1 : Int32)))]) rfl ?_
    refine g_goto (tgt := 96) (pc := 147) dX12_mixes_147 (by decide) ?_
    exact hk96 v1 v2 v3 v4 v5 v6 (v7 + (1 : Int32)) u5 h
set_option maxRecDepth 100000 in
set_option maxHeartbeats 4000000 in
theorem G_X12_mixes_96 {sc : Nat × (Nat → Int32)} {d : Nat} (hd : 6 ≤ d) {u' : xS} {dk : Nat} (hkd : dk + 1 ≤ d) {k_X12_mixes : Int32 → Int32 → Int32 → Int32 → Int32 → Int32 → xS → Option xS} (hk_X12_mixes : ∀ (a1 a2 a3 a4 a5 a6 : Int32) (u u' : xS), k_X12_mixes a1 a2 a3 a4 a5 a6 u = some u' → xMt sc mX12_mixes dk 0 0 [.ref 135, .int a1, .int a2, .int a3, .int a4, .int a5, .int a6] (xL0, u) none (xL0, u')) : ∀ (n : Nat) (v1 : Int32) (v2 : Int32) (v3 : Int32) (v4 : Int32) (v5 : Int32) (v6 : Int32) (v7 : Int32) (u : xS), f_X12_mixes_96 k_X12_mixes n v1 v2 v3 v4 v5 v6 v7 u = some u' → xG sc mX12_mixes d 0 0 (xR none (xL0, u') 0 0) 0 0 96 [some (.ref 135), some (.int v1), some (.int v2), some (.int v3), some (.int v4), some (.int v5), some (.int v6), some (.int v7)] [] (xL0, u) := by
  intro n
  induction n with
  | zero =>
    intro v1 v2 v3 v4 v5 v6 v7 u h
    rw [f_X12_mixes_96] at h
    cases h
  | succ n ih =>
    intro v1 v2 v3 v4 v5 v6 v7 u h
    rw [f_X12_mixes_96] at h
    refine g_iload (pc := 96) dX12_mixes_96 rfl ?_
    refine g_iload_n (pc := 98) dX12_mixes_98 rfl ?_
    refine g_iload (pc := 99) dX12_mixes_99 rfl ?_
    refine g_ishr (pc := 101) dX12_mixes_101 rfl ?_
    refine g_iconst (pc := 102) dX12_mixes_102 ic_1 ?_
    refine g_iand (pc := 103) dX12_mixes_103 rfl ?_
    refine g_iconst (pc := 104) dX12_mixes_104 ic_1 ?_
    refine g_icmp_ne (tgt := 113) (pc := 105) dX12_mixes_105 (by decide) (fun c1 => ?_) (fun c1 => ?_)
    · replace h := (if_neg c1).symm.trans h
      refine g_iconst (pc := 113) dX12_mixes_113 ic_0 ?_
      exact G_X12_mixes_114 hd hkd hk_X12_mixes ih v1 v2 v3 v4 v5 v6 v7 v7 (0 : Int32) u h
    · replace h := (if_pos c1).symm.trans h
      refine g_iload (pc := 108) dX12_mixes_108 rfl ?_
      refine g_goto (tgt := 114) (pc := 110) dX12_mixes_110 (by decide) ?_
      exact G_X12_mixes_114 hd hkd hk_X12_mixes ih v1 v2 v3 v4 v5 v6 v7 v7 v6 u h
set_option maxRecDepth 100000 in
set_option maxHeartbeats 4000000 in
theorem G_X12_mixes_63 {sc : Nat × (Nat → Int32)} {d : Nat} (hd : 6 ≤ d) {u' : xS} {dk : Nat} (hkd : dk + 1 ≤ d) {k_X12_mixes : Int32 → Int32 → Int32 → Int32 → Int32 → Int32 → xS → Option xS} (hk_X12_mixes : ∀ (a1 a2 a3 a4 a5 a6 : Int32) (u u' : xS), k_X12_mixes a1 a2 a3 a4 a5 a6 u = some u' → xMt sc mX12_mixes dk 0 0 [.ref 135, .int a1, .int a2, .int a3, .int a4, .int a5, .int a6] (xL0, u) none (xL0, u')) : ∀ (n : Nat) (v7 : Int32) (u : xS), f_X12_mixes_63 k_X12_mixes n v7 u = some u' → xG sc mX12_mixes d 0 0 (xR none (xL0, u') 0 0) 0 0 63 [some (.ref 135), none, none, none, none, none, none, some (.int v7)] [] (xL0, u) := by
  intro n
  induction n with
  | zero =>
    intro v7 u h
    rw [f_X12_mixes_63] at h
    cases h
  | succ n ih =>
    intro v7 u h
    rw [f_X12_mixes_63] at h
    refine g_iload (pc := 63) dX12_mixes_63 rfl ?_
    refine g_aload_n (pc := 65) dX12_mixes_65 rfl ?_
    refine g_gI (pc := 66) dX12_mixes_66 fI_RX12_153 xc_135 (v := (rd u 135 1)) rfl ?_
    refine g_icmp_ge (tgt := 92) (pc := 69) dX12_mixes_69 (by decide) (fun c1 => ?_) (fun c1 => ?_)
    · replace h := (if_pos c1).symm.trans h
      replace h := Option.some.inj h
      subst h
      exact g_ret (pc := 92) dX12_mixes_92 rfl rfl rfl (Nat.le_refl _) (Nat.le_refl _)
    · replace h := (if_neg c1).symm.trans h
      refine g_aload_n (pc := 72) dX12_mixes_72 rfl ?_
      refine g_gR (pc := 73) dX12_mixes_73 fR_RX12_99 xc_135 (v := 164) rfl ?_
      refine g_iload (pc := 76) dX12_mixes_76 rfl ?_
      refine g_aload_n (pc := 78) dX12_mixes_78 rfl ?_
      refine g_gR (pc := 79) dX12_mixes_79 fR_RX12_87 xc_135 (v := 160) rfl ?_
      refine g_iload (pc := 82) dX12_mixes_82 rfl ?_
      obtain ⟨g2, h⟩ := x_gd h
      refine g_iaload (pc := 84) dX12_mixes_84 xc_160 (xin_of g2) (v := (rd u 160 v7.toNatClampNeg)) rfl ?_
      refine g_iastore (pc := 85) dX12_mixes_85 xc_164 (xin_of g2) (u' := (wr u 164 v7.toNatClampNeg (rd u 160 v7.toNatClampNeg))) rfl ?_
      refine g_inc (pc := 86) dX12_mixes_86 (Nat.le_of_ble_eq_true rfl) rfl ic_1 (L' := [some (.ref 135), none, none, none, none, none, none, some (.int (v7 + (1 : Int32)))]) rfl ?_
      refine g_goto (tgt := 63) (pc := 89) dX12_mixes_89 (by decide) ?_
      exact ih (v7 + (1 : Int32)) (wr u 164 v7.toNatClampNeg (rd u 160 v7.toNatClampNeg)) h
set_option maxRecDepth 100000 in
set_option maxHeartbeats 4000000 in
theorem G_X12_mixes_50 {sc : Nat × (Nat → Int32)} {d : Nat} (hd : 6 ≤ d) {u' : xS} {dk : Nat} (hkd : dk + 1 ≤ d) {k_X12_mixes : Int32 → Int32 → Int32 → Int32 → Int32 → Int32 → xS → Option xS} (hk_X12_mixes : ∀ (a1 a2 a3 a4 a5 a6 : Int32) (u u' : xS), k_X12_mixes a1 a2 a3 a4 a5 a6 u = some u' → xMt sc mX12_mixes dk 0 0 [.ref 135, .int a1, .int a2, .int a3, .int a4, .int a5, .int a6] (xL0, u) none (xL0, u')) (v4 : Int32) (u : xS) (h : f_X12_mixes_50 k_X12_mixes v4 u = some u') : xG sc mX12_mixes d 0 0 (xR none (xL0, u') 0 0) 0 0 50 [some (.ref 135), none, none, none, some (.int v4), none, none, none] [] (xL0, u) := by
  rw [f_X12_mixes_50] at h
  refine g_aload_n (pc := 50) dX12_mixes_50 rfl ?_
  refine g_aload_n (pc := 51) dX12_mixes_51 rfl ?_
  refine g_iload (pc := 52) dX12_mixes_52 rfl ?_
  obtain ⟨x2, e1, h⟩ := x_bind h
  refine g_cV (pc := 54) dX12_mixes_54 cV_RX12_368 (M_X12_costOf (Nat.le_refl _) e1) xc_135 (as := [.int v4]) (st := [.ref 135]) rfl rfl (Nat.le_of_ble_eq_true rfl) (Nat.le_trans (Nat.le_of_ble_eq_true rfl) hd) rfl ?_
  refine g_pI (pc := 57) dX12_mixes_57 pI_RX12_374 xc_135 (u' := (wr u 135 42 x2)) rfl ?_
  refine g_iconst (pc := 60) dX12_mixes_60 ic_0 ?_
  refine g_istore (pc := 61) dX12_mixes_61 (Nat.le_of_ble_eq_true rfl) (L' := [some (.ref 135), none, none, none, some (.int v4), none, none, some (.int (0 : Int32))]) rfl ?_
  refine g_L (L' := [some (.ref 135), none, none, none, none, none, none, some (.int (0 : Int32))]) ⟨rfl, ⟨rfl, trivial⟩⟩ ?_
  exact G_X12_mixes_63 hd hkd hk_X12_mixes xN (0 : Int32) (wr u 135 42 x2) h
set_option maxRecDepth 100000 in
set_option maxHeartbeats 4000000 in
theorem G_X12_mixes_0 {sc : Nat × (Nat → Int32)} {d : Nat} (hd : 6 ≤ d) {u' : xS} {dk : Nat} (hkd : dk + 1 ≤ d) {k_X12_mixes : Int32 → Int32 → Int32 → Int32 → Int32 → Int32 → xS → Option xS} (hk_X12_mixes : ∀ (a1 a2 a3 a4 a5 a6 : Int32) (u u' : xS), k_X12_mixes a1 a2 a3 a4 a5 a6 u = some u' → xMt sc mX12_mixes dk 0 0 [.ref 135, .int a1, .int a2, .int a3, .int a4, .int a5, .int a6] (xL0, u) none (xL0, u')) (v1 : Int32) (v2 : Int32) (v3 : Int32) (v4 : Int32) (v5 : Int32) (v6 : Int32) (u : xS) (h : f_X12_mixes k_X12_mixes v1 v2 v3 v4 v5 v6 u = some u') : xG sc mX12_mixes d 0 0 (xR none (xL0, u') 0 0) 0 0 0 [some (.ref 135), some (.int v1), some (.int v2), some (.int v3), some (.int v4), some (.int v5), some (.int v6), none] [] (xL0, u) := by
  rw [f_X12_mixes] at h
  refine g_iload (pc := 0) dX12_mixes_0 rfl ?_
  refine g_aload_n (pc := 2) dX12_mixes_2 rfl ?_
  refine g_gI (pc := 3) dX12_mixes_3 fI_RX12_153 xc_135 (v := (rd u 135 1)) rfl ?_
  refine g_icmp_ne (tgt := 93) (pc := 6) dX12_mixes_6 (by decide) (fun c1 => ?_) (fun c1 => ?_)
  · replace h := (if_neg c1).symm.trans h
    refine g_iconst (pc := 93) dX12_mixes_93 ic_0 ?_
    refine g_istore (pc := 94) dX12_mixes_94 (Nat.le_of_ble_eq_true rfl) (L' := [some (.ref 135), some (.int v1), some (.int v2), some (.int v3), some (.int v4), some (.int v5), some (.int v6), some (.int (0 : Int32))]) rfl ?_
    exact G_X12_mixes_96 hd hkd hk_X12_mixes xN v1 v2 v3 v4 v5 v6 (0 : Int32) u h
  · replace h := (if_pos c1).symm.trans h
    refine g_iload (pc := 9) dX12_mixes_9 rfl ?_
    refine g_if_ne (tgt := 92) (pc := 11) dX12_mixes_11 (by decide) (fun c2 => ?_) (fun c2 => ?_)
    · replace h := (if_neg c2).symm.trans h
      replace h := Option.some.inj h
      subst h
      exact g_ret (pc := 92) dX12_mixes_92 rfl rfl rfl (Nat.le_refl _) (Nat.le_refl _)
    · replace h := (if_pos c2).symm.trans h
      refine g_aload_n (pc := 14) dX12_mixes_14 rfl ?_
      refine g_iload_n (pc := 15) dX12_mixes_15 rfl ?_
      obtain ⟨x4, e3, h⟩ := x_bind h
      refine g_cV (pc := 16) dX12_mixes_16 cV_RX12_371 (M_X12_isEnough (Nat.le_refl _) e3) xc_135 (as := [.int v3]) (st := []) rfl rfl (Nat.le_of_ble_eq_true rfl) (Nat.le_trans (Nat.le_of_ble_eq_true rfl) hd) rfl ?_
      refine g_if_eq (tgt := 92) (pc := 19) dX12_mixes_19 (by decide) (fun c5 => ?_) (fun c5 => ?_)
      · replace h := (if_pos c5).symm.trans h
        replace h := Option.some.inj h
        subst h
        exact g_ret (pc := 92) dX12_mixes_92 rfl rfl rfl (Nat.le_refl _) (Nat.le_refl _)
      · replace h := (if_neg c5).symm.trans h
        refine g_aload_n (pc := 22) dX12_mixes_22 rfl ?_
        refine g_iload_n (pc := 23) dX12_mixes_23 rfl ?_
        obtain ⟨⟨x7, u8⟩, e6, h⟩ := x_bind h
        dsimp only at h
        refine g_cV (pc := 24) dX12_mixes_24 cV_RX12_365 (M_X12_judged (Nat.le_refl _) e6) xc_135 (as := [.int v1]) (st := []) rfl rfl (Nat.le_of_ble_eq_true rfl) (Nat.le_trans (Nat.le_of_ble_eq_true rfl) hd) rfl ?_
        refine g_if_ge (tgt := 92) (pc := 27) dX12_mixes_27 (by decide) (fun c9 => ?_) (fun c9 => ?_)
        · replace h := (if_pos c9).symm.trans h
          replace h := Option.some.inj h
          subst h
          exact g_ret (pc := 92) dX12_mixes_92 rfl rfl rfl (Nat.le_refl _) (Nat.le_refl _)
        · replace h := (if_neg c9).symm.trans h
          refine g_aload_n (pc := 30) dX12_mixes_30 rfl ?_
          refine g_gI (pc := 31) dX12_mixes_31 fI_RX12_374 xc_135 (v := (rd u8 135 42)) rfl ?_
          refine g_if_lt (tgt := 50) (pc := 34) dX12_mixes_34 (by decide) (fun c10 => ?_) (fun c10 => ?_)
          · replace h := (if_pos c10).symm.trans h
            refine g_L (L' := [some (.ref 135), none, none, none, some (.int v4), none, none, none]) ⟨rfl, ⟨rfl, trivial⟩⟩ ?_
            exact G_X12_mixes_50 hd hkd hk_X12_mixes v4 u8 h
          · replace h := (if_neg c10).symm.trans h
            refine g_aload_n (pc := 37) dX12_mixes_37 rfl ?_
            refine g_iload (pc := 38) dX12_mixes_38 rfl ?_
            obtain ⟨x12, e11, h⟩ := x_bind h
            refine g_cV (pc := 40) dX12_mixes_40 cV_RX12_368 (M_X12_costOf (Nat.le_refl _) e11) xc_135 (as := [.int v4]) (st := []) rfl rfl (Nat.le_of_ble_eq_true rfl) (Nat.le_trans (Nat.le_of_ble_eq_true rfl) hd) rfl ?_
            refine g_aload_n (pc := 43) dX12_mixes_43 rfl ?_
            refine g_gI (pc := 44) dX12_mixes_44 fI_RX12_374 xc_135 (v := (rd u8 135 42)) rfl ?_
            refine g_icmp_ge (tgt := 92) (pc := 47) dX12_mixes_47 (by decide) (fun c13 => ?_) (fun c13 => ?_)
            · replace h := (if_pos c13).symm.trans h
              replace h := Option.some.inj h
              subst h
              exact g_ret (pc := 92) dX12_mixes_92 rfl rfl rfl (Nat.le_refl _) (Nat.le_refl _)
            · replace h := (if_neg c13).symm.trans h
              refine g_L (L' := [some (.ref 135), none, none, none, some (.int v4), none, none, none]) ⟨rfl, ⟨rfl, trivial⟩⟩ ?_
              exact G_X12_mixes_50 hd hkd hk_X12_mixes v4 u8 h
set_option maxRecDepth 100000 in
set_option maxHeartbeats 4000000 in
theorem M_X12_mixes {sc : Nat × (Nat → Int32)} {d : Nat} (hd : 6 ≤ d) {u u' : xS} {dk : Nat} (hkd : dk + 1 ≤ d) {k_X12_mixes : Int32 → Int32 → Int32 → Int32 → Int32 → Int32 → xS → Option xS} (hk_X12_mixes : ∀ (a1 a2 a3 a4 a5 a6 : Int32) (u u' : xS), k_X12_mixes a1 a2 a3 a4 a5 a6 u = some u' → xMt sc mX12_mixes dk 0 0 [.ref 135, .int a1, .int a2, .int a3, .int a4, .int a5, .int a6] (xL0, u) none (xL0, u')) {a1 : Int32} {a2 : Int32} {a3 : Int32} {a4 : Int32} {a5 : Int32} {a6 : Int32} (h : f_X12_mixes k_X12_mixes a1 a2 a3 a4 a5 a6 u = some u') : xMt sc mX12_mixes d 0 0 [.ref 135, .int a1, .int a2, .int a3, .int a4, .int a5, .int a6] (xL0, u) none (xL0, u') :=
  xMt.of (by decide +kernel) (by decide +kernel) (Nat.le_of_ble_eq_true rfl) (L := [some (.ref 135), some (.int a1), some (.int a2), some (.int a3), some (.int a4), some (.int a5), some (.int a6), none]) rfl ((G_X12_mixes_0 hd hkd hk_X12_mixes a1 a2 a3 a4 a5 a6 u h))
theorem Mr_mixes {sc : Nat × (Nat → Int32)} : ∀ n : Nat, ∀ (a1 a2 a3 a4 a5 a6 : Int32) (u u' : xS), (fr_mixes n) a1 a2 a3 a4 a5 a6 u = some u' → xMt sc mX12_mixes (n + 6) 0 0 [.ref 135, .int a1, .int a2, .int a3, .int a4, .int a5, .int a6] (xL0, u) none (xL0, u') := by
  intro n
  induction n with
  | zero =>
    intro a1 a2 a3 a4 a5 a6 u u' h
    cases h
  | succ n ih =>
    intro a1 a2 a3 a4 a5 a6 u u' h
    exact M_X12_mixes (dk := n + 6) (by omega) (by omega) ih h
set_option maxRecDepth 100000 in
set_option maxHeartbeats 4000000 in
theorem M_r_X12_mixes {sc : Nat × (Nat → Int32)} {d : Nat} (hd : 26 ≤ d) {u u' : xS} {a1 a2 a3 a4 a5 a6 : Int32} (h : f_r_X12_mixes a1 a2 a3 a4 a5 a6 u = some u') : xMt sc mX12_mixes 26 0 0 [.ref 135, .int a1, .int a2, .int a3, .int a4, .int a5, .int a6] (xL0, u) none (xL0, u') := Mr_mixes 20 _ _ _ _ _ _ _ _  h
set_option maxRecDepth 100000 in
set_option maxHeartbeats 4000000 in
theorem G_J6_bitCount_0f7a4_0 {sc : Nat × (Nat → Int32)} {d : Nat} (hd : 0 ≤ d) {r : Int32} {u : xS} (v0 : Int32) (h : f_J6_bitCount_0f7a4 v0 = r) : xG sc mJ6_bitCount_0f7a4 d 0 0 (xR (some (.int r)) (xL0, u) 0 0) 0 0 0 [some (.int v0)] [] (xL0, u) := by
  rw [f_J6_bitCount_0f7a4] at h
  refine g_iload_n (pc := 0) dJ6_bitCount_0f7a4_0 rfl ?_
  refine g_iload_n (pc := 1) dJ6_bitCount_0f7a4_1 rfl ?_
  refine g_iconst (pc := 2) dJ6_bitCount_0f7a4_2 ic_1 ?_
  refine g_iushr (pc := 3) dJ6_bitCount_0f7a4_3 (v := ((v0.toUInt32 >>> ((1 : Int32).toUInt32 &&& Int32.toUInt32 31)).toInt32)) rfl ?_
  refine g_ldcw (pc := 4) dJ6_bitCount_0f7a4_4 kc_RJ6_265 ?_
  refine g_iand (pc := 7) dJ6_bitCount_0f7a4_7 rfl ?_
  refine g_isub (pc := 8) dJ6_bitCount_0f7a4_8 rfl ?_
  refine g_istore_n (pc := 9) dJ6_bitCount_0f7a4_9 (Nat.le_of_ble_eq_true rfl) (L' := [some (.int (v0 - (((v0.toUInt32 >>> ((1 : Int32).toUInt32 &&& Int32.toUInt32 31)).toInt32) &&& (1431655765 : Int32))))]) rfl ?_
  refine g_iload_n (pc := 10) dJ6_bitCount_0f7a4_10 rfl ?_
  refine g_ldcw (pc := 11) dJ6_bitCount_0f7a4_11 kc_RJ6_266 ?_
  refine g_iand (pc := 14) dJ6_bitCount_0f7a4_14 rfl ?_
  refine g_iload_n (pc := 15) dJ6_bitCount_0f7a4_15 rfl ?_
  refine g_iconst (pc := 16) dJ6_bitCount_0f7a4_16 ic_2 ?_
  refine g_iushr (pc := 17) dJ6_bitCount_0f7a4_17 (v := (((v0 - (((v0.toUInt32 >>> ((1 : Int32).toUInt32 &&& Int32.toUInt32 31)).toInt32) &&& (1431655765 : Int32))).toUInt32 >>> ((2 : Int32).toUInt32 &&& Int32.toUInt32 31)).toInt32)) rfl ?_
  refine g_ldcw (pc := 18) dJ6_bitCount_0f7a4_18 kc_RJ6_266 ?_
  refine g_iand (pc := 21) dJ6_bitCount_0f7a4_21 rfl ?_
  refine g_iadd (pc := 22) dJ6_bitCount_0f7a4_22 rfl ?_
  refine g_istore_n (pc := 23) dJ6_bitCount_0f7a4_23 (Nat.le_of_ble_eq_true rfl) (L' := [some (.int (((v0 - (((v0.toUInt32 >>> ((1 : Int32).toUInt32 &&& Int32.toUInt32 31)).toInt32) &&& (1431655765 : Int32))) &&& (858993459 : Int32)) + ((((v0 - (((v0.toUInt32 >>> ((1 : Int32).toUInt32 &&& Int32.toUInt32 31)).toInt32) &&& (1431655765 : Int32))).toUInt32 >>> ((2 : Int32).toUInt32 &&& Int32.toUInt32 31)).toInt32) &&& (858993459 : Int32))))]) rfl ?_
  refine g_iload_n (pc := 24) dJ6_bitCount_0f7a4_24 rfl ?_
  refine g_iload_n (pc := 25) dJ6_bitCount_0f7a4_25 rfl ?_
  refine g_iconst (pc := 26) dJ6_bitCount_0f7a4_26 ic_4 ?_
  refine g_iushr (pc := 27) dJ6_bitCount_0f7a4_27 (v := (((((v0 - (((v0.toUInt32 >>> ((1 : Int32).toUInt32 &&& Int32.toUInt32 31)).toInt32) &&& (1431655765 : Int32))) &&& (858993459 : Int32)) + ((((v0 - (((v0.toUInt32 >>> ((1 : Int32).toUInt32 &&& Int32.toUInt32 31)).toInt32) &&& (1431655765 : Int32))).toUInt32 >>> ((2 : Int32).toUInt32 &&& Int32.toUInt32 31)).toInt32) &&& (858993459 : Int32))).toUInt32 >>> ((4 : Int32).toUInt32 &&& Int32.toUInt32 31)).toInt32)) rfl ?_
  refine g_iadd (pc := 28) dJ6_bitCount_0f7a4_28 rfl ?_
  refine g_ldcw (pc := 29) dJ6_bitCount_0f7a4_29 kc_RJ6_267 ?_
  refine g_iand (pc := 32) dJ6_bitCount_0f7a4_32 rfl ?_
  refine g_istore_n (pc := 33) dJ6_bitCount_0f7a4_33 (Nat.le_of_ble_eq_true rfl) (L' := [some (.int (((((v0 - (((v0.toUInt32 >>> ((1 : Int32).toUInt32 &&& Int32.toUInt32 31)).toInt32) &&& (1431655765 : Int32))) &&& (858993459 : Int32)) + ((((v0 - (((v0.toUInt32 >>> ((1 : Int32).toUInt32 &&& Int32.toUInt32 31)).toInt32) &&& (1431655765 : Int32))).toUInt32 >>> ((2 : Int32).toUInt32 &&& Int32.toUInt32 31)).toInt32) &&& (858993459 : Int32))) + (((((v0 - (((v0.toUInt32 >>> ((1 : Int32).toUInt32 &&& Int32.toUInt32 31)).toInt32) &&& (1431655765 : Int32))) &&& (858993459 : Int32)) + ((((v0 - (((v0.toUInt32 >>> ((1 : Int32).toUInt32 &&& Int32.toUInt32 31)).toInt32) &&& (1431655765 : Int32))).toUInt32 >>> ((2 : Int32).toUInt32 &&& Int32.toUInt32 31)).toInt32) &&& (858993459 : Int32))).toUInt32 >>> ((4 : Int32).toUInt32 &&& Int32.toUInt32 31)).toInt32)) &&& (252645135 : Int32)))]) rfl ?_
  refine g_iload_n (pc := 34) dJ6_bitCount_0f7a4_34 rfl ?_
  refine g_iload_n (pc := 35) dJ6_bitCount_0f7a4_35 rfl ?_
  refine g_bipush (pc := 36) dJ6_bitCount_0f7a4_36 bp_8 ?_
  refine g_iushr (pc := 38) dJ6_bitCount_0f7a4_38 (v := (((((((v0 - (((v0.toUInt32 >>> ((1 : Int32).toUInt32 &&& Int32.toUInt32 31)).toInt32) &&& (1431655765 : Int32))) &&& (858993459 : Int32)) + ((((v0 - (((v0.toUInt32 >>> ((1 : Int32).toUInt32 &&& Int32.toUInt32 31)).toInt32) &&& (1431655765 : Int32))).toUInt32 >>> ((2 : Int32).toUInt32 &&& Int32.toUInt32 31)).toInt32) &&& (858993459 : Int32))) + (((((v0 - (((v0.toUInt32 >>> ((1 : Int32).toUInt32 &&& Int32.toUInt32 31)).toInt32) &&& (1431655765 : Int32))) &&& (858993459 : Int32)) + ((((v0 - (((v0.toUInt32 >>> ((1 : Int32).toUInt32 &&& Int32.toUInt32 31)).toInt32) &&& (1431655765 : Int32))).toUInt32 >>> ((2 : Int32).toUInt32 &&& Int32.toUInt32 31)).toInt32) &&& (858993459 : Int32))).toUInt32 >>> ((4 : Int32).toUInt32 &&& Int32.toUInt32 31)).toInt32)) &&& (252645135 : Int32)).toUInt32 >>> ((8 : Int32).toUInt32 &&& Int32.toUInt32 31)).toInt32)) rfl ?_
  refine g_iadd (pc := 39) dJ6_bitCount_0f7a4_39 rfl ?_
  refine g_istore_n (pc := 40) dJ6_bitCount_0f7a4_40 (Nat.le_of_ble_eq_true rfl) (L' := [some (.int ((((((v0 - (((v0.toUInt32 >>> ((1 : Int32).toUInt32 &&& Int32.toUInt32 31)).toInt32) &&& (1431655765 : Int32))) &&& (858993459 : Int32)) + ((((v0 - (((v0.toUInt32 >>> ((1 : Int32).toUInt32 &&& Int32.toUInt32 31)).toInt32) &&& (1431655765 : Int32))).toUInt32 >>> ((2 : Int32).toUInt32 &&& Int32.toUInt32 31)).toInt32) &&& (858993459 : Int32))) + (((((v0 - (((v0.toUInt32 >>> ((1 : Int32).toUInt32 &&& Int32.toUInt32 31)).toInt32) &&& (1431655765 : Int32))) &&& (858993459 : Int32)) + ((((v0 - (((v0.toUInt32 >>> ((1 : Int32).toUInt32 &&& Int32.toUInt32 31)).toInt32) &&& (1431655765 : Int32))).toUInt32 >>> ((2 : Int32).toUInt32 &&& Int32.toUInt32 31)).toInt32) &&& (858993459 : Int32))).toUInt32 >>> ((4 : Int32).toUInt32 &&& Int32.toUInt32 31)).toInt32)) &&& (252645135 : Int32)) + (((((((v0 - (((v0.toUInt32 >>> ((1 : Int32).toUInt32 &&& Int32.toUInt32 31)).toInt32) &&& (1431655765 : Int32))) &&& (858993459 : Int32)) + ((((v0 - (((v0.toUInt32 >>> ((1 : Int32).toUInt32 &&& Int32.toUInt32 31)).toInt32) &&& (1431655765 : Int32))).toUInt32 >>> ((2 : Int32).toUInt32 &&& Int32.toUInt32 31)).toInt32) &&& (858993459 : Int32))) + (((((v0 - (((v0.toUInt32 >>> ((1 : Int32).toUInt32 &&& Int32.toUInt32 31)).toInt32) &&& (1431655765 : Int32))) &&& (858993459 : Int32)) + ((((v0 - (((v0.toUInt32 >>> ((1 : Int32).toUInt32 &&& Int32.toUInt32 31)).toInt32) &&& (1431655765 : Int32))).toUInt32 >>> ((2 : Int32).toUInt32 &&& Int32.toUInt32 31)).toInt32) &&& (858993459 : Int32))).toUInt32 >>> ((4 : Int32).toUInt32 &&& Int32.toUInt32 31)).toInt32)) &&& (252645135 : Int32)).toUInt32 >>> ((8 : Int32).toUInt32 &&& Int32.toUInt32 31)).toInt32)))]) rfl ?_
  refine g_iload_n (pc := 41) dJ6_bitCount_0f7a4_41 rfl ?_
  refine g_iload_n (pc := 42) dJ6_bitCount_0f7a4_42 rfl ?_
  refine g_bipush (pc := 43) dJ6_bitCount_0f7a4_43 bp_16 ?_
  refine g_iushr (pc := 45) dJ6_bitCount_0f7a4_45 (v := ((((((((v0 - (((v0.toUInt32 >>> ((1 : Int32).toUInt32 &&& Int32.toUInt32 31)).toInt32) &&& (1431655765 : Int32))) &&& (858993459 : Int32)) + ((((v0 - (((v0.toUInt32 >>> ((1 : Int32).toUInt32 &&& Int32.toUInt32 31)).toInt32) &&& (1431655765 : Int32))).toUInt32 >>> ((2 : Int32).toUInt32 &&& Int32.toUInt32 31)).toInt32) &&& (858993459 : Int32))) + (((((v0 - (((v0.toUInt32 >>> ((1 : Int32).toUInt32 &&& Int32.toUInt32 31)).toInt32) &&& (1431655765 : Int32))) &&& (858993459 : Int32)) + ((((v0 - (((v0.toUInt32 >>> ((1 : Int32).toUInt32 &&& Int32.toUInt32 31)).toInt32) &&& (1431655765 : Int32))).toUInt32 >>> ((2 : Int32).toUInt32 &&& Int32.toUInt32 31)).toInt32) &&& (858993459 : Int32))).toUInt32 >>> ((4 : Int32).toUInt32 &&& Int32.toUInt32 31)).toInt32)) &&& (252645135 : Int32)) + (((((((v0 - (((v0.toUInt32 >>> ((1 : Int32).toUInt32 &&& Int32.toUInt32 31)).toInt32) &&& (1431655765 : Int32))) &&& (858993459 : Int32)) + ((((v0 - (((v0.toUInt32 >>> ((1 : Int32).toUInt32 &&& Int32.toUInt32 31)).toInt32) &&& (1431655765 : Int32))).toUInt32 >>> ((2 : Int32).toUInt32 &&& Int32.toUInt32 31)).toInt32) &&& (858993459 : Int32))) + (((((v0 - (((v0.toUInt32 >>> ((1 : Int32).toUInt32 &&& Int32.toUInt32 31)).toInt32) &&& (1431655765 : Int32))) &&& (858993459 : Int32)) + ((((v0 - (((v0.toUInt32 >>> ((1 : Int32).toUInt32 &&& Int32.toUInt32 31)).toInt32) &&& (1431655765 : Int32))).toUInt32 >>> ((2 : Int32).toUInt32 &&& Int32.toUInt32 31)).toInt32) &&& (858993459 : Int32))).toUInt32 >>> ((4 : Int32).toUInt32 &&& Int32.toUInt32 31)).toInt32)) &&& (252645135 : Int32)).toUInt32 >>> ((8 : Int32).toUInt32 &&& Int32.toUInt32 31)).toInt32)).toUInt32 >>> ((16 : Int32).toUInt32 &&& Int32.toUInt32 31)).toInt32)) rfl ?_
  refine g_iadd (pc := 46) dJ6_bitCount_0f7a4_46 rfl ?_
  refine g_istore_n (pc := 47) dJ6_bitCount_0f7a4_47 (Nat.le_of_ble_eq_true rfl) (L' := [some (.int (((((((v0 - (((v0.toUInt32 >>> ((1 : Int32).toUInt32 &&& Int32.toUInt32 31)).toInt32) &&& (1431655765 : Int32))) &&& (858993459 : Int32)) + ((((v0 - (((v0.toUInt32 >>> ((1 : Int32).toUInt32 &&& Int32.toUInt32 31)).toInt32) &&& (1431655765 : Int32))).toUInt32 >>> ((2 : Int32).toUInt32 &&& Int32.toUInt32 31)).toInt32) &&& (858993459 : Int32))) + (((((v0 - (((v0.toUInt32 >>> ((1 : Int32).toUInt32 &&& Int32.toUInt32 31)).toInt32) &&& (1431655765 : Int32))) &&& (858993459 : Int32)) + ((((v0 - (((v0.toUInt32 >>> ((1 : Int32).toUInt32 &&& Int32.toUInt32 31)).toInt32) &&& (1431655765 : Int32))).toUInt32 >>> ((2 : Int32).toUInt32 &&& Int32.toUInt32 31)).toInt32) &&& (858993459 : Int32))).toUInt32 >>> ((4 : Int32).toUInt32 &&& Int32.toUInt32 31)).toInt32)) &&& (252645135 : Int32)) + (((((((v0 - (((v0.toUInt32 >>> ((1 : Int32).toUInt32 &&& Int32.toUInt32 31)).toInt32) &&& (1431655765 : Int32))) &&& (858993459 : Int32)) + ((((v0 - (((v0.toUInt32 >>> ((1 : Int32).toUInt32 &&& Int32.toUInt32 31)).toInt32) &&& (1431655765 : Int32))).toUInt32 >>> ((2 : Int32).toUInt32 &&& Int32.toUInt32 31)).toInt32) &&& (858993459 : Int32))) + (((((v0 - (((v0.toUInt32 >>> ((1 : Int32).toUInt32 &&& Int32.toUInt32 31)).toInt32) &&& (1431655765 : Int32))) &&& (858993459 : Int32)) + ((((v0 - (((v0.toUInt32 >>> ((1 : Int32).toUInt32 &&& Int32.toUInt32 31)).toInt32) &&& (1431655765 : Int32))).toUInt32 >>> ((2 : Int32).toUInt32 &&& Int32.toUInt32 31)).toInt32) &&& (858993459 : Int32))).toUInt32 >>> ((4 : Int32).toUInt32 &&& Int32.toUInt32 31)).toInt32)) &&& (252645135 : Int32)).toUInt32 >>> ((8 : Int32).toUInt32 &&& Int32.toUInt32 31)).toInt32)) + ((((((((v0 - (((v0.toUInt32 >>> ((1 : Int32).toUInt32 &&& Int32.toUInt32 31)).toInt32) &&& (1431655765 : Int32))) &&& (858993459 : Int32)) + ((((v0 - (((v0.toUInt32 >>> ((1 : Int32).toUInt32 &&& Int32.toUInt32 31)).toInt32) &&& (1431655765 : Int32))).toUInt32 >>> ((2 : Int32).toUInt32 &&& Int32.toUInt32 31)).toInt32) &&& (858993459 : Int32))) + (((((v0 - (((v0.toUInt32 >>> ((1 : Int32).toUInt32 &&& Int32.toUInt32 31)).toInt32) &&& (1431655765 : Int32))) &&& (858993459 : Int32)) + ((((v0 - (((v0.toUInt32 >>> ((1 : Int32).toUInt32 &&& Int32.toUInt32 31)).toInt32) &&& (1431655765 : Int32))).toUInt32 >>> ((2 : Int32).toUInt32 &&& Int32.toUInt32 31)).toInt32) &&& (858993459 : Int32))).toUInt32 >>> ((4 : Int32).toUInt32 &&& Int32.toUInt32 31)).toInt32)) &&& (252645135 : Int32)) + (((((((v0 - (((v0.toUInt32 >>> ((1 : Int32).toUInt32 &&& Int32.toUInt32 31)).toInt32) &&& (1431655765 : Int32))) &&& (858993459 : Int32)) + ((((v0 - (((v0.toUInt32 >>> ((1 : Int32).toUInt32 &&& Int32.toUInt32 31)).toInt32) &&& (1431655765 : Int32))).toUInt32 >>> ((2 : Int32).toUInt32 &&& Int32.toUInt32 31)).toInt32) &&& (858993459 : Int32))) + (((((v0 - (((v0.toUInt32 >>> ((1 : Int32).toUInt32 &&& Int32.toUInt32 31)).toInt32) &&& (1431655765 : Int32))) &&& (858993459 : Int32)) + ((((v0 - (((v0.toUInt32 >>> ((1 : Int32).toUInt32 &&& Int32.toUInt32 31)).toInt32) &&& (1431655765 : Int32))).toUInt32 >>> ((2 : Int32).toUInt32 &&& Int32.toUInt32 31)).toInt32) &&& (858993459 : Int32))).toUInt32 >>> ((4 : Int32).toUInt32 &&& Int32.toUInt32 31)).toInt32)) &&& (252645135 : Int32)).toUInt32 >>> ((8 : Int32).toUInt32 &&& Int32.toUInt32 31)).toInt32)).toUInt32 >>> ((16 : Int32).toUInt32 &&& Int32.toUInt32 31)).toInt32)))]) rfl ?_
  refine g_iload_n (pc := 48) dJ6_bitCount_0f7a4_48 rfl ?_
  refine g_bipush (pc := 49) dJ6_bitCount_0f7a4_49 bp_63 ?_
  refine g_iand (pc := 51) dJ6_bitCount_0f7a4_51 rfl ?_
  subst h
  exact g_iret (pc := 52) dJ6_bitCount_0f7a4_52 rfl rfl rfl (Nat.le_refl _) (Nat.le_refl _)
set_option maxRecDepth 100000 in
set_option maxHeartbeats 4000000 in
theorem M_J6_bitCount_0f7a4 {sc : Nat × (Nat → Int32)} {d : Nat} (hd : 0 ≤ d) {r : Int32} {u : xS} {a0 : Int32} (h : f_J6_bitCount_0f7a4 a0 = r) : xMt sc mJ6_bitCount_0f7a4 d 0 0 [.int a0] (xL0, u) (some (.int r)) (xL0, u) :=
  xMt.of (by decide +kernel) (by decide +kernel) (Nat.le_of_ble_eq_true rfl) (L := [some (.int a0)]) rfl ((G_J6_bitCount_0f7a4_0 hd a0 h))
set_option maxRecDepth 100000 in
set_option maxHeartbeats 4000000 in
theorem G_X12_mix_180 {sc : Nat × (Nat → Int32)} {d : Nat} (hd : 27 ≤ d) {r : Int32} {u' : xS} {k141 : Int32 → xS → Option (Int32 × xS)} (hk141 : ∀ (v6 : Int32) (u : xS), k141 v6 u = some (r, u') → xG sc mX12_mix d 0 0 (xR (some (.int r)) (xL0, u') 0 0) 0 0 141 [some (.ref 135), none, none, none, none, none, some (.int v6)] [] (xL0, u)) (v6 : Int32) (s1 : Int32) (s2 : Int32) (u : xS) (h : f_X12_mix_180 k141 v6 s1 s2 u = some (r, u')) : xG sc mX12_mix d 0 0 (xR (some (.int r)) (xL0, u') 0 0) 0 0 180 [some (.ref 135), none, none, none, none, none, some (.int v6)] [.int s2, .int s1, .ref 160] (xL0, u) := by
  rw [f_X12_mix_180] at h
  obtain ⟨g1, h⟩ := x_gd h
  refine g_iastore (pc := 180) dX12_mix_180 xc_160 (xin_of g1) (u' := (wr u 160 s1.toNatClampNeg s2)) rfl ?_
  refine g_inc (pc := 181) dX12_mix_181 (Nat.le_of_ble_eq_true rfl) rfl ic_1 (L' := [some (.ref 135), none, none, none, none, none, some (.int (v6 + (1 : Int32)))]) rfl ?_
  refine g_goto (tgt := 141) (pc := 184) dX12_mix_184 (by decide) ?_
  exact hk141 (v6 + (1 : Int32)) (wr u 160 s1.toNatClampNeg s2) h
set_option maxRecDepth 100000 in
set_option maxHeartbeats 4000000 in
theorem G_X12_mix_141 {sc : Nat × (Nat → Int32)} {d : Nat} (hd : 27 ≤ d) {r : Int32} {u' : xS} : ∀ (n : Nat) (v6 : Int32) (u : xS), f_X12_mix_141 n v6 u = some (r, u') → xG sc mX12_mix d 0 0 (xR (some (.int r)) (xL0, u') 0 0) 0 0 141 [some (.ref 135), none, none, none, none, none, some (.int v6)] [] (xL0, u) := by
  intro n
  induction n with
  | zero =>
    intro v6 u h
    rw [f_X12_mix_141] at h
    cases h
  | succ n ih =>
    intro v6 u h
    rw [f_X12_mix_141] at h
    refine g_iload (pc := 141) dX12_mix_141 rfl ?_
    refine g_aload_n (pc := 143) dX12_mix_143 rfl ?_
    refine g_gI (pc := 144) dX12_mix_144 fI_RX12_153 xc_135 (v := (rd u 135 1)) rfl ?_
    refine g_icmp_ge (tgt := 187) (pc := 147) dX12_mix_147 (by decide) (fun c1 => ?_) (fun c1 => ?_)
    · replace h := (if_pos c1).symm.trans h
      refine g_aload_n (pc := 187) dX12_mix_187 rfl ?_
      refine g_gI (pc := 188) dX12_mix_188 fI_RX12_374 xc_135 (v := (rd u 135 42)) rfl ?_
      refine g_if_ge (tgt := 199) (pc := 191) dX12_mix_191 (by decide) (fun c2 => ?_) (fun c2 => ?_)
      · replace h := (if_pos c2).symm.trans h
        refine g_aload_n (pc := 199) dX12_mix_199 rfl ?_
        refine g_gI (pc := 200) dX12_mix_200 fI_RX12_374 xc_135 (v := (rd u 135 42)) rfl ?_
        obtain ⟨h1, h2⟩ := x_inj2 h
        subst h1
        subst h2
        exact g_iret (pc := 203) dX12_mix_203 rfl rfl rfl (Nat.le_refl _) (Nat.le_refl _)
      · replace h := (if_neg c2).symm.trans h
        refine g_bipush (pc := 194) dX12_mix_194 bp_m2 ?_
        refine g_goto (tgt := 203) (pc := 196) dX12_mix_196 (by decide) ?_
        obtain ⟨h1, h2⟩ := x_inj2 h
        subst h1
        subst h2
        exact g_iret (pc := 203) dX12_mix_203 rfl rfl rfl (Nat.le_refl _) (Nat.le_refl _)
    · replace h := (if_neg c1).symm.trans h
      refine g_aload_n (pc := 150) dX12_mix_150 rfl ?_
      refine g_gR (pc := 151) dX12_mix_151 fR_RX12_87 xc_135 (v := 160) rfl ?_
      refine g_iload (pc := 154) dX12_mix_154 rfl ?_
      refine g_aload_n (pc := 156) dX12_mix_156 rfl ?_
      refine g_gI (pc := 157) dX12_mix_157 fI_RX12_374 xc_135 (v := (rd u 135 42)) rfl ?_
      refine g_if_ge (tgt := 173) (pc := 160) dX12_mix_160 (by decide) (fun c3 => ?_) (fun c3 => ?_)
      · replace h := (if_pos c3).symm.trans h
        refine g_aload_n (pc := 173) dX12_mix_173 rfl ?_
        refine g_gR (pc := 174) dX12_mix_174 fR_RX12_99 xc_135 (v := 164) rfl ?_
        refine g_iload (pc := 177) dX12_mix_177 rfl ?_
        obtain ⟨g4, h⟩ := x_gd h
        refine g_iaload (pc := 179) dX12_mix_179 xc_164 (xin_of g4) (v := (rd u 164 v6.toNatClampNeg)) rfl ?_
        exact G_X12_mix_180 hd ih v6 v6 (rd u 164 v6.toNatClampNeg) u h
      · replace h := (if_neg c3).symm.trans h
        refine g_aload_n (pc := 163) dX12_mix_163 rfl ?_
        refine g_gR (pc := 164) dX12_mix_164 fR_RX12_96 xc_135 (v := 163) rfl ?_
        refine g_iload (pc := 167) dX12_mix_167 rfl ?_
        obtain ⟨g5, h⟩ := x_gd h
        refine g_iaload (pc := 169) dX12_mix_169 xc_163 (xin_of g5) (v := (rd u 163 v6.toNatClampNeg)) rfl ?_
        refine g_goto (tgt := 180) (pc := 170) dX12_mix_170 (by decide) ?_
        exact G_X12_mix_180 hd ih v6 v6 (rd u 163 v6.toNatClampNeg) u h
set_option maxRecDepth 100000 in
set_option maxHeartbeats 4000000 in
theorem G_X12_mix_84 {sc : Nat × (Nat → Int32)} {d : Nat} (hd : 27 ≤ d) {r : Int32} {u' : xS} : ∀ (n : Nat) (v1 : Int32) (v2 : Int32) (v3 : Int32) (v4 : Int32) (v6 : Int32) (u : xS), f_X12_mix_84 n v1 v2 v3 v4 v6 u = some (r, u') → xG sc mX12_mix d 0 0 (xR (some (.int r)) (xL0, u') 0 0) 0 0 84 [some (.ref 135), some (.int v1), some (.int v2), some (.int v3), some (.int v4), none, some (.int v6)] [] (xL0, u) := by
  intro n
  induction n with
  | zero =>
    intro v1 v2 v3 v4 v6 u h
    rw [f_X12_mix_84] at h
    cases h
  | succ n ih =>
    intro v1 v2 v3 v4 v6 u h
    rw [f_X12_mix_84] at h
    refine g_iload (pc := 84) dX12_mix_84 rfl ?_
    refine g_aload_n (pc := 86) dX12_mix_86 rfl ?_
    refine g_gI (pc := 87) dX12_mix_87 fI_RX12_153 xc_135 (v := (rd u 135 1)) rfl ?_
    refine g_icmp_ge (tgt := 121) (pc := 90) dX12_mix_90 (by decide) (fun c1 => ?_) (fun c1 => ?_)
    · replace h := (if_pos c1).symm.trans h
      refine g_aload_n (pc := 121) dX12_mix_121 rfl ?_
      refine g_iconst (pc := 122) dX12_mix_122 ic_m1 ?_
      refine g_pI (pc := 123) dX12_mix_123 pI_RX12_374 xc_135 (u' := (wr u 135 42 (-1 : Int32))) rfl ?_
      refine g_aload_n (pc := 126) dX12_mix_126 rfl ?_
      refine g_iload_n (pc := 127) dX12_mix_127 rfl ?_
      refine g_iload_n (pc := 128) dX12_mix_128 rfl ?_
      refine g_iload_n (pc := 129) dX12_mix_129 rfl ?_
      refine g_iload (pc := 130) dX12_mix_130 rfl ?_
      refine g_iconst (pc := 132) dX12_mix_132 ic_0 ?_
      refine g_bipush (pc := 133) dX12_mix_133 bp_12 ?_
      obtain ⟨u3, e2, h⟩ := x_bind h
      refine g_cV (pc := 135) dX12_mix_135 cV_RX12_377 (M_r_X12_mixes (Nat.le_refl _) e2) xc_135 (as := [.int v1, .int v2, .int v3, .int v4, .int (0 : Int32), .int (12 : Int32)]) (st := []) rfl rfl (Nat.le_of_ble_eq_true rfl) (Nat.le_trans (Nat.le_of_ble_eq_true rfl) hd) rfl ?_
      refine g_iconst (pc := 138) dX12_mix_138 ic_0 ?_
      refine g_istore (pc := 139) dX12_mix_139 (Nat.le_of_ble_eq_true rfl) (L' := [some (.ref 135), some (.int v1), some (.int v2), some (.int v3), some (.int v4), none, some (.int (0 : Int32))]) rfl ?_
      refine g_L (L' := [some (.ref 135), none, none, none, none, none, some (.int (0 : Int32))]) ⟨rfl, ⟨rfl, trivial⟩⟩ ?_
      exact G_X12_mix_141 hd xN (0 : Int32) u3 h
    · replace h := (if_neg c1).symm.trans h
      refine g_aload_n (pc := 93) dX12_mix_93 rfl ?_
      refine g_gR (pc := 94) dX12_mix_94 fR_RX12_96 xc_135 (v := 163) rfl ?_
      refine g_iload (pc := 97) dX12_mix_97 rfl ?_
      refine g_aload_n (pc := 99) dX12_mix_99 rfl ?_
      refine g_gR (pc := 100) dX12_mix_100 fR_RX12_87 xc_135 (v := 160) rfl ?_
      refine g_iload (pc := 103) dX12_mix_103 rfl ?_
      obtain ⟨g4, h⟩ := x_gd h
      refine g_iaload (pc := 105) dX12_mix_105 xc_160 (xin_of g4) (v := (rd u 160 v6.toNatClampNeg)) rfl ?_
      refine g_iastore (pc := 106) dX12_mix_106 xc_163 (xin_of g4) (u' := (wr u 163 v6.toNatClampNeg (rd u 160 v6.toNatClampNeg))) rfl ?_
      refine g_aload_n (pc := 107) dX12_mix_107 rfl ?_
      refine g_gR (pc := 108) dX12_mix_108 fR_RX12_87 xc_135 (v := 160) rfl ?_
      refine g_iload (pc := 111) dX12_mix_111 rfl ?_
      refine g_iconst (pc := 113) dX12_mix_113 ic_0 ?_
      refine g_iastore (pc := 114) dX12_mix_114 xc_160 (xin_of g4) (u' := (wr (wr u 163 v6.toNatClampNeg (rd u 160 v6.toNatClampNeg)) 160 v6.toNatClampNeg (0 : Int32))) rfl ?_
      refine g_inc (pc := 115) dX12_mix_115 (Nat.le_of_ble_eq_true rfl) rfl ic_1 (L' := [some (.ref 135), some (.int v1), some (.int v2), some (.int v3), some (.int v4), none, some (.int (v6 + (1 : Int32)))]) rfl ?_
      refine g_goto (tgt := 84) (pc := 118) dX12_mix_118 (by decide) ?_
      exact ih v1 v2 v3 v4 (v6 + (1 : Int32)) (wr (wr u 163 v6.toNatClampNeg (rd u 160 v6.toNatClampNeg)) 160 v6.toNatClampNeg (0 : Int32)) h
set_option maxRecDepth 100000 in
set_option maxHeartbeats 4000000 in
theorem G_X12_mix_72 {sc : Nat × (Nat → Int32)} {d : Nat} (hd : 27 ≤ d) {r : Int32} {u' : xS} (v1 : Int32) (v2 : Int32) (v3 : Int32) (v4 : Int32) (s0 : Int32) (u : xS) (h : f_X12_mix_72 v1 v2 v3 v4 s0 u = some (r, u')) : xG sc mX12_mix d 0 0 (xR (some (.int r)) (xL0, u') 0 0) 0 0 72 [some (.ref 135), some (.int v1), some (.int v2), some (.int v3), some (.int v4), none, none] [.int s0] (xL0, u) := by
  rw [f_X12_mix_72] at h
  refine g_istore (pc := 72) dX12_mix_72 (Nat.le_of_ble_eq_true rfl) (L' := [some (.ref 135), some (.int v1), some (.int v2), some (.int v3), some (.int v4), some (.int s0), none]) rfl ?_
  refine g_iload (pc := 74) dX12_mix_74 rfl ?_
  refine g_if_ne (tgt := 81) (pc := 76) dX12_mix_76 (by decide) (fun c1 => ?_) (fun c1 => ?_)
  · replace h := (if_neg c1).symm.trans h
    refine g_iconst (pc := 81) dX12_mix_81 ic_0 ?_
    refine g_istore (pc := 82) dX12_mix_82 (Nat.le_of_ble_eq_true rfl) (L' := [some (.ref 135), some (.int v1), some (.int v2), some (.int v3), some (.int v4), some (.int s0), some (.int (0 : Int32))]) rfl ?_
    refine g_L (L' := [some (.ref 135), some (.int v1), some (.int v2), some (.int v3), some (.int v4), none, some (.int (0 : Int32))]) ⟨rfl, ⟨rfl, ⟨rfl, ⟨rfl, ⟨rfl, ⟨rfl, trivial⟩⟩⟩⟩⟩⟩ ?_
    exact G_X12_mix_84 hd xN v1 v2 v3 v4 (0 : Int32) u h
  · replace h := (if_pos c1).symm.trans h
    refine g_iconst (pc := 79) dX12_mix_79 ic_m1 ?_
    obtain ⟨h1, h2⟩ := x_inj2 h
    subst h1
    subst h2
    exact g_iret (pc := 80) dX12_mix_80 rfl rfl rfl (Nat.le_refl _) (Nat.le_refl _)
set_option maxRecDepth 100000 in
set_option maxHeartbeats 4000000 in
theorem G_X12_mix_71 {sc : Nat × (Nat → Int32)} {d : Nat} (hd : 27 ≤ d) {r : Int32} {u' : xS} (v1 : Int32) (v2 : Int32) (v3 : Int32) (v4 : Int32) (u : xS) (h : f_X12_mix_71 v1 v2 v3 v4 u = some (r, u')) : xG sc mX12_mix d 0 0 (xR (some (.int r)) (xL0, u') 0 0) 0 0 71 [some (.ref 135), some (.int v1), some (.int v2), some (.int v3), some (.int v4), none, none] [] (xL0, u) := by
  rw [f_X12_mix_71] at h
  refine g_iconst (pc := 71) dX12_mix_71 ic_0 ?_
  exact G_X12_mix_72 hd v1 v2 v3 v4 (0 : Int32) u h
set_option maxRecDepth 100000 in
set_option maxHeartbeats 4000000 in
theorem G_X12_mix_0 {sc : Nat × (Nat → Int32)} {d : Nat} (hd : 27 ≤ d) {r : Int32} {u' : xS} (v1 : Int32) (v2 : Int32) (v3 : Int32) (v4 : Int32) (u : xS) (h : f_X12_mix v1 v2 v3 v4 u = some (r, u')) : xG sc mX12_mix d 0 0 (xR (some (.int r)) (xL0, u') 0 0) 0 0 0 [some (.ref 135), some (.int v1), some (.int v2), some (.int v3), some (.int v4), none, none] [] (xL0, u) := by
  rw [f_X12_mix] at h
  refine g_aload_n (pc := 0) dX12_mix_0 rfl ?_
  refine g_iconst (pc := 1) dX12_mix_1 ic_0 ?_
  refine g_pI (pc := 2) dX12_mix_2 pI_RX12_150 xc_135 (u' := (wr u 135 0 (0 : Int32))) rfl ?_
  refine g_aload_n (pc := 5) dX12_mix_5 rfl ?_
  refine g_iload_n (pc := 6) dX12_mix_6 rfl ?_
  refine g_cV (pc := 7) dX12_mix_7 cV_RX12_362 (M_X12_isRecipe (Nat.le_refl _) rfl) xc_135 (as := [.int v1]) (st := []) rfl rfl (Nat.le_of_ble_eq_true rfl) (Nat.le_trans (Nat.le_of_ble_eq_true rfl) hd) rfl ?_
  refine g_if_eq (tgt := 71) (pc := 10) dX12_mix_10 (by decide) (fun c1 => ?_) (fun c1 => ?_)
  · replace h := (if_pos c1).symm.trans h
    exact G_X12_mix_71 hd v1 v2 v3 v4 (wr u 135 0 (0 : Int32)) h
  · replace h := (if_neg c1).symm.trans h
    refine g_iload_n (pc := 13) dX12_mix_13 rfl ?_
    refine g_i2l (pc := 14) dX12_mix_14 rfl ?_
    refine g_lconst (v := (1 : Int64)) (pc := 15) dX12_mix_15 rfl ?_
    refine g_iconst (pc := 16) dX12_mix_16 ic_1 ?_
    refine g_aload_n (pc := 17) dX12_mix_17 rfl ?_
    refine g_gI (pc := 18) dX12_mix_18 fI_RX12_153 xc_135 (v := (rd u 135 1)) rfl ?_
    refine g_ishl (pc := 21) dX12_mix_21 rfl ?_
    refine g_iconst (pc := 22) dX12_mix_22 ic_1 ?_
    refine g_isub (pc := 23) dX12_mix_23 rfl ?_
    refine g_i2l (pc := 24) dX12_mix_24 rfl ?_
    refine g_cS (pc := 25) dX12_mix_25 cS_RX12_156 (M_X12_in (Nat.le_refl _) rfl) (as := [.long ((v2).toInt64), .long (1 : Int64), .long ((((1 : Int32) <<< ((rd u 135 1) &&& 31)) - (1 : Int32)).toInt64)]) (st := []) rfl rfl (Nat.le_of_ble_eq_true rfl) (Nat.le_trans (Nat.le_of_ble_eq_true rfl) hd) rfl ?_
    refine g_if_eq (tgt := 71) (pc := 28) dX12_mix_28 (by decide) (fun c2 => ?_) (fun c2 => ?_)
    · replace h := (if_pos c2).symm.trans h
      exact G_X12_mix_71 hd v1 v2 v3 v4 (wr u 135 0 (0 : Int32)) h
    · replace h := (if_neg c2).symm.trans h
      refine g_iload_n (pc := 31) dX12_mix_31 rfl ?_
      refine g_cS (pc := 32) dX12_mix_32 cS_RX12_381 (M_J6_bitCount_0f7a4 (Nat.le_refl _) rfl) (as := [.int v2]) (st := []) rfl rfl (Nat.le_of_ble_eq_true rfl) (Nat.le_trans (Nat.le_of_ble_eq_true rfl) hd) rfl ?_
      refine g_bipush (pc := 35) dX12_mix_35 bp_6 ?_
      refine g_icmp_gt (tgt := 71) (pc := 37) dX12_mix_37 (by decide) (fun c3 => ?_) (fun c3 => ?_)
      · replace h := (if_pos c3).symm.trans h
        exact G_X12_mix_71 hd v1 v2 v3 v4 (wr u 135 0 (0 : Int32)) h
      · replace h := (if_neg c3).symm.trans h
        refine g_iload_n (pc := 40) dX12_mix_40 rfl ?_
        refine g_i2l (pc := 41) dX12_mix_41 rfl ?_
        refine g_lconst (v := (0 : Int64)) (pc := 42) dX12_mix_42 rfl ?_
        refine g_ldc2 (pc := 43) dX12_mix_43 kl_RX12_386 ?_
        refine g_cS (pc := 46) dX12_mix_46 cS_RX12_156 (M_X12_in (Nat.le_refl _) rfl) (as := [.long ((v3).toInt64), .long (0 : Int64), .long (9996 : Int64)]) (st := []) rfl rfl (Nat.le_of_ble_eq_true rfl) (Nat.le_trans (Nat.le_of_ble_eq_true rfl) hd) rfl ?_
        refine g_if_eq (tgt := 71) (pc := 49) dX12_mix_49 (by decide) (fun c4 => ?_) (fun c4 => ?_)
        · replace h := (if_pos c4).symm.trans h
          exact G_X12_mix_71 hd v1 v2 v3 v4 (wr u 135 0 (0 : Int32)) h
        · replace h := (if_neg c4).symm.trans h
          refine g_iload_n (pc := 52) dX12_mix_52 rfl ?_
          refine g_bipush (pc := 53) dX12_mix_53 bp_12 ?_
          refine g_irem (pc := 55) dX12_mix_55 (by decide) rfl ?_
          refine g_if_ne (tgt := 71) (pc := 56) dX12_mix_56 (by decide) (fun c5 => ?_) (fun c5 => ?_)
          · replace h := (if_neg c5).symm.trans h
            exact G_X12_mix_71 hd v1 v2 v3 v4 (wr u 135 0 (0 : Int32)) h
          · replace h := (if_pos c5).symm.trans h
            refine g_iload (pc := 59) dX12_mix_59 rfl ?_
            refine g_cS (pc := 61) dX12_mix_61 cS_RX12_170 (M_X12_isWeek (Nat.le_refl _) rfl) (as := [.int v4]) (st := []) rfl rfl (Nat.le_of_ble_eq_true rfl) (Nat.le_trans (Nat.le_of_ble_eq_true rfl) hd) rfl ?_
            refine g_if_eq (tgt := 71) (pc := 64) dX12_mix_64 (by decide) (fun c6 => ?_) (fun c6 => ?_)
            · replace h := (if_pos c6).symm.trans h
              exact G_X12_mix_71 hd v1 v2 v3 v4 (wr u 135 0 (0 : Int32)) h
            · replace h := (if_neg c6).symm.trans h
              refine g_iconst (pc := 67) dX12_mix_67 ic_1 ?_
              refine g_goto (tgt := 72) (pc := 68) dX12_mix_68 (by decide) ?_
              exact G_X12_mix_72 hd v1 v2 v3 v4 (1 : Int32) (wr u 135 0 (0 : Int32)) h
set_option maxRecDepth 100000 in
set_option maxHeartbeats 4000000 in
theorem M_X12_mix {sc : Nat × (Nat → Int32)} {d : Nat} (hd : 27 ≤ d) {r : Int32} {u u' : xS} {a1 : Int32} {a2 : Int32} {a3 : Int32} {a4 : Int32} (h : f_X12_mix a1 a2 a3 a4 u = some (r, u')) : xMt sc mX12_mix d 0 0 [.ref 135, .int a1, .int a2, .int a3, .int a4] (xL0, u) (some (.int r)) (xL0, u') :=
  xMt.of (by decide +kernel) (by decide +kernel) (Nat.le_of_ble_eq_true rfl) (L := [some (.ref 135), some (.int a1), some (.int a2), some (.int a3), some (.int a4), none, none]) rfl ((G_X12_mix_0 hd a1 a2 a3 a4 u h))
