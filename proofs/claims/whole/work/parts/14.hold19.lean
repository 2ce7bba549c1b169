set_option maxRecDepth 100000 in
set_option maxHeartbeats 4000000 in
theorem G_X11_offOf_181 {sc : Nat × (Nat → Int32)} {d : Nat} (hd : 3 ≤ d) {r : Int32} {u' : xS} (v1 : Int32) (u : xS) (h : f_X11_offOf_181 v1 u = some (r, u')) : xG sc mX11_offOf d 0 0 (xR (some (.int r)) (xL0, u') 0 0) 0 0 181 [some (.ref 0), some (.int v1), none, none, none, none] [] (xL0, u) := by
  rw [f_X11_offOf_181] at h
  refine g_iconst (pc := 181) dX11_offOf_181 ic_0 ?_
  refine g_sipush (pc := 182) dX11_offOf_182 sp_1000 ?_
  refine g_aload_n (pc := 185) dX11_offOf_185 rfl ?_
  refine g_gR (pc := 186) dX11_offOf_186 fR_RX11_47 xc_0 (v := 58) rfl ?_
  refine g_aload_n (pc := 189) dX11_offOf_189 rfl ?_
  refine g_gR (pc := 190) dX11_offOf_190 fR_RX11_19 xc_0 (v := 13) rfl ?_
  refine g_gR (pc := 193) dX11_offOf_193 fR_RX11_221 xc_13 (v := 14) rfl ?_
  refine g_iload_n (pc := 196) dX11_offOf_196 rfl ?_
  obtain ⟨g1, h⟩ := x_gd h
  refine g_iaload (pc := 197) dX11_offOf_197 xc_14 (xin_of g1) (v := (rd u 14 v1.toNatClampNeg)) rfl ?_
  obtain ⟨⟨x3, u4⟩, e2, h⟩ := x_bind h
  dsimp only at h
  refine g_cV (pc := 198) dX11_offOf_198 cV_RX11_224 (M_X10_valueOf (Nat.le_refl _) e2) xc_58 (as := [.int (rd u 14 v1.toNatClampNeg)]) (st := [.int (1000 : Int32), .int (0 : Int32)]) rfl rfl (Nat.le_of_ble_eq_true rfl) (Nat.le_trans (Nat.le_of_ble_eq_true rfl) hd) rfl ?_
  refine g_min (pc := 201) dX11_offOf_201 mK_RX11_227 (Nat.le_of_ble_eq_true rfl) (Nat.le_trans (Nat.le_of_ble_eq_true rfl) hd) (Nat.zero_le _) (Nat.zero_le _) ?_
  refine g_max (pc := 204) dX11_offOf_204 mK_RX11_188 (Nat.le_of_ble_eq_true rfl) (Nat.le_trans (Nat.le_of_ble_eq_true rfl) hd) (Nat.zero_le _) (Nat.zero_le _) ?_
  obtain ⟨h1, h2⟩ := x_inj2 h
  subst h1
  subst h2
  exact g_iret (pc := 207) dX11_offOf_207 rfl rfl rfl (Nat.le_refl _) (Nat.le_refl _)
set_option maxRecDepth 100000 in
set_option maxHeartbeats 4000000 in
theorem G_X11_offOf_0 {sc : Nat × (Nat → Int32)} {d : Nat} (hd : 3 ≤ d) {r : Int32} {u' : xS} (v1 : Int32) (v2 : Int32) (u : xS) (h : f_X11_offOf v1 v2 u = some (r, u')) : xG sc mX11_offOf d 0 0 (xR (some (.int r)) (xL0, u') 0 0) 0 0 0 [some (.ref 0), some (.int v1), some (.int v2), none, none, none] [] (xL0, u) := by
  rw [f_X11_offOf] at h
  refine g_aload_n (pc := 0) dX11_offOf_0 rfl ?_
  refine g_gR (pc := 1) dX11_offOf_1 fR_RX11_26 xc_0 (v := 46) rfl ?_
  refine g_iload_n (pc := 4) dX11_offOf_4 rfl ?_
  refine g_iload_n (pc := 5) dX11_offOf_5 rfl ?_
  obtain ⟨x2, e1, h⟩ := x_bind h
  refine g_cV (pc := 6) dX11_offOf_6 cV_RX11_198 (M_X5_held (Nat.le_refl _) e1) xc_46 (as := [.int v1, .int v2]) (st := []) rfl rfl (Nat.le_of_ble_eq_true rfl) (Nat.le_trans (Nat.le_of_ble_eq_true rfl) hd) rfl ?_
  refine g_istore_n (pc := 9) dX11_offOf_9 (Nat.le_of_ble_eq_true rfl) (L' := [some (.ref 0), some (.int v1), some (.int v2), some (.int x2), none, none]) rfl ?_
  refine g_iload_n (pc := 10) dX11_offOf_10 rfl ?_
  refine g_iconst (pc := 11) dX11_offOf_11 ic_0 ?_
  refine g_bipush (pc := 12) dX11_offOf_12 bp_59 ?_
  refine g_cS (pc := 14) dX11_offOf_14 cS_RX11_94 (M_X11_lies (Nat.le_refl _) rfl) (as := [.int x2, .int (0 : Int32), .int (59 : Int32)]) (st := []) rfl rfl (Nat.le_of_ble_eq_true rfl) (Nat.le_trans (Nat.le_of_ble_eq_true rfl) hd) rfl ?_
  refine g_if_ne (tgt := 22) (pc := 17) dX11_offOf_17 (by decide) (fun c3 => ?_) (fun c3 => ?_)
  · replace h := (if_neg c3).symm.trans h
    refine g_aload_n (pc := 22) dX11_offOf_22 rfl ?_
    refine g_gR (pc := 23) dX11_offOf_23 fR_RX11_19 xc_0 (v := 13) rfl ?_
    refine g_gR (pc := 26) dX11_offOf_26 fR_RX11_144 xc_13 (v := 16) rfl ?_
    refine g_iload_n (pc := 29) dX11_offOf_29 rfl ?_
    obtain ⟨g4, h⟩ := x_gd h
    refine g_iaload (pc := 30) dX11_offOf_30 xc_16 (xin_of g4) (v := (rd u 16 v1.toNatClampNeg)) rfl ?_
    refine g_istore (pc := 31) dX11_offOf_31 (Nat.le_of_ble_eq_true rfl) (L' := [some (.ref 0), some (.int v1), some (.int v2), some (.int x2), some (.int (rd u 16 v1.toNatClampNeg)), none]) rfl ?_
    refine g_aload_n (pc := 33) dX11_offOf_33 rfl ?_
    refine g_gR (pc := 34) dX11_offOf_34 fR_RX11_26 xc_0 (v := 46) rfl ?_
    refine g_gR (pc := 37) dX11_offOf_37 fR_RX11_201 xc_46 (v := 50) rfl ?_
    refine g_iload_n (pc := 40) dX11_offOf_40 rfl ?_
    obtain ⟨g5, h⟩ := x_gd h
    refine g_iaload (pc := 41) dX11_offOf_41 xc_50 (xin_of g5) (v := (rd u 50 x2.toNatClampNeg)) rfl ?_
    refine g_sipush (pc := 42) dX11_offOf_42 sp_1000 ?_
    refine g_aload_n (pc := 45) dX11_offOf_45 rfl ?_
    refine g_gR (pc := 46) dX11_offOf_46 fR_RX11_26 xc_0 (v := 46) rfl ?_
    refine g_gR (pc := 49) dX11_offOf_49 fR_RX11_202 xc_46 (v := 51) rfl ?_
    refine g_iload_n (pc := 52) dX11_offOf_52 rfl ?_
    refine g_iaload (pc := 53) dX11_offOf_53 xc_51 (xin_of g5) (v := (rd u 51 x2.toNatClampNeg)) rfl ?_
    refine g_isub (pc := 54) dX11_offOf_54 rfl ?_
    refine g_imul (pc := 55) dX11_offOf_55 rfl ?_
    refine g_sipush (pc := 56) dX11_offOf_56 sp_1000 ?_
    refine g_idiv (pc := 59) dX11_offOf_59 (by decide) rfl ?_
    refine g_istore (pc := 60) dX11_offOf_60 (Nat.le_of_ble_eq_true rfl) (L' := [some (.ref 0), some (.int v1), some (.int v2), some (.int x2), some (.int (rd u 16 v1.toNatClampNeg)), some (.int (((rd u 50 x2.toNatClampNeg) * ((1000 : Int32) - (rd u 51 x2.toNatClampNeg))) / (1000 : Int32)))]) rfl ?_
    refine g_aload_n (pc := 62) dX11_offOf_62 rfl ?_
    refine g_gR (pc := 63) dX11_offOf_63 fR_RX11_47 xc_0 (v := 58) rfl ?_
    obtain ⟨u7, e6, h⟩ := x_bind h
    refine g_cV (pc := 66) dX11_offOf_66 cV_RX11_205 (M_X10_clearLetters (Nat.le_refl _) e6) xc_58 (as := []) (st := []) rfl rfl (Nat.le_of_ble_eq_true rfl) (Nat.le_trans (Nat.le_of_ble_eq_true rfl) hd) rfl ?_
    refine g_aload_n (pc := 69) dX11_offOf_69 rfl ?_
    refine g_gR (pc := 70) dX11_offOf_70 fR_RX11_47 xc_0 (v := 58) rfl ?_
    refine g_bipush (pc := 73) dX11_offOf_73 bp_108 ?_
    refine g_iconst (pc := 75) dX11_offOf_75 ic_0 ?_
    refine g_iload (pc := 76) dX11_offOf_76 rfl ?_
    refine g_iload (pc := 78) dX11_offOf_78 rfl ?_
    refine g_isub (pc := 80) dX11_offOf_80 rfl ?_
    refine g_max (pc := 81) dX11_offOf_81 mK_RX11_188 (Nat.le_of_ble_eq_true rfl) (Nat.le_trans (Nat.le_of_ble_eq_true rfl) hd) (Nat.zero_le _) (Nat.zero_le _) ?_
    refine g_iload (pc := 84) dX11_offOf_84 rfl ?_
    obtain ⟨x9, e8, h⟩ := x_bind h
    refine g_cS (pc := 86) dX11_offOf_86 cS_RX11_208 (M_X11_inThousand (Nat.le_refl _) e8) (as := [.int (imax (0 : Int32) ((rd u 16 v1.toNatClampNeg) - (((rd u 50 x2.toNatClampNeg) * ((1000 : Int32) - (rd u 51 x2.toNatClampNeg))) / (1000 : Int32)))), .int (rd u 16 v1.toNatClampNeg)]) (st := [.int (108 : Int32), .ref 58]) rfl rfl (Nat.le_of_ble_eq_true rfl) (Nat.le_trans (Nat.le_of_ble_eq_true rfl) hd) rfl ?_
    obtain ⟨u11, e10, h⟩ := x_bind h
    refine g_cV (pc := 89) dX11_offOf_89 cV_RX11_211 (M_X10_tell (Nat.le_refl _) e10) xc_58 (as := [.int (108 : Int32), .int x9]) (st := []) rfl rfl (Nat.le_of_ble_eq_true rfl) (Nat.le_trans (Nat.le_of_ble_eq_true rfl) hd) rfl ?_
    refine g_aload_n (pc := 92) dX11_offOf_92 rfl ?_
    refine g_gR (pc := 93) dX11_offOf_93 fR_RX11_47 xc_0 (v := 58) rfl ?_
    refine g_bipush (pc := 96) dX11_offOf_96 bp_100 ?_
    refine g_aload_n (pc := 98) dX11_offOf_98 rfl ?_
    refine g_gR (pc := 99) dX11_offOf_99 fR_RX11_26 xc_0 (v := 46) rfl ?_
    refine g_gR (pc := 102) dX11_offOf_102 fR_RX11_202 xc_46 (v := 51) rfl ?_
    refine g_iload_n (pc := 105) dX11_offOf_105 rfl ?_
    refine g_iaload (pc := 106) dX11_offOf_106 xc_51 (xin_of g5) (v := (rd u11 51 x2.toNatClampNeg)) rfl ?_
    obtain ⟨u13, e12, h⟩ := x_bind h
    refine g_cV (pc := 107) dX11_offOf_107 cV_RX11_211 (M_X10_tell (Nat.le_refl _) e12) xc_58 (as := [.int (100 : Int32), .int (rd u11 51 x2.toNatClampNeg)]) (st := []) rfl rfl (Nat.le_of_ble_eq_true rfl) (Nat.le_trans (Nat.le_of_ble_eq_true rfl) hd) rfl ?_
    refine g_aload_n (pc := 110) dX11_offOf_110 rfl ?_
    refine g_gR (pc := 111) dX11_offOf_111 fR_RX11_47 xc_0 (v := 58) rfl ?_
    refine g_bipush (pc := 114) dX11_offOf_114 bp_113 ?_
    refine g_aload_n (pc := 116) dX11_offOf_116 rfl ?_
    refine g_gR (pc := 117) dX11_offOf_117 fR_RX11_19 xc_0 (v := 13) rfl ?_
    refine g_gR (pc := 120) dX11_offOf_120 fR_RX11_215 xc_13 (v := 15) rfl ?_
    refine g_iload_n (pc := 123) dX11_offOf_123 rfl ?_
    refine g_iaload (pc := 124) dX11_offOf_124 xc_15 (xin_of g4) (v := (rd u13 15 v1.toNatClampNeg)) rfl ?_
    obtain ⟨u15, e14, h⟩ := x_bind h
    refine g_cV (pc := 125) dX11_offOf_125 cV_RX11_211 (M_X10_tell (Nat.le_refl _) e14) xc_58 (as := [.int (113 : Int32), .int (rd u13 15 v1.toNatClampNeg)]) (st := []) rfl rfl (Nat.le_of_ble_eq_true rfl) (Nat.le_trans (Nat.le_of_ble_eq_true rfl) hd) rfl ?_
    refine g_aload_n (pc := 128) dX11_offOf_128 rfl ?_
    refine g_gR (pc := 129) dX11_offOf_129 fR_RX11_19 xc_0 (v := 13) rfl ?_
    refine g_iload_n (pc := 132) dX11_offOf_132 rfl ?_
    obtain ⟨x17, e16, h⟩ := x_bind h
    refine g_cV (pc := 133) dX11_offOf_133 cV_RX11_141 (M_X0_isSorted (Nat.le_refl _) e16) xc_13 (as := [.int v1]) (st := []) rfl rfl (Nat.le_of_ble_eq_true rfl) (Nat.le_trans (Nat.le_of_ble_eq_true rfl) hd) rfl ?_
    refine g_if_eq (tgt := 181) (pc := 136) dX11_offOf_136 (by decide) (fun c18 => ?_) (fun c18 => ?_)
    · replace h := (if_pos c18).symm.trans h
      refine g_L (L' := [some (.ref 0), some (.int v1), none, none, none, none]) ⟨rfl, ⟨rfl, trivial⟩⟩ ?_
      exact G_X11_offOf_181 hd v1 u15 h
    · replace h := (if_neg c18).symm.trans h
      refine g_aload_n (pc := 139) dX11_offOf_139 rfl ?_
      refine g_gR (pc := 140) dX11_offOf_140 fR_RX11_47 xc_0 (v := 58) rfl ?_
      refine g_bipush (pc := 143) dX11_offOf_143 bp_107 ?_
      refine g_aload_n (pc := 145) dX11_offOf_145 rfl ?_
      refine g_gR (pc := 146) dX11_offOf_146 fR_RX11_19 xc_0 (v := 13) rfl ?_
      refine g_gR (pc := 149) dX11_offOf_149 fR_RX11_168 xc_13 (v := 19) rfl ?_
      refine g_iload_n (pc := 152) dX11_offOf_152 rfl ?_
      refine g_iaload (pc := 153) dX11_offOf_153 xc_19 (xin_of g4) (v := (rd u15 19 v1.toNatClampNeg)) rfl ?_
      refine g_iload (pc := 154) dX11_offOf_154 rfl ?_
      obtain ⟨x20, e19, h⟩ := x_bind h
      refine g_cS (pc := 156) dX11_offOf_156 cS_RX11_208 (M_X11_inThousand (Nat.le_refl _) e19) (as := [.int (rd u15 19 v1.toNatClampNeg), .int (rd u 16 v1.toNatClampNeg)]) (st := [.int (107 : Int32), .ref 58]) rfl rfl (Nat.le_of_ble_eq_true rfl) (Nat.le_trans (Nat.le_of_ble_eq_true rfl) hd) rfl ?_
      obtain ⟨u22, e21, h⟩ := x_bind h
      refine g_cV (pc := 159) dX11_offOf_159 cV_RX11_211 (M_X10_tell (Nat.le_refl _) e21) xc_58 (as := [.int (107 : Int32), .int x20]) (st := []) rfl rfl (Nat.le_of_ble_eq_true rfl) (Nat.le_trans (Nat.le_of_ble_eq_true rfl) hd) rfl ?_
      refine g_aload_n (pc := 162) dX11_offOf_162 rfl ?_
      refine g_gR (pc := 163) dX11_offOf_163 fR_RX11_47 xc_0 (v := 58) rfl ?_
      refine g_bipush (pc := 166) dX11_offOf_166 bp_111 ?_
      refine g_aload_n (pc := 168) dX11_offOf_168 rfl ?_
      refine g_iload_n (pc := 169) dX11_offOf_169 rfl ?_
      obtain ⟨x24, e23, h⟩ := x_bind h
      refine g_cV (pc := 170) dX11_offOf_170 cV_RX11_218 (M_X11_woolless (Nat.le_refl _) e23) xc_0 (as := [.int v1]) (st := [.int (111 : Int32), .ref 58]) rfl rfl (Nat.le_of_ble_eq_true rfl) (Nat.le_trans (Nat.le_of_ble_eq_true rfl) hd) rfl ?_
      refine g_iload (pc := 173) dX11_offOf_173 rfl ?_
      obtain ⟨x26, e25, h⟩ := x_bind h
      refine g_cS (pc := 175) dX11_offOf_175 cS_RX11_208 (M_X11_inThousand (Nat.le_refl _) e25) (as := [.int x24, .int (rd u 16 v1.toNatClampNeg)]) (st := [.int (111 : Int32), .ref 58]) rfl rfl (Nat.le_of_ble_eq_true rfl) (Nat.le_trans (Nat.le_of_ble_eq_true rfl) hd) rfl ?_
      obtain ⟨u28, e27, h⟩ := x_bind h
      refine g_cV (pc := 178) dX11_offOf_178 cV_RX11_211 (M_X10_tell (Nat.le_refl _) e27) xc_58 (as := [.int (111 : Int32), .int x26]) (st := []) rfl rfl (Nat.le_of_ble_eq_true rfl) (Nat.le_trans (Nat.le_of_ble_eq_true rfl) hd) rfl ?_
      refine g_L (L' := [some (.ref 0), some (.int v1), none, none, none, none]) ⟨rfl, ⟨rfl, trivial⟩⟩ ?_
      exact G_X11_offOf_181 hd v1 u28 h
  · replace h := (if_pos c3).symm.trans h
    refine g_iconst (pc := 20) dX11_offOf_20 ic_m1 ?_
    obtain ⟨h1, h2⟩ := x_inj2 h
    subst h1
    subst h2
    exact g_iret (pc := 21) dX11_offOf_21 rfl rfl rfl (Nat.le_refl _) (Nat.le_refl _)
set_option maxRecDepth 100000 in
set_option maxHeartbeats 4000000 in
theorem M_X11_offOf {sc : Nat × (Nat → Int32)} {d : Nat} (hd : 3 ≤ d) {r : Int32} {u u' : xS} {a1 : Int32} {a2 : Int32} (h : f_X11_offOf a1 a2 u = some (r, u')) : xMt sc mX11_offOf d 0 0 [.ref 0, .int a1, .int a2] (xL0, u) (some (.int r)) (xL0, u') :=
  xMt.of (by decide +kernel) (by decide +kernel) (Nat.le_of_ble_eq_true rfl) (L := [some (.ref 0), some (.int a1), some (.int a2), none, none, none]) rfl ((G_X11_offOf_0 hd a1 a2 u h))
set_option maxRecDepth 100000 in
set_option maxHeartbeats 4000000 in
theorem G_X11_due_58 {sc : Nat × (Nat → Int32)} {d : Nat} (hd : 4 ≤ d) {r : Int32} {u' : xS} (v1 : Int32) (v4 : Int32) (u : xS) (h : f_X11_due_58 v1 v4 u = some (r, u')) : xG sc mX11_due d 0 0 (xR (some (.int r)) (xL0, u') 0 0) 0 0 58 [some (.ref 0), some (.int v1), none, none, some (.int v4)] [] (xL0, u) := by
  rw [f_X11_due_58] at h
  refine g_aload_n (pc := 58) dX11_due_58 rfl ?_
  refine g_gR (pc := 59) dX11_due_59 fR_RX11_19 xc_0 (v := 13) rfl ?_
  refine g_gR (pc := 62) dX11_due_62 fR_RX11_144 xc_13 (v := 16) rfl ?_
  refine g_iload_n (pc := 65) dX11_due_65 rfl ?_
  obtain ⟨g1, h⟩ := x_gd h
  refine g_iaload (pc := 66) dX11_due_66 xc_16 (xin_of g1) (v := (rd u 16 v1.toNatClampNeg)) rfl ?_
  refine g_i2l (pc := 67) dX11_due_67 rfl ?_
  refine g_aload_n (pc := 68) dX11_due_68 rfl ?_
  refine g_gR (pc := 69) dX11_due_69 fR_RX11_19 xc_0 (v := 13) rfl ?_
  refine g_gR (pc := 72) dX11_due_72 fR_RX11_193 xc_13 (v := 17) rfl ?_
  refine g_iload_n (pc := 75) dX11_due_75 rfl ?_
  refine g_iaload (pc := 76) dX11_due_76 xc_17 (xin_of g1) (v := (rd u 17 v1.toNatClampNeg)) rfl ?_
  refine g_i2l (pc := 77) dX11_due_77 rfl ?_
  refine g_lmul (pc := 78) dX11_due_78 rfl ?_
  refine g_sipush (pc := 79) dX11_due_79 sp_1000 ?_
  refine g_iload (pc := 82) dX11_due_82 rfl ?_
  refine g_isub (pc := 84) dX11_due_84 rfl ?_
  refine g_i2l (pc := 85) dX11_due_85 rfl ?_
  refine g_lmul (pc := 86) dX11_due_86 rfl ?_
  refine g_ldc2 (pc := 87) dX11_due_87 kl_RX11_196 ?_
  refine g_ldiv (pc := 90) dX11_due_90 (by decide) rfl ?_
  refine g_l2i (pc := 91) dX11_due_91 rfl ?_
  obtain ⟨h1, h2⟩ := x_inj2 h
  subst h1
  subst h2
  exact g_iret (pc := 92) dX11_due_92 rfl rfl rfl (Nat.le_refl _) (Nat.le_refl _)
set_option maxRecDepth 100000 in
set_option maxHeartbeats 4000000 in
theorem G_X11_due_47 {sc : Nat × (Nat → Int32)} {d : Nat} (hd : 4 ≤ d) {r : Int32} {u' : xS} (v1 : Int32) (v2 : Int32) (v3 : Int32) (u : xS) (h : f_X11_due_47 v1 v2 v3 u = some (r, u')) : xG sc mX11_due d 0 0 (xR (some (.int r)) (xL0, u') 0 0) 0 0 47 [some (.ref 0), some (.int v1), some (.int v2), some (.int v3), none] [] (xL0, u) := by
  rw [f_X11_due_47] at h
  refine g_iconst (pc := 47) dX11_due_47 ic_0 ?_
  refine g_iload_n (pc := 48) dX11_due_48 rfl ?_
  refine g_iload_n (pc := 49) dX11_due_49 rfl ?_
  refine g_max (pc := 50) dX11_due_50 mK_RX11_188 (Nat.le_of_ble_eq_true rfl) (Nat.le_trans (Nat.le_of_ble_eq_true rfl) hd) (Nat.zero_le _) (Nat.zero_le _) ?_
  refine g_max (pc := 53) dX11_due_53 mK_RX11_188 (Nat.le_of_ble_eq_true rfl) (Nat.le_trans (Nat.le_of_ble_eq_true rfl) hd) (Nat.zero_le _) (Nat.zero_le _) ?_
  refine g_istore (pc := 56) dX11_due_56 (Nat.le_of_ble_eq_true rfl) (L' := [some (.ref 0), some (.int v1), some (.int v2), some (.int v3), some (.int (imax (0 : Int32) (imax v2 v3)))]) rfl ?_
  refine g_L (L' := [some (.ref 0), some (.int v1), none, none, some (.int (imax (0 : Int32) (imax v2 v3)))]) ⟨rfl, ⟨rfl, ⟨rfl, trivial⟩⟩⟩ ?_
  exact G_X11_due_58 hd v1 (imax (0 : Int32) (imax v2 v3)) u h
set_option maxRecDepth 100000 in
set_option maxHeartbeats 4000000 in
theorem G_X11_due_0 {sc : Nat × (Nat → Int32)} {d : Nat} (hd : 4 ≤ d) {r : Int32} {u' : xS} (v1 : Int32) (u : xS) (h : f_X11_due v1 u = some (r, u')) : xG sc mX11_due d 0 0 (xR (some (.int r)) (xL0, u') 0 0) 0 0 0 [some (.ref 0), some (.int v1), none, none, none] [] (xL0, u) := by
  rw [f_X11_due] at h
  refine g_aload_n (pc := 0) dX11_due_0 rfl ?_
  refine g_gR (pc := 1) dX11_due_1 fR_RX11_19 xc_0 (v := 13) rfl ?_
  refine g_iload_n (pc := 4) dX11_due_4 rfl ?_
  refine g_cV (pc := 5) dX11_due_5 cV_RX11_137 (M_X0_has (Nat.le_refl _) rfl) xc_13 (as := [.int v1]) (st := []) rfl rfl (Nat.le_of_ble_eq_true rfl) (Nat.le_trans (Nat.le_of_ble_eq_true rfl) hd) rfl ?_
  refine g_if_ne (tgt := 13) (pc := 8) dX11_due_8 (by decide) (fun c1 => ?_) (fun c1 => ?_)
  · replace h := (if_neg c1).symm.trans h
    refine g_aload_n (pc := 13) dX11_due_13 rfl ?_
    refine g_iload_n (pc := 14) dX11_due_14 rfl ?_
    refine g_iconst (pc := 15) dX11_due_15 ic_0 ?_
    obtain ⟨⟨x3, u4⟩, e2, h⟩ := x_bind h
    dsimp only at h
    refine g_cV (pc := 16) dX11_due_16 cV_RX11_185 (M_X11_offOf (Nat.le_refl _) e2) xc_0 (as := [.int v1, .int (0 : Int32)]) (st := []) rfl rfl (Nat.le_of_ble_eq_true rfl) (Nat.le_trans (Nat.le_of_ble_eq_true rfl) hd) rfl ?_
    refine g_istore_n (pc := 19) dX11_due_19 (Nat.le_of_ble_eq_true rfl) (L' := [some (.ref 0), some (.int v1), some (.int x3), none, none]) rfl ?_
    refine g_aload_n (pc := 20) dX11_due_20 rfl ?_
    refine g_iload_n (pc := 21) dX11_due_21 rfl ?_
    refine g_iconst (pc := 22) dX11_due_22 ic_1 ?_
    obtain ⟨⟨x6, u7⟩, e5, h⟩ := x_bind h
    dsimp only at h
    refine g_cV (pc := 23) dX11_due_23 cV_RX11_185 (M_X11_offOf (Nat.le_refl _) e5) xc_0 (as := [.int v1, .int (1 : Int32)]) (st := []) rfl rfl (Nat.le_of_ble_eq_true rfl) (Nat.le_trans (Nat.le_of_ble_eq_true rfl) hd) rfl ?_
    refine g_istore_n (pc := 26) dX11_due_26 (Nat.le_of_ble_eq_true rfl) (L' := [some (.ref 0), some (.int v1), some (.int x3), some (.int x6), none]) rfl ?_
    refine g_iload_n (pc := 27) dX11_due_27 rfl ?_
    refine g_iconst (pc := 28) dX11_due_28 ic_m1 ?_
    refine g_icmp_eq (tgt := 47) (pc := 29) dX11_due_29 (by decide) (fun c8 => ?_) (fun c8 => ?_)
    · replace h := (if_pos c8).symm.trans h
      exact G_X11_due_47 hd v1 x3 x6 u7 h
    · replace h := (if_neg c8).symm.trans h
      refine g_iload_n (pc := 32) dX11_due_32 rfl ?_
      refine g_iconst (pc := 33) dX11_due_33 ic_m1 ?_
      refine g_icmp_eq (tgt := 47) (pc := 34) dX11_due_34 (by decide) (fun c9 => ?_) (fun c9 => ?_)
      · replace h := (if_pos c9).symm.trans h
        exact G_X11_due_47 hd v1 x3 x6 u7 h
      · replace h := (if_neg c9).symm.trans h
        refine g_iload_n (pc := 37) dX11_due_37 rfl ?_
        refine g_iload_n (pc := 38) dX11_due_38 rfl ?_
        refine g_iadd (pc := 39) dX11_due_39 rfl ?_
        refine g_iconst (pc := 40) dX11_due_40 ic_2 ?_
        refine g_idiv (pc := 41) dX11_due_41 (by decide) rfl ?_
        refine g_istore (pc := 42) dX11_due_42 (Nat.le_of_ble_eq_true rfl) (L' := [some (.ref 0), some (.int v1), some (.int x3), some (.int x6), some (.int ((x3 + x6) / (2 : Int32)))]) rfl ?_
        refine g_goto (tgt := 58) (pc := 44) dX11_due_44 (by decide) ?_
        refine g_L (L' := [some (.ref 0), some (.int v1), none, none, some (.int ((x3 + x6) / (2 : Int32)))]) ⟨rfl, ⟨rfl, ⟨rfl, trivial⟩⟩⟩ ?_
        exact G_X11_due_58 hd v1 ((x3 + x6) / (2 : Int32)) u7 h
  · replace h := (if_pos c1).symm.trans h
    refine g_iconst (pc := 11) dX11_due_11 ic_m1 ?_
    obtain ⟨h1, h2⟩ := x_inj2 h
    subst h1
    subst h2
    exact g_iret (pc := 12) dX11_due_12 rfl rfl rfl (Nat.le_refl _) (Nat.le_refl _)
set_option maxRecDepth 100000 in
set_option maxHeartbeats 4000000 in
theorem M_X11_due {sc : Nat × (Nat → Int32)} {d : Nat} (hd : 4 ≤ d) {r : Int32} {u u' : xS} {a1 : Int32} (h : f_X11_due a1 u = some (r, u')) : xMt sc mX11_due d 0 0 [.ref 0, .int a1] (xL0, u) (some (.int r)) (xL0, u') :=
  xMt.of (by decide +kernel) (by decide +kernel) (Nat.le_of_ble_eq_true rfl) (L := [some (.ref 0), some (.int a1), none, none, none]) rfl ((G_X11_due_0 hd a1 u h))
set_option maxRecDepth 100000 in
set_option maxHeartbeats 4000000 in
theorem G_X11_end_0 {sc : Nat × (Nat → Int32)} {d : Nat} (hd : 1 ≤ d) {r : Int32} {u' : xS} (v1 : Int32) (u : xS) (h : f_X11_end v1 u = some (r, u')) : xG sc mX11_end d 0 0 (xR (some (.int r)) (xL0, u') 0 0) 0 0 0 [some (.ref 0), some (.int v1)] [] (xL0, u) := by
  rw [f_X11_end] at h
  refine g_iload_n (pc := 0) dX11_end_0 rfl ?_
  refine g_iconst (pc := 1) dX11_end_1 ic_0 ?_
  refine g_aload_n (pc := 2) dX11_end_2 rfl ?_
  refine g_gR (pc := 3) dX11_end_3 fR_RX11_33 xc_0 (v := 52) rfl ?_
  refine g_gI (pc := 6) dX11_end_6 fI_RX11_233 xc_52 (v := (rd u 52 1)) rfl ?_
  refine g_cS (pc := 9) dX11_end_9 cS_RX11_94 (M_X11_lies (Nat.le_refl _) rfl) (as := [.int v1, .int (0 : Int32), .int (rd u 52 1)]) (st := []) rfl rfl (Nat.le_of_ble_eq_true rfl) (Nat.le_trans (Nat.le_of_ble_eq_true rfl) hd) rfl ?_
  refine g_if_ne (tgt := 17) (pc := 12) dX11_end_12 (by decide) (fun c1 => ?_) (fun c1 => ?_)
  · replace h := (if_neg c1).symm.trans h
    refine g_aload_n (pc := 17) dX11_end_17 rfl ?_
    refine g_gR (pc := 18) dX11_end_18 fR_RX11_33 xc_0 (v := 52) rfl ?_
    refine g_iload_n (pc := 21) dX11_end_21 rfl ?_
    refine g_pI (pc := 22) dX11_end_22 pI_RX11_233 xc_52 (u' := (wr u 52 1 v1)) rfl ?_
    refine g_iconst (pc := 25) dX11_end_25 ic_1 ?_
    obtain ⟨h1, h2⟩ := x_inj2 h
    subst h1
    subst h2
    exact g_zret (pc := 26) dX11_end_26 rfl (Or.inr rfl) rfl rfl (Nat.le_refl _) (Nat.le_refl _)
  · replace h := (if_pos c1).symm.trans h
    refine g_iconst (pc := 15) dX11_end_15 ic_0 ?_
    obtain ⟨h1, h2⟩ := x_inj2 h
    subst h1
    subst h2
    exact g_zret (pc := 16) dX11_end_16 rfl (Or.inl rfl) rfl rfl (Nat.le_refl _) (Nat.le_refl _)
set_option maxRecDepth 100000 in
set_option maxHeartbeats 4000000 in
theorem M_X11_end {sc : Nat × (Nat → Int32)} {d : Nat} (hd : 1 ≤ d) {r : Int32} {u u' : xS} {a1 : Int32} (h : f_X11_end a1 u = some (r, u')) : xMt sc mX11_end d 0 0 [.ref 0, .int a1] (xL0, u) (some (.int r)) (xL0, u') :=
  xMt.of (by decide +kernel) (by decide +kernel) (Nat.le_of_ble_eq_true rfl) (L := [some (.ref 0), some (.int a1)]) rfl ((G_X11_end_0 hd a1 u h))
set_option maxRecDepth 100000 in
set_option maxHeartbeats 4000000 in
theorem G_X11_entry_0 {sc : Nat × (Nat → Int32)} {d : Nat} (hd : 0 ≤ d) {r : Int32} {u : xS} (v0 : Int32) (v1 : Int32) (h : f_X11_entry v0 v1 = r) : xG sc mX11_entry d 0 0 (xR (some (.int r)) (xL0, u) 0 0) 0 0 0 [some (.int v0), some (.int v1)] [] (xL0, u) := by
  rw [f_X11_entry] at h
  refine g_iload_n (pc := 0) dX11_entry_0 rfl ?_
  by_cases c1 : v0 = (0 : Int32)
  · replace h := (if_pos c1).symm.trans h
    refine g_lookup (tgt := 28) (off := 27) (pc := 1) dX11_entry_1 (by decide) (by rw [c1]; decide) (by decide) ?_
    refine g_iload_n (pc := 28) dX11_entry_28 rfl ?_
    refine g_i2b (pc := 29) dX11_entry_29 rfl ?_
    subst h
    exact g_iret (pc := 30) dX11_entry_30 rfl rfl rfl (Nat.le_refl _) (Nat.le_refl _)
  replace h := (if_neg c1).symm.trans h
  by_cases c2 : v0 = (1 : Int32)
  · replace h := (if_pos c2).symm.trans h
    refine g_lookup (tgt := 31) (off := 30) (pc := 1) dX11_entry_1 (by decide) (by rw [c2]; decide) (by decide) ?_
    refine g_iload_n (pc := 31) dX11_entry_31 rfl ?_
    refine g_i2s (pc := 32) dX11_entry_32 rfl ?_
    subst h
    exact g_iret (pc := 33) dX11_entry_33 rfl rfl rfl (Nat.le_refl _) (Nat.le_refl _)
  replace h := (if_neg c2).symm.trans h
  have c1i := i32_ne c1 (m := 0) (by decide)
  have c2i := i32_ne c2 (m := 1) (by decide)
  refine g_lookup (tgt := 34) (off := 33) (pc := 1) dX11_entry_1 (by decide) (x_lsw (by simp [c1i, Ne.symm c1i, c2i, Ne.symm c2i])) (by decide) ?_
  refine g_iload_n (pc := 34) dX11_entry_34 rfl ?_
  subst h
  exact g_iret (pc := 35) dX11_entry_35 rfl rfl rfl (Nat.le_refl _) (Nat.le_refl _)
set_option maxRecDepth 100000 in
set_option maxHeartbeats 4000000 in
theorem M_X11_entry {sc : Nat × (Nat → Int32)} {d : Nat} (hd : 0 ≤ d) {r : Int32} {u : xS} {a0 : Int32} {a1 : Int32} (h : f_X11_entry a0 a1 = r) : xMt sc mX11_entry d 0 0 [.int a0, .int a1] (xL0, u) (some (.int r)) (xL0, u) :=
  xMt.of (by decide +kernel) (by decide +kernel) (Nat.le_of_ble_eq_true rfl) (L := [some (.int a0), some (.int a1)]) rfl ((G_X11_entry_0 hd a0 a1 h))
set_option maxRecDepth 100000 in
set_option maxHeartbeats 4000000 in
theorem G_X3_isOf_33 {sc : Nat × (Nat → Int32)} {d : Nat} (hd : 0 ≤ d) {r : Int32} {u : xS} (h : f_X3_isOf_33 u = some r) : xG sc mX3_isOf d 0 0 (xR (some (.int r)) (xL0, u) 0 0) 0 0 33 [none, none, none, none, none] [] (xL0, u) := by
  rw [f_X3_isOf_33] at h
  refine g_iconst (pc := 33) dX3_isOf_33 ic_1 ?_
  refine g_goto (tgt := 38) (pc := 34) dX3_isOf_34 (by decide) ?_
  replace h := Option.some.inj h
  subst h
  exact g_zret (pc := 38) dX3_isOf_38 rfl (Or.inr rfl) rfl rfl (Nat.le_refl _) (Nat.le_refl _)
set_option maxRecDepth 100000 in
set_option maxHeartbeats 4000000 in
theorem G_X3_isOf_0 {sc : Nat × (Nat → Int32)} {d : Nat} (hd : 0 ≤ d) {r : Int32} {u : xS} (v1 : Int32) (v2 : Int32) (v3 : Int32) (v4 : Int32) (h : f_X3_isOf u v1 v2 v3 v4 = some r) : xG sc mX3_isOf d 0 0 (xR (some (.int r)) (xL0, u) 0 0) 0 0 0 [some (.ref 113), some (.int v1), some (.int v2), some (.int v3), some (.int v4)] [] (xL0, u) := by
  rw [f_X3_isOf] at h
  refine g_aload_n (pc := 0) dX3_isOf_0 rfl ?_
  refine g_gR (pc := 1) dX3_isOf_1 fR_RX3_11 xc_113 (v := 114) rfl ?_
  refine g_iload_n (pc := 4) dX3_isOf_4 rfl ?_
  obtain ⟨g1, h⟩ := x_gd h
  refine g_aaload (pc := 5) dX3_isOf_5 xc_114 (xin_of g1) (v := (115 + v2.toNatClampNeg)) (xrf_114 _ (xin_lt g1)) ?_
  refine g_iload_n (pc := 6) dX3_isOf_6 rfl ?_
  obtain ⟨g2, h⟩ := x_gd h
  refine g_iaload (pc := 7) dX3_isOf_7 (xrow_114 _ (xin_lt g1)) (xin_of g2) (v := (rd u (115 + v2.toNatClampNeg) v1.toNatClampNeg)) rfl ?_
  refine g_iload_n (pc := 8) dX3_isOf_8 rfl ?_
  refine g_icmp_ne (tgt := 37) (pc := 9) dX3_isOf_9 (by decide) (fun c3 => ?_) (fun c3 => ?_)
  · replace h := (if_neg c3).symm.trans h
    refine g_iconst (pc := 37) dX3_isOf_37 ic_0 ?_
    replace h := Option.some.inj h
    subst h
    exact g_zret (pc := 38) dX3_isOf_38 rfl (Or.inl rfl) rfl rfl (Nat.le_refl _) (Nat.le_refl _)
  · replace h := (if_pos c3).symm.trans h
    refine g_iload (pc := 12) dX3_isOf_12 rfl ?_
    refine g_iconst (pc := 14) dX3_isOf_14 ic_m1 ?_
    refine g_icmp_eq (tgt := 33) (pc := 15) dX3_isOf_15 (by decide) (fun c4 => ?_) (fun c4 => ?_)
    · replace h := (if_pos c4).symm.trans h
      refine g_L (L' := [none, none, none, none, none]) trivial ?_
      exact G_X3_isOf_33 hd h
    · replace h := (if_neg c4).symm.trans h
      refine g_aload_n (pc := 18) dX3_isOf_18 rfl ?_
      refine g_gR (pc := 19) dX3_isOf_19 fR_RX3_11 xc_113 (v := 114) rfl ?_
      refine g_iconst (pc := 22) dX3_isOf_22 ic_1 ?_
      refine g_iload_n (pc := 23) dX3_isOf_23 rfl ?_
      refine g_isub (pc := 24) dX3_isOf_24 rfl ?_
      obtain ⟨g5, h⟩ := x_gd h
      refine g_aaload (pc := 25) dX3_isOf_25 xc_114 (xin_of g5) (v := (115 + ((1 : Int32) - v2).toNatClampNeg)) (xrf_114 _ (xin_lt g5)) ?_
      refine g_iload_n (pc := 26) dX3_isOf_26 rfl ?_
      refine g_iaload (pc := 27) dX3_isOf_27 (xrow_114 _ (xin_lt g5)) (xin_of g2) (v := (rd u (115 + ((1 : Int32) - v2).toNatClampNeg) v1.toNatClampNeg)) rfl ?_
      refine g_iload (pc := 28) dX3_isOf_28 rfl ?_
      refine g_icmp_ne (tgt := 37) (pc := 30) dX3_isOf_30 (by decide) (fun c6 => ?_) (fun c6 => ?_)
      · replace h := (if_neg c6).symm.trans h
        refine g_iconst (pc := 37) dX3_isOf_37 ic_0 ?_
        replace h := Option.some.inj h
        subst h
        exact g_zret (pc := 38) dX3_isOf_38 rfl (Or.inl rfl) rfl rfl (Nat.le_refl _) (Nat.le_refl _)
      · replace h := (if_pos c6).symm.trans h
        refine g_L (L' := [none, none, none, none, none]) trivial ?_
        exact G_X3_isOf_33 hd h
set_option maxRecDepth 100000 in
set_option maxHeartbeats 4000000 in
theorem M_X3_isOf {sc : Nat × (Nat → Int32)} {d : Nat} (hd : 0 ≤ d) {r : Int32} {u : xS} {a1 : Int32} {a2 : Int32} {a3 : Int32} {a4 : Int32} (h : f_X3_isOf u a1 a2 a3 a4 = some r) : xMt sc mX3_isOf d 0 0 [.ref 113, .int a1, .int a2, .int a3, .int a4] (xL0, u) (some (.int r)) (xL0, u) :=
  xMt.of (by decide +kernel) (by decide +kernel) (Nat.le_of_ble_eq_true rfl) (L := [some (.ref 113), some (.int a1), some (.int a2), some (.int a3), some (.int a4)]) rfl ((G_X3_isOf_0 hd a1 a2 a3 a4 h))
set_option maxRecDepth 100000 in
set_option maxHeartbeats 4000000 in
theorem G_X3_alike_75 {sc : Nat × (Nat → Int32)} {d : Nat} (hd : 1 ≤ d) {r : Int32} {u : xS} {k8 : Int32 → Int32 → Int32 → Int32 → Int32 → Option Int32} (hk8 : ∀ (v1 : Int32) (v2 : Int32) (v3 : Int32) (v4 : Int32) (v5 : Int32), k8 v1 v2 v3 v4 v5 = some r → xG sc mX3_alike d 0 0 (xR (some (.int r)) (xL0, u) 0 0) 0 0 8 [some (.ref 113), some (.int v1), some (.int v2), some (.int v3), some (.int v4), some (.int v5)] [] (xL0, u)) (v1 : Int32) (v2 : Int32) (v3 : Int32) (v4 : Int32) (v5 : Int32) (h : f_X3_alike_75 k8 u v1 v2 v3 v4 v5 = some r) : xG sc mX3_alike d 0 0 (xR (some (.int r)) (xL0, u) 0 0) 0 0 75 [some (.ref 113), some (.int v1), some (.int v2), some (.int v3), some (.int v4), some (.int v5)] [] (xL0, u) := by
  rw [f_X3_alike_75] at h
  refine g_inc (pc := 75) dX3_alike_75 (Nat.le_of_ble_eq_true rfl) rfl ic_1 (L' := [some (.ref 113), some (.int v1), some (.int v2), some (.int v3), some (.int v4), some (.int (v5 + (1 : Int32)))]) rfl ?_
  refine g_goto (tgt := 8) (pc := 78) dX3_alike_78 (by decide) ?_
  exact hk8 v1 v2 v3 v4 (v5 + (1 : Int32)) h
set_option maxRecDepth 100000 in
set_option maxHeartbeats 4000000 in
theorem G_X3_alike_72 {sc : Nat × (Nat → Int32)} {d : Nat} (hd : 1 ≤ d) {r : Int32} {u : xS} {k8 : Int32 → Int32 → Int32 → Int32 → Int32 → Option Int32} (hk8 : ∀ (v1 : Int32) (v2 : Int32) (v3 : Int32) (v4 : Int32) (v5 : Int32), k8 v1 v2 v3 v4 v5 = some r → xG sc mX3_alike d 0 0 (xR (some (.int r)) (xL0, u) 0 0) 0 0 8 [some (.ref 113), some (.int v1), some (.int v2), some (.int v3), some (.int v4), some (.int v5)] [] (xL0, u)) (v1 : Int32) (v2 : Int32) (v3 : Int32) (v5 : Int32) (s0 : Int32) (s1 : Int32) (h : f_X3_alike_72 k8 u v1 v2 v3 v5 s0 s1 = some r) : xG sc mX3_alike d 0 0 (xR (some (.int r)) (xL0, u) 0 0) 0 0 72 [some (.ref 113), some (.int v1), some (.int v2), some (.int v3), none, some (.int v5)] [.int s1, .int s0] (xL0, u) := by
  rw [f_X3_alike_72] at h
  refine g_iadd (pc := 72) dX3_alike_72 rfl ?_
  refine g_istore (pc := 73) dX3_alike_73 (Nat.le_of_ble_eq_true rfl) (L' := [some (.ref 113), some (.int v1), some (.int v2), some (.int v3), some (.int (s0 + s1)), some (.int v5)]) rfl ?_
  exact G_X3_alike_75 hd hk8 v1 v2 v3 (s0 + s1) v5 h
set_option maxRecDepth 100000 in
set_option maxHeartbeats 4000000 in
theorem G_X3_alike_41 {sc : Nat × (Nat → Int32)} {d : Nat} (hd : 1 ≤ d) {r : Int32} {u : xS} {k8 : Int32 → Int32 → Int32 → Int32 → Int32 → Option Int32} (hk8 : ∀ (v1 : Int32) (v2 : Int32) (v3 : Int32) (v4 : Int32) (v5 : Int32), k8 v1 v2 v3 v4 v5 = some r → xG sc mX3_alike d 0 0 (xR (some (.int r)) (xL0, u) 0 0) 0 0 8 [some (.ref 113), some (.int v1), some (.int v2), some (.int v3), some (.int v4), some (.int v5)] [] (xL0, u)) (v1 : Int32) (v2 : Int32) (v3 : Int32) (v4 : Int32) (v5 : Int32) (h : f_X3_alike_41 k8 u v1 v2 v3 v4 v5 = some r) : xG sc mX3_alike d 0 0 (xR (some (.int r)) (xL0, u) 0 0) 0 0 41 [some (.ref 113), some (.int v1), some (.int v2), some (.int v3), some (.int v4), some (.int v5)] [] (xL0, u) := by
  rw [f_X3_alike_41] at h
  refine g_inc (pc := 41) dX3_alike_41 (Nat.le_of_ble_eq_true rfl) rfl ic_1 (L' := [some (.ref 113), some (.int v1), some (.int v2), some (.int (v3 + (1 : Int32))), some (.int v4), some (.int v5)]) rfl ?_
  refine g_iload (pc := 44) dX3_alike_44 rfl ?_
  refine g_aload_n (pc := 46) dX3_alike_46 rfl ?_
  refine g_gR (pc := 47) dX3_alike_47 fR_RX3_16 xc_113 (v := 117) rfl ?_
  refine g_iconst (pc := 50) dX3_alike_50 ic_0 ?_
  refine g_aaload (pc := 51) dX3_alike_51 xc_117 vin_0_2 (v := 118) rfl ?_
  refine g_iload (pc := 52) dX3_alike_52 rfl ?_
  obtain ⟨g1, h⟩ := x_gd h
  refine g_iaload (pc := 54) dX3_alike_54 xc_118 (xin_of g1) (v := (rd u 118 v5.toNatClampNeg)) rfl ?_
  refine g_aload_n (pc := 55) dX3_alike_55 rfl ?_
  refine g_gR (pc := 56) dX3_alike_56 fR_RX3_16 xc_113 (v := 117) rfl ?_
  refine g_iconst (pc := 59) dX3_alike_59 ic_1 ?_
  refine g_aaload (pc := 60) dX3_alike_60 xc_117 vin_1_2 (v := 119) rfl ?_
  refine g_iload (pc := 61) dX3_alike_61 rfl ?_
  refine g_iaload (pc := 63) dX3_alike_63 xc_119 (xin_of g1) (v := (rd u 119 v5.toNatClampNeg)) rfl ?_
  refine g_icmp_ne (tgt := 71) (pc := 64) dX3_alike_64 (by decide) (fun c2 => ?_) (fun c2 => ?_)
  · replace h := (if_neg c2).symm.trans h
    refine g_iconst (pc := 71) dX3_alike_71 ic_0 ?_
    refine g_L (L' := [some (.ref 113), some (.int v1), some (.int v2), some (.int (v3 + (1 : Int32))), none, some (.int v5)]) ⟨rfl, ⟨rfl, ⟨rfl, ⟨rfl, ⟨rfl, trivial⟩⟩⟩⟩⟩ ?_
    exact G_X3_alike_72 hd hk8 v1 v2 (v3 + (1 : Int32)) v5 v4 (0 : Int32) h
  · replace h := (if_pos c2).symm.trans h
    refine g_iconst (pc := 67) dX3_alike_67 ic_1 ?_
    refine g_goto (tgt := 72) (pc := 68) dX3_alike_68 (by decide) ?_
    refine g_L (L' := [some (.ref 113), some (.int v1), some (.int v2), some (.int (v3 + (1 : Int32))), none, some (.int v5)]) ⟨rfl, ⟨rfl, ⟨rfl, ⟨rfl, ⟨rfl, trivial⟩⟩⟩⟩⟩ ?_
    exact G_X3_alike_72 hd hk8 v1 v2 (v3 + (1 : Int32)) v5 v4 (1 : Int32) h
set_option maxRecDepth 100000 in
set_option maxHeartbeats 4000000 in
theorem G_X3_alike_8 {sc : Nat × (Nat → Int32)} {d : Nat} (hd : 1 ≤ d) {r : Int32} {u : xS} : ∀ (n : Nat) (v1 : Int32) (v2 : Int32) (v3 : Int32) (v4 : Int32) (v5 : Int32), f_X3_alike_8 u n v1 v2 v3 v4 v5 = some r → xG sc mX3_alike d 0 0 (xR (some (.int r)) (xL0, u) 0 0) 0 0 8 [some (.ref 113), some (.int v1), some (.int v2), some (.int v3), some (.int v4), some (.int v5)] [] (xL0, u) := by
  intro n
  induction n with
  | zero =>
    intro v1 v2 v3 v4 v5 h
    rw [f_X3_alike_8] at h
    cases h
  | succ n ih =>
    intro v1 v2 v3 v4 v5 h
    rw [f_X3_alike_8] at h
    refine g_iload (pc := 8) dX3_alike_8 rfl ?_
    refine g_aload_n (pc := 10) dX3_alike_10 rfl ?_
    refine g_gI (pc := 11) dX3_alike_11 fI_RX3_23 xc_113 (v := (rd u 113 3)) rfl ?_
    refine g_icmp_ge (tgt := 81) (pc := 14) dX3_alike_14 (by decide) (fun c1 => ?_) (fun c1 => ?_)
    · replace h := (if_pos c1).symm.trans h
      refine g_iload_n (pc := 81) dX3_alike_81 rfl ?_
      refine g_if_ne (tgt := 89) (pc := 82) dX3_alike_82 (by decide) (fun c2 => ?_) (fun c2 => ?_)
      · replace h := (if_neg c2).symm.trans h
        refine g_iload (pc := 89) dX3_alike_89 rfl ?_
        refine g_iload_n (pc := 91) dX3_alike_91 rfl ?_
        obtain ⟨x4, e3, h⟩ := x_bind h
        refine g_cN (pc := 92) dX3_alike_92 cN_RX3_31 (M_X11_inThousand (Nat.le_refl _) e3) (as := [.int v4, .int v3]) (st := []) rfl rfl (Nat.le_of_ble_eq_true rfl) (Nat.le_trans (Nat.le_of_ble_eq_true rfl) hd) rfl ?_
        replace h := Option.some.inj h
        subst h
        exact g_iret (pc := 95) dX3_alike_95 rfl rfl rfl (Nat.le_refl _) (Nat.le_refl _)
      · replace h := (if_pos c2).symm.trans h
        refine g_iconst (pc := 85) dX3_alike_85 ic_m1 ?_
        refine g_goto (tgt := 95) (pc := 86) dX3_alike_86 (by decide) ?_
        replace h := Option.some.inj h
        subst h
        exact g_iret (pc := 95) dX3_alike_95 rfl rfl rfl (Nat.le_refl _) (Nat.le_refl _)
    · replace h := (if_neg c1).symm.trans h
      refine g_aload_n (pc := 17) dX3_alike_17 rfl ?_
      refine g_iload (pc := 18) dX3_alike_18 rfl ?_
      refine g_iconst (pc := 20) dX3_alike_20 ic_0 ?_
      refine g_iload_n (pc := 21) dX3_alike_21 rfl ?_
      refine g_iload_n (pc := 22) dX3_alike_22 rfl ?_
      obtain ⟨x6, e5, h⟩ := x_bind h
      refine g_cV (pc := 23) dX3_alike_23 cV_RX3_27 (M_X3_isOf (Nat.le_refl _) e5) xc_113 (as := [.int v5, .int (0 : Int32), .int v1, .int v2]) (st := []) rfl rfl (Nat.le_of_ble_eq_true rfl) (Nat.le_trans (Nat.le_of_ble_eq_true rfl) hd) rfl ?_
      refine g_if_ne (tgt := 41) (pc := 26) dX3_alike_26 (by decide) (fun c7 => ?_) (fun c7 => ?_)
      · replace h := (if_neg c7).symm.trans h
        exact G_X3_alike_41 hd ih v1 v2 v3 v4 v5 h
      · replace h := (if_pos c7).symm.trans h
        refine g_aload_n (pc := 29) dX3_alike_29 rfl ?_
        refine g_iload (pc := 30) dX3_alike_30 rfl ?_
        refine g_iconst (pc := 32) dX3_alike_32 ic_1 ?_
        refine g_iload_n (pc := 33) dX3_alike_33 rfl ?_
        refine g_iload_n (pc := 34) dX3_alike_34 rfl ?_
        obtain ⟨x9, e8, h⟩ := x_bind h
        refine g_cV (pc := 35) dX3_alike_35 cV_RX3_27 (M_X3_isOf (Nat.le_refl _) e8) xc_113 (as := [.int v5, .int (1 : Int32), .int v1, .int v2]) (st := []) rfl rfl (Nat.le_of_ble_eq_true rfl) (Nat.le_trans (Nat.le_of_ble_eq_true rfl) hd) rfl ?_
        refine g_if_eq (tgt := 75) (pc := 38) dX3_alike_38 (by decide) (fun c10 => ?_) (fun c10 => ?_)
        · replace h := (if_pos c10).symm.trans h
          exact G_X3_alike_75 hd ih v1 v2 v3 v4 v5 h
        · replace h := (if_neg c10).symm.trans h
          exact G_X3_alike_41 hd ih v1 v2 v3 v4 v5 h
set_option maxRecDepth 100000 in
set_option maxHeartbeats 4000000 in
theorem G_X3_alike_0 {sc : Nat × (Nat → Int32)} {d : Nat} (hd : 1 ≤ d) {r : Int32} {u : xS} (v1 : Int32) (v2 : Int32) (h : f_X3_alike u v1 v2 = some r) : xG sc mX3_alike d 0 0 (xR (some (.int r)) (xL0, u) 0 0) 0 0 0 [some (.ref 113), some (.int v1), some (.int v2), none, none, none] [] (xL0, u) := by
  rw [f_X3_alike] at h
  refine g_iconst (pc := 0) dX3_alike_0 ic_0 ?_
  refine g_istore_n (pc := 1) dX3_alike_1 (Nat.le_of_ble_eq_true rfl) (L' := [some (.ref 113), some (.int v1), some (.int v2), some (.int (0 : Int32)), none, none]) rfl ?_
  refine g_iconst (pc := 2) dX3_alike_2 ic_0 ?_
  refine g_istore (pc := 3) dX3_alike_3 (Nat.le_of_ble_eq_true rfl) (L' := [some (.ref 113), some (.int v1), some (.int v2), some (.int (0 : Int32)), some (.int (0 : Int32)), none]) rfl ?_
  refine g_iconst (pc := 5) dX3_alike_5 ic_0 ?_
  refine g_istore (pc := 6) dX3_alike_6 (Nat.le_of_ble_eq_true rfl) (L' := [some (.ref 113), some (.int v1), some (.int v2), some (.int (0 : Int32)), some (.int (0 : Int32)), some (.int (0 : Int32))]) rfl ?_
  exact G_X3_alike_8 hd xN v1 v2 (0 : Int32) (0 : Int32) (0 : Int32) h
set_option maxRecDepth 100000 in
set_option maxHeartbeats 4000000 in
theorem M_X3_alike {sc : Nat × (Nat → Int32)} {d : Nat} (hd : 1 ≤ d) {r : Int32} {u : xS} {a1 : Int32} {a2 : Int32} (h : f_X3_alike u a1 a2 = some r) : xMt sc mX3_alike d 0 0 [.ref 113, .int a1, .int a2] (xL0, u) (some (.int r)) (xL0, u) :=
  xMt.of (by decide +kernel) (by decide +kernel) (Nat.le_of_ble_eq_true rfl) (L := [some (.ref 113), some (.int a1), some (.int a2), none, none, none]) rfl ((G_X3_alike_0 hd a1 a2 h))
set_option maxRecDepth 100000 in
set_option maxHeartbeats 4000000 in
theorem G_X11_eye_0 {sc : Nat × (Nat → Int32)} {d : Nat} (hd : 2 ≤ d) {r : Int32} {u : xS} (v1 : Int32) (h : f_X11_eye u v1 = some r) : xG sc mX11_eye d 0 0 (xR (some (.int r)) (xL0, u) 0 0) 0 0 0 [some (.ref 0), some (.int v1)] [] (xL0, u) := by
  rw [f_X11_eye] at h
  refine g_iload_n (pc := 0) dX11_eye_0 rfl ?_
  refine g_cS (pc := 1) dX11_eye_1 cS_RX11_138 (M_X11_isSorter (Nat.le_refl _) rfl) (as := [.int v1]) (st := []) rfl rfl (Nat.le_of_ble_eq_true rfl) (Nat.le_trans (Nat.le_of_ble_eq_true rfl) hd) rfl ?_
  refine g_if_eq (tgt := 19) (pc := 4) dX11_eye_4 (by decide) (fun c1 => ?_) (fun c1 => ?_)
  · replace h := (if_pos c1).symm.trans h
    refine g_iconst (pc := 19) dX11_eye_19 ic_m1 ?_
    replace h := Option.some.inj h
    subst h
    exact g_iret (pc := 20) dX11_eye_20 rfl rfl rfl (Nat.le_refl _) (Nat.le_refl _)
  · replace h := (if_neg c1).symm.trans h
    refine g_aload_n (pc := 7) dX11_eye_7 rfl ?_
    refine g_gR (pc := 8) dX11_eye_8 fR_RX11_75 xc_0 (v := 113) rfl ?_
    refine g_iload_n (pc := 11) dX11_eye_11 rfl ?_
    refine g_iconst (pc := 12) dX11_eye_12 ic_m1 ?_
    obtain ⟨x3, e2, h⟩ := x_bind h
    refine g_cV (pc := 13) dX11_eye_13 cV_RX11_260 (M_X3_alike (Nat.le_refl _) e2) xc_113 (as := [.int v1, .int (-1 : Int32)]) (st := []) rfl rfl (Nat.le_of_ble_eq_true rfl) (Nat.le_trans (Nat.le_of_ble_eq_true rfl) hd) rfl ?_
    refine g_goto (tgt := 20) (pc := 16) dX11_eye_16 (by decide) ?_
    replace h := Option.some.inj h
    subst h
    exact g_iret (pc := 20) dX11_eye_20 rfl rfl rfl (Nat.le_refl _) (Nat.le_refl _)
set_option maxRecDepth 100000 in
set_option maxHeartbeats 4000000 in
theorem M_X11_eye {sc : Nat × (Nat → Int32)} {d : Nat} (hd : 2 ≤ d) {r : Int32} {u : xS} {a1 : Int32} (h : f_X11_eye u a1 = some r) : xMt sc mX11_eye d 0 0 [.ref 0, .int a1] (xL0, u) (some (.int r)) (xL0, u) :=
  xMt.of (by decide +kernel) (by decide +kernel) (Nat.le_of_ble_eq_true rfl) (L := [some (.ref 0), some (.int a1)]) rfl ((G_X11_eye_0 hd a1 h))
theorem zb_X2_has (u : xS) (v1 : Int32) : f_X2_has u v1 = 0 ∨ f_X2_has u v1 = 1 := by
  unfold f_X2_has
  repeat' first | exact Or.inl rfl | exact Or.inr rfl | apply x_ite
set_option maxRecDepth 100000 in
set_option maxHeartbeats 4000000 in
theorem G_X2_has_0 {sc : Nat × (Nat → Int32)} {d : Nat} (hd : 0 ≤ d) {r : Int32} {u : xS} (v1 : Int32) (h : f_X2_has u v1 = r) : xG sc mX2_has d 0 0 (xR (some (.int r)) (xL0, u) 0 0) 0 0 0 [some (.ref 87), some (.int v1)] [] (xL0, u) := by
  rw [f_X2_has] at h
  refine g_iload_n (pc := 0) dX2_has_0 rfl ?_
  refine g_if_lt (tgt := 16) (pc := 1) dX2_has_1 (by decide) (fun c1 => ?_) (fun c1 => ?_)
  · replace h := (if_pos c1).symm.trans h
    refine g_iconst (pc := 16) dX2_has_16 ic_0 ?_
    subst h
    exact g_zret (pc := 17) dX2_has_17 rfl (Or.inl rfl) rfl rfl (Nat.le_refl _) (Nat.le_refl _)
  · replace h := (if_neg c1).symm.trans h
    refine g_iload_n (pc := 4) dX2_has_4 rfl ?_
    refine g_aload_n (pc := 5) dX2_has_5 rfl ?_
    refine g_gI (pc := 6) dX2_has_6 fI_RX2_20 xc_87 (v := (rd u 87 2)) rfl ?_
    refine g_icmp_ge (tgt := 16) (pc := 9) dX2_has_9 (by decide) (fun c2 => ?_) (fun c2 => ?_)
    · replace h := (if_pos c2).symm.trans h
      refine g_iconst (pc := 16) dX2_has_16 ic_0 ?_
      subst h
      exact g_zret (pc := 17) dX2_has_17 rfl (Or.inl rfl) rfl rfl (Nat.le_refl _) (Nat.le_refl _)
    · replace h := (if_neg c2).symm.trans h
      refine g_iconst (pc := 12) dX2_has_12 ic_1 ?_
      refine g_goto (tgt := 17) (pc := 13) dX2_has_13 (by decide) ?_
      subst h
      exact g_zret (pc := 17) dX2_has_17 rfl (Or.inr rfl) rfl rfl (Nat.le_refl _) (Nat.le_refl _)
set_option maxRecDepth 100000 in
set_option maxHeartbeats 4000000 in
theorem M_X2_has {sc : Nat × (Nat → Int32)} {d : Nat} (hd : 0 ≤ d) {r : Int32} {u : xS} {a1 : Int32} (h : f_X2_has u a1 = r) : xMt sc mX2_has d 0 0 [.ref 87, .int a1] (xL0, u) (some (.int r)) (xL0, u) :=
  xMt.of (by decide +kernel) (by decide +kernel) (Nat.le_of_ble_eq_true rfl) (L := [some (.ref 87), some (.int a1)]) rfl ((G_X2_has_0 hd a1 h))
set_option maxRecDepth 100000 in
set_option maxHeartbeats 4000000 in
theorem G_X11_fault_0 {sc : Nat × (Nat → Int32)} {d : Nat} (hd : 1 ≤ d) {r : Int32} {u' : xS} (v1 : Int32) (v2 : Int32) (u : xS) (h : f_X11_fault v1 v2 u = some (r, u')) : xG sc mX11_fault d 0 0 (xR (some (.int r)) (xL0, u') 0 0) 0 0 0 [some (.ref 0), some (.int v1), some (.int v2), none] [] (xL0, u) := by
  rw [f_X11_fault] at h
  refine g_aload_n (pc := 0) dX11_fault_0 rfl ?_
  refine g_gR (pc := 1) dX11_fault_1 fR_RX11_68 xc_0 (v := 87) rfl ?_
  refine g_iload_n (pc := 4) dX11_fault_4 rfl ?_
  refine g_cV (pc := 5) dX11_fault_5 cV_RX11_358 (M_X2_has (Nat.le_refl _) rfl) xc_87 (as := [.int v1]) (st := []) rfl rfl (Nat.le_of_ble_eq_true rfl) (Nat.le_trans (Nat.le_of_ble_eq_true rfl) hd) rfl ?_
  refine g_if_eq (tgt := 20) (pc := 8) dX11_fault_8 (by decide) (fun c1 => ?_) (fun c1 => ?_)
  · replace h := (if_pos c1).symm.trans h
    refine g_iconst (pc := 20) dX11_fault_20 ic_m1 ?_
    obtain ⟨h1, h2⟩ := x_inj2 h
    subst h1
    subst h2
    exact g_iret (pc := 21) dX11_fault_21 rfl rfl rfl (Nat.le_refl _) (Nat.le_refl _)
  · replace h := (if_neg c1).symm.trans h
    refine g_iload_n (pc := 11) dX11_fault_11 rfl ?_
    refine g_iconst (pc := 12) dX11_fault_12 ic_0 ?_
    refine g_iconst (pc := 13) dX11_fault_13 ic_2 ?_
    refine g_cS (pc := 14) dX11_fault_14 cS_RX11_94 (M_X11_lies (Nat.le_refl _) rfl) (as := [.int v2, .int (0 : Int32), .int (2 : Int32)]) (st := []) rfl rfl (Nat.le_of_ble_eq_true rfl) (Nat.le_trans (Nat.le_of_ble_eq_true rfl) hd) rfl ?_
    refine g_if_ne (tgt := 22) (pc := 17) dX11_fault_17 (by decide) (fun c2 => ?_) (fun c2 => ?_)
    · replace h := (if_neg c2).symm.trans h
      refine g_aload_n (pc := 22) dX11_fault_22 rfl ?_
      refine g_gR (pc := 23) dX11_fault_23 fR_RX11_68 xc_0 (v := 87) rfl ?_
      refine g_gR (pc := 26) dX11_fault_26 fR_RX11_362 xc_87 (v := 109) rfl ?_
      refine g_iload_n (pc := 29) dX11_fault_29 rfl ?_
      obtain ⟨g3, h⟩ := x_gd h
      refine g_iaload (pc := 30) dX11_fault_30 xc_109 (xin_of g3) (v := (rd u 109 v1.toNatClampNeg)) rfl ?_
      refine g_istore_n (pc := 31) dX11_fault_31 (Nat.le_of_ble_eq_true rfl) (L' := [some (.ref 0), some (.int v1), some (.int v2), some (.int (rd u 109 v1.toNatClampNeg))]) rfl ?_
      refine g_aload_n (pc := 32) dX11_fault_32 rfl ?_
      refine g_gR (pc := 33) dX11_fault_33 fR_RX11_68 xc_0 (v := 87) rfl ?_
      refine g_gR (pc := 36) dX11_fault_36 fR_RX11_362 xc_87 (v := 109) rfl ?_
      refine g_iload_n (pc := 39) dX11_fault_39 rfl ?_
      refine g_iload_n (pc := 40) dX11_fault_40 rfl ?_
      refine g_iastore (pc := 41) dX11_fault_41 xc_109 (xin_of g3) (u' := (wr u 109 v1.toNatClampNeg v2)) rfl ?_
      refine g_iload_n (pc := 42) dX11_fault_42 rfl ?_
      obtain ⟨h1, h2⟩ := x_inj2 h
      subst h1
      subst h2
      exact g_iret (pc := 43) dX11_fault_43 rfl rfl rfl (Nat.le_refl _) (Nat.le_refl _)
    · replace h := (if_pos c2).symm.trans h
      refine g_iconst (pc := 20) dX11_fault_20 ic_m1 ?_
      obtain ⟨h1, h2⟩ := x_inj2 h
      subst h1
      subst h2
      exact g_iret (pc := 21) dX11_fault_21 rfl rfl rfl (Nat.le_refl _) (Nat.le_refl _)
set_option maxRecDepth 100000 in
set_option maxHeartbeats 4000000 in
theorem M_X11_fault {sc : Nat × (Nat → Int32)} {d : Nat} (hd : 1 ≤ d) {r : Int32} {u u' : xS} {a1 : Int32} {a2 : Int32} (h : f_X11_fault a1 a2 u = some (r, u')) : xMt sc mX11_fault d 0 0 [.ref 0, .int a1, .int a2] (xL0, u) (some (.int r)) (xL0, u') :=
  xMt.of (by decide +kernel) (by decide +kernel) (Nat.le_of_ble_eq_true rfl) (L := [some (.ref 0), some (.int a1), some (.int a2), none]) rfl ((G_X11_fault_0 hd a1 a2 u h))
set_option maxRecDepth 100000 in
set_option maxHeartbeats 4000000 in
theorem G_X6_lessen_0 {sc : Nat × (Nat → Int32)} {d : Nat} (hd : 0 ≤ d) {u' : xS} (v1 : Int32) (v2 : Int32) (v3 : Nat) (u : xS) (h : f_X6_lessen v1 v2 v3 u = some u') : xG sc mX6_lessen d 0 0 (xR none (xL0, u') 0 0) 0 0 0 [some (.ref 74), some (.int v1), some (.int v2), some (.ref v3)] [] (xL0, u) := by
  rw [f_X6_lessen] at h
  refine g_aload_n (pc := 0) dX6_lessen_0 rfl ?_
  refine g_gR (pc := 1) dX6_lessen_1 fR_RX6_18 xc_74 (v := 77) rfl ?_
  refine g_iload_n (pc := 4) dX6_lessen_4 rfl ?_
  refine g_dup2 (pc := 5) dX6_lessen_5 rfl rfl ?_
  obtain ⟨g1, h⟩ := x_gd h
  refine g_iaload (pc := 6) dX6_lessen_6 xc_77 (xin_of g1) (v := (rd u 77 v1.toNatClampNeg)) rfl ?_
  refine g_iload_n (pc := 7) dX6_lessen_7 rfl ?_
  refine g_isub (pc := 8) dX6_lessen_8 rfl ?_
  refine g_iastore (pc := 9) dX6_lessen_9 xc_77 (xin_of g1) (u' := (wr u 77 v1.toNatClampNeg ((rd u 77 v1.toNatClampNeg) - v2))) rfl ?_
  refine g_aload_n (pc := 10) dX6_lessen_10 rfl ?_
  refine g_gR (pc := 11) dX6_lessen_11 fR_RX6_21 xc_74 (v := 78) rfl ?_
  refine g_aload_n (pc := 14) dX6_lessen_14 rfl ?_
  refine g_gR (pc := 15) dX6_lessen_15 fR_RX6_11 xc_74 (v := 75) rfl ?_
  refine g_iload_n (pc := 18) dX6_lessen_18 rfl ?_
  refine g_iaload (pc := 19) dX6_lessen_19 xc_75 (xin_of g1) (v := (rd u 75 v1.toNatClampNeg)) rfl ?_
  refine g_dup2 (pc := 20) dX6_lessen_20 rfl rfl ?_
  obtain ⟨g2, h⟩ := x_gd h
  refine g_iaload (pc := 21) dX6_lessen_21 xc_78 (xin_of g2) (v := (rd u 78 (rd u 75 v1.toNatClampNeg).toNatClampNeg)) rfl ?_
  refine g_iload_n (pc := 22) dX6_lessen_22 rfl ?_
  refine g_isub (pc := 23) dX6_lessen_23 rfl ?_
  refine g_iastore (pc := 24) dX6_lessen_24 xc_78 (xin_of g2) (u' := (wr (wr u 77 v1.toNatClampNeg ((rd u 77 v1.toNatClampNeg) - v2)) 78 (rd u 75 v1.toNatClampNeg).toNatClampNeg ((rd u 78 (rd u 75 v1.toNatClampNeg).toNatClampNeg) - v2))) rfl ?_
  refine g_aload_n (pc := 25) dX6_lessen_25 rfl ?_
  refine g_aload_n (pc := 26) dX6_lessen_26 rfl ?_
  refine g_gR (pc := 27) dX6_lessen_27 fR_RX6_15 xc_74 (v := 76) rfl ?_
  refine g_iload_n (pc := 30) dX6_lessen_30 rfl ?_
  refine g_iaload (pc := 31) dX6_lessen_31 xc_76 (xin_of g1) (v := (rd u 76 v1.toNatClampNeg)) rfl ?_
  refine g_dup2 (pc := 32) dX6_lessen_32 rfl rfl ?_
  obtain ⟨g3, h⟩ := x_gd h
  obtain ⟨g4, h⟩ := x_gd h
  obtain ⟨q5, hq6⟩ := xisI_of g3
  refine g_iaload (pc := 33) dX6_lessen_33 hq6 (xin_of g4) (v := (rd (wr (wr u 77 v1.toNatClampNeg ((rd u 77 v1.toNatClampNeg) - v2)) 78 (rd u 75 v1.toNatClampNeg).toNatClampNeg ((rd u 78 (rd u 75 v1.toNatClampNeg).toNatClampNeg) - v2)) v3 (rd u 76 v1.toNatClampNeg).toNatClampNeg)) rfl ?_
  refine g_iload_n (pc := 34) dX6_lessen_34 rfl ?_
  refine g_iadd (pc := 35) dX6_lessen_35 rfl ?_
  obtain ⟨g7, h⟩ := x_gd h
  obtain ⟨q8, hq9⟩ := xisI_of g7
  obtain ⟨g10, h⟩ := x_gd h
  refine g_iastore (pc := 36) dX6_lessen_36 hq9 (xin_of g10) (u' := (wr (wr (wr u 77 v1.toNatClampNeg ((rd u 77 v1.toNatClampNeg) - v2)) 78 (rd u 75 v1.toNatClampNeg).toNatClampNeg ((rd u 78 (rd u 75 v1.toNatClampNeg).toNatClampNeg) - v2)) v3 (rd u 76 v1.toNatClampNeg).toNatClampNeg ((rd (wr (wr u 77 v1.toNatClampNeg ((rd u 77 v1.toNatClampNeg) - v2)) 78 (rd u 75 v1.toNatClampNeg).toNatClampNeg ((rd u 78 (rd u 75 v1.toNatClampNeg).toNatClampNeg) - v2)) v3 (rd u 76 v1.toNatClampNeg).toNatClampNeg) + v2))) rfl ?_
  replace h := Option.some.inj h
  subst h
  exact g_ret (pc := 37) dX6_lessen_37 rfl rfl rfl (Nat.le_refl _) (Nat.le_refl _)
set_option maxRecDepth 100000 in
set_option maxHeartbeats 4000000 in
theorem M_X6_lessen {sc : Nat × (Nat → Int32)} {d : Nat} (hd : 0 ≤ d) {u u' : xS} {a1 : Int32} {a2 : Int32} {a3 : Nat} (h : f_X6_lessen a1 a2 a3 u = some u') : xMt sc mX6_lessen d 0 0 [.ref 74, .int a1, .int a2, .ref a3] (xL0, u) none (xL0, u') :=
  xMt.of (by decide +kernel) (by decide +kernel) (Nat.le_of_ble_eq_true rfl) (L := [some (.ref 74), some (.int a1), some (.int a2), some (.ref a3)]) rfl ((G_X6_lessen_0 hd a1 a2 a3 u h))
set_option maxRecDepth 100000 in
set_option maxHeartbeats 4000000 in
theorem G_X6_burn_5 {sc : Nat × (Nat → Int32)} {d : Nat} (hd : 1 ≤ d) {r : Int32} {u' : xS} : ∀ (n : Nat) (v1 : Int32) (v2 : Nat) (v3 : Int32) (v4 : Int32) (u : xS), f_X6_burn_5 n v1 v2 v3 v4 u = some (r, u') → xG sc mX6_burn d 0 0 (xR (some (.int r)) (xL0, u') 0 0) 0 0 5 [some (.ref 74), some (.int v1), some (.ref v2), some (.int v3), some (.int v4), none] [] (xL0, u) := by
  intro n
  induction n with
  | zero =>
    intro v1 v2 v3 v4 u h
    rw [f_X6_burn_5] at h
    cases h
  | succ n ih =>
    intro v1 v2 v3 v4 u h
    rw [f_X6_burn_5] at h
    refine g_iload (pc := 5) dX6_burn_5 rfl ?_
    refine g_aload_n (pc := 7) dX6_burn_7 rfl ?_
    refine g_gI (pc := 8) dX6_burn_8 fI_RX6_24 xc_74 (v := (rd u 74 4)) rfl ?_
    refine g_icmp_ge (tgt := 53) (pc := 11) dX6_burn_11 (by decide) (fun c1 => ?_) (fun c1 => ?_)
    · replace h := (if_pos c1).symm.trans h
      refine g_iload_n (pc := 53) dX6_burn_53 rfl ?_
      obtain ⟨h1, h2⟩ := x_inj2 h
      subst h1
      subst h2
      exact g_iret (pc := 54) dX6_burn_54 rfl rfl rfl (Nat.le_refl _) (Nat.le_refl _)
    · replace h := (if_neg c1).symm.trans h
      refine g_aload_n (pc := 14) dX6_burn_14 rfl ?_
      refine g_gR (pc := 15) dX6_burn_15 fR_RX6_18 xc_74 (v := 77) rfl ?_
      refine g_iload (pc := 18) dX6_burn_18 rfl ?_
      obtain ⟨g2, h⟩ := x_gd h
      refine g_iaload (pc := 20) dX6_burn_20 xc_77 (xin_of g2) (v := (rd u 77 v4.toNatClampNeg)) rfl ?_
      refine g_iload_n (pc := 21) dX6_burn_21 rfl ?_
      refine g_imul (pc := 22) dX6_burn_22 rfl ?_
      refine g_sipush (pc := 23) dX6_burn_23 sp_999 ?_
      refine g_iadd (pc := 26) dX6_burn_26 rfl ?_
      refine g_sipush (pc := 27) dX6_burn_27 sp_1000 ?_
      refine g_idiv (pc := 30) dX6_burn_30 (by decide) rfl ?_
      refine g_istore (pc := 31) dX6_burn_31 (Nat.le_of_ble_eq_true rfl) (L' := [some (.ref 74), some (.int v1), some (.ref v2), some (.int v3), some (.int v4), some (.int ((((rd u 77 v4.toNatClampNeg) * v1) + (999 : Int32)) / (1000 : Int32)))]) rfl ?_
      refine g_aload_n (pc := 33) dX6_burn_33 rfl ?_
      refine g_iload (pc := 34) dX6_burn_34 rfl ?_
      refine g_iload (pc := 36) dX6_burn_36 rfl ?_
      refine g_aload_n (pc := 38) dX6_burn_38 rfl ?_
      obtain ⟨u4, e3, h⟩ := x_bind h
      refine g_cV (pc := 39) dX6_burn_39 cV_RX6_34 (M_X6_lessen (Nat.le_refl _) e3) xc_74 (as := [.int v4, .int ((((rd u 77 v4.toNatClampNeg) * v1) + (999 : Int32)) / (1000 : Int32)), .ref v2]) (st := []) rfl rfl (Nat.le_of_ble_eq_true rfl) (Nat.le_trans (Nat.le_of_ble_eq_true rfl) hd) rfl ?_
      refine g_iload_n (pc := 42) dX6_burn_42 rfl ?_
      refine g_iload (pc := 43) dX6_burn_43 rfl ?_
      refine g_iadd (pc := 45) dX6_burn_45 rfl ?_
      refine g_istore_n (pc := 46) dX6_burn_46 (Nat.le_of_ble_eq_true rfl) (L' := [some (.ref 74), some (.int v1), some (.ref v2), some (.int (v3 + ((((rd u 77 v4.toNatClampNeg) * v1) + (999 : Int32)) / (1000 : Int32)))), some (.int v4), some (.int ((((rd u 77 v4.toNatClampNeg) * v1) + (999 : Int32)) / (1000 : Int32)))]) rfl ?_
      refine g_inc (pc := 47) dX6_burn_47 (Nat.le_of_ble_eq_true rfl) rfl ic_1 (L' := [some (.ref 74), some (.int v1), some (.ref v2), some (.int (v3 + ((((rd u 77 v4.toNatClampNeg) * v1) + (999 : Int32)) / (1000 : Int32)))), some (.int (v4 + (1 : Int32))), some (.int ((((rd u 77 v4.toNatClampNeg) * v1) + (999 : Int32)) / (1000 : Int32)))]) rfl ?_
      refine g_goto (tgt := 5) (pc := 50) dX6_burn_50 (by decide) ?_
      refine g_L (L' := [some (.ref 74), some (.int v1), some (.ref v2), some (.int (v3 + ((((rd u 77 v4.toNatClampNeg) * v1) + (999 : Int32)) / (1000 : Int32)))), some (.int (v4 + (1 : Int32))), none]) ⟨rfl, ⟨rfl, ⟨rfl, ⟨rfl, ⟨rfl, trivial⟩⟩⟩⟩⟩ ?_
      exact ih v1 v2 (v3 + ((((rd u 77 v4.toNatClampNeg) * v1) + (999 : Int32)) / (1000 : Int32))) (v4 + (1 : Int32)) u4 h
set_option maxRecDepth 100000 in
set_option maxHeartbeats 4000000 in
theorem G_X6_burn_0 {sc : Nat × (Nat → Int32)} {d : Nat} (hd : 1 ≤ d) {r : Int32} {u' : xS} (v1 : Int32) (v2 : Nat) (u : xS) (h : f_X6_burn v1 v2 u = some (r, u')) : xG sc mX6_burn d 0 0 (xR (some (.int r)) (xL0, u') 0 0) 0 0 0 [some (.ref 74), some (.int v1), some (.ref v2), none, none, none] [] (xL0, u) := by
  rw [f_X6_burn] at h
  refine g_iconst (pc := 0) dX6_burn_0 ic_0 ?_
  refine g_istore_n (pc := 1) dX6_burn_1 (Nat.le_of_ble_eq_true rfl) (L' := [some (.ref 74), some (.int v1), some (.ref v2), some (.int (0 : Int32)), none, none]) rfl ?_
  refine g_iconst (pc := 2) dX6_burn_2 ic_0 ?_
  refine g_istore (pc := 3) dX6_burn_3 (Nat.le_of_ble_eq_true rfl) (L' := [some (.ref 74), some (.int v1), some (.ref v2), some (.int (0 : Int32)), some (.int (0 : Int32)), none]) rfl ?_
  exact G_X6_burn_5 hd xN v1 v2 (0 : Int32) (0 : Int32) u h
set_option maxRecDepth 100000 in
set_option maxHeartbeats 4000000 in
theorem M_X6_burn {sc : Nat × (Nat → Int32)} {d : Nat} (hd : 1 ≤ d) {r : Int32} {u u' : xS} {a1 : Int32} {a2 : Nat} (h : f_X6_burn a1 a2 u = some (r, u')) : xMt sc mX6_burn d 0 0 [.ref 74, .int a1, .ref a2] (xL0, u) (some (.int r)) (xL0, u') :=
  xMt.of (by decide +kernel) (by decide +kernel) (Nat.le_of_ble_eq_true rfl) (L := [some (.ref 74), some (.int a1), some (.ref a2), none, none, none]) rfl ((G_X6_burn_0 hd a1 a2 u h))
set_option maxRecDepth 100000 in
set_option maxHeartbeats 4000000 in
theorem G_X11_fire_0 {sc : Nat × (Nat → Int32)} {d : Nat} (hd : 2 ≤ d) {r : Int32} {u' : xS} (v1 : Int32) (u : xS) (h : f_X11_fire v1 u = some (r, u')) : xG sc mX11_fire d 0 0 (xR (some (.int r)) (xL0, u') 0 0) 0 0 0 [some (.ref 0), some (.int v1)] [] (xL0, u) := by
  rw [f_X11_fire] at h
  refine g_iload_n (pc := 0) dX11_fire_0 rfl ?_
  refine g_iconst (pc := 1) dX11_fire_1 ic_0 ?_
  refine g_sipush (pc := 2) dX11_fire_2 sp_1000 ?_
  refine g_cS (pc := 5) dX11_fire_5 cS_RX11_94 (M_X11_lies (Nat.le_refl _) rfl) (as := [.int v1, .int (0 : Int32), .int (1000 : Int32)]) (st := []) rfl rfl (Nat.le_of_ble_eq_true rfl) (Nat.le_trans (Nat.le_of_ble_eq_true rfl) hd) rfl ?_
  refine g_if_eq (tgt := 29) (pc := 8) dX11_fire_8 (by decide) (fun c1 => ?_) (fun c1 => ?_)
  · replace h := (if_pos c1).symm.trans h
    refine g_iconst (pc := 29) dX11_fire_29 ic_m1 ?_
    obtain ⟨h1, h2⟩ := x_inj2 h
    subst h1
    subst h2
    exact g_iret (pc := 30) dX11_fire_30 rfl rfl rfl (Nat.le_refl _) (Nat.le_refl _)
  · replace h := (if_neg c1).symm.trans h
    refine g_aload_n (pc := 11) dX11_fire_11 rfl ?_
    refine g_gR (pc := 12) dX11_fire_12 fR_RX11_54 xc_0 (v := 74) rfl ?_
    refine g_iload_n (pc := 15) dX11_fire_15 rfl ?_
    refine g_aload_n (pc := 16) dX11_fire_16 rfl ?_
    refine g_gR (pc := 17) dX11_fire_17 fR_RX11_19 xc_0 (v := 13) rfl ?_
    refine g_gR (pc := 20) dX11_fire_20 fR_RX11_176 xc_13 (v := 20) rfl ?_
    obtain ⟨⟨x3, u4⟩, e2, h⟩ := x_bind h
    dsimp only at h
    refine g_cV (pc := 23) dX11_fire_23 cV_RX11_266 (M_X6_burn (Nat.le_refl _) e2) xc_74 (as := [.int v1, .ref 20]) (st := []) rfl rfl (Nat.le_of_ble_eq_true rfl) (Nat.le_trans (Nat.le_of_ble_eq_true rfl) hd) rfl ?_
    refine g_goto (tgt := 30) (pc := 26) dX11_fire_26 (by decide) ?_
    obtain ⟨h1, h2⟩ := x_inj2 h
    subst h1
    subst h2
    exact g_iret (pc := 30) dX11_fire_30 rfl rfl rfl (Nat.le_refl _) (Nat.le_refl _)
set_option maxRecDepth 100000 in
set_option maxHeartbeats 4000000 in
theorem M_X11_fire {sc : Nat × (Nat → Int32)} {d : Nat} (hd : 2 ≤ d) {r : Int32} {u u' : xS} {a1 : Int32} (h : f_X11_fire a1 u = some (r, u')) : xMt sc mX11_fire d 0 0 [.ref 0, .int a1] (xL0, u) (some (.int r)) (xL0, u') :=
  xMt.of (by decide +kernel) (by decide +kernel) (Nat.le_of_ble_eq_true rfl) (L := [some (.ref 0), some (.int a1)]) rfl ((G_X11_fire_0 hd a1 u h))
