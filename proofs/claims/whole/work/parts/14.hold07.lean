set_option maxRecDepth 100000 in
set_option maxHeartbeats 4000000 in
theorem G_X12_offOf_219 {sc : Nat × (Nat → Int32)} {d : Nat} (hd : 5 ≤ d) {r : Int32} {u' : xS} (v1 : Int32) (s1 : Int32) (s2 : Int32) (u : xS) (h : f_X12_offOf_219 v1 s1 s2 u = some (r, u')) : xG sc mX12_offOf d 0 0 (xR (some (.int r)) (xL0, u') 0 0) 0 0 219 [some (.ref 135), some (.int v1), none, none, none, none] [.int s2, .int s1, .ref 135] (xL0, u) := by
  rw [f_X12_offOf_219] at h
  obtain ⟨u2, e1, h⟩ := x_bind h
  refine g_cV (pc := 219) dX12_offOf_219 cV_RX12_243 (M_X12_says (Nat.le_refl _) e1) xc_135 (as := [.int s1, .int s2]) (st := []) rfl rfl (Nat.le_of_ble_eq_true rfl) (Nat.le_trans (Nat.le_of_ble_eq_true rfl) hd) rfl ?_
  refine g_aload_n (pc := 222) dX12_offOf_222 rfl ?_
  refine g_bipush (pc := 223) dX12_offOf_223 bp_113 ?_
  refine g_aload_n (pc := 225) dX12_offOf_225 rfl ?_
  refine g_gR (pc := 226) dX12_offOf_226 fR_RX12_25 xc_135 (v := 141) rfl ?_
  refine g_iload_n (pc := 229) dX12_offOf_229 rfl ?_
  obtain ⟨g3, h⟩ := x_gd h
  refine g_iaload (pc := 230) dX12_offOf_230 xc_141 (xin_of g3) (v := (rd u2 141 v1.toNatClampNeg)) rfl ?_
  obtain ⟨u5, e4, h⟩ := x_bind h
  refine g_cV (pc := 231) dX12_offOf_231 cV_RX12_243 (M_X12_says (Nat.le_refl _) e4) xc_135 (as := [.int (113 : Int32), .int (rd u2 141 v1.toNatClampNeg)]) (st := []) rfl rfl (Nat.le_of_ble_eq_true rfl) (Nat.le_trans (Nat.le_of_ble_eq_true rfl) hd) rfl ?_
  refine g_iconst (pc := 234) dX12_offOf_234 ic_0 ?_
  refine g_sipush (pc := 235) dX12_offOf_235 sp_1000 ?_
  refine g_aload_n (pc := 238) dX12_offOf_238 rfl ?_
  refine g_aload_n (pc := 239) dX12_offOf_239 rfl ?_
  refine g_gR (pc := 240) dX12_offOf_240 fR_RX12_22 xc_135 (v := 140) rfl ?_
  refine g_iload_n (pc := 243) dX12_offOf_243 rfl ?_
  refine g_iaload (pc := 244) dX12_offOf_244 xc_140 (xin_of g3) (v := (rd u5 140 v1.toNatClampNeg)) rfl ?_
  obtain ⟨⟨x7, u8⟩, e6, h⟩ := x_bind h
  dsimp only at h
  refine g_cV (pc := 245) dX12_offOf_245 cV_RX12_247 (M_X12_value (Nat.le_refl _) e6) xc_135 (as := [.int (rd u5 140 v1.toNatClampNeg)]) (st := [.int (1000 : Int32), .int (0 : Int32)]) rfl rfl (Nat.le_of_ble_eq_true rfl) (Nat.le_trans (Nat.le_of_ble_eq_true rfl) hd) rfl ?_
  refine g_min (pc := 248) dX12_offOf_248 mK_RX12_250 (Nat.le_of_ble_eq_true rfl) (Nat.le_trans (Nat.le_of_ble_eq_true rfl) hd) (Nat.zero_le _) (Nat.zero_le _) ?_
  refine g_max (pc := 251) dX12_offOf_251 mK_RX12_238 (Nat.le_of_ble_eq_true rfl) (Nat.le_trans (Nat.le_of_ble_eq_true rfl) hd) (Nat.zero_le _) (Nat.zero_le _) ?_
  obtain ⟨h1, h2⟩ := x_inj2 h
  subst h1
  subst h2
  exact g_iret (pc := 254) dX12_offOf_254 rfl rfl rfl (Nat.le_refl _) (Nat.le_refl _)
set_option maxRecDepth 100000 in
set_option maxHeartbeats 4000000 in
theorem G_X12_offOf_187 {sc : Nat × (Nat → Int32)} {d : Nat} (hd : 5 ≤ d) {r : Int32} {u' : xS} (v1 : Int32) (v4 : Int32) (s1 : Int32) (s2 : Int32) (u : xS) (h : f_X12_offOf_187 v1 v4 s1 s2 u = some (r, u')) : xG sc mX12_offOf d 0 0 (xR (some (.int r)) (xL0, u') 0 0) 0 0 187 [some (.ref 135), some (.int v1), none, none, some (.int v4), none] [.int s2, .int s1, .ref 135] (xL0, u) := by
  rw [f_X12_offOf_187] at h
  obtain ⟨u2, e1, h⟩ := x_bind h
  refine g_cV (pc := 187) dX12_offOf_187 cV_RX12_243 (M_X12_says (Nat.le_refl _) e1) xc_135 (as := [.int s1, .int s2]) (st := []) rfl rfl (Nat.le_of_ble_eq_true rfl) (Nat.le_trans (Nat.le_of_ble_eq_true rfl) hd) rfl ?_
  refine g_aload_n (pc := 190) dX12_offOf_190 rfl ?_
  refine g_bipush (pc := 191) dX12_offOf_191 bp_111 ?_
  refine g_aload_n (pc := 193) dX12_offOf_193 rfl ?_
  refine g_gR (pc := 194) dX12_offOf_194 fR_RX12_34 xc_135 (v := 144) rfl ?_
  refine g_iload_n (pc := 197) dX12_offOf_197 rfl ?_
  obtain ⟨g3, h⟩ := x_gd h
  refine g_iaload (pc := 198) dX12_offOf_198 xc_144 (xin_of g3) (v := (rd u2 144 v1.toNatClampNeg)) rfl ?_
  refine g_if_ge (tgt := 206) (pc := 199) dX12_offOf_199 (by decide) (fun c4 => ?_) (fun c4 => ?_)
  · replace h := (if_pos c4).symm.trans h
    refine g_iload (pc := 206) dX12_offOf_206 rfl ?_
    refine g_sipush (pc := 208) dX12_offOf_208 sp_1000 ?_
    refine g_imul (pc := 211) dX12_offOf_211 rfl ?_
    refine g_aload_n (pc := 212) dX12_offOf_212 rfl ?_
    refine g_gR (pc := 213) dX12_offOf_213 fR_RX12_28 xc_135 (v := 142) rfl ?_
    refine g_iload_n (pc := 216) dX12_offOf_216 rfl ?_
    refine g_iaload (pc := 217) dX12_offOf_217 xc_142 (xin_of g3) (v := (rd u2 142 v1.toNatClampNeg)) rfl ?_
    obtain ⟨g5, h⟩ := x_gd h
    refine g_idiv (pc := 218) dX12_offOf_218 (xnz_of g5) rfl ?_
    refine g_L (L' := [some (.ref 135), some (.int v1), none, none, none, none]) ⟨rfl, ⟨rfl, trivial⟩⟩ ?_
    exact G_X12_offOf_219 hd v1 (111 : Int32) ((v4 * (1000 : Int32)) / (rd u2 142 v1.toNatClampNeg)) u2 h
  · replace h := (if_neg c4).symm.trans h
    refine g_iconst (pc := 202) dX12_offOf_202 ic_0 ?_
    refine g_goto (tgt := 219) (pc := 203) dX12_offOf_203 (by decide) ?_
    refine g_L (L' := [some (.ref 135), some (.int v1), none, none, none, none]) ⟨rfl, ⟨rfl, trivial⟩⟩ ?_
    exact G_X12_offOf_219 hd v1 (111 : Int32) (0 : Int32) u2 h
set_option maxRecDepth 100000 in
set_option maxHeartbeats 4000000 in
theorem G_X12_offOf_77 {sc : Nat × (Nat → Int32)} {d : Nat} (hd : 5 ≤ d) {r : Int32} {u' : xS} {k35 : Int32 → Int32 → Int32 → Int32 → xS → Option (Int32 × xS)} (hk35 : ∀ (v1 : Int32) (v3 : Int32) (v4 : Int32) (v5 : Int32) (u : xS), k35 v1 v3 v4 v5 u = some (r, u') → xG sc mX12_offOf d 0 0 (xR (some (.int r)) (xL0, u') 0 0) 0 0 35 [some (.ref 135), some (.int v1), none, some (.int v3), some (.int v4), some (.int v5)] [] (xL0, u)) (v1 : Int32) (v3 : Int32) (v5 : Int32) (s0 : Int32) (s1 : Int32) (u : xS) (h : f_X12_offOf_77 k35 v1 v3 v5 s0 s1 u = some (r, u')) : xG sc mX12_offOf d 0 0 (xR (some (.int r)) (xL0, u') 0 0) 0 0 77 [some (.ref 135), some (.int v1), none, some (.int v3), none, some (.int v5)] [.int s1, .int s0] (xL0, u) := by
  rw [f_X12_offOf_77] at h
  refine g_iadd (pc := 77) dX12_offOf_77 rfl ?_
  refine g_istore (pc := 78) dX12_offOf_78 (Nat.le_of_ble_eq_true rfl) (L' := [some (.ref 135), some (.int v1), none, some (.int v3), some (.int (s0 + s1)), some (.int v5)]) rfl ?_
  refine g_inc (pc := 80) dX12_offOf_80 (Nat.le_of_ble_eq_true rfl) rfl ic_1 (L' := [some (.ref 135), some (.int v1), none, some (.int v3), some (.int (s0 + s1)), some (.int (v5 + (1 : Int32)))]) rfl ?_
  refine g_goto (tgt := 35) (pc := 83) dX12_offOf_83 (by decide) ?_
  exact hk35 v1 v3 (s0 + s1) (v5 + (1 : Int32)) u h
set_option maxRecDepth 100000 in
set_option maxHeartbeats 4000000 in
theorem G_X12_offOf_35 {sc : Nat × (Nat → Int32)} {d : Nat} (hd : 5 ≤ d) {r : Int32} {u' : xS} : ∀ (n : Nat) (v1 : Int32) (v3 : Int32) (v4 : Int32) (v5 : Int32) (u : xS), f_X12_offOf_35 n v1 v3 v4 v5 u = some (r, u') → xG sc mX12_offOf d 0 0 (xR (some (.int r)) (xL0, u') 0 0) 0 0 35 [some (.ref 135), some (.int v1), none, some (.int v3), some (.int v4), some (.int v5)] [] (xL0, u) := by
  intro n
  induction n with
  | zero =>
    intro v1 v3 v4 v5 u h
    rw [f_X12_offOf_35] at h
    cases h
  | succ n ih =>
    intro v1 v3 v4 v5 u h
    rw [f_X12_offOf_35] at h
    refine g_iload (pc := 35) dX12_offOf_35 rfl ?_
    refine g_aload_n (pc := 37) dX12_offOf_37 rfl ?_
    refine g_gI (pc := 38) dX12_offOf_38 fI_RX12_153 xc_135 (v := (rd u 135 1)) rfl ?_
    refine g_icmp_ge (tgt := 86) (pc := 41) dX12_offOf_41 (by decide) (fun c1 => ?_) (fun c1 => ?_)
    · replace h := (if_pos c1).symm.trans h
      refine g_aload_n (pc := 86) dX12_offOf_86 rfl ?_
      refine g_gR (pc := 87) dX12_offOf_87 fR_RX12_58 xc_135 (v := 152) rfl ?_
      refine g_iload_n (pc := 90) dX12_offOf_90 rfl ?_
      obtain ⟨g2, h⟩ := x_gd h
      refine g_iaload (pc := 91) dX12_offOf_91 xc_152 (xin_of g2) (v := (rd u 152 v3.toNatClampNeg)) rfl ?_
      refine g_sipush (pc := 92) dX12_offOf_92 sp_1000 ?_
      refine g_aload_n (pc := 95) dX12_offOf_95 rfl ?_
      refine g_gR (pc := 96) dX12_offOf_96 fR_RX12_61 xc_135 (v := 153) rfl ?_
      refine g_iload_n (pc := 99) dX12_offOf_99 rfl ?_
      refine g_iaload (pc := 100) dX12_offOf_100 xc_153 (xin_of g2) (v := (rd u 153 v3.toNatClampNeg)) rfl ?_
      refine g_isub (pc := 101) dX12_offOf_101 rfl ?_
      refine g_imul (pc := 102) dX12_offOf_102 rfl ?_
      refine g_sipush (pc := 103) dX12_offOf_103 sp_1000 ?_
      refine g_idiv (pc := 106) dX12_offOf_106 (by decide) rfl ?_
      refine g_istore (pc := 107) dX12_offOf_107 (Nat.le_of_ble_eq_true rfl) (L' := [some (.ref 135), some (.int v1), none, some (.int v3), some (.int v4), some (.int (((rd u 152 v3.toNatClampNeg) * ((1000 : Int32) - (rd u 153 v3.toNatClampNeg))) / (1000 : Int32)))]) rfl ?_
      refine g_aload_n (pc := 109) dX12_offOf_109 rfl ?_
      obtain ⟨u4, e3, h⟩ := x_bind h
      refine g_cV (pc := 110) dX12_offOf_110 cV_RX12_235 (M_X12_hush (Nat.le_refl _) e3) xc_135 (as := []) (st := []) rfl rfl (Nat.le_of_ble_eq_true rfl) (Nat.le_trans (Nat.le_of_ble_eq_true rfl) hd) rfl ?_
      refine g_aload_n (pc := 113) dX12_offOf_113 rfl ?_
      refine g_bipush (pc := 114) dX12_offOf_114 bp_108 ?_
      refine g_iconst (pc := 116) dX12_offOf_116 ic_0 ?_
      refine g_aload_n (pc := 117) dX12_offOf_117 rfl ?_
      refine g_gR (pc := 118) dX12_offOf_118 fR_RX12_28 xc_135 (v := 142) rfl ?_
      refine g_iload_n (pc := 121) dX12_offOf_121 rfl ?_
      obtain ⟨g5, h⟩ := x_gd h
      refine g_iaload (pc := 122) dX12_offOf_122 xc_142 (xin_of g5) (v := (rd u4 142 v1.toNatClampNeg)) rfl ?_
      refine g_iload (pc := 123) dX12_offOf_123 rfl ?_
      refine g_isub (pc := 125) dX12_offOf_125 rfl ?_
      refine g_sipush (pc := 126) dX12_offOf_126 sp_1000 ?_
      refine g_imul (pc := 129) dX12_offOf_129 rfl ?_
      refine g_aload_n (pc := 130) dX12_offOf_130 rfl ?_
      refine g_gR (pc := 131) dX12_offOf_131 fR_RX12_28 xc_135 (v := 142) rfl ?_
      refine g_iload_n (pc := 134) dX12_offOf_134 rfl ?_
      refine g_iaload (pc := 135) dX12_offOf_135 xc_142 (xin_of g5) (v := (rd u4 142 v1.toNatClampNeg)) rfl ?_
      obtain ⟨g6, h⟩ := x_gd h
      refine g_idiv (pc := 136) dX12_offOf_136 (xnz_of g6) rfl ?_
      refine g_max (pc := 137) dX12_offOf_137 mK_RX12_238 (Nat.le_of_ble_eq_true rfl) (Nat.le_trans (Nat.le_of_ble_eq_true rfl) hd) (Nat.zero_le _) (Nat.zero_le _) ?_
      obtain ⟨u8, e7, h⟩ := x_bind h
      refine g_cV (pc := 140) dX12_offOf_140 cV_RX12_243 (M_X12_says (Nat.le_refl _) e7) xc_135 (as := [.int (108 : Int32), .int (imax (0 : Int32) ((((rd u4 142 v1.toNatClampNeg) - (((rd u 152 v3.toNatClampNeg) * ((1000 : Int32) - (rd u 153 v3.toNatClampNeg))) / (1000 : Int32))) * (1000 : Int32)) / (rd u4 142 v1.toNatClampNeg)))]) (st := []) rfl rfl (Nat.le_of_ble_eq_true rfl) (Nat.le_trans (Nat.le_of_ble_eq_true rfl) hd) rfl ?_
      refine g_aload_n (pc := 143) dX12_offOf_143 rfl ?_
      refine g_bipush (pc := 144) dX12_offOf_144 bp_100 ?_
      refine g_aload_n (pc := 146) dX12_offOf_146 rfl ?_
      refine g_gR (pc := 147) dX12_offOf_147 fR_RX12_61 xc_135 (v := 153) rfl ?_
      refine g_iload_n (pc := 150) dX12_offOf_150 rfl ?_
      refine g_iaload (pc := 151) dX12_offOf_151 xc_153 (xin_of g2) (v := (rd u8 153 v3.toNatClampNeg)) rfl ?_
      obtain ⟨u10, e9, h⟩ := x_bind h
      refine g_cV (pc := 152) dX12_offOf_152 cV_RX12_243 (M_X12_says (Nat.le_refl _) e9) xc_135 (as := [.int (100 : Int32), .int (rd u8 153 v3.toNatClampNeg)]) (st := []) rfl rfl (Nat.le_of_ble_eq_true rfl) (Nat.le_trans (Nat.le_of_ble_eq_true rfl) hd) rfl ?_
      refine g_aload_n (pc := 155) dX12_offOf_155 rfl ?_
      refine g_bipush (pc := 156) dX12_offOf_156 bp_107 ?_
      refine g_aload_n (pc := 158) dX12_offOf_158 rfl ?_
      refine g_gR (pc := 159) dX12_offOf_159 fR_RX12_34 xc_135 (v := 144) rfl ?_
      refine g_iload_n (pc := 162) dX12_offOf_162 rfl ?_
      refine g_iaload (pc := 163) dX12_offOf_163 xc_144 (xin_of g5) (v := (rd u10 144 v1.toNatClampNeg)) rfl ?_
      refine g_if_ge (tgt := 171) (pc := 164) dX12_offOf_164 (by decide) (fun c11 => ?_) (fun c11 => ?_)
      · replace h := (if_pos c11).symm.trans h
        refine g_aload_n (pc := 171) dX12_offOf_171 rfl ?_
        refine g_iload_n (pc := 172) dX12_offOf_172 rfl ?_
        obtain ⟨x13, e12, h⟩ := x_bind h
        refine g_cV (pc := 173) dX12_offOf_173 cV_RX12_217 (M_X12_dust (Nat.le_refl _) e12) xc_135 (as := [.int v1]) (st := [.int (107 : Int32), .ref 135]) rfl rfl (Nat.le_of_ble_eq_true rfl) (Nat.le_trans (Nat.le_of_ble_eq_true rfl) hd) rfl ?_
        refine g_sipush (pc := 176) dX12_offOf_176 sp_1000 ?_
        refine g_imul (pc := 179) dX12_offOf_179 rfl ?_
        refine g_aload_n (pc := 180) dX12_offOf_180 rfl ?_
        refine g_gR (pc := 181) dX12_offOf_181 fR_RX12_28 xc_135 (v := 142) rfl ?_
        refine g_iload_n (pc := 184) dX12_offOf_184 rfl ?_
        refine g_iaload (pc := 185) dX12_offOf_185 xc_142 (xin_of g5) (v := (rd u10 142 v1.toNatClampNeg)) rfl ?_
        obtain ⟨g14, h⟩ := x_gd h
        refine g_idiv (pc := 186) dX12_offOf_186 (xnz_of g14) rfl ?_
        refine g_L (L' := [some (.ref 135), some (.int v1), none, none, some (.int v4), none]) ⟨rfl, ⟨rfl, ⟨rfl, trivial⟩⟩⟩ ?_
        exact G_X12_offOf_187 hd v1 v4 (107 : Int32) ((x13 * (1000 : Int32)) / (rd u10 142 v1.toNatClampNeg)) u10 h
      · replace h := (if_neg c11).symm.trans h
        refine g_iconst (pc := 167) dX12_offOf_167 ic_0 ?_
        refine g_goto (tgt := 187) (pc := 168) dX12_offOf_168 (by decide) ?_
        refine g_L (L' := [some (.ref 135), some (.int v1), none, none, some (.int v4), none]) ⟨rfl, ⟨rfl, ⟨rfl, trivial⟩⟩⟩ ?_
        exact G_X12_offOf_187 hd v1 v4 (107 : Int32) (0 : Int32) u10 h
    · replace h := (if_neg c1).symm.trans h
      refine g_iload (pc := 44) dX12_offOf_44 rfl ?_
      refine g_aload_n (pc := 46) dX12_offOf_46 rfl ?_
      refine g_gR (pc := 47) dX12_offOf_47 fR_RX12_9 xc_135 (v := 136) rfl ?_
      refine g_bipush (pc := 50) dX12_offOf_50 bp_7 ?_
      refine g_iload (pc := 52) dX12_offOf_52 rfl ?_
      refine g_imul (pc := 54) dX12_offOf_54 rfl ?_
      refine g_iconst (pc := 55) dX12_offOf_55 ic_5 ?_
      refine g_iadd (pc := 56) dX12_offOf_56 rfl ?_
      obtain ⟨g15, h⟩ := x_gd h
      refine g_iaload (pc := 57) dX12_offOf_57 xc_136 (xin_of g15) (v := (rd u 136 (((7 : Int32) * v5) + (5 : Int32)).toNatClampNeg)) rfl ?_
      refine g_if_ne (tgt := 76) (pc := 58) dX12_offOf_58 (by decide) (fun c16 => ?_) (fun c16 => ?_)
      · replace h := (if_neg c16).symm.trans h
        refine g_iconst (pc := 76) dX12_offOf_76 ic_0 ?_
        refine g_L (L' := [some (.ref 135), some (.int v1), none, some (.int v3), none, some (.int v5)]) ⟨rfl, ⟨rfl, ⟨rfl, ⟨rfl, trivial⟩⟩⟩⟩ ?_
        exact G_X12_offOf_77 hd ih v1 v3 v5 v4 (0 : Int32) u h
      · replace h := (if_pos c16).symm.trans h
        refine g_aload_n (pc := 61) dX12_offOf_61 rfl ?_
        refine g_gR (pc := 62) dX12_offOf_62 fR_RX12_40 xc_135 (v := 146) rfl ?_
        refine g_bipush (pc := 65) dX12_offOf_65 bp_24 ?_
        refine g_iload (pc := 67) dX12_offOf_67 rfl ?_
        refine g_imul (pc := 69) dX12_offOf_69 rfl ?_
        refine g_iload_n (pc := 70) dX12_offOf_70 rfl ?_
        refine g_iadd (pc := 71) dX12_offOf_71 rfl ?_
        obtain ⟨g17, h⟩ := x_gd h
        refine g_iaload (pc := 72) dX12_offOf_72 xc_146 (xin_of g17) (v := (rd u 146 (((24 : Int32) * v5) + v1).toNatClampNeg)) rfl ?_
        refine g_goto (tgt := 77) (pc := 73) dX12_offOf_73 (by decide) ?_
        refine g_L (L' := [some (.ref 135), some (.int v1), none, some (.int v3), none, some (.int v5)]) ⟨rfl, ⟨rfl, ⟨rfl, ⟨rfl, trivial⟩⟩⟩⟩ ?_
        exact G_X12_offOf_77 hd ih v1 v3 v5 v4 (rd u 146 (((24 : Int32) * v5) + v1).toNatClampNeg) u h
set_option maxRecDepth 100000 in
set_option maxHeartbeats 4000000 in
theorem G_X12_offOf_0 {sc : Nat × (Nat → Int32)} {d : Nat} (hd : 5 ≤ d) {r : Int32} {u' : xS} (v1 : Int32) (v2 : Int32) (u : xS) (h : f_X12_offOf v1 v2 u = some (r, u')) : xG sc mX12_offOf d 0 0 (xR (some (.int r)) (xL0, u') 0 0) 0 0 0 [some (.ref 135), some (.int v1), some (.int v2), none, none, none] [] (xL0, u) := by
  rw [f_X12_offOf] at h
  refine g_aload_n (pc := 0) dX12_offOf_0 rfl ?_
  refine g_iload_n (pc := 1) dX12_offOf_1 rfl ?_
  refine g_iload_n (pc := 2) dX12_offOf_2 rfl ?_
  obtain ⟨x2, e1, h⟩ := x_bind h
  refine g_cV (pc := 3) dX12_offOf_3 cV_RX12_232 (M_X12_lookOf (Nat.le_refl _) e1) xc_135 (as := [.int v1, .int v2]) (st := []) rfl rfl (Nat.le_of_ble_eq_true rfl) (Nat.le_trans (Nat.le_of_ble_eq_true rfl) hd) rfl ?_
  refine g_istore_n (pc := 6) dX12_offOf_6 (Nat.le_of_ble_eq_true rfl) (L' := [some (.ref 135), some (.int v1), some (.int v2), some (.int x2), none, none]) rfl ?_
  refine g_iload_n (pc := 7) dX12_offOf_7 rfl ?_
  refine g_if_ge (tgt := 13) (pc := 8) dX12_offOf_8 (by decide) (fun c3 => ?_) (fun c3 => ?_)
  · replace h := (if_pos c3).symm.trans h
    refine g_aload_n (pc := 13) dX12_offOf_13 rfl ?_
    refine g_gR (pc := 14) dX12_offOf_14 fR_RX12_68 xc_135 (v := 154) rfl ?_
    refine g_aload_n (pc := 17) dX12_offOf_17 rfl ?_
    refine g_gR (pc := 18) dX12_offOf_18 fR_RX12_22 xc_135 (v := 140) rfl ?_
    refine g_iload_n (pc := 21) dX12_offOf_21 rfl ?_
    obtain ⟨g4, h⟩ := x_gd h
    refine g_iaload (pc := 22) dX12_offOf_22 xc_140 (xin_of g4) (v := (rd u 140 v1.toNatClampNeg)) rfl ?_
    obtain ⟨g5, h⟩ := x_gd h
    refine g_baload (pc := 23) dX12_offOf_23 xc_154 (xin_of g5) (v := (rd u 154 (rd u 140 v1.toNatClampNeg).toNatClampNeg)) rfl ?_
    refine g_if_ne (tgt := 29) (pc := 24) dX12_offOf_24 (by decide) (fun c6 => ?_) (fun c6 => ?_)
    · replace h := (if_neg c6).symm.trans h
      refine g_iconst (pc := 29) dX12_offOf_29 ic_0 ?_
      refine g_istore (pc := 30) dX12_offOf_30 (Nat.le_of_ble_eq_true rfl) (L' := [some (.ref 135), some (.int v1), some (.int v2), some (.int x2), some (.int (0 : Int32)), none]) rfl ?_
      refine g_iconst (pc := 32) dX12_offOf_32 ic_0 ?_
      refine g_istore (pc := 33) dX12_offOf_33 (Nat.le_of_ble_eq_true rfl) (L' := [some (.ref 135), some (.int v1), some (.int v2), some (.int x2), some (.int (0 : Int32)), some (.int (0 : Int32))]) rfl ?_
      refine g_L (L' := [some (.ref 135), some (.int v1), none, some (.int x2), some (.int (0 : Int32)), some (.int (0 : Int32))]) ⟨rfl, ⟨rfl, ⟨rfl, ⟨rfl, ⟨rfl, trivial⟩⟩⟩⟩⟩ ?_
      exact G_X12_offOf_35 hd xN v1 x2 (0 : Int32) (0 : Int32) u h
    · replace h := (if_pos c6).symm.trans h
      refine g_iconst (pc := 27) dX12_offOf_27 ic_0 ?_
      obtain ⟨h1, h2⟩ := x_inj2 h
      subst h1
      subst h2
      exact g_iret (pc := 28) dX12_offOf_28 rfl rfl rfl (Nat.le_refl _) (Nat.le_refl _)
  · replace h := (if_neg c3).symm.trans h
    refine g_iconst (pc := 11) dX12_offOf_11 ic_m1 ?_
    obtain ⟨h1, h2⟩ := x_inj2 h
    subst h1
    subst h2
    exact g_iret (pc := 12) dX12_offOf_12 rfl rfl rfl (Nat.le_refl _) (Nat.le_refl _)
set_option maxRecDepth 100000 in
set_option maxHeartbeats 4000000 in
theorem M_X12_offOf {sc : Nat × (Nat → Int32)} {d : Nat} (hd : 5 ≤ d) {r : Int32} {u u' : xS} {a1 : Int32} {a2 : Int32} (h : f_X12_offOf a1 a2 u = some (r, u')) : xMt sc mX12_offOf d 0 0 [.ref 135, .int a1, .int a2] (xL0, u) (some (.int r)) (xL0, u') :=
  xMt.of (by decide +kernel) (by decide +kernel) (Nat.le_of_ble_eq_true rfl) (L := [some (.ref 135), some (.int a1), some (.int a2), none, none, none]) rfl ((G_X12_offOf_0 hd a1 a2 u h))
set_option maxRecDepth 100000 in
set_option maxHeartbeats 4000000 in
theorem G_X12_due_54 {sc : Nat × (Nat → Int32)} {d : Nat} (hd : 6 ≤ d) {r : Int32} {u' : xS} (v1 : Int32) (s0 : Int32) (u : xS) (h : f_X12_due_54 v1 s0 u = some (r, u')) : xG sc mX12_due d 0 0 (xR (some (.int r)) (xL0, u') 0 0) 0 0 54 [some (.ref 135), some (.int v1), none, none, none] [.int s0] (xL0, u) := by
  rw [f_X12_due_54] at h
  refine g_istore (pc := 54) dX12_due_54 (Nat.le_of_ble_eq_true rfl) (L' := [some (.ref 135), some (.int v1), none, none, some (.int s0)]) rfl ?_
  refine g_aload_n (pc := 56) dX12_due_56 rfl ?_
  refine g_gR (pc := 57) dX12_due_57 fR_RX12_28 xc_135 (v := 142) rfl ?_
  refine g_iload_n (pc := 60) dX12_due_60 rfl ?_
  obtain ⟨g1, h⟩ := x_gd h
  refine g_iaload (pc := 61) dX12_due_61 xc_142 (xin_of g1) (v := (rd u 142 v1.toNatClampNeg)) rfl ?_
  refine g_i2l (pc := 62) dX12_due_62 rfl ?_
  refine g_aload_n (pc := 63) dX12_due_63 rfl ?_
  refine g_gR (pc := 64) dX12_due_64 fR_RX12_31 xc_135 (v := 143) rfl ?_
  refine g_iload_n (pc := 67) dX12_due_67 rfl ?_
  refine g_iaload (pc := 68) dX12_due_68 xc_143 (xin_of g1) (v := (rd u 143 v1.toNatClampNeg)) rfl ?_
  refine g_i2l (pc := 69) dX12_due_69 rfl ?_
  refine g_lmul (pc := 70) dX12_due_70 rfl ?_
  refine g_sipush (pc := 71) dX12_due_71 sp_1000 ?_
  refine g_iload (pc := 74) dX12_due_74 rfl ?_
  refine g_isub (pc := 76) dX12_due_76 rfl ?_
  refine g_i2l (pc := 77) dX12_due_77 rfl ?_
  refine g_lmul (pc := 78) dX12_due_78 rfl ?_
  refine g_ldc2 (pc := 79) dX12_due_79 kl_RX12_164 ?_
  refine g_ldiv (pc := 82) dX12_due_82 (by decide) rfl ?_
  refine g_l2i (pc := 83) dX12_due_83 rfl ?_
  obtain ⟨h1, h2⟩ := x_inj2 h
  subst h1
  subst h2
  exact g_iret (pc := 84) dX12_due_84 rfl rfl rfl (Nat.le_refl _) (Nat.le_refl _)
set_option maxRecDepth 100000 in
set_option maxHeartbeats 4000000 in
theorem G_X12_due_45 {sc : Nat × (Nat → Int32)} {d : Nat} (hd : 6 ≤ d) {r : Int32} {u' : xS} (v1 : Int32) (v2 : Int32) (v3 : Int32) (u : xS) (h : f_X12_due_45 v1 v2 v3 u = some (r, u')) : xG sc mX12_due d 0 0 (xR (some (.int r)) (xL0, u') 0 0) 0 0 45 [some (.ref 135), some (.int v1), some (.int v2), some (.int v3), none] [] (xL0, u) := by
  rw [f_X12_due_45] at h
  refine g_iconst (pc := 45) dX12_due_45 ic_0 ?_
  refine g_iload_n (pc := 46) dX12_due_46 rfl ?_
  refine g_iload_n (pc := 47) dX12_due_47 rfl ?_
  refine g_max (pc := 48) dX12_due_48 mK_RX12_238 (Nat.le_of_ble_eq_true rfl) (Nat.le_trans (Nat.le_of_ble_eq_true rfl) hd) (Nat.zero_le _) (Nat.zero_le _) ?_
  refine g_max (pc := 51) dX12_due_51 mK_RX12_238 (Nat.le_of_ble_eq_true rfl) (Nat.le_trans (Nat.le_of_ble_eq_true rfl) hd) (Nat.zero_le _) (Nat.zero_le _) ?_
  refine g_L (L' := [some (.ref 135), some (.int v1), none, none, none]) ⟨rfl, ⟨rfl, trivial⟩⟩ ?_
  exact G_X12_due_54 hd v1 (imax (0 : Int32) (imax v2 v3)) u h
set_option maxRecDepth 100000 in
set_option maxHeartbeats 4000000 in
theorem G_X12_due_0 {sc : Nat × (Nat → Int32)} {d : Nat} (hd : 6 ≤ d) {r : Int32} {u' : xS} (v1 : Int32) (u : xS) (h : f_X12_due v1 u = some (r, u')) : xG sc mX12_due d 0 0 (xR (some (.int r)) (xL0, u') 0 0) 0 0 0 [some (.ref 135), some (.int v1), none, none, none] [] (xL0, u) := by
  rw [f_X12_due] at h
  refine g_aload_n (pc := 0) dX12_due_0 rfl ?_
  refine g_iconst (pc := 1) dX12_due_1 ic_0 ?_
  refine g_pI (pc := 2) dX12_due_2 pI_RX12_150 xc_135 (u' := (wr u 135 0 (0 : Int32))) rfl ?_
  refine g_aload_n (pc := 5) dX12_due_5 rfl ?_
  refine g_iload_n (pc := 6) dX12_due_6 rfl ?_
  refine g_cV (pc := 7) dX12_due_7 cV_RX12_205 (M_X12_isBale (Nat.le_refl _) rfl) xc_135 (as := [.int v1]) (st := []) rfl rfl (Nat.le_of_ble_eq_true rfl) (Nat.le_trans (Nat.le_of_ble_eq_true rfl) hd) rfl ?_
  refine g_if_ne (tgt := 15) (pc := 10) dX12_due_10 (by decide) (fun c1 => ?_) (fun c1 => ?_)
  · replace h := (if_neg c1).symm.trans h
    refine g_aload_n (pc := 15) dX12_due_15 rfl ?_
    refine g_iload_n (pc := 16) dX12_due_16 rfl ?_
    refine g_iconst (pc := 17) dX12_due_17 ic_0 ?_
    obtain ⟨⟨x3, u4⟩, e2, h⟩ := x_bind h
    dsimp only at h
    refine g_cV (pc := 18) dX12_due_18 cV_RX12_253 (M_X12_offOf (Nat.le_refl _) e2) xc_135 (as := [.int v1, .int (0 : Int32)]) (st := []) rfl rfl (Nat.le_of_ble_eq_true rfl) (Nat.le_trans (Nat.le_of_ble_eq_true rfl) hd) rfl ?_
    refine g_istore_n (pc := 21) dX12_due_21 (Nat.le_of_ble_eq_true rfl) (L' := [some (.ref 135), some (.int v1), some (.int x3), none, none]) rfl ?_
    refine g_aload_n (pc := 22) dX12_due_22 rfl ?_
    refine g_iload_n (pc := 23) dX12_due_23 rfl ?_
    refine g_iconst (pc := 24) dX12_due_24 ic_1 ?_
    obtain ⟨⟨x6, u7⟩, e5, h⟩ := x_bind h
    dsimp only at h
    refine g_cV (pc := 25) dX12_due_25 cV_RX12_253 (M_X12_offOf (Nat.le_refl _) e5) xc_135 (as := [.int v1, .int (1 : Int32)]) (st := []) rfl rfl (Nat.le_of_ble_eq_true rfl) (Nat.le_trans (Nat.le_of_ble_eq_true rfl) hd) rfl ?_
    refine g_istore_n (pc := 28) dX12_due_28 (Nat.le_of_ble_eq_true rfl) (L' := [some (.ref 135), some (.int v1), some (.int x3), some (.int x6), none]) rfl ?_
    refine g_iload_n (pc := 29) dX12_due_29 rfl ?_
    refine g_if_lt (tgt := 45) (pc := 30) dX12_due_30 (by decide) (fun c8 => ?_) (fun c8 => ?_)
    · replace h := (if_pos c8).symm.trans h
      exact G_X12_due_45 hd v1 x3 x6 u7 h
    · replace h := (if_neg c8).symm.trans h
      refine g_iload_n (pc := 33) dX12_due_33 rfl ?_
      refine g_if_lt (tgt := 45) (pc := 34) dX12_due_34 (by decide) (fun c9 => ?_) (fun c9 => ?_)
      · replace h := (if_pos c9).symm.trans h
        exact G_X12_due_45 hd v1 x3 x6 u7 h
      · replace h := (if_neg c9).symm.trans h
        refine g_iload_n (pc := 37) dX12_due_37 rfl ?_
        refine g_iload_n (pc := 38) dX12_due_38 rfl ?_
        refine g_iadd (pc := 39) dX12_due_39 rfl ?_
        refine g_iconst (pc := 40) dX12_due_40 ic_2 ?_
        refine g_idiv (pc := 41) dX12_due_41 (by decide) rfl ?_
        refine g_goto (tgt := 54) (pc := 42) dX12_due_42 (by decide) ?_
        refine g_L (L' := [some (.ref 135), some (.int v1), none, none, none]) ⟨rfl, ⟨rfl, trivial⟩⟩ ?_
        exact G_X12_due_54 hd v1 ((x3 + x6) / (2 : Int32)) u7 h
  · replace h := (if_pos c1).symm.trans h
    refine g_iconst (pc := 13) dX12_due_13 ic_m1 ?_
    obtain ⟨h1, h2⟩ := x_inj2 h
    subst h1
    subst h2
    exact g_iret (pc := 14) dX12_due_14 rfl rfl rfl (Nat.le_refl _) (Nat.le_refl _)
set_option maxRecDepth 100000 in
set_option maxHeartbeats 4000000 in
theorem M_X12_due {sc : Nat × (Nat → Int32)} {d : Nat} (hd : 6 ≤ d) {r : Int32} {u u' : xS} {a1 : Int32} (h : f_X12_due a1 u = some (r, u')) : xMt sc mX12_due d 0 0 [.ref 135, .int a1] (xL0, u) (some (.int r)) (xL0, u') :=
  xMt.of (by decide +kernel) (by decide +kernel) (Nat.le_of_ble_eq_true rfl) (L := [some (.ref 135), some (.int a1), none, none, none]) rfl ((G_X12_due_0 hd a1 u h))
set_option maxRecDepth 100000 in
set_option maxHeartbeats 4000000 in
theorem G_X12_end_0 {sc : Nat × (Nat → Int32)} {d : Nat} (hd : 1 ≤ d) {r : Int32} {u' : xS} (v1 : Int32) (u : xS) (h : f_X12_end v1 u = some (r, u')) : xG sc mX12_end d 0 0 (xR (some (.int r)) (xL0, u') 0 0) 0 0 0 [some (.ref 135), some (.int v1)] [] (xL0, u) := by
  rw [f_X12_end] at h
  refine g_aload_n (pc := 0) dX12_end_0 rfl ?_
  refine g_iconst (pc := 1) dX12_end_1 ic_0 ?_
  refine g_pI (pc := 2) dX12_end_2 pI_RX12_150 xc_135 (u' := (wr u 135 0 (0 : Int32))) rfl ?_
  refine g_iload_n (pc := 5) dX12_end_5 rfl ?_
  refine g_i2l (pc := 6) dX12_end_6 rfl ?_
  refine g_lconst (v := (0 : Int64)) (pc := 7) dX12_end_7 rfl ?_
  refine g_aload_n (pc := 8) dX12_end_8 rfl ?_
  refine g_gI (pc := 9) dX12_end_9 fI_RX12_256 xc_135 (v := (rd u 135 32)) rfl ?_
  refine g_i2l (pc := 12) dX12_end_12 rfl ?_
  refine g_cS (pc := 13) dX12_end_13 cS_RX12_156 (M_X12_in (Nat.le_refl _) rfl) (as := [.long ((v1).toInt64), .long (0 : Int64), .long ((rd u 135 32).toInt64)]) (st := []) rfl rfl (Nat.le_of_ble_eq_true rfl) (Nat.le_trans (Nat.le_of_ble_eq_true rfl) hd) rfl ?_
  refine g_if_ne (tgt := 21) (pc := 16) dX12_end_16 (by decide) (fun c1 => ?_) (fun c1 => ?_)
  · replace h := (if_neg c1).symm.trans h
    refine g_aload_n (pc := 21) dX12_end_21 rfl ?_
    refine g_iload_n (pc := 22) dX12_end_22 rfl ?_
    refine g_pI (pc := 23) dX12_end_23 pI_RX12_256 xc_135 (u' := (wr (wr u 135 0 (0 : Int32)) 135 32 v1)) rfl ?_
    refine g_iconst (pc := 26) dX12_end_26 ic_1 ?_
    obtain ⟨h1, h2⟩ := x_inj2 h
    subst h1
    subst h2
    exact g_zret (pc := 27) dX12_end_27 rfl (Or.inr rfl) rfl rfl (Nat.le_refl _) (Nat.le_refl _)
  · replace h := (if_pos c1).symm.trans h
    refine g_iconst (pc := 19) dX12_end_19 ic_0 ?_
    obtain ⟨h1, h2⟩ := x_inj2 h
    subst h1
    subst h2
    exact g_zret (pc := 20) dX12_end_20 rfl (Or.inl rfl) rfl rfl (Nat.le_refl _) (Nat.le_refl _)
set_option maxRecDepth 100000 in
set_option maxHeartbeats 4000000 in
theorem M_X12_end {sc : Nat × (Nat → Int32)} {d : Nat} (hd : 1 ≤ d) {r : Int32} {u u' : xS} {a1 : Int32} (h : f_X12_end a1 u = some (r, u')) : xMt sc mX12_end d 0 0 [.ref 135, .int a1] (xL0, u) (some (.int r)) (xL0, u') :=
  xMt.of (by decide +kernel) (by decide +kernel) (Nat.le_of_ble_eq_true rfl) (L := [some (.ref 135), some (.int a1)]) rfl ((G_X12_end_0 hd a1 u h))
set_option maxRecDepth 100000 in
set_option maxHeartbeats 4000000 in
theorem G_X12_enters_0 {sc : Nat × (Nat → Int32)} {d : Nat} (hd : 0 ≤ d) {u' : xS} (v1 : Int32) (u : xS) (h : f_X12_enters v1 u = some u') : xG sc mX12_enters d 0 0 (xR none (xL0, u') 0 0) 0 0 0 [some (.ref 135), some (.int v1)] [] (xL0, u) := by
  rw [f_X12_enters] at h
  refine g_aload_n (pc := 0) dX12_enters_0 rfl ?_
  refine g_gR (pc := 1) dX12_enters_1 fR_RX12_102 xc_135 (v := 165) rfl ?_
  refine g_aload_n (pc := 4) dX12_enters_4 rfl ?_
  refine g_gI (pc := 5) dX12_enters_5 fI_RX12_388 xc_135 (v := (rd u 135 43)) rfl ?_
  refine g_iload_n (pc := 8) dX12_enters_8 rfl ?_
  obtain ⟨g1, h⟩ := x_gd h
  refine g_iastore (pc := 9) dX12_enters_9 xc_165 (xin_of g1) (u' := (wr u 165 (rd u 135 43).toNatClampNeg v1)) rfl ?_
  refine g_aload_n (pc := 10) dX12_enters_10 rfl ?_
  refine g_dup (pc := 11) dX12_enters_11 rfl ?_
  refine g_gI (pc := 12) dX12_enters_12 fI_RX12_388 xc_135 (v := (rd u 135 43)) rfl ?_
  refine g_iconst (pc := 15) dX12_enters_15 ic_1 ?_
  refine g_iadd (pc := 16) dX12_enters_16 rfl ?_
  refine g_pI (pc := 17) dX12_enters_17 pI_RX12_388 xc_135 (u' := (wr (wr u 165 (rd u 135 43).toNatClampNeg v1) 135 43 ((rd u 135 43) + (1 : Int32)))) rfl ?_
  replace h := Option.some.inj h
  subst h
  exact g_ret (pc := 20) dX12_enters_20 rfl rfl rfl (Nat.le_refl _) (Nat.le_refl _)
set_option maxRecDepth 100000 in
set_option maxHeartbeats 4000000 in
theorem M_X12_enters {sc : Nat × (Nat → Int32)} {d : Nat} (hd : 0 ≤ d) {u u' : xS} {a1 : Int32} (h : f_X12_enters a1 u = some u') : xMt sc mX12_enters d 0 0 [.ref 135, .int a1] (xL0, u) none (xL0, u') :=
  xMt.of (by decide +kernel) (by decide +kernel) (Nat.le_of_ble_eq_true rfl) (L := [some (.ref 135), some (.int a1)]) rfl ((G_X12_enters_0 hd a1 u h))
set_option maxRecDepth 100000 in
set_option maxHeartbeats 4000000 in
theorem G_X12_entry_0 {sc : Nat × (Nat → Int32)} {d : Nat} (hd : 0 ≤ d) {r : Int32} {u : xS} (v0 : Int32) (v1 : Int32) (h : f_X12_entry v0 v1 = r) : xG sc mX12_entry d 0 0 (xR (some (.int r)) (xL0, u) 0 0) 0 0 0 [some (.int v0), some (.int v1)] [] (xL0, u) := by
  rw [f_X12_entry] at h
  refine g_iload_n (pc := 0) dX12_entry_0 rfl ?_
  refine g_if_ne (tgt := 9) (pc := 1) dX12_entry_1 (by decide) (fun c1 => ?_) (fun c1 => ?_)
  · replace h := (if_neg c1).symm.trans h
    refine g_iload_n (pc := 9) dX12_entry_9 rfl ?_
    refine g_iconst (pc := 10) dX12_entry_10 ic_1 ?_
    refine g_icmp_ne (tgt := 19) (pc := 11) dX12_entry_11 (by decide) (fun c2 => ?_) (fun c2 => ?_)
    · replace h := (if_neg c2).symm.trans h
      refine g_iload_n (pc := 19) dX12_entry_19 rfl ?_
      subst h
      exact g_iret (pc := 20) dX12_entry_20 rfl rfl rfl (Nat.le_refl _) (Nat.le_refl _)
    · replace h := (if_pos c2).symm.trans h
      refine g_iload_n (pc := 14) dX12_entry_14 rfl ?_
      refine g_i2s (pc := 15) dX12_entry_15 rfl ?_
      refine g_goto (tgt := 20) (pc := 16) dX12_entry_16 (by decide) ?_
      subst h
      exact g_iret (pc := 20) dX12_entry_20 rfl rfl rfl (Nat.le_refl _) (Nat.le_refl _)
  · replace h := (if_pos c1).symm.trans h
    refine g_iload_n (pc := 4) dX12_entry_4 rfl ?_
    refine g_i2b (pc := 5) dX12_entry_5 rfl ?_
    refine g_goto (tgt := 20) (pc := 6) dX12_entry_6 (by decide) ?_
    subst h
    exact g_iret (pc := 20) dX12_entry_20 rfl rfl rfl (Nat.le_refl _) (Nat.le_refl _)
set_option maxRecDepth 100000 in
set_option maxHeartbeats 4000000 in
theorem M_X12_entry {sc : Nat × (Nat → Int32)} {d : Nat} (hd : 0 ≤ d) {r : Int32} {u : xS} {a0 : Int32} {a1 : Int32} (h : f_X12_entry a0 a1 = r) : xMt sc mX12_entry d 0 0 [.int a0, .int a1] (xL0, u) (some (.int r)) (xL0, u) :=
  xMt.of (by decide +kernel) (by decide +kernel) (Nat.le_of_ble_eq_true rfl) (L := [some (.int a0), some (.int a1)]) rfl ((G_X12_entry_0 hd a0 a1 h))
set_option maxRecDepth 100000 in
set_option maxHeartbeats 4000000 in
theorem G_X12_eyeOf_0 {sc : Nat × (Nat → Int32)} {d : Nat} (hd : 2 ≤ d) {r : Int32} {u : xS} (v1 : Int32) (h : f_X12_eyeOf u v1 = some r) : xG sc mX12_eyeOf d 0 0 (xR (some (.int r)) (xL0, u) 0 0) 0 0 0 [some (.ref 135), some (.int v1)] [] (xL0, u) := by
  rw [f_X12_eyeOf] at h
  refine g_aload_n (pc := 0) dX12_eyeOf_0 rfl ?_
  refine g_iload_n (pc := 1) dX12_eyeOf_1 rfl ?_
  refine g_iconst (pc := 2) dX12_eyeOf_2 ic_m1 ?_
  obtain ⟨x2, e1, h⟩ := x_bind h
  refine g_cV (pc := 3) dX12_eyeOf_3 cV_RX12_412 (M_X12_alike (Nat.le_refl _) e1) xc_135 (as := [.int v1, .int (-1 : Int32)]) (st := []) rfl rfl (Nat.le_of_ble_eq_true rfl) (Nat.le_trans (Nat.le_of_ble_eq_true rfl) hd) rfl ?_
  replace h := Option.some.inj h
  subst h
  exact g_iret (pc := 6) dX12_eyeOf_6 rfl rfl rfl (Nat.le_refl _) (Nat.le_refl _)
set_option maxRecDepth 100000 in
set_option maxHeartbeats 4000000 in
theorem M_X12_eyeOf {sc : Nat × (Nat → Int32)} {d : Nat} (hd : 2 ≤ d) {r : Int32} {u : xS} {a1 : Int32} (h : f_X12_eyeOf u a1 = some r) : xMt sc mX12_eyeOf d 0 0 [.ref 135, .int a1] (xL0, u) (some (.int r)) (xL0, u) :=
  xMt.of (by decide +kernel) (by decide +kernel) (Nat.le_of_ble_eq_true rfl) (L := [some (.ref 135), some (.int a1)]) rfl ((G_X12_eyeOf_0 hd a1 h))
set_option maxRecDepth 100000 in
set_option maxHeartbeats 4000000 in
theorem G_X12_eye_0 {sc : Nat × (Nat → Int32)} {d : Nat} (hd : 3 ≤ d) {r : Int32} {u' : xS} (v1 : Int32) (u : xS) (h : f_X12_eye v1 u = some (r, u')) : xG sc mX12_eye d 0 0 (xR (some (.int r)) (xL0, u') 0 0) 0 0 0 [some (.ref 135), some (.int v1)] [] (xL0, u) := by
  rw [f_X12_eye] at h
  refine g_aload_n (pc := 0) dX12_eye_0 rfl ?_
  refine g_iconst (pc := 1) dX12_eye_1 ic_0 ?_
  refine g_pI (pc := 2) dX12_eye_2 pI_RX12_150 xc_135 (u' := (wr u 135 0 (0 : Int32))) rfl ?_
  refine g_iload_n (pc := 5) dX12_eye_5 rfl ?_
  refine g_cS (pc := 6) dX12_eye_6 cS_RX12_208 (M_X12_isSorter (Nat.le_refl _) rfl) (as := [.int v1]) (st := []) rfl rfl (Nat.le_of_ble_eq_true rfl) (Nat.le_trans (Nat.le_of_ble_eq_true rfl) hd) rfl ?_
  refine g_if_eq (tgt := 20) (pc := 9) dX12_eye_9 (by decide) (fun c1 => ?_) (fun c1 => ?_)
  · replace h := (if_pos c1).symm.trans h
    refine g_iconst (pc := 20) dX12_eye_20 ic_m1 ?_
    obtain ⟨h1, h2⟩ := x_inj2 h
    subst h1
    subst h2
    exact g_iret (pc := 21) dX12_eye_21 rfl rfl rfl (Nat.le_refl _) (Nat.le_refl _)
  · replace h := (if_neg c1).symm.trans h
    refine g_aload_n (pc := 12) dX12_eye_12 rfl ?_
    refine g_iload_n (pc := 13) dX12_eye_13 rfl ?_
    obtain ⟨x3, e2, h⟩ := x_bind h
    refine g_cV (pc := 14) dX12_eye_14 cV_RX12_337 (M_X12_eyeOf (Nat.le_refl _) e2) xc_135 (as := [.int v1]) (st := []) rfl rfl (Nat.le_of_ble_eq_true rfl) (Nat.le_trans (Nat.le_of_ble_eq_true rfl) hd) rfl ?_
    refine g_goto (tgt := 21) (pc := 17) dX12_eye_17 (by decide) ?_
    obtain ⟨h1, h2⟩ := x_inj2 h
    subst h1
    subst h2
    exact g_iret (pc := 21) dX12_eye_21 rfl rfl rfl (Nat.le_refl _) (Nat.le_refl _)
set_option maxRecDepth 100000 in
set_option maxHeartbeats 4000000 in
theorem M_X12_eye {sc : Nat × (Nat → Int32)} {d : Nat} (hd : 3 ≤ d) {r : Int32} {u u' : xS} {a1 : Int32} (h : f_X12_eye a1 u = some (r, u')) : xMt sc mX12_eye d 0 0 [.ref 135, .int a1] (xL0, u) (some (.int r)) (xL0, u') :=
  xMt.of (by decide +kernel) (by decide +kernel) (Nat.le_of_ble_eq_true rfl) (L := [some (.ref 135), some (.int a1)]) rfl ((G_X12_eye_0 hd a1 u h))
theorem zb_X12_isCloth (u : xS) (v1 : Int32) : f_X12_isCloth u v1 = 0 ∨ f_X12_isCloth u v1 = 1 := by
  unfold f_X12_isCloth
  repeat' first | exact Or.inl rfl | exact Or.inr rfl | exact zb_X12_in _ _ _ | apply x_ite
set_option maxRecDepth 100000 in
set_option maxHeartbeats 4000000 in
theorem G_X12_isCloth_0 {sc : Nat × (Nat → Int32)} {d : Nat} (hd : 1 ≤ d) {r : Int32} {u : xS} (v1 : Int32) (h : f_X12_isCloth u v1 = r) : xG sc mX12_isCloth d 0 0 (xR (some (.int r)) (xL0, u) 0 0) 0 0 0 [some (.ref 135), some (.int v1)] [] (xL0, u) := by
  rw [f_X12_isCloth] at h
  refine g_iload_n (pc := 0) dX12_isCloth_0 rfl ?_
  refine g_i2l (pc := 1) dX12_isCloth_1 rfl ?_
  refine g_lconst (v := (0 : Int64)) (pc := 2) dX12_isCloth_2 rfl ?_
  refine g_aload_n (pc := 3) dX12_isCloth_3 rfl ?_
  refine g_gI (pc := 4) dX12_isCloth_4 fI_RX12_223 xc_135 (v := (rd u 135 37)) rfl ?_
  refine g_iconst (pc := 7) dX12_isCloth_7 ic_1 ?_
  refine g_isub (pc := 8) dX12_isCloth_8 rfl ?_
  refine g_i2l (pc := 9) dX12_isCloth_9 rfl ?_
  refine g_cS (pc := 10) dX12_isCloth_10 cS_RX12_156 (M_X12_in (Nat.le_refl _) rfl) (as := [.long ((v1).toInt64), .long (0 : Int64), .long (((rd u 135 37) - (1 : Int32)).toInt64)]) (st := []) rfl rfl (Nat.le_of_ble_eq_true rfl) (Nat.le_trans (Nat.le_of_ble_eq_true rfl) hd) rfl ?_
  subst h
  exact g_zret (pc := 13) dX12_isCloth_13 rfl (zb_X12_in _ _ _) rfl rfl (Nat.le_refl _) (Nat.le_refl _)
set_option maxRecDepth 100000 in
set_option maxHeartbeats 4000000 in
theorem M_X12_isCloth {sc : Nat × (Nat → Int32)} {d : Nat} (hd : 1 ≤ d) {r : Int32} {u : xS} {a1 : Int32} (h : f_X12_isCloth u a1 = r) : xMt sc mX12_isCloth d 0 0 [.ref 135, .int a1] (xL0, u) (some (.int r)) (xL0, u) :=
  xMt.of (by decide +kernel) (by decide +kernel) (Nat.le_of_ble_eq_true rfl) (L := [some (.ref 135), some (.int a1)]) rfl ((G_X12_isCloth_0 hd a1 h))
set_option maxRecDepth 100000 in
set_option maxHeartbeats 4000000 in
theorem G_X12_fault_0 {sc : Nat × (Nat → Int32)} {d : Nat} (hd : 2 ≤ d) {r : Int32} {u' : xS} (v1 : Int32) (v2 : Int32) (u : xS) (h : f_X12_fault v1 v2 u = some (r, u')) : xG sc mX12_fault d 0 0 (xR (some (.int r)) (xL0, u') 0 0) 0 0 0 [some (.ref 135), some (.int v1), some (.int v2), none] [] (xL0, u) := by
  rw [f_X12_fault] at h
  refine g_aload_n (pc := 0) dX12_fault_0 rfl ?_
  refine g_iconst (pc := 1) dX12_fault_1 ic_0 ?_
  refine g_pI (pc := 2) dX12_fault_2 pI_RX12_150 xc_135 (u' := (wr u 135 0 (0 : Int32))) rfl ?_
  refine g_aload_n (pc := 5) dX12_fault_5 rfl ?_
  refine g_iload_n (pc := 6) dX12_fault_6 rfl ?_
  refine g_cV (pc := 7) dX12_fault_7 cV_RX12_391 (M_X12_isCloth (Nat.le_refl _) rfl) xc_135 (as := [.int v1]) (st := []) rfl rfl (Nat.le_of_ble_eq_true rfl) (Nat.le_trans (Nat.le_of_ble_eq_true rfl) hd) rfl ?_
  refine g_if_eq (tgt := 25) (pc := 10) dX12_fault_10 (by decide) (fun c1 => ?_) (fun c1 => ?_)
  · replace h := (if_pos c1).symm.trans h
    refine g_iconst (pc := 25) dX12_fault_25 ic_m1 ?_
    obtain ⟨h1, h2⟩ := x_inj2 h
    subst h1
    subst h2
    exact g_iret (pc := 26) dX12_fault_26 rfl rfl rfl (Nat.le_refl _) (Nat.le_refl _)
  · replace h := (if_neg c1).symm.trans h
    refine g_iload_n (pc := 13) dX12_fault_13 rfl ?_
    refine g_i2l (pc := 14) dX12_fault_14 rfl ?_
    refine g_lconst (v := (0 : Int64)) (pc := 15) dX12_fault_15 rfl ?_
    refine g_ldc2 (pc := 16) dX12_fault_16 kl_RX12_318 ?_
    refine g_cS (pc := 19) dX12_fault_19 cS_RX12_156 (M_X12_in (Nat.le_refl _) rfl) (as := [.long ((v2).toInt64), .long (0 : Int64), .long (2 : Int64)]) (st := []) rfl rfl (Nat.le_of_ble_eq_true rfl) (Nat.le_trans (Nat.le_of_ble_eq_true rfl) hd) rfl ?_
    refine g_if_ne (tgt := 27) (pc := 22) dX12_fault_22 (by decide) (fun c2 => ?_) (fun c2 => ?_)
    · replace h := (if_neg c2).symm.trans h
      refine g_aload_n (pc := 27) dX12_fault_27 rfl ?_
      refine g_gR (pc := 28) dX12_fault_28 fR_RX12_93 xc_135 (v := 162) rfl ?_
      refine g_iload_n (pc := 31) dX12_fault_31 rfl ?_
      obtain ⟨g3, h⟩ := x_gd h
      refine g_iaload (pc := 32) dX12_fault_32 xc_162 (xin_of g3) (v := (rd u 162 v1.toNatClampNeg)) rfl ?_
      refine g_istore_n (pc := 33) dX12_fault_33 (Nat.le_of_ble_eq_true rfl) (L' := [some (.ref 135), some (.int v1), some (.int v2), some (.int (rd u 162 v1.toNatClampNeg))]) rfl ?_
      refine g_aload_n (pc := 34) dX12_fault_34 rfl ?_
      refine g_gR (pc := 35) dX12_fault_35 fR_RX12_93 xc_135 (v := 162) rfl ?_
      refine g_iload_n (pc := 38) dX12_fault_38 rfl ?_
      refine g_iload_n (pc := 39) dX12_fault_39 rfl ?_
      refine g_iastore (pc := 40) dX12_fault_40 xc_162 (xin_of g3) (u' := (wr (wr u 135 0 (0 : Int32)) 162 v1.toNatClampNeg v2)) rfl ?_
      refine g_iload_n (pc := 41) dX12_fault_41 rfl ?_
      obtain ⟨h1, h2⟩ := x_inj2 h
      subst h1
      subst h2
      exact g_iret (pc := 42) dX12_fault_42 rfl rfl rfl (Nat.le_refl _) (Nat.le_refl _)
    · replace h := (if_pos c2).symm.trans h
      refine g_iconst (pc := 25) dX12_fault_25 ic_m1 ?_
      obtain ⟨h1, h2⟩ := x_inj2 h
      subst h1
      subst h2
      exact g_iret (pc := 26) dX12_fault_26 rfl rfl rfl (Nat.le_refl _) (Nat.le_refl _)
set_option maxRecDepth 100000 in
set_option maxHeartbeats 4000000 in
theorem M_X12_fault {sc : Nat × (Nat → Int32)} {d : Nat} (hd : 2 ≤ d) {r : Int32} {u u' : xS} {a1 : Int32} {a2 : Int32} (h : f_X12_fault a1 a2 u = some (r, u')) : xMt sc mX12_fault d 0 0 [.ref 135, .int a1, .int a2] (xL0, u) (some (.int r)) (xL0, u') :=
  xMt.of (by decide +kernel) (by decide +kernel) (Nat.le_of_ble_eq_true rfl) (L := [some (.ref 135), some (.int a1), some (.int a2), none]) rfl ((G_X12_fault_0 hd a1 a2 u h))
set_option maxRecDepth 100000 in
set_option maxHeartbeats 4000000 in
theorem G_X12_fire_34 {sc : Nat × (Nat → Int32)} {d : Nat} (hd : 1 ≤ d) {r : Int32} {u' : xS} {k23 : Int32 → Int32 → Int32 → xS → Option (Int32 × xS)} (hk23 : ∀ (v1 : Int32) (v2 : Int32) (v3 : Int32) (u : xS), k23 v1 v2 v3 u = some (r, u') → xG sc mX12_fire d 0 0 (xR (some (.int r)) (xL0, u') 0 0) 0 0 23 [some (.ref 135), some (.int v1), some (.int v2), some (.int v3), none, none, none] [] (xL0, u)) : ∀ (n : Nat) (v1 : Int32) (v2 : Int32) (v3 : Int32) (v4 : Int32) (u : xS), f_X12_fire_34 k23 n v1 v2 v3 v4 u = some (r, u') → xG sc mX12_fire d 0 0 (xR (some (.int r)) (xL0, u') 0 0) 0 0 34 [some (.ref 135), some (.int v1), some (.int v2), some (.int v3), some (.int v4), none, none] [] (xL0, u) := by
  intro n
  induction n with
  | zero =>
    intro v1 v2 v3 v4 u h
    rw [f_X12_fire_34] at h
    cases h
  | succ n ih =>
    intro v1 v2 v3 v4 u h
    rw [f_X12_fire_34] at h
    refine g_iload (pc := 34) dX12_fire_34 rfl ?_
    refine g_aload_n (pc := 36) dX12_fire_36 rfl ?_
    refine g_gI (pc := 37) dX12_fire_37 fI_RX12_194 xc_135 (v := (rd u 135 7)) rfl ?_
    refine g_icmp_ge (tgt := 108) (pc := 40) dX12_fire_40 (by decide) (fun c1 => ?_) (fun c1 => ?_)
    · replace h := (if_pos c1).symm.trans h
      refine g_inc (pc := 108) dX12_fire_108 (Nat.le_of_ble_eq_true rfl) rfl ic_1 (L' := [some (.ref 135), some (.int v1), some (.int v2), some (.int (v3 + (1 : Int32))), some (.int v4), none, none]) rfl ?_
      refine g_goto (tgt := 23) (pc := 111) dX12_fire_111 (by decide) ?_
      refine g_L (L' := [some (.ref 135), some (.int v1), some (.int v2), some (.int (v3 + (1 : Int32))), none, none, none]) ⟨rfl, ⟨rfl, ⟨rfl, ⟨rfl, trivial⟩⟩⟩⟩ ?_
      exact hk23 v1 v2 (v3 + (1 : Int32)) u h
    · replace h := (if_neg c1).symm.trans h
      refine g_bipush (pc := 43) dX12_fire_43 bp_24 ?_
      refine g_iload_n (pc := 45) dX12_fire_45 rfl ?_
      refine g_imul (pc := 46) dX12_fire_46 rfl ?_
      refine g_iload (pc := 47) dX12_fire_47 rfl ?_
      refine g_iadd (pc := 49) dX12_fire_49 rfl ?_
      refine g_istore (pc := 50) dX12_fire_50 (Nat.le_of_ble_eq_true rfl) (L' := [some (.ref 135), some (.int v1), some (.int v2), some (.int v3), some (.int v4), some (.int (((24 : Int32) * v3) + v4)), none]) rfl ?_
      refine g_aload_n (pc := 52) dX12_fire_52 rfl ?_
      refine g_gR (pc := 53) dX12_fire_53 fR_RX12_43 xc_135 (v := 147) rfl ?_
      refine g_iload (pc := 56) dX12_fire_56 rfl ?_
      obtain ⟨g2, h⟩ := x_gd h
      refine g_iaload (pc := 58) dX12_fire_58 xc_147 (xin_of g2) (v := (rd u 147 (((24 : Int32) * v3) + v4).toNatClampNeg)) rfl ?_
      refine g_iload_n (pc := 59) dX12_fire_59 rfl ?_
      refine g_imul (pc := 60) dX12_fire_60 rfl ?_
      refine g_sipush (pc := 61) dX12_fire_61 sp_1000 ?_
      refine g_iadd (pc := 64) dX12_fire_64 rfl ?_
      refine g_iconst (pc := 65) dX12_fire_65 ic_1 ?_
      refine g_isub (pc := 66) dX12_fire_66 rfl ?_
      refine g_sipush (pc := 67) dX12_fire_67 sp_1000 ?_
      refine g_idiv (pc := 70) dX12_fire_70 (by decide) rfl ?_
      refine g_istore (pc := 71) dX12_fire_71 (Nat.le_of_ble_eq_true rfl) (L' := [some (.ref 135), some (.int v1), some (.int v2), some (.int v3), some (.int v4), some (.int (((24 : Int32) * v3) + v4)), some (.int (((((rd u 147 (((24 : Int32) * v3) + v4).toNatClampNeg) * v1) + (1000 : Int32)) - (1 : Int32)) / (1000 : Int32)))]) rfl ?_
      refine g_aload_n (pc := 73) dX12_fire_73 rfl ?_
      refine g_gR (pc := 74) dX12_fire_74 fR_RX12_43 xc_135 (v := 147) rfl ?_
      refine g_iload (pc := 77) dX12_fire_77 rfl ?_
      refine g_dup2 (pc := 79) dX12_fire_79 rfl rfl ?_
      refine g_iaload (pc := 80) dX12_fire_80 xc_147 (xin_of g2) (v := (rd u 147 (((24 : Int32) * v3) + v4).toNatClampNeg)) rfl ?_
      refine g_iload (pc := 81) dX12_fire_81 rfl ?_
      refine g_isub (pc := 83) dX12_fire_83 rfl ?_
      refine g_iastore (pc := 84) dX12_fire_84 xc_147 (xin_of g2) (u' := (wr u 147 (((24 : Int32) * v3) + v4).toNatClampNeg ((rd u 147 (((24 : Int32) * v3) + v4).toNatClampNeg) - (((((rd u 147 (((24 : Int32) * v3) + v4).toNatClampNeg) * v1) + (1000 : Int32)) - (1 : Int32)) / (1000 : Int32))))) rfl ?_
      refine g_aload_n (pc := 85) dX12_fire_85 rfl ?_
      refine g_gR (pc := 86) dX12_fire_86 fR_RX12_37 xc_135 (v := 145) rfl ?_
      refine g_iload (pc := 89) dX12_fire_89 rfl ?_
      refine g_dup2 (pc := 91) dX12_fire_91 rfl rfl ?_
      obtain ⟨g3, h⟩ := x_gd h
      refine g_iaload (pc := 92) dX12_fire_92 xc_145 (xin_of g3) (v := (rd u 145 v4.toNatClampNeg)) rfl ?_
      refine g_iload (pc := 93) dX12_fire_93 rfl ?_
      refine g_iadd (pc := 95) dX12_fire_95 rfl ?_
      refine g_iastore (pc := 96) dX12_fire_96 xc_145 (xin_of g3) (u' := (wr (wr u 147 (((24 : Int32) * v3) + v4).toNatClampNeg ((rd u 147 (((24 : Int32) * v3) + v4).toNatClampNeg) - (((((rd u 147 (((24 : Int32) * v3) + v4).toNatClampNeg) * v1) + (1000 : Int32)) - (1 : Int32)) / (1000 : Int32)))) 145 v4.toNatClampNeg ((rd u 145 v4.toNatClampNeg) + (((((rd u 147 (((24 : Int32) * v3) + v4).toNatClampNeg) * v1) + (1000 : Int32)) - (1 : Int32)) / (1000 : Int32))))) rfl ?_
      refine g_iload_n (pc := 97) dX12_fire_97 rfl ?_
      refine g_iload (pc := 98) dX12_fire_98 rfl ?_
      refine g_iadd (pc := 100) dX12_fire_100 rfl ?_
      refine g_istore_n (pc := 101) dX12_fire_101 (Nat.le_of_ble_eq_true rfl) (L' := [some (.ref 135), some (.int v1), some (.int (v2 + (((((rd u 147 (((24 : Int32) * v3) + v4).toNatClampNeg) * v1) + (1000 : Int32)) - (1 : Int32)) / (1000 : Int32)))), some (.int v3), some (.int v4), some (.int (((24 : Int32) * v3) + v4)), some (.int (((((rd u 147 (((24 : Int32) * v3) + v4).toNatClampNeg) * v1) + (1000 : Int32)) - (1 : Int32)) / (1000 : Int32)))]) rfl ?_
      refine g_inc (pc := 102) dX12_fire_102 (Nat.le_of_ble_eq_true rfl) rfl ic_1 (L' := [some (.ref 135), some (.int v1), some (.int (v2 + (((((rd u 147 (((24 : Int32) * v3) + v4).toNatClampNeg) * v1) + (1000 : Int32)) - (1 : Int32)) / (1000 : Int32)))), some (.int v3), some (.int (v4 + (1 : Int32))), some (.int (((24 : Int32) * v3) + v4)), some (.int (((((rd u 147 (((24 : Int32) * v3) + v4).toNatClampNeg) * v1) + (1000 : Int32)) - (1 : Int32)) / (1000 : Int32)))]) rfl ?_
      refine g_goto (tgt := 34) (pc := 105) dX12_fire_105 (by decide) ?_
      refine g_L (L' := [some (.ref 135), some (.int v1), some (.int (v2 + (((((rd u 147 (((24 : Int32) * v3) + v4).toNatClampNeg) * v1) + (1000 : Int32)) - (1 : Int32)) / (1000 : Int32)))), some (.int v3), some (.int (v4 + (1 : Int32))), none, none]) ⟨rfl, ⟨rfl, ⟨rfl, ⟨rfl, ⟨rfl, trivial⟩⟩⟩⟩⟩ ?_
      exact ih v1 (v2 + (((((rd u 147 (((24 : Int32) * v3) + v4).toNatClampNeg) * v1) + (1000 : Int32)) - (1 : Int32)) / (1000 : Int32))) v3 (v4 + (1 : Int32)) (wr (wr u 147 (((24 : Int32) * v3) + v4).toNatClampNeg ((rd u 147 (((24 : Int32) * v3) + v4).toNatClampNeg) - (((((rd u 147 (((24 : Int32) * v3) + v4).toNatClampNeg) * v1) + (1000 : Int32)) - (1 : Int32)) / (1000 : Int32)))) 145 v4.toNatClampNeg ((rd u 145 v4.toNatClampNeg) + (((((rd u 147 (((24 : Int32) * v3) + v4).toNatClampNeg) * v1) + (1000 : Int32)) - (1 : Int32)) / (1000 : Int32)))) h
set_option maxRecDepth 100000 in
set_option maxHeartbeats 4000000 in
theorem G_X12_fire_23 {sc : Nat × (Nat → Int32)} {d : Nat} (hd : 1 ≤ d) {r : Int32} {u' : xS} : ∀ (n : Nat) (v1 : Int32) (v2 : Int32) (v3 : Int32) (u : xS), f_X12_fire_23 n v1 v2 v3 u = some (r, u') → xG sc mX12_fire d 0 0 (xR (some (.int r)) (xL0, u') 0 0) 0 0 23 [some (.ref 135), some (.int v1), some (.int v2), some (.int v3), none, none, none] [] (xL0, u) := by
  intro n
  induction n with
  | zero =>
    intro v1 v2 v3 u h
    rw [f_X12_fire_23] at h
    cases h
  | succ n ih =>
    intro v1 v2 v3 u h
    rw [f_X12_fire_23] at h
    refine g_iload_n (pc := 23) dX12_fire_23 rfl ?_
    refine g_aload_n (pc := 24) dX12_fire_24 rfl ?_
    refine g_gI (pc := 25) dX12_fire_25 fI_RX12_153 xc_135 (v := (rd u 135 1)) rfl ?_
    refine g_icmp_ge (tgt := 114) (pc := 28) dX12_fire_28 (by decide) (fun c1 => ?_) (fun c1 => ?_)
    · replace h := (if_pos c1).symm.trans h
      refine g_iload_n (pc := 114) dX12_fire_114 rfl ?_
      obtain ⟨h1, h2⟩ := x_inj2 h
      subst h1
      subst h2
      exact g_iret (pc := 115) dX12_fire_115 rfl rfl rfl (Nat.le_refl _) (Nat.le_refl _)
    · replace h := (if_neg c1).symm.trans h
      refine g_iconst (pc := 31) dX12_fire_31 ic_0 ?_
      refine g_istore (pc := 32) dX12_fire_32 (Nat.le_of_ble_eq_true rfl) (L' := [some (.ref 135), some (.int v1), some (.int v2), some (.int v3), some (.int (0 : Int32)), none, none]) rfl ?_
      exact G_X12_fire_34 hd ih xN v1 v2 v3 (0 : Int32) u h
set_option maxRecDepth 100000 in
set_option maxHeartbeats 4000000 in
theorem G_X12_fire_0 {sc : Nat × (Nat → Int32)} {d : Nat} (hd : 1 ≤ d) {r : Int32} {u' : xS} (v1 : Int32) (u : xS) (h : f_X12_fire v1 u = some (r, u')) : xG sc mX12_fire d 0 0 (xR (some (.int r)) (xL0, u') 0 0) 0 0 0 [some (.ref 135), some (.int v1), none, none, none, none, none] [] (xL0, u) := by
  rw [f_X12_fire] at h
  refine g_aload_n (pc := 0) dX12_fire_0 rfl ?_
  refine g_iconst (pc := 1) dX12_fire_1 ic_0 ?_
  refine g_pI (pc := 2) dX12_fire_2 pI_RX12_150 xc_135 (u' := (wr u 135 0 (0 : Int32))) rfl ?_
  refine g_iload_n (pc := 5) dX12_fire_5 rfl ?_
  refine g_i2l (pc := 6) dX12_fire_6 rfl ?_
  refine g_lconst (v := (0 : Int64)) (pc := 7) dX12_fire_7 rfl ?_
  refine g_ldc2 (pc := 8) dX12_fire_8 kl_RX12_164 ?_
  refine g_cS (pc := 11) dX12_fire_11 cS_RX12_156 (M_X12_in (Nat.le_refl _) rfl) (as := [.long ((v1).toInt64), .long (0 : Int64), .long (1000 : Int64)]) (st := []) rfl rfl (Nat.le_of_ble_eq_true rfl) (Nat.le_trans (Nat.le_of_ble_eq_true rfl) hd) rfl ?_
  refine g_if_ne (tgt := 19) (pc := 14) dX12_fire_14 (by decide) (fun c1 => ?_) (fun c1 => ?_)
  · replace h := (if_neg c1).symm.trans h
    refine g_iconst (pc := 19) dX12_fire_19 ic_0 ?_
    refine g_istore_n (pc := 20) dX12_fire_20 (Nat.le_of_ble_eq_true rfl) (L' := [some (.ref 135), some (.int v1), some (.int (0 : Int32)), none, none, none, none]) rfl ?_
    refine g_iconst (pc := 21) dX12_fire_21 ic_0 ?_
    refine g_istore_n (pc := 22) dX12_fire_22 (Nat.le_of_ble_eq_true rfl) (L' := [some (.ref 135), some (.int v1), some (.int (0 : Int32)), some (.int (0 : Int32)), none, none, none]) rfl ?_
    exact G_X12_fire_23 hd xN v1 (0 : Int32) (0 : Int32) (wr u 135 0 (0 : Int32)) h
  · replace h := (if_pos c1).symm.trans h
    refine g_iconst (pc := 17) dX12_fire_17 ic_m1 ?_
    obtain ⟨h1, h2⟩ := x_inj2 h
    subst h1
    subst h2
    exact g_iret (pc := 18) dX12_fire_18 rfl rfl rfl (Nat.le_refl _) (Nat.le_refl _)
set_option maxRecDepth 100000 in
set_option maxHeartbeats 4000000 in
theorem M_X12_fire {sc : Nat × (Nat → Int32)} {d : Nat} (hd : 1 ≤ d) {r : Int32} {u u' : xS} {a1 : Int32} (h : f_X12_fire a1 u = some (r, u')) : xMt sc mX12_fire d 0 0 [.ref 135, .int a1] (xL0, u) (some (.int r)) (xL0, u') :=
  xMt.of (by decide +kernel) (by decide +kernel) (Nat.le_of_ble_eq_true rfl) (L := [some (.ref 135), some (.int a1), none, none, none, none, none]) rfl ((G_X12_fire_0 hd a1 u h))
set_option maxRecDepth 100000 in
set_option maxHeartbeats 4000000 in
theorem G_X12_parent_0 {sc : Nat × (Nat → Int32)} {d : Nat} (hd : 0 ≤ d) {r : Int32} {u : xS} (v1 : Int32) (h : f_X12_parent u v1 = some r) : xG sc mX12_parent d 0 0 (xR (some (.int r)) (xL0, u) 0 0) 0 0 0 [some (.ref 135), some (.int v1)] [] (xL0, u) := by
  rw [f_X12_parent] at h
  refine g_aload_n (pc := 0) dX12_parent_0 rfl ?_
  refine g_gR (pc := 1) dX12_parent_1 fR_RX12_9 xc_135 (v := 136) rfl ?_
  refine g_bipush (pc := 4) dX12_parent_4 bp_7 ?_
  refine g_iload_n (pc := 6) dX12_parent_6 rfl ?_
  refine g_imul (pc := 7) dX12_parent_7 rfl ?_
  refine g_bipush (pc := 8) dX12_parent_8 bp_6 ?_
  refine g_iadd (pc := 10) dX12_parent_10 rfl ?_
  obtain ⟨g1, h⟩ := x_gd h
  refine g_iaload (pc := 11) dX12_parent_11 xc_136 (xin_of g1) (v := (rd u 136 (((7 : Int32) * v1) + (6 : Int32)).toNatClampNeg)) rfl ?_
  replace h := Option.some.inj h
  subst h
  exact g_iret (pc := 12) dX12_parent_12 rfl rfl rfl (Nat.le_refl _) (Nat.le_refl _)
set_option maxRecDepth 100000 in
set_option maxHeartbeats 4000000 in
theorem M_X12_parent {sc : Nat × (Nat → Int32)} {d : Nat} (hd : 0 ≤ d) {r : Int32} {u : xS} {a1 : Int32} (h : f_X12_parent u a1 = some r) : xMt sc mX12_parent d 0 0 [.ref 135, .int a1] (xL0, u) (some (.int r)) (xL0, u) :=
  xMt.of (by decide +kernel) (by decide +kernel) (Nat.le_of_ble_eq_true rfl) (L := [some (.ref 135), some (.int a1)]) rfl ((G_X12_parent_0 hd a1 h))
set_option maxRecDepth 100000 in
set_option maxHeartbeats 4000000 in
theorem G_X12_isWithin_20 {sc : Nat × (Nat → Int32)} {d : Nat} (hd : 1 ≤ d) {r : Int32} {u : xS} (v2 : Int32) (v3 : Int32) (h : f_X12_isWithin_20 u v2 v3 = some r) : xG sc mX12_isWithin d 0 0 (xR (some (.int r)) (xL0, u) 0 0) 0 0 20 [none, none, some (.int v2), some (.int v3)] [] (xL0, u) := by
  rw [f_X12_isWithin_20] at h
  refine g_iload_n (pc := 20) dX12_isWithin_20 rfl ?_
  refine g_iload_n (pc := 21) dX12_isWithin_21 rfl ?_
  refine g_icmp_ne (tgt := 29) (pc := 22) dX12_isWithin_22 (by decide) (fun c1 => ?_) (fun c1 => ?_)
  · replace h := (if_neg c1).symm.trans h
    refine g_iconst (pc := 29) dX12_isWithin_29 ic_0 ?_
    replace h := Option.some.inj h
    subst h
    exact g_zret (pc := 30) dX12_isWithin_30 rfl (Or.inl rfl) rfl rfl (Nat.le_refl _) (Nat.le_refl _)
  · replace h := (if_pos c1).symm.trans h
    refine g_iconst (pc := 25) dX12_isWithin_25 ic_1 ?_
    refine g_goto (tgt := 30) (pc := 26) dX12_isWithin_26 (by decide) ?_
    replace h := Option.some.inj h
    subst h
    exact g_zret (pc := 30) dX12_isWithin_30 rfl (Or.inr rfl) rfl rfl (Nat.le_refl _) (Nat.le_refl _)
set_option maxRecDepth 100000 in
set_option maxHeartbeats 4000000 in
theorem G_X12_isWithin_2 {sc : Nat × (Nat → Int32)} {d : Nat} (hd : 1 ≤ d) {r : Int32} {u : xS} : ∀ (n : Nat) (v2 : Int32) (v3 : Int32), f_X12_isWithin_2 u n v2 v3 = some r → xG sc mX12_isWithin d 0 0 (xR (some (.int r)) (xL0, u) 0 0) 0 0 2 [some (.ref 135), none, some (.int v2), some (.int v3)] [] (xL0, u) := by
  intro n
  induction n with
  | zero =>
    intro v2 v3 h
    rw [f_X12_isWithin_2] at h
    cases h
  | succ n ih =>
    intro v2 v3 h
    rw [f_X12_isWithin_2] at h
    refine g_iload_n (pc := 2) dX12_isWithin_2 rfl ?_
    refine g_if_lt (tgt := 20) (pc := 3) dX12_isWithin_3 (by decide) (fun c1 => ?_) (fun c1 => ?_)
    · replace h := (if_pos c1).symm.trans h
      refine g_L (L' := [none, none, some (.int v2), some (.int v3)]) ⟨rfl, ⟨rfl, trivial⟩⟩ ?_
      exact G_X12_isWithin_20 hd v2 v3 h
    · replace h := (if_neg c1).symm.trans h
      refine g_iload_n (pc := 6) dX12_isWithin_6 rfl ?_
      refine g_iload_n (pc := 7) dX12_isWithin_7 rfl ?_
      refine g_icmp_eq (tgt := 20) (pc := 8) dX12_isWithin_8 (by decide) (fun c2 => ?_) (fun c2 => ?_)
      · replace h := (if_pos c2).symm.trans h
        refine g_L (L' := [none, none, some (.int v2), some (.int v3)]) ⟨rfl, ⟨rfl, trivial⟩⟩ ?_
        exact G_X12_isWithin_20 hd v2 v3 h
      · replace h := (if_neg c2).symm.trans h
        refine g_aload_n (pc := 11) dX12_isWithin_11 rfl ?_
        refine g_iload_n (pc := 12) dX12_isWithin_12 rfl ?_
        obtain ⟨x4, e3, h⟩ := x_bind h
        refine g_cV (pc := 13) dX12_isWithin_13 cV_RX12_182 (M_X12_parent (Nat.le_refl _) e3) xc_135 (as := [.int v3]) (st := []) rfl rfl (Nat.le_of_ble_eq_true rfl) (Nat.le_trans (Nat.le_of_ble_eq_true rfl) hd) rfl ?_
        refine g_istore_n (pc := 16) dX12_isWithin_16 (Nat.le_of_ble_eq_true rfl) (L' := [some (.ref 135), none, some (.int v2), some (.int x4)]) rfl ?_
        refine g_goto (tgt := 2) (pc := 17) dX12_isWithin_17 (by decide) ?_
        exact ih v2 x4 h
set_option maxRecDepth 100000 in
set_option maxHeartbeats 4000000 in
theorem G_X12_isWithin_0 {sc : Nat × (Nat → Int32)} {d : Nat} (hd : 1 ≤ d) {r : Int32} {u : xS} (v1 : Int32) (v2 : Int32) (h : f_X12_isWithin u v1 v2 = some r) : xG sc mX12_isWithin d 0 0 (xR (some (.int r)) (xL0, u) 0 0) 0 0 0 [some (.ref 135), some (.int v1), some (.int v2), none] [] (xL0, u) := by
  rw [f_X12_isWithin] at h
  refine g_iload_n (pc := 0) dX12_isWithin_0 rfl ?_
  refine g_istore_n (pc := 1) dX12_isWithin_1 (Nat.le_of_ble_eq_true rfl) (L' := [some (.ref 135), some (.int v1), some (.int v2), some (.int v1)]) rfl ?_
  refine g_L (L' := [some (.ref 135), none, some (.int v2), some (.int v1)]) ⟨rfl, ⟨rfl, ⟨rfl, trivial⟩⟩⟩ ?_
  exact G_X12_isWithin_2 hd xN v2 v1 h
set_option maxRecDepth 100000 in
set_option maxHeartbeats 4000000 in
theorem M_X12_isWithin {sc : Nat × (Nat → Int32)} {d : Nat} (hd : 1 ≤ d) {r : Int32} {u : xS} {a1 : Int32} {a2 : Int32} (h : f_X12_isWithin u a1 a2 = some r) : xMt sc mX12_isWithin d 0 0 [.ref 135, .int a1, .int a2] (xL0, u) (some (.int r)) (xL0, u) :=
  xMt.of (by decide +kernel) (by decide +kernel) (Nat.le_of_ble_eq_true rfl) (L := [some (.ref 135), some (.int a1), some (.int a2), none]) rfl ((G_X12_isWithin_0 hd a1 a2 h))
