set_option maxRecDepth 100000 in
set_option maxHeartbeats 4000000 in
theorem G_X12_pack_190 {sc : Nat × (Nat → Int32)} {d : Nat} (hd : 2 ≤ d) {r : Int32} {u' : xS} (u : xS) (h : f_X12_pack_190 u = some (r, u')) : xG sc mX12_pack d 0 0 (xR (some (.int r)) (xL0, u') 0 0) 0 0 190 [some (.ref 135), none, none, none, none, none] [] (xL0, u) := by
  rw [f_X12_pack_190] at h
  refine g_aload_n (pc := 190) dX12_pack_190 rfl ?_
  refine g_gI (pc := 191) dX12_pack_191 fI_RX12_420 xc_135 (v := (rd u 135 54)) rfl ?_
  refine g_iconst (pc := 194) dX12_pack_194 ic_1 ?_
  refine g_isub (pc := 195) dX12_pack_195 rfl ?_
  obtain ⟨h1, h2⟩ := x_inj2 h
  subst h1
  subst h2
  exact g_iret (pc := 196) dX12_pack_196 rfl rfl rfl (Nat.le_refl _) (Nat.le_refl _)
set_option maxRecDepth 100000 in
set_option maxHeartbeats 4000000 in
theorem G_X12_pack_148 {sc : Nat × (Nat → Int32)} {d : Nat} (hd : 2 ≤ d) {r : Int32} {u' : xS} (v1 : Int32) (v2 : Int32) (v3 : Int32) (v4 : Int32) (s1 : Int32) (s2 : Int32) (u : xS) (h : f_X12_pack_148 v1 v2 v3 v4 s1 s2 u = some (r, u')) : xG sc mX12_pack d 0 0 (xR (some (.int r)) (xL0, u') 0 0) 0 0 148 [some (.ref 135), some (.int v1), some (.int v2), some (.int v3), some (.int v4), none] [.int s2, .int s1, .ref 176] (xL0, u) := by
  rw [f_X12_pack_148] at h
  obtain ⟨g1, h⟩ := x_gd h
  refine g_iastore (pc := 148) dX12_pack_148 xc_176 (xin_of g1) (u' := (wr u 176 s1.toNatClampNeg s2)) rfl ?_
  refine g_aload_n (pc := 149) dX12_pack_149 rfl ?_
  refine g_gR (pc := 150) dX12_pack_150 fR_RX12_138 xc_135 (v := 177) rfl ?_
  refine g_aload_n (pc := 153) dX12_pack_153 rfl ?_
  refine g_gI (pc := 154) dX12_pack_154 fI_RX12_420 xc_135 (v := (rd u 135 54)) rfl ?_
  refine g_iload (pc := 157) dX12_pack_157 rfl ?_
  obtain ⟨g2, h⟩ := x_gd h
  refine g_iastore (pc := 159) dX12_pack_159 xc_177 (xin_of g2) (u' := (wr (wr u 176 s1.toNatClampNeg s2) 177 (rd u 135 54).toNatClampNeg v4)) rfl ?_
  refine g_aload_n (pc := 160) dX12_pack_160 rfl ?_
  refine g_dup (pc := 161) dX12_pack_161 rfl ?_
  refine g_gI (pc := 162) dX12_pack_162 fI_RX12_420 xc_135 (v := (rd u 135 54)) rfl ?_
  refine g_iconst (pc := 165) dX12_pack_165 ic_1 ?_
  refine g_iadd (pc := 166) dX12_pack_166 rfl ?_
  refine g_pI (pc := 167) dX12_pack_167 pI_RX12_420 xc_135 (u' := (wr (wr (wr u 176 s1.toNatClampNeg s2) 177 (rd u 135 54).toNatClampNeg v4) 135 54 ((rd u 135 54) + (1 : Int32)))) rfl ?_
  refine g_aload_n (pc := 170) dX12_pack_170 rfl ?_
  refine g_iload_n (pc := 171) dX12_pack_171 rfl ?_
  refine g_iload_n (pc := 172) dX12_pack_172 rfl ?_
  refine g_iconst (pc := 173) dX12_pack_173 ic_m1 ?_
  obtain ⟨u4, e3, h⟩ := x_bind h
  refine g_cV (pc := 174) dX12_pack_174 cV_RX12_343 (M_X12_takesOf (Nat.le_refl _) e3) xc_135 (as := [.int v1, .int v2, .int (-1 : Int32)]) (st := []) rfl rfl (Nat.le_of_ble_eq_true rfl) (Nat.le_trans (Nat.le_of_ble_eq_true rfl) hd) rfl ?_
  refine g_iload (pc := 177) dX12_pack_177 rfl ?_
  refine g_if_le (tgt := 190) (pc := 179) dX12_pack_179 (by decide) (fun c5 => ?_) (fun c5 => ?_)
  · replace h := (if_pos c5).symm.trans h
    refine g_L (L' := [some (.ref 135), none, none, none, none, none]) ⟨rfl, trivial⟩ ?_
    exact G_X12_pack_190 hd u4 h
  · replace h := (if_neg c5).symm.trans h
    refine g_aload_n (pc := 182) dX12_pack_182 rfl ?_
    refine g_iload_n (pc := 183) dX12_pack_183 rfl ?_
    refine g_iload (pc := 184) dX12_pack_184 rfl ?_
    refine g_iconst (pc := 186) dX12_pack_186 ic_m1 ?_
    obtain ⟨u7, e6, h⟩ := x_bind h
    refine g_cV (pc := 187) dX12_pack_187 cV_RX12_343 (M_X12_takesOf (Nat.le_refl _) e6) xc_135 (as := [.int v3, .int v4, .int (-1 : Int32)]) (st := []) rfl rfl (Nat.le_of_ble_eq_true rfl) (Nat.le_trans (Nat.le_of_ble_eq_true rfl) hd) rfl ?_
    refine g_L (L' := [some (.ref 135), none, none, none, none, none]) ⟨rfl, trivial⟩ ?_
    exact G_X12_pack_190 hd u7 h
set_option maxRecDepth 100000 in
set_option maxHeartbeats 4000000 in
theorem G_X12_pack_101 {sc : Nat × (Nat → Int32)} {d : Nat} (hd : 2 ≤ d) {r : Int32} {u' : xS} (v1 : Int32) (v2 : Int32) (v3 : Int32) (v4 : Int32) (s0 : Int32) (u : xS) (h : f_X12_pack_101 v1 v2 v3 v4 s0 u = some (r, u')) : xG sc mX12_pack d 0 0 (xR (some (.int r)) (xL0, u') 0 0) 0 0 101 [some (.ref 135), some (.int v1), some (.int v2), some (.int v3), some (.int v4), none] [.int s0] (xL0, u) := by
  rw [f_X12_pack_101] at h
  refine g_istore (pc := 101) dX12_pack_101 (Nat.le_of_ble_eq_true rfl) (L' := [some (.ref 135), some (.int v1), some (.int v2), some (.int v3), some (.int v4), some (.int s0)]) rfl ?_
  refine g_iload (pc := 103) dX12_pack_103 rfl ?_
  refine g_if_ne (tgt := 110) (pc := 105) dX12_pack_105 (by decide) (fun c1 => ?_) (fun c1 => ?_)
  · replace h := (if_neg c1).symm.trans h
    refine g_aload_n (pc := 110) dX12_pack_110 rfl ?_
    refine g_gR (pc := 111) dX12_pack_111 fR_RX12_129 xc_135 (v := 174) rfl ?_
    refine g_aload_n (pc := 114) dX12_pack_114 rfl ?_
    refine g_gI (pc := 115) dX12_pack_115 fI_RX12_420 xc_135 (v := (rd u 135 54)) rfl ?_
    refine g_iload_n (pc := 118) dX12_pack_118 rfl ?_
    obtain ⟨g2, h⟩ := x_gd h
    refine g_iastore (pc := 119) dX12_pack_119 xc_174 (xin_of g2) (u' := (wr u 174 (rd u 135 54).toNatClampNeg v1)) rfl ?_
    refine g_aload_n (pc := 120) dX12_pack_120 rfl ?_
    refine g_gR (pc := 121) dX12_pack_121 fR_RX12_132 xc_135 (v := 175) rfl ?_
    refine g_aload_n (pc := 124) dX12_pack_124 rfl ?_
    refine g_gI (pc := 125) dX12_pack_125 fI_RX12_420 xc_135 (v := (rd u 135 54)) rfl ?_
    refine g_iload_n (pc := 128) dX12_pack_128 rfl ?_
    refine g_iastore (pc := 129) dX12_pack_129 xc_175 (xin_of g2) (u' := (wr (wr u 174 (rd u 135 54).toNatClampNeg v1) 175 (rd u 135 54).toNatClampNeg v2)) rfl ?_
    refine g_aload_n (pc := 130) dX12_pack_130 rfl ?_
    refine g_gR (pc := 131) dX12_pack_131 fR_RX12_135 xc_135 (v := 176) rfl ?_
    refine g_aload_n (pc := 134) dX12_pack_134 rfl ?_
    refine g_gI (pc := 135) dX12_pack_135 fI_RX12_420 xc_135 (v := (rd u 135 54)) rfl ?_
    refine g_iload (pc := 138) dX12_pack_138 rfl ?_
    refine g_if_ne (tgt := 147) (pc := 140) dX12_pack_140 (by decide) (fun c3 => ?_) (fun c3 => ?_)
    · replace h := (if_neg c3).symm.trans h
      refine g_iload_n (pc := 147) dX12_pack_147 rfl ?_
      refine g_L (L' := [some (.ref 135), some (.int v1), some (.int v2), some (.int v3), some (.int v4), none]) ⟨rfl, ⟨rfl, ⟨rfl, ⟨rfl, ⟨rfl, trivial⟩⟩⟩⟩⟩ ?_
      exact G_X12_pack_148 hd v1 v2 v3 v4 (rd u 135 54) v3 (wr (wr u 174 (rd u 135 54).toNatClampNeg v1) 175 (rd u 135 54).toNatClampNeg v2) h
    · replace h := (if_pos c3).symm.trans h
      refine g_iload_n (pc := 143) dX12_pack_143 rfl ?_
      refine g_goto (tgt := 148) (pc := 144) dX12_pack_144 (by decide) ?_
      refine g_L (L' := [some (.ref 135), some (.int v1), some (.int v2), some (.int v3), some (.int v4), none]) ⟨rfl, ⟨rfl, ⟨rfl, ⟨rfl, ⟨rfl, trivial⟩⟩⟩⟩⟩ ?_
      exact G_X12_pack_148 hd v1 v2 v3 v4 (rd u 135 54) v1 (wr (wr u 174 (rd u 135 54).toNatClampNeg v1) 175 (rd u 135 54).toNatClampNeg v2) h
  · replace h := (if_pos c1).symm.trans h
    refine g_iconst (pc := 108) dX12_pack_108 ic_m1 ?_
    obtain ⟨h1, h2⟩ := x_inj2 h
    subst h1
    subst h2
    exact g_iret (pc := 109) dX12_pack_109 rfl rfl rfl (Nat.le_refl _) (Nat.le_refl _)
set_option maxRecDepth 100000 in
set_option maxHeartbeats 4000000 in
theorem G_X12_pack_100 {sc : Nat × (Nat → Int32)} {d : Nat} (hd : 2 ≤ d) {r : Int32} {u' : xS} (v1 : Int32) (v2 : Int32) (v3 : Int32) (v4 : Int32) (u : xS) (h : f_X12_pack_100 v1 v2 v3 v4 u = some (r, u')) : xG sc mX12_pack d 0 0 (xR (some (.int r)) (xL0, u') 0 0) 0 0 100 [some (.ref 135), some (.int v1), some (.int v2), some (.int v3), some (.int v4), none] [] (xL0, u) := by
  rw [f_X12_pack_100] at h
  refine g_iconst (pc := 100) dX12_pack_100 ic_0 ?_
  exact G_X12_pack_101 hd v1 v2 v3 v4 (0 : Int32) u h
set_option maxRecDepth 100000 in
set_option maxHeartbeats 4000000 in
theorem G_X12_pack_96 {sc : Nat × (Nat → Int32)} {d : Nat} (hd : 2 ≤ d) {r : Int32} {u' : xS} (v1 : Int32) (v2 : Int32) (v3 : Int32) (v4 : Int32) (u : xS) (h : f_X12_pack_96 v1 v2 v3 v4 u = some (r, u')) : xG sc mX12_pack d 0 0 (xR (some (.int r)) (xL0, u') 0 0) 0 0 96 [some (.ref 135), some (.int v1), some (.int v2), some (.int v3), some (.int v4), none] [] (xL0, u) := by
  rw [f_X12_pack_96] at h
  refine g_iconst (pc := 96) dX12_pack_96 ic_1 ?_
  refine g_goto (tgt := 101) (pc := 97) dX12_pack_97 (by decide) ?_
  exact G_X12_pack_101 hd v1 v2 v3 v4 (1 : Int32) u h
set_option maxRecDepth 100000 in
set_option maxHeartbeats 4000000 in
theorem G_X12_pack_61 {sc : Nat × (Nat → Int32)} {d : Nat} (hd : 2 ≤ d) {r : Int32} {u' : xS} (v1 : Int32) (v2 : Int32) (v3 : Int32) (v4 : Int32) (s0 : Int32) (u : xS) (h : f_X12_pack_61 v1 v2 v3 v4 s0 u = some (r, u')) : xG sc mX12_pack d 0 0 (xR (some (.int r)) (xL0, u') 0 0) 0 0 61 [some (.ref 135), some (.int v1), some (.int v2), some (.int v3), some (.int v4), none] [.int s0] (xL0, u) := by
  rw [f_X12_pack_61] at h
  refine g_istore (pc := 61) dX12_pack_61 (Nat.le_of_ble_eq_true rfl) (L' := [some (.ref 135), some (.int v1), some (.int v2), some (.int v3), some (.int v4), some (.int s0)]) rfl ?_
  refine g_iload (pc := 63) dX12_pack_63 rfl ?_
  refine g_if_eq (tgt := 100) (pc := 65) dX12_pack_65 (by decide) (fun c1 => ?_) (fun c1 => ?_)
  · replace h := (if_pos c1).symm.trans h
    refine g_L (L' := [some (.ref 135), some (.int v1), some (.int v2), some (.int v3), some (.int v4), none]) ⟨rfl, ⟨rfl, ⟨rfl, ⟨rfl, ⟨rfl, trivial⟩⟩⟩⟩⟩ ?_
    exact G_X12_pack_100 hd v1 v2 v3 v4 u h
  · replace h := (if_neg c1).symm.trans h
    refine g_iload (pc := 68) dX12_pack_68 rfl ?_
    refine g_if_eq (tgt := 96) (pc := 70) dX12_pack_70 (by decide) (fun c2 => ?_) (fun c2 => ?_)
    · replace h := (if_pos c2).symm.trans h
      refine g_L (L' := [some (.ref 135), some (.int v1), some (.int v2), some (.int v3), some (.int v4), none]) ⟨rfl, ⟨rfl, ⟨rfl, ⟨rfl, ⟨rfl, trivial⟩⟩⟩⟩⟩ ?_
      exact G_X12_pack_96 hd v1 v2 v3 v4 u h
    · replace h := (if_neg c2).symm.trans h
      refine g_aload_n (pc := 73) dX12_pack_73 rfl ?_
      refine g_iload_n (pc := 74) dX12_pack_74 rfl ?_
      refine g_cV (pc := 75) dX12_pack_75 cV_RX12_166 (M_X12_isSort (Nat.le_refl _) rfl) xc_135 (as := [.int v3]) (st := []) rfl rfl (Nat.le_of_ble_eq_true rfl) (Nat.le_trans (Nat.le_of_ble_eq_true rfl) hd) rfl ?_
      refine g_if_eq (tgt := 100) (pc := 78) dX12_pack_78 (by decide) (fun c3 => ?_) (fun c3 => ?_)
      · replace h := (if_pos c3).symm.trans h
        refine g_L (L' := [some (.ref 135), some (.int v1), some (.int v2), some (.int v3), some (.int v4), none]) ⟨rfl, ⟨rfl, ⟨rfl, ⟨rfl, ⟨rfl, trivial⟩⟩⟩⟩⟩ ?_
        exact G_X12_pack_100 hd v1 v2 v3 v4 u h
      · replace h := (if_neg c3).symm.trans h
        refine g_iload_n (pc := 81) dX12_pack_81 rfl ?_
        refine g_iload_n (pc := 82) dX12_pack_82 rfl ?_
        refine g_icmp_eq (tgt := 100) (pc := 83) dX12_pack_83 (by decide) (fun c4 => ?_) (fun c4 => ?_)
        · replace h := (if_pos c4).symm.trans h
          refine g_L (L' := [some (.ref 135), some (.int v1), some (.int v2), some (.int v3), some (.int v4), none]) ⟨rfl, ⟨rfl, ⟨rfl, ⟨rfl, ⟨rfl, trivial⟩⟩⟩⟩⟩ ?_
          exact G_X12_pack_100 hd v1 v2 v3 v4 u h
        · replace h := (if_neg c4).symm.trans h
          refine g_aload_n (pc := 86) dX12_pack_86 rfl ?_
          refine g_iload_n (pc := 87) dX12_pack_87 rfl ?_
          obtain ⟨x6, e5, h⟩ := x_bind h
          refine g_cV (pc := 88) dX12_pack_88 cV_RX12_340 (M_X12_stored (Nat.le_refl _) e5) xc_135 (as := [.int v3]) (st := []) rfl rfl (Nat.le_of_ble_eq_true rfl) (Nat.le_trans (Nat.le_of_ble_eq_true rfl) hd) rfl ?_
          refine g_iload (pc := 91) dX12_pack_91 rfl ?_
          refine g_icmp_lt (tgt := 100) (pc := 93) dX12_pack_93 (by decide) (fun c7 => ?_) (fun c7 => ?_)
          · replace h := (if_pos c7).symm.trans h
            refine g_L (L' := [some (.ref 135), some (.int v1), some (.int v2), some (.int v3), some (.int v4), none]) ⟨rfl, ⟨rfl, ⟨rfl, ⟨rfl, ⟨rfl, trivial⟩⟩⟩⟩⟩ ?_
            exact G_X12_pack_100 hd v1 v2 v3 v4 u h
          · replace h := (if_neg c7).symm.trans h
            refine g_L (L' := [some (.ref 135), some (.int v1), some (.int v2), some (.int v3), some (.int v4), none]) ⟨rfl, ⟨rfl, ⟨rfl, ⟨rfl, ⟨rfl, trivial⟩⟩⟩⟩⟩ ?_
            exact G_X12_pack_96 hd v1 v2 v3 v4 u h
set_option maxRecDepth 100000 in
set_option maxHeartbeats 4000000 in
theorem G_X12_pack_60 {sc : Nat × (Nat → Int32)} {d : Nat} (hd : 2 ≤ d) {r : Int32} {u' : xS} (v1 : Int32) (v2 : Int32) (v3 : Int32) (v4 : Int32) (u : xS) (h : f_X12_pack_60 v1 v2 v3 v4 u = some (r, u')) : xG sc mX12_pack d 0 0 (xR (some (.int r)) (xL0, u') 0 0) 0 0 60 [some (.ref 135), some (.int v1), some (.int v2), some (.int v3), some (.int v4), none] [] (xL0, u) := by
  rw [f_X12_pack_60] at h
  refine g_iconst (pc := 60) dX12_pack_60 ic_0 ?_
  exact G_X12_pack_61 hd v1 v2 v3 v4 (0 : Int32) u h
set_option maxRecDepth 100000 in
set_option maxHeartbeats 4000000 in
theorem G_X12_pack_0 {sc : Nat × (Nat → Int32)} {d : Nat} (hd : 2 ≤ d) {r : Int32} {u' : xS} (v1 : Int32) (v2 : Int32) (v3 : Int32) (v4 : Int32) (u : xS) (h : f_X12_pack v1 v2 v3 v4 u = some (r, u')) : xG sc mX12_pack d 0 0 (xR (some (.int r)) (xL0, u') 0 0) 0 0 0 [some (.ref 135), some (.int v1), some (.int v2), some (.int v3), some (.int v4), none] [] (xL0, u) := by
  rw [f_X12_pack] at h
  refine g_aload_n (pc := 0) dX12_pack_0 rfl ?_
  refine g_iconst (pc := 1) dX12_pack_1 ic_0 ?_
  refine g_pI (pc := 2) dX12_pack_2 pI_RX12_150 xc_135 (u' := (wr u 135 0 (0 : Int32))) rfl ?_
  refine g_aload_n (pc := 5) dX12_pack_5 rfl ?_
  refine g_iload_n (pc := 6) dX12_pack_6 rfl ?_
  refine g_cV (pc := 7) dX12_pack_7 cV_RX12_166 (M_X12_isSort (Nat.le_refl _) rfl) xc_135 (as := [.int v1]) (st := []) rfl rfl (Nat.le_of_ble_eq_true rfl) (Nat.le_trans (Nat.le_of_ble_eq_true rfl) hd) rfl ?_
  refine g_if_eq (tgt := 60) (pc := 10) dX12_pack_10 (by decide) (fun c1 => ?_) (fun c1 => ?_)
  · replace h := (if_pos c1).symm.trans h
    exact G_X12_pack_60 hd v1 v2 v3 v4 (wr u 135 0 (0 : Int32)) h
  · replace h := (if_neg c1).symm.trans h
    refine g_iload_n (pc := 13) dX12_pack_13 rfl ?_
    refine g_i2l (pc := 14) dX12_pack_14 rfl ?_
    refine g_lconst (v := (1 : Int64)) (pc := 15) dX12_pack_15 rfl ?_
    refine g_ldc2 (pc := 16) dX12_pack_16 kl_RX12_201 ?_
    refine g_cS (pc := 19) dX12_pack_19 cS_RX12_156 (M_X12_in (Nat.le_refl _) rfl) (as := [.long ((v2).toInt64), .long (1 : Int64), .long (9999 : Int64)]) (st := []) rfl rfl (Nat.le_of_ble_eq_true rfl) (Nat.le_trans (Nat.le_of_ble_eq_true rfl) hd) rfl ?_
    refine g_if_eq (tgt := 60) (pc := 22) dX12_pack_22 (by decide) (fun c2 => ?_) (fun c2 => ?_)
    · replace h := (if_pos c2).symm.trans h
      exact G_X12_pack_60 hd v1 v2 v3 v4 (wr u 135 0 (0 : Int32)) h
    · replace h := (if_neg c2).symm.trans h
      refine g_iload (pc := 25) dX12_pack_25 rfl ?_
      refine g_i2l (pc := 27) dX12_pack_27 rfl ?_
      refine g_lconst (v := (0 : Int64)) (pc := 28) dX12_pack_28 rfl ?_
      refine g_ldc2 (pc := 29) dX12_pack_29 kl_RX12_201 ?_
      refine g_cS (pc := 32) dX12_pack_32 cS_RX12_156 (M_X12_in (Nat.le_refl _) rfl) (as := [.long ((v4).toInt64), .long (0 : Int64), .long (9999 : Int64)]) (st := []) rfl rfl (Nat.le_of_ble_eq_true rfl) (Nat.le_trans (Nat.le_of_ble_eq_true rfl) hd) rfl ?_
      refine g_if_eq (tgt := 60) (pc := 35) dX12_pack_35 (by decide) (fun c3 => ?_) (fun c3 => ?_)
      · replace h := (if_pos c3).symm.trans h
        exact G_X12_pack_60 hd v1 v2 v3 v4 (wr u 135 0 (0 : Int32)) h
      · replace h := (if_neg c3).symm.trans h
        refine g_aload_n (pc := 38) dX12_pack_38 rfl ?_
        refine g_iload_n (pc := 39) dX12_pack_39 rfl ?_
        obtain ⟨x5, e4, h⟩ := x_bind h
        refine g_cV (pc := 40) dX12_pack_40 cV_RX12_340 (M_X12_stored (Nat.le_refl _) e4) xc_135 (as := [.int v1]) (st := []) rfl rfl (Nat.le_of_ble_eq_true rfl) (Nat.le_trans (Nat.le_of_ble_eq_true rfl) hd) rfl ?_
        refine g_iload_n (pc := 43) dX12_pack_43 rfl ?_
        refine g_icmp_lt (tgt := 60) (pc := 44) dX12_pack_44 (by decide) (fun c6 => ?_) (fun c6 => ?_)
        · replace h := (if_pos c6).symm.trans h
          exact G_X12_pack_60 hd v1 v2 v3 v4 (wr u 135 0 (0 : Int32)) h
        · replace h := (if_neg c6).symm.trans h
          refine g_aload_n (pc := 47) dX12_pack_47 rfl ?_
          refine g_gI (pc := 48) dX12_pack_48 fI_RX12_420 xc_135 (v := (rd u 135 54)) rfl ?_
          refine g_bipush (pc := 51) dX12_pack_51 bp_8 ?_
          refine g_icmp_ge (tgt := 60) (pc := 53) dX12_pack_53 (by decide) (fun c7 => ?_) (fun c7 => ?_)
          · replace h := (if_pos c7).symm.trans h
            exact G_X12_pack_60 hd v1 v2 v3 v4 (wr u 135 0 (0 : Int32)) h
          · replace h := (if_neg c7).symm.trans h
            refine g_iconst (pc := 56) dX12_pack_56 ic_1 ?_
            refine g_goto (tgt := 61) (pc := 57) dX12_pack_57 (by decide) ?_
            exact G_X12_pack_61 hd v1 v2 v3 v4 (1 : Int32) (wr u 135 0 (0 : Int32)) h
set_option maxRecDepth 100000 in
set_option maxHeartbeats 4000000 in
theorem M_X12_pack {sc : Nat × (Nat → Int32)} {d : Nat} (hd : 2 ≤ d) {r : Int32} {u u' : xS} {a1 : Int32} {a2 : Int32} {a3 : Int32} {a4 : Int32} (h : f_X12_pack a1 a2 a3 a4 u = some (r, u')) : xMt sc mX12_pack d 0 0 [.ref 135, .int a1, .int a2, .int a3, .int a4] (xL0, u) (some (.int r)) (xL0, u') :=
  xMt.of (by decide +kernel) (by decide +kernel) (Nat.le_of_ble_eq_true rfl) (L := [some (.ref 135), some (.int a1), some (.int a2), some (.int a3), some (.int a4), none]) rfl ((G_X12_pack_0 hd a1 a2 a3 a4 u h))
set_option maxRecDepth 100000 in
set_option maxHeartbeats 4000000 in
theorem G_X12_part_0 {sc : Nat × (Nat → Int32)} {d : Nat} (hd : 2 ≤ d) {r : Int32} {u' : xS} (v1 : Int32) (v2 : Int32) (u : xS) (h : f_X12_part v1 v2 u = some (r, u')) : xG sc mX12_part d 0 0 (xR (some (.int r)) (xL0, u') 0 0) 0 0 0 [some (.ref 135), some (.int v1), some (.int v2)] [] (xL0, u) := by
  rw [f_X12_part] at h
  refine g_aload_n (pc := 0) dX12_part_0 rfl ?_
  refine g_iconst (pc := 1) dX12_part_1 ic_0 ?_
  refine g_pI (pc := 2) dX12_part_2 pI_RX12_150 xc_135 (u' := (wr u 135 0 (0 : Int32))) rfl ?_
  refine g_aload_n (pc := 5) dX12_part_5 rfl ?_
  refine g_iload_n (pc := 6) dX12_part_6 rfl ?_
  refine g_cV (pc := 7) dX12_part_7 cV_RX12_166 (M_X12_isSort (Nat.le_refl _) rfl) xc_135 (as := [.int v1]) (st := []) rfl rfl (Nat.le_of_ble_eq_true rfl) (Nat.le_trans (Nat.le_of_ble_eq_true rfl) hd) rfl ?_
  refine g_if_eq (tgt := 25) (pc := 10) dX12_part_10 (by decide) (fun c1 => ?_) (fun c1 => ?_)
  · replace h := (if_pos c1).symm.trans h
    refine g_iconst (pc := 25) dX12_part_25 ic_m1 ?_
    obtain ⟨h1, h2⟩ := x_inj2 h
    subst h1
    subst h2
    exact g_iret (pc := 26) dX12_part_26 rfl rfl rfl (Nat.le_refl _) (Nat.le_refl _)
  · replace h := (if_neg c1).symm.trans h
    refine g_iload_n (pc := 13) dX12_part_13 rfl ?_
    refine g_i2l (pc := 14) dX12_part_14 rfl ?_
    refine g_lconst (v := (0 : Int64)) (pc := 15) dX12_part_15 rfl ?_
    refine g_ldc2 (pc := 16) dX12_part_16 kl_RX12_354 ?_
    refine g_cS (pc := 19) dX12_part_19 cS_RX12_156 (M_X12_in (Nat.le_refl _) rfl) (as := [.long ((v2).toInt64), .long (0 : Int64), .long (12 : Int64)]) (st := []) rfl rfl (Nat.le_of_ble_eq_true rfl) (Nat.le_trans (Nat.le_of_ble_eq_true rfl) hd) rfl ?_
    refine g_if_ne (tgt := 27) (pc := 22) dX12_part_22 (by decide) (fun c2 => ?_) (fun c2 => ?_)
    · replace h := (if_neg c2).symm.trans h
      refine g_aload_n (pc := 27) dX12_part_27 rfl ?_
      refine g_gR (pc := 28) dX12_part_28 fR_RX12_87 xc_135 (v := 160) rfl ?_
      refine g_iload_n (pc := 31) dX12_part_31 rfl ?_
      refine g_iload_n (pc := 32) dX12_part_32 rfl ?_
      obtain ⟨g3, h⟩ := x_gd h
      refine g_iastore (pc := 33) dX12_part_33 xc_160 (xin_of g3) (u' := (wr (wr u 135 0 (0 : Int32)) 160 v1.toNatClampNeg v2)) rfl ?_
      refine g_aload_n (pc := 34) dX12_part_34 rfl ?_
      obtain ⟨x5, e4, h⟩ := x_bind h
      refine g_cV (pc := 35) dX12_part_35 cV_RX12_356 (M_X12_partsInAll (Nat.le_refl _) e4) xc_135 (as := []) (st := []) rfl rfl (Nat.le_of_ble_eq_true rfl) (Nat.le_trans (Nat.le_of_ble_eq_true rfl) hd) rfl ?_
      obtain ⟨h1, h2⟩ := x_inj2 h
      subst h1
      subst h2
      exact g_iret (pc := 38) dX12_part_38 rfl rfl rfl (Nat.le_refl _) (Nat.le_refl _)
    · replace h := (if_pos c2).symm.trans h
      refine g_iconst (pc := 25) dX12_part_25 ic_m1 ?_
      obtain ⟨h1, h2⟩ := x_inj2 h
      subst h1
      subst h2
      exact g_iret (pc := 26) dX12_part_26 rfl rfl rfl (Nat.le_refl _) (Nat.le_refl _)
set_option maxRecDepth 100000 in
set_option maxHeartbeats 4000000 in
theorem M_X12_part {sc : Nat × (Nat → Int32)} {d : Nat} (hd : 2 ≤ d) {r : Int32} {u u' : xS} {a1 : Int32} {a2 : Int32} (h : f_X12_part a1 a2 u = some (r, u')) : xMt sc mX12_part d 0 0 [.ref 135, .int a1, .int a2] (xL0, u) (some (.int r)) (xL0, u') :=
  xMt.of (by decide +kernel) (by decide +kernel) (Nat.le_of_ble_eq_true rfl) (L := [some (.ref 135), some (.int a1), some (.int a2)]) rfl ((G_X12_part_0 hd a1 a2 u h))
set_option maxRecDepth 100000 in
set_option maxHeartbeats 4000000 in
theorem G_X12_pay_132 {sc : Nat × (Nat → Int32)} {d : Nat} (hd : 5 ≤ d) {r : Int32} {u' : xS} (s1 : Int32) (s2 : Int32) (u : xS) (h : f_X12_pay_132 s1 s2 u = some (r, u')) : xG sc mX12_pay d 0 0 (xR (some (.int r)) (xL0, u') 0 0) 0 0 132 [some (.ref 135), none, none, none, none, none] [.int s2, .int s1, .ref 135] (xL0, u) := by
  rw [f_X12_pay_132] at h
  obtain ⟨u2, e1, h⟩ := x_bind h
  refine g_cV (pc := 132) dX12_pay_132 cV_RX12_243 (M_X12_says (Nat.le_refl _) e1) xc_135 (as := [.int s1, .int s2]) (st := []) rfl rfl (Nat.le_of_ble_eq_true rfl) (Nat.le_trans (Nat.le_of_ble_eq_true rfl) hd) rfl ?_
  refine g_aload_n (pc := 135) dX12_pay_135 rfl ?_
  refine g_bipush (pc := 136) dX12_pay_136 bp_10 ?_
  obtain ⟨⟨x4, u5⟩, e3, h⟩ := x_bind h
  dsimp only at h
  refine g_cV (pc := 138) dX12_pay_138 cV_RX12_247 (M_X12_value (Nat.le_refl _) e3) xc_135 (as := [.int (10 : Int32)]) (st := []) rfl rfl (Nat.le_of_ble_eq_true rfl) (Nat.le_trans (Nat.le_of_ble_eq_true rfl) hd) rfl ?_
  obtain ⟨h1, h2⟩ := x_inj2 h
  subst h1
  subst h2
  exact g_iret (pc := 141) dX12_pay_141 rfl rfl rfl (Nat.le_refl _) (Nat.le_refl _)
set_option maxRecDepth 100000 in
set_option maxHeartbeats 4000000 in
theorem G_X12_pay_77 {sc : Nat × (Nat → Int32)} {d : Nat} (hd : 5 ≤ d) {r : Int32} {u' : xS} {k36 : Int32 → Int32 → Int32 → Int32 → Int32 → xS → Option (Int32 × xS)} (hk36 : ∀ (v1 : Int32) (v2 : Int32) (v3 : Int32) (v4 : Int32) (v5 : Int32) (u : xS), k36 v1 v2 v3 v4 v5 u = some (r, u') → xG sc mX12_pay d 0 0 (xR (some (.int r)) (xL0, u') 0 0) 0 0 36 [some (.ref 135), some (.int v1), some (.int v2), some (.int v3), some (.int v4), some (.int v5)] [] (xL0, u)) (v1 : Int32) (v2 : Int32) (v3 : Int32) (v4 : Int32) (v5 : Int32) (u : xS) (h : f_X12_pay_77 k36 v1 v2 v3 v4 v5 u = some (r, u')) : xG sc mX12_pay d 0 0 (xR (some (.int r)) (xL0, u') 0 0) 0 0 77 [some (.ref 135), some (.int v1), some (.int v2), some (.int v3), some (.int v4), some (.int v5)] [] (xL0, u) := by
  rw [f_X12_pay_77] at h
  refine g_inc (pc := 77) dX12_pay_77 (Nat.le_of_ble_eq_true rfl) rfl ic_1 (L' := [some (.ref 135), some (.int v1), some (.int v2), some (.int v3), some (.int v4), some (.int (v5 + (1 : Int32)))]) rfl ?_
  refine g_goto (tgt := 36) (pc := 80) dX12_pay_80 (by decide) ?_
  exact hk36 v1 v2 v3 v4 (v5 + (1 : Int32)) u h
set_option maxRecDepth 100000 in
set_option maxHeartbeats 4000000 in
theorem G_X12_pay_36 {sc : Nat × (Nat → Int32)} {d : Nat} (hd : 5 ≤ d) {r : Int32} {u' : xS} : ∀ (n : Nat) (v1 : Int32) (v2 : Int32) (v3 : Int32) (v4 : Int32) (v5 : Int32) (u : xS), f_X12_pay_36 n v1 v2 v3 v4 v5 u = some (r, u') → xG sc mX12_pay d 0 0 (xR (some (.int r)) (xL0, u') 0 0) 0 0 36 [some (.ref 135), some (.int v1), some (.int v2), some (.int v3), some (.int v4), some (.int v5)] [] (xL0, u) := by
  intro n
  induction n with
  | zero =>
    intro v1 v2 v3 v4 v5 u h
    rw [f_X12_pay_36] at h
    cases h
  | succ n ih =>
    intro v1 v2 v3 v4 v5 u h
    rw [f_X12_pay_36] at h
    refine g_iload (pc := 36) dX12_pay_36 rfl ?_
    refine g_aload_n (pc := 38) dX12_pay_38 rfl ?_
    refine g_gI (pc := 39) dX12_pay_39 fI_RX12_194 xc_135 (v := (rd u 135 7)) rfl ?_
    refine g_icmp_ge (tgt := 83) (pc := 42) dX12_pay_42 (by decide) (fun c1 => ?_) (fun c1 => ?_)
    · replace h := (if_pos c1).symm.trans h
      refine g_aload_n (pc := 83) dX12_pay_83 rfl ?_
      refine g_iload_n (pc := 84) dX12_pay_84 rfl ?_
      obtain ⟨x3, e2, h⟩ := x_bind h
      refine g_cV (pc := 85) dX12_pay_85 cV_RX12_337 (M_X12_eyeOf (Nat.le_refl _) e2) xc_135 (as := [.int v1]) (st := []) rfl rfl (Nat.le_of_ble_eq_true rfl) (Nat.le_trans (Nat.le_of_ble_eq_true rfl) hd) rfl ?_
      refine g_istore (pc := 88) dX12_pay_88 (Nat.le_of_ble_eq_true rfl) (L' := [some (.ref 135), some (.int v1), some (.int v2), some (.int v3), some (.int v4), some (.int x3)]) rfl ?_
      refine g_aload_n (pc := 90) dX12_pay_90 rfl ?_
      obtain ⟨u5, e4, h⟩ := x_bind h
      refine g_cV (pc := 91) dX12_pay_91 cV_RX12_235 (M_X12_hush (Nat.le_refl _) e4) xc_135 (as := []) (st := []) rfl rfl (Nat.le_of_ble_eq_true rfl) (Nat.le_trans (Nat.le_of_ble_eq_true rfl) hd) rfl ?_
      refine g_aload_n (pc := 94) dX12_pay_94 rfl ?_
      refine g_bipush (pc := 95) dX12_pay_95 bp_112 ?_
      refine g_iload_n (pc := 97) dX12_pay_97 rfl ?_
      obtain ⟨u7, e6, h⟩ := x_bind h
      refine g_cV (pc := 98) dX12_pay_98 cV_RX12_243 (M_X12_says (Nat.le_refl _) e6) xc_135 (as := [.int (112 : Int32), .int v2]) (st := []) rfl rfl (Nat.le_of_ble_eq_true rfl) (Nat.le_trans (Nat.le_of_ble_eq_true rfl) hd) rfl ?_
      refine g_aload_n (pc := 101) dX12_pay_101 rfl ?_
      refine g_bipush (pc := 102) dX12_pay_102 bp_122 ?_
      refine g_iload_n (pc := 104) dX12_pay_104 rfl ?_
      obtain ⟨u9, e8, h⟩ := x_bind h
      refine g_cV (pc := 105) dX12_pay_105 cV_RX12_243 (M_X12_says (Nat.le_refl _) e8) xc_135 (as := [.int (122 : Int32), .int v3]) (st := []) rfl rfl (Nat.le_of_ble_eq_true rfl) (Nat.le_trans (Nat.le_of_ble_eq_true rfl) hd) rfl ?_
      refine g_aload_n (pc := 108) dX12_pay_108 rfl ?_
      refine g_bipush (pc := 109) dX12_pay_109 bp_110 ?_
      refine g_iload (pc := 111) dX12_pay_111 rfl ?_
      obtain ⟨u11, e10, h⟩ := x_bind h
      refine g_cV (pc := 113) dX12_pay_113 cV_RX12_243 (M_X12_says (Nat.le_refl _) e10) xc_135 (as := [.int (110 : Int32), .int v4]) (st := []) rfl rfl (Nat.le_of_ble_eq_true rfl) (Nat.le_trans (Nat.le_of_ble_eq_true rfl) hd) rfl ?_
      refine g_aload_n (pc := 116) dX12_pay_116 rfl ?_
      refine g_bipush (pc := 117) dX12_pay_117 bp_101 ?_
      refine g_iload (pc := 119) dX12_pay_119 rfl ?_
      refine g_if_ge (tgt := 130) (pc := 121) dX12_pay_121 (by decide) (fun c12 => ?_) (fun c12 => ?_)
      · replace h := (if_pos c12).symm.trans h
        refine g_iload (pc := 130) dX12_pay_130 rfl ?_
        refine g_L (L' := [some (.ref 135), none, none, none, none, none]) ⟨rfl, trivial⟩ ?_
        exact G_X12_pay_132 hd (101 : Int32) x3 u11 h
      · replace h := (if_neg c12).symm.trans h
        refine g_sipush (pc := 124) dX12_pay_124 sp_1000 ?_
        refine g_goto (tgt := 132) (pc := 127) dX12_pay_127 (by decide) ?_
        refine g_L (L' := [some (.ref 135), none, none, none, none, none]) ⟨rfl, trivial⟩ ?_
        exact G_X12_pay_132 hd (101 : Int32) (1000 : Int32) u11 h
    · replace h := (if_neg c1).symm.trans h
      refine g_aload_n (pc := 45) dX12_pay_45 rfl ?_
      refine g_gR (pc := 46) dX12_pay_46 fR_RX12_34 xc_135 (v := 144) rfl ?_
      refine g_iload (pc := 49) dX12_pay_49 rfl ?_
      obtain ⟨g13, h⟩ := x_gd h
      refine g_iaload (pc := 51) dX12_pay_51 xc_144 (xin_of g13) (v := (rd u 144 v5.toNatClampNeg)) rfl ?_
      refine g_iload_n (pc := 52) dX12_pay_52 rfl ?_
      refine g_icmp_ne (tgt := 77) (pc := 53) dX12_pay_53 (by decide) (fun c14 => ?_) (fun c14 => ?_)
      · replace h := (if_neg c14).symm.trans h
        exact G_X12_pay_77 hd ih v1 v2 v3 v4 v5 u h
      · replace h := (if_pos c14).symm.trans h
        refine g_iload_n (pc := 56) dX12_pay_56 rfl ?_
        refine g_aload_n (pc := 57) dX12_pay_57 rfl ?_
        refine g_iload (pc := 58) dX12_pay_58 rfl ?_
        obtain ⟨x16, e15, h⟩ := x_bind h
        refine g_cV (pc := 60) dX12_pay_60 cV_RX12_220 (M_X12_found (Nat.le_refl _) e15) xc_135 (as := [.int v5]) (st := [.int v2]) rfl rfl (Nat.le_of_ble_eq_true rfl) (Nat.le_trans (Nat.le_of_ble_eq_true rfl) hd) rfl ?_
        refine g_iadd (pc := 63) dX12_pay_63 rfl ?_
        refine g_istore_n (pc := 64) dX12_pay_64 (Nat.le_of_ble_eq_true rfl) (L' := [some (.ref 135), some (.int v1), some (.int (v2 + x16)), some (.int v3), some (.int v4), some (.int v5)]) rfl ?_
        refine g_iload_n (pc := 65) dX12_pay_65 rfl ?_
        refine g_aload_n (pc := 66) dX12_pay_66 rfl ?_
        refine g_iload (pc := 67) dX12_pay_67 rfl ?_
        obtain ⟨x18, e17, h⟩ := x_bind h
        refine g_cV (pc := 69) dX12_pay_69 cV_RX12_217 (M_X12_dust (Nat.le_refl _) e17) xc_135 (as := [.int v5]) (st := [.int v3]) rfl rfl (Nat.le_of_ble_eq_true rfl) (Nat.le_trans (Nat.le_of_ble_eq_true rfl) hd) rfl ?_
        refine g_iadd (pc := 72) dX12_pay_72 rfl ?_
        refine g_istore_n (pc := 73) dX12_pay_73 (Nat.le_of_ble_eq_true rfl) (L' := [some (.ref 135), some (.int v1), some (.int (v2 + x16)), some (.int (v3 + x18)), some (.int v4), some (.int v5)]) rfl ?_
        refine g_inc (pc := 74) dX12_pay_74 (Nat.le_of_ble_eq_true rfl) rfl ic_1 (L' := [some (.ref 135), some (.int v1), some (.int (v2 + x16)), some (.int (v3 + x18)), some (.int (v4 + (1 : Int32))), some (.int v5)]) rfl ?_
        exact G_X12_pay_77 hd ih v1 (v2 + x16) (v3 + x18) (v4 + (1 : Int32)) v5 u h
set_option maxRecDepth 100000 in
set_option maxHeartbeats 4000000 in
theorem G_X12_pay_0 {sc : Nat × (Nat → Int32)} {d : Nat} (hd : 5 ≤ d) {r : Int32} {u' : xS} (v1 : Int32) (u : xS) (h : f_X12_pay v1 u = some (r, u')) : xG sc mX12_pay d 0 0 (xR (some (.int r)) (xL0, u') 0 0) 0 0 0 [some (.ref 135), some (.int v1), none, none, none, none] [] (xL0, u) := by
  rw [f_X12_pay] at h
  refine g_aload_n (pc := 0) dX12_pay_0 rfl ?_
  refine g_iconst (pc := 1) dX12_pay_1 ic_0 ?_
  refine g_pI (pc := 2) dX12_pay_2 pI_RX12_150 xc_135 (u' := (wr u 135 0 (0 : Int32))) rfl ?_
  refine g_iload_n (pc := 5) dX12_pay_5 rfl ?_
  refine g_cS (pc := 6) dX12_pay_6 cS_RX12_208 (M_X12_isSorter (Nat.le_refl _) rfl) (as := [.int v1]) (st := []) rfl rfl (Nat.le_of_ble_eq_true rfl) (Nat.le_trans (Nat.le_of_ble_eq_true rfl) hd) rfl ?_
  refine g_if_ne (tgt := 14) (pc := 9) dX12_pay_9 (by decide) (fun c1 => ?_) (fun c1 => ?_)
  · replace h := (if_neg c1).symm.trans h
    refine g_aload_n (pc := 14) dX12_pay_14 rfl ?_
    refine g_gR (pc := 15) dX12_pay_15 fR_RX12_68 xc_135 (v := 154) rfl ?_
    refine g_bipush (pc := 18) dX12_pay_18 bp_10 ?_
    refine g_baload (pc := 20) dX12_pay_20 xc_154 vin_10_12 (v := (rd u 154 10)) rfl ?_
    refine g_if_ne (tgt := 26) (pc := 21) dX12_pay_21 (by decide) (fun c2 => ?_) (fun c2 => ?_)
    · replace h := (if_neg c2).symm.trans h
      refine g_iconst (pc := 26) dX12_pay_26 ic_0 ?_
      refine g_istore_n (pc := 27) dX12_pay_27 (Nat.le_of_ble_eq_true rfl) (L' := [some (.ref 135), some (.int v1), some (.int (0 : Int32)), none, none, none]) rfl ?_
      refine g_iconst (pc := 28) dX12_pay_28 ic_0 ?_
      refine g_istore_n (pc := 29) dX12_pay_29 (Nat.le_of_ble_eq_true rfl) (L' := [some (.ref 135), some (.int v1), some (.int (0 : Int32)), some (.int (0 : Int32)), none, none]) rfl ?_
      refine g_iconst (pc := 30) dX12_pay_30 ic_0 ?_
      refine g_istore (pc := 31) dX12_pay_31 (Nat.le_of_ble_eq_true rfl) (L' := [some (.ref 135), some (.int v1), some (.int (0 : Int32)), some (.int (0 : Int32)), some (.int (0 : Int32)), none]) rfl ?_
      refine g_iconst (pc := 33) dX12_pay_33 ic_0 ?_
      refine g_istore (pc := 34) dX12_pay_34 (Nat.le_of_ble_eq_true rfl) (L' := [some (.ref 135), some (.int v1), some (.int (0 : Int32)), some (.int (0 : Int32)), some (.int (0 : Int32)), some (.int (0 : Int32))]) rfl ?_
      exact G_X12_pay_36 hd xN v1 (0 : Int32) (0 : Int32) (0 : Int32) (0 : Int32) (wr u 135 0 (0 : Int32)) h
    · replace h := (if_pos c2).symm.trans h
      refine g_iconst (pc := 24) dX12_pay_24 ic_0 ?_
      obtain ⟨h1, h2⟩ := x_inj2 h
      subst h1
      subst h2
      exact g_iret (pc := 25) dX12_pay_25 rfl rfl rfl (Nat.le_refl _) (Nat.le_refl _)
  · replace h := (if_pos c1).symm.trans h
    refine g_iconst (pc := 12) dX12_pay_12 ic_m1 ?_
    obtain ⟨h1, h2⟩ := x_inj2 h
    subst h1
    subst h2
    exact g_iret (pc := 13) dX12_pay_13 rfl rfl rfl (Nat.le_refl _) (Nat.le_refl _)
set_option maxRecDepth 100000 in
set_option maxHeartbeats 4000000 in
theorem M_X12_pay {sc : Nat × (Nat → Int32)} {d : Nat} (hd : 5 ≤ d) {r : Int32} {u u' : xS} {a1 : Int32} (h : f_X12_pay a1 u = some (r, u')) : xMt sc mX12_pay d 0 0 [.ref 135, .int a1] (xL0, u) (some (.int r)) (xL0, u') :=
  xMt.of (by decide +kernel) (by decide +kernel) (Nat.le_of_ble_eq_true rfl) (L := [some (.ref 135), some (.int a1), none, none, none, none]) rfl ((G_X12_pay_0 hd a1 u h))
set_option maxRecDepth 100000 in
set_option maxHeartbeats 4000000 in
theorem G_X12_price_0 {sc : Nat × (Nat → Int32)} {d : Nat} (hd : 2 ≤ d) {r : Int32} {u' : xS} (v1 : Int32) (v2 : Int32) (v3 : Int32) (u : xS) (h : f_X12_price v1 v2 v3 u = some (r, u')) : xG sc mX12_price d 0 0 (xR (some (.int r)) (xL0, u') 0 0) 0 0 0 [some (.ref 135), some (.int v1), some (.int v2), some (.int v3)] [] (xL0, u) := by
  rw [f_X12_price] at h
  refine g_aload_n (pc := 0) dX12_price_0 rfl ?_
  refine g_iconst (pc := 1) dX12_price_1 ic_0 ?_
  refine g_pI (pc := 2) dX12_price_2 pI_RX12_150 xc_135 (u' := (wr u 135 0 (0 : Int32))) rfl ?_
  refine g_aload_n (pc := 5) dX12_price_5 rfl ?_
  refine g_iload_n (pc := 6) dX12_price_6 rfl ?_
  refine g_cV (pc := 7) dX12_price_7 cV_RX12_166 (M_X12_isSort (Nat.le_refl _) rfl) xc_135 (as := [.int v1]) (st := []) rfl rfl (Nat.le_of_ble_eq_true rfl) (Nat.le_trans (Nat.le_of_ble_eq_true rfl) hd) rfl ?_
  refine g_if_eq (tgt := 41) (pc := 10) dX12_price_10 (by decide) (fun c1 => ?_) (fun c1 => ?_)
  · replace h := (if_pos c1).symm.trans h
    refine g_iconst (pc := 41) dX12_price_41 ic_m1 ?_
    obtain ⟨h1, h2⟩ := x_inj2 h
    subst h1
    subst h2
    exact g_iret (pc := 42) dX12_price_42 rfl rfl rfl (Nat.le_refl _) (Nat.le_refl _)
  · replace h := (if_neg c1).symm.trans h
    refine g_iload_n (pc := 13) dX12_price_13 rfl ?_
    refine g_cS (pc := 14) dX12_price_14 cS_RX12_170 (M_X12_isWeek (Nat.le_refl _) rfl) (as := [.int v2]) (st := []) rfl rfl (Nat.le_of_ble_eq_true rfl) (Nat.le_trans (Nat.le_of_ble_eq_true rfl) hd) rfl ?_
    refine g_if_eq (tgt := 41) (pc := 17) dX12_price_17 (by decide) (fun c2 => ?_) (fun c2 => ?_)
    · replace h := (if_pos c2).symm.trans h
      refine g_iconst (pc := 41) dX12_price_41 ic_m1 ?_
      obtain ⟨h1, h2⟩ := x_inj2 h
      subst h1
      subst h2
      exact g_iret (pc := 42) dX12_price_42 rfl rfl rfl (Nat.le_refl _) (Nat.le_refl _)
    · replace h := (if_neg c2).symm.trans h
      refine g_iload_n (pc := 20) dX12_price_20 rfl ?_
      refine g_i2l (pc := 21) dX12_price_21 rfl ?_
      refine g_lconst (v := (0 : Int64)) (pc := 22) dX12_price_22 rfl ?_
      refine g_ldc2 (pc := 23) dX12_price_23 kl_RX12_173 ?_
      refine g_cS (pc := 26) dX12_price_26 cS_RX12_156 (M_X12_in (Nat.le_refl _) rfl) (as := [.long ((v3).toInt64), .long (0 : Int64), .long (999 : Int64)]) (st := []) rfl rfl (Nat.le_of_ble_eq_true rfl) (Nat.le_trans (Nat.le_of_ble_eq_true rfl) hd) rfl ?_
      refine g_if_eq (tgt := 41) (pc := 29) dX12_price_29 (by decide) (fun c3 => ?_) (fun c3 => ?_)
      · replace h := (if_pos c3).symm.trans h
        refine g_iconst (pc := 41) dX12_price_41 ic_m1 ?_
        obtain ⟨h1, h2⟩ := x_inj2 h
        subst h1
        subst h2
        exact g_iret (pc := 42) dX12_price_42 rfl rfl rfl (Nat.le_refl _) (Nat.le_refl _)
      · replace h := (if_neg c3).symm.trans h
        refine g_aload_n (pc := 32) dX12_price_32 rfl ?_
        refine g_gI (pc := 33) dX12_price_33 fI_RX12_175 xc_135 (v := (rd u 135 3)) rfl ?_
        refine g_bipush (pc := 36) dX12_price_36 bp_60 ?_
        refine g_icmp_ne (tgt := 43) (pc := 38) dX12_price_38 (by decide) (fun c4 => ?_) (fun c4 => ?_)
        · replace h := (if_neg c4).symm.trans h
          refine g_aload_n (pc := 43) dX12_price_43 rfl ?_
          refine g_gR (pc := 44) dX12_price_44 fR_RX12_13 xc_135 (v := 137) rfl ?_
          refine g_aload_n (pc := 47) dX12_price_47 rfl ?_
          refine g_gI (pc := 48) dX12_price_48 fI_RX12_175 xc_135 (v := (rd u 135 3)) rfl ?_
          refine g_iload_n (pc := 51) dX12_price_51 rfl ?_
          obtain ⟨g5, h⟩ := x_gd h
          refine g_iastore (pc := 52) dX12_price_52 xc_137 (xin_of g5) (u' := (wr (wr u 135 0 (0 : Int32)) 137 (rd u 135 3).toNatClampNeg v1)) rfl ?_
          refine g_aload_n (pc := 53) dX12_price_53 rfl ?_
          refine g_gR (pc := 54) dX12_price_54 fR_RX12_16 xc_135 (v := 138) rfl ?_
          refine g_aload_n (pc := 57) dX12_price_57 rfl ?_
          refine g_gI (pc := 58) dX12_price_58 fI_RX12_175 xc_135 (v := (rd u 135 3)) rfl ?_
          refine g_iload_n (pc := 61) dX12_price_61 rfl ?_
          refine g_iastore (pc := 62) dX12_price_62 xc_138 (xin_of g5) (u' := (wr (wr (wr u 135 0 (0 : Int32)) 137 (rd u 135 3).toNatClampNeg v1) 138 (rd u 135 3).toNatClampNeg v2)) rfl ?_
          refine g_aload_n (pc := 63) dX12_price_63 rfl ?_
          refine g_gR (pc := 64) dX12_price_64 fR_RX12_19 xc_135 (v := 139) rfl ?_
          refine g_aload_n (pc := 67) dX12_price_67 rfl ?_
          refine g_gI (pc := 68) dX12_price_68 fI_RX12_175 xc_135 (v := (rd u 135 3)) rfl ?_
          refine g_iload_n (pc := 71) dX12_price_71 rfl ?_
          refine g_iastore (pc := 72) dX12_price_72 xc_139 (xin_of g5) (u' := (wr (wr (wr (wr u 135 0 (0 : Int32)) 137 (rd u 135 3).toNatClampNeg v1) 138 (rd u 135 3).toNatClampNeg v2) 139 (rd u 135 3).toNatClampNeg v3)) rfl ?_
          refine g_aload_n (pc := 73) dX12_price_73 rfl ?_
          refine g_dup (pc := 74) dX12_price_74 rfl ?_
          refine g_gI (pc := 75) dX12_price_75 fI_RX12_175 xc_135 (v := (rd u 135 3)) rfl ?_
          refine g_iconst (pc := 78) dX12_price_78 ic_1 ?_
          refine g_iadd (pc := 79) dX12_price_79 rfl ?_
          refine g_pI (pc := 80) dX12_price_80 pI_RX12_175 xc_135 (u' := (wr (wr (wr (wr (wr u 135 0 (0 : Int32)) 137 (rd u 135 3).toNatClampNeg v1) 138 (rd u 135 3).toNatClampNeg v2) 139 (rd u 135 3).toNatClampNeg v3) 135 3 ((rd u 135 3) + (1 : Int32)))) rfl ?_
          refine g_aload_n (pc := 83) dX12_price_83 rfl ?_
          refine g_gI (pc := 84) dX12_price_84 fI_RX12_175 xc_135 (v := ((rd u 135 3) + (1 : Int32))) rfl ?_
          obtain ⟨h1, h2⟩ := x_inj2 h
          subst h1
          subst h2
          exact g_iret (pc := 87) dX12_price_87 rfl rfl rfl (Nat.le_refl _) (Nat.le_refl _)
        · replace h := (if_pos c4).symm.trans h
          refine g_iconst (pc := 41) dX12_price_41 ic_m1 ?_
          obtain ⟨h1, h2⟩ := x_inj2 h
          subst h1
          subst h2
          exact g_iret (pc := 42) dX12_price_42 rfl rfl rfl (Nat.le_refl _) (Nat.le_refl _)
set_option maxRecDepth 100000 in
set_option maxHeartbeats 4000000 in
theorem M_X12_price {sc : Nat × (Nat → Int32)} {d : Nat} (hd : 2 ≤ d) {r : Int32} {u u' : xS} {a1 : Int32} {a2 : Int32} {a3 : Int32} (h : f_X12_price a1 a2 a3 u = some (r, u')) : xMt sc mX12_price d 0 0 [.ref 135, .int a1, .int a2, .int a3] (xL0, u) (some (.int r)) (xL0, u') :=
  xMt.of (by decide +kernel) (by decide +kernel) (Nat.le_of_ble_eq_true rfl) (L := [some (.ref 135), some (.int a1), some (.int a2), some (.int a3)]) rfl ((G_X12_price_0 hd a1 a2 a3 u h))
set_option maxRecDepth 100000 in
set_option maxHeartbeats 4000000 in
theorem G_X12_refuse_0 {sc : Nat × (Nat → Int32)} {d : Nat} (hd : 0 ≤ d) {r : Int32} {u' : xS} (u : xS) (h : f_X12_refuse u = some (r, u')) : xG sc mX12_refuse d 0 0 (xR (some (.int r)) (xL0, u') 0 0) 0 0 0 [some (.ref 135)] [] (xL0, u) := by
  rw [f_X12_refuse] at h
  refine g_aload_n (pc := 0) dX12_refuse_0 rfl ?_
  refine g_iconst (pc := 1) dX12_refuse_1 ic_1 ?_
  refine g_pI (pc := 2) dX12_refuse_2 pI_RX12_150 xc_135 (u' := (wr u 135 0 (1 : Int32))) rfl ?_
  refine g_iconst (pc := 5) dX12_refuse_5 ic_0 ?_
  obtain ⟨h1, h2⟩ := x_inj2 h
  subst h1
  subst h2
  exact g_iret (pc := 6) dX12_refuse_6 rfl rfl rfl (Nat.le_refl _) (Nat.le_refl _)
set_option maxRecDepth 100000 in
set_option maxHeartbeats 4000000 in
theorem M_X12_refuse {sc : Nat × (Nat → Int32)} {d : Nat} (hd : 0 ≤ d) {r : Int32} {u u' : xS} (h : f_X12_refuse u = some (r, u')) : xMt sc mX12_refuse d 0 0 [.ref 135] (xL0, u) (some (.int r)) (xL0, u') :=
  xMt.of (by decide +kernel) (by decide +kernel) (Nat.le_of_ble_eq_true rfl) (L := [some (.ref 135)]) rfl ((G_X12_refuse_0 hd u h))
set_option maxRecDepth 100000 in
set_option maxHeartbeats 4000000 in
theorem G_X12_ring_149 {sc : Nat × (Nat → Int32)} {d : Nat} (hd : 2 ≤ d) {r : Int32} {u' : xS} {k129 : Int32 → xS → Option (Int32 × xS)} (hk129 : ∀ (v3 : Int32) (u : xS), k129 v3 u = some (r, u') → xG sc mX12_ring d 0 0 (xR (some (.int r)) (xL0, u') 0 0) 0 0 129 [some (.ref 135), none, none, some (.int v3)] [] (xL0, u)) (v3 : Int32) (u : xS) (h : f_X12_ring_149 k129 v3 u = some (r, u')) : xG sc mX12_ring d 0 0 (xR (some (.int r)) (xL0, u') 0 0) 0 0 149 [some (.ref 135), none, none, some (.int v3)] [] (xL0, u) := by
  rw [f_X12_ring_149] at h
  refine g_inc (pc := 149) dX12_ring_149 (Nat.le_of_ble_eq_true rfl) rfl ic_1 (L' := [some (.ref 135), none, none, some (.int (v3 + (1 : Int32)))]) rfl ?_
  refine g_goto (tgt := 129) (pc := 152) dX12_ring_152 (by decide) ?_
  exact hk129 (v3 + (1 : Int32)) u h
set_option maxRecDepth 100000 in
set_option maxHeartbeats 4000000 in
theorem G_X12_ring_129 {sc : Nat × (Nat → Int32)} {d : Nat} (hd : 2 ≤ d) {r : Int32} {u' : xS} : ∀ (n : Nat) (v3 : Int32) (u : xS), f_X12_ring_129 n v3 u = some (r, u') → xG sc mX12_ring d 0 0 (xR (some (.int r)) (xL0, u') 0 0) 0 0 129 [some (.ref 135), none, none, some (.int v3)] [] (xL0, u) := by
  intro n
  induction n with
  | zero =>
    intro v3 u h
    rw [f_X12_ring_129] at h
    cases h
  | succ n ih =>
    intro v3 u h
    rw [f_X12_ring_129] at h
    refine g_iload_n (pc := 129) dX12_ring_129 rfl ?_
    refine g_bipush (pc := 130) dX12_ring_130 bp_6 ?_
    refine g_icmp_ge (tgt := 155) (pc := 132) dX12_ring_132 (by decide) (fun c1 => ?_) (fun c1 => ?_)
    · replace h := (if_pos c1).symm.trans h
      refine g_aload_n (pc := 155) dX12_ring_155 rfl ?_
      refine g_gI (pc := 156) dX12_ring_156 fI_RX12_388 xc_135 (v := (rd u 135 43)) rfl ?_
      obtain ⟨h1, h2⟩ := x_inj2 h
      subst h1
      subst h2
      exact g_iret (pc := 159) dX12_ring_159 rfl rfl rfl (Nat.le_refl _) (Nat.le_refl _)
    · replace h := (if_neg c1).symm.trans h
      refine g_aload_n (pc := 135) dX12_ring_135 rfl ?_
      refine g_gR (pc := 136) dX12_ring_136 fR_RX12_120 xc_135 (v := 171) rfl ?_
      refine g_iload_n (pc := 139) dX12_ring_139 rfl ?_
      obtain ⟨g2, h⟩ := x_gd h
      refine g_baload (pc := 140) dX12_ring_140 xc_171 (xin_of g2) (v := (rd u 171 v3.toNatClampNeg)) rfl ?_
      refine g_if_eq (tgt := 149) (pc := 141) dX12_ring_141 (by decide) (fun c3 => ?_) (fun c3 => ?_)
      · replace h := (if_pos c3).symm.trans h
        exact G_X12_ring_149 hd ih v3 u h
      · replace h := (if_neg c3).symm.trans h
        refine g_aload_n (pc := 144) dX12_ring_144 rfl ?_
        refine g_iload_n (pc := 145) dX12_ring_145 rfl ?_
        obtain ⟨u5, e4, h⟩ := x_bind h
        refine g_cV (pc := 146) dX12_ring_146 cV_RX12_394 (M_X12_enters (Nat.le_refl _) e4) xc_135 (as := [.int v3]) (st := []) rfl rfl (Nat.le_of_ble_eq_true rfl) (Nat.le_trans (Nat.le_of_ble_eq_true rfl) hd) rfl ?_
        exact G_X12_ring_149 hd ih v3 u5 h
set_option maxRecDepth 100000 in
set_option maxHeartbeats 4000000 in
theorem G_X12_ring_113 {sc : Nat × (Nat → Int32)} {d : Nat} (hd : 2 ≤ d) {r : Int32} {u' : xS} {k54 : Int32 → Int32 → xS → Option (Int32 × xS)} (hk54 : ∀ (v2 : Int32) (v3 : Int32) (u : xS), k54 v2 v3 u = some (r, u') → xG sc mX12_ring d 0 0 (xR (some (.int r)) (xL0, u') 0 0) 0 0 54 [some (.ref 135), none, some (.int v2), some (.int v3)] [] (xL0, u)) {k46 : Int32 → xS → Option (Int32 × xS)} (hk46 : ∀ (v2 : Int32) (u : xS), k46 v2 u = some (r, u') → xG sc mX12_ring d 0 0 (xR (some (.int r)) (xL0, u') 0 0) 0 0 46 [some (.ref 135), none, some (.int v2), none] [] (xL0, u)) (v2 : Int32) (v3 : Int32) (u : xS) (h : f_X12_ring_113 k54 k46 v2 v3 u = some (r, u')) : xG sc mX12_ring d 0 0 (xR (some (.int r)) (xL0, u') 0 0) 0 0 113 [some (.ref 135), none, some (.int v2), some (.int v3)] [] (xL0, u) := by
  rw [f_X12_ring_113] at h
  refine g_inc (pc := 113) dX12_ring_113 (Nat.le_of_ble_eq_true rfl) rfl ic_1 (L' := [some (.ref 135), none, some (.int v2), some (.int (v3 + (1 : Int32)))]) rfl ?_
  refine g_goto (tgt := 54) (pc := 116) dX12_ring_116 (by decide) ?_
  exact hk54 v2 (v3 + (1 : Int32)) u h
set_option maxRecDepth 100000 in
set_option maxHeartbeats 4000000 in
theorem G_X12_ring_54 {sc : Nat × (Nat → Int32)} {d : Nat} (hd : 2 ≤ d) {r : Int32} {u' : xS} {k46 : Int32 → xS → Option (Int32 × xS)} (hk46 : ∀ (v2 : Int32) (u : xS), k46 v2 u = some (r, u') → xG sc mX12_ring d 0 0 (xR (some (.int r)) (xL0, u') 0 0) 0 0 46 [some (.ref 135), none, some (.int v2), none] [] (xL0, u)) : ∀ (n : Nat) (v2 : Int32) (v3 : Int32) (u : xS), f_X12_ring_54 k46 n v2 v3 u = some (r, u') → xG sc mX12_ring d 0 0 (xR (some (.int r)) (xL0, u') 0 0) 0 0 54 [some (.ref 135), none, some (.int v2), some (.int v3)] [] (xL0, u) := by
  intro n
  induction n with
  | zero =>
    intro v2 v3 u h
    rw [f_X12_ring_54] at h
    cases h
  | succ n ih =>
    intro v2 v3 u h
    rw [f_X12_ring_54] at h
    refine g_iload_n (pc := 54) dX12_ring_54 rfl ?_
    refine g_aload_n (pc := 55) dX12_ring_55 rfl ?_
    refine g_gI (pc := 56) dX12_ring_56 fI_RX12_409 xc_135 (v := (rd u 135 46)) rfl ?_
    refine g_icmp_ge (tgt := 119) (pc := 59) dX12_ring_59 (by decide) (fun c1 => ?_) (fun c1 => ?_)
    · replace h := (if_pos c1).symm.trans h
      refine g_goto (tgt := 46) (pc := 119) dX12_ring_119 (by decide) ?_
      refine g_L (L' := [some (.ref 135), none, some (.int v2), none]) ⟨rfl, ⟨rfl, trivial⟩⟩ ?_
      exact hk46 v2 u h
    · replace h := (if_neg c1).symm.trans h
      refine g_aload_n (pc := 62) dX12_ring_62 rfl ?_
      refine g_gR (pc := 63) dX12_ring_63 fR_RX12_120 xc_135 (v := 171) rfl ?_
      refine g_aload_n (pc := 66) dX12_ring_66 rfl ?_
      refine g_gR (pc := 67) dX12_ring_67 fR_RX12_108 xc_135 (v := 167) rfl ?_
      refine g_iload_n (pc := 70) dX12_ring_70 rfl ?_
      obtain ⟨g2, h⟩ := x_gd h
      refine g_iaload (pc := 71) dX12_ring_71 xc_167 (xin_of g2) (v := (rd u 167 v3.toNatClampNeg)) rfl ?_
      obtain ⟨g3, h⟩ := x_gd h
      refine g_baload (pc := 72) dX12_ring_72 xc_171 (xin_of g3) (v := (rd u 171 (rd u 167 v3.toNatClampNeg).toNatClampNeg)) rfl ?_
      refine g_aload_n (pc := 73) dX12_ring_73 rfl ?_
      refine g_gR (pc := 74) dX12_ring_74 fR_RX12_120 xc_135 (v := 171) rfl ?_
      refine g_aload_n (pc := 77) dX12_ring_77 rfl ?_
      refine g_gR (pc := 78) dX12_ring_78 fR_RX12_111 xc_135 (v := 168) rfl ?_
      refine g_iload_n (pc := 81) dX12_ring_81 rfl ?_
      refine g_iaload (pc := 82) dX12_ring_82 xc_168 (xin_of g2) (v := (rd u 168 v3.toNatClampNeg)) rfl ?_
      obtain ⟨g4, h⟩ := x_gd h
      refine g_baload (pc := 83) dX12_ring_83 xc_171 (xin_of g4) (v := (rd u 171 (rd u 168 v3.toNatClampNeg).toNatClampNeg)) rfl ?_
      refine g_icmp_eq (tgt := 113) (pc := 84) dX12_ring_84 (by decide) (fun c5 => ?_) (fun c5 => ?_)
      · replace h := (if_pos c5).symm.trans h
        exact G_X12_ring_113 hd ih hk46 v2 v3 u h
      · replace h := (if_neg c5).symm.trans h
        refine g_aload_n (pc := 87) dX12_ring_87 rfl ?_
        refine g_gR (pc := 88) dX12_ring_88 fR_RX12_120 xc_135 (v := 171) rfl ?_
        refine g_aload_n (pc := 91) dX12_ring_91 rfl ?_
        refine g_gR (pc := 92) dX12_ring_92 fR_RX12_108 xc_135 (v := 167) rfl ?_
        refine g_iload_n (pc := 95) dX12_ring_95 rfl ?_
        refine g_iaload (pc := 96) dX12_ring_96 xc_167 (xin_of g2) (v := (rd u 167 v3.toNatClampNeg)) rfl ?_
        refine g_iconst (pc := 97) dX12_ring_97 ic_1 ?_
        refine g_bastoreB (pc := 98) dX12_ring_98 xc_171 (xin_of g3) (Or.inr rfl) (u' := (wr u 171 (rd u 167 v3.toNatClampNeg).toNatClampNeg (1 : Int32))) rfl ?_
        refine g_aload_n (pc := 99) dX12_ring_99 rfl ?_
        refine g_gR (pc := 100) dX12_ring_100 fR_RX12_120 xc_135 (v := 171) rfl ?_
        refine g_aload_n (pc := 103) dX12_ring_103 rfl ?_
        refine g_gR (pc := 104) dX12_ring_104 fR_RX12_111 xc_135 (v := 168) rfl ?_
        refine g_iload_n (pc := 107) dX12_ring_107 rfl ?_
        refine g_iaload (pc := 108) dX12_ring_108 xc_168 (xin_of g2) (v := (rd u 168 v3.toNatClampNeg)) rfl ?_
        refine g_iconst (pc := 109) dX12_ring_109 ic_1 ?_
        refine g_bastoreB (pc := 110) dX12_ring_110 xc_171 (xin_of g4) (Or.inr rfl) (u' := (wr (wr u 171 (rd u 167 v3.toNatClampNeg).toNatClampNeg (1 : Int32)) 171 (rd u 168 v3.toNatClampNeg).toNatClampNeg (1 : Int32))) rfl ?_
        refine g_iconst (pc := 111) dX12_ring_111 ic_1 ?_
        refine g_istore_n (pc := 112) dX12_ring_112 (Nat.le_of_ble_eq_true rfl) (L' := [some (.ref 135), none, some (.int (1 : Int32)), some (.int v3)]) rfl ?_
        exact G_X12_ring_113 hd ih hk46 (1 : Int32) v3 (wr (wr u 171 (rd u 167 v3.toNatClampNeg).toNatClampNeg (1 : Int32)) 171 (rd u 168 v3.toNatClampNeg).toNatClampNeg (1 : Int32)) h
set_option maxRecDepth 100000 in
set_option maxHeartbeats 4000000 in
theorem G_X12_ring_46 {sc : Nat × (Nat → Int32)} {d : Nat} (hd : 2 ≤ d) {r : Int32} {u' : xS} : ∀ (n : Nat) (v2 : Int32) (u : xS), f_X12_ring_46 n v2 u = some (r, u') → xG sc mX12_ring d 0 0 (xR (some (.int r)) (xL0, u') 0 0) 0 0 46 [some (.ref 135), none, some (.int v2), none] [] (xL0, u) := by
  intro n
  induction n with
  | zero =>
    intro v2 u h
    rw [f_X12_ring_46] at h
    cases h
  | succ n ih =>
    intro v2 u h
    rw [f_X12_ring_46] at h
    refine g_iload_n (pc := 46) dX12_ring_46 rfl ?_
    refine g_if_eq (tgt := 122) (pc := 47) dX12_ring_47 (by decide) (fun c1 => ?_) (fun c1 => ?_)
    · replace h := (if_pos c1).symm.trans h
      refine g_aload_n (pc := 122) dX12_ring_122 rfl ?_
      refine g_iconst (pc := 123) dX12_ring_123 ic_0 ?_
      refine g_pI (pc := 124) dX12_ring_124 pI_RX12_388 xc_135 (u' := (wr u 135 43 (0 : Int32))) rfl ?_
      refine g_iconst (pc := 127) dX12_ring_127 ic_0 ?_
      refine g_istore_n (pc := 128) dX12_ring_128 (Nat.le_of_ble_eq_true rfl) (L' := [some (.ref 135), none, some (.int v2), some (.int (0 : Int32))]) rfl ?_
      refine g_L (L' := [some (.ref 135), none, none, some (.int (0 : Int32))]) ⟨rfl, ⟨rfl, trivial⟩⟩ ?_
      exact G_X12_ring_129 hd xN (0 : Int32) (wr u 135 43 (0 : Int32)) h
    · replace h := (if_neg c1).symm.trans h
      refine g_iconst (pc := 50) dX12_ring_50 ic_0 ?_
      refine g_istore_n (pc := 51) dX12_ring_51 (Nat.le_of_ble_eq_true rfl) (L' := [some (.ref 135), none, some (.int (0 : Int32)), none]) rfl ?_
      refine g_iconst (pc := 52) dX12_ring_52 ic_0 ?_
      refine g_istore_n (pc := 53) dX12_ring_53 (Nat.le_of_ble_eq_true rfl) (L' := [some (.ref 135), none, some (.int (0 : Int32)), some (.int (0 : Int32))]) rfl ?_
      exact G_X12_ring_54 hd ih xN (0 : Int32) (0 : Int32) u h
set_option maxRecDepth 100000 in
set_option maxHeartbeats 4000000 in
theorem G_X12_ring_37 {sc : Nat × (Nat → Int32)} {d : Nat} (hd : 2 ≤ d) {r : Int32} {u' : xS} {k16 : Int32 → Int32 → xS → Option (Int32 × xS)} (hk16 : ∀ (v1 : Int32) (v2 : Int32) (u : xS), k16 v1 v2 u = some (r, u') → xG sc mX12_ring d 0 0 (xR (some (.int r)) (xL0, u') 0 0) 0 0 16 [some (.ref 135), some (.int v1), some (.int v2), none] [] (xL0, u)) (v1 : Int32) (v2 : Int32) (s1 : Int32) (s2 : Int32) (u : xS) (h : f_X12_ring_37 k16 v1 v2 s1 s2 u = some (r, u')) : xG sc mX12_ring d 0 0 (xR (some (.int r)) (xL0, u') 0 0) 0 0 37 [some (.ref 135), some (.int v1), some (.int v2), none] [.int s2, .int s1, .ref 171] (xL0, u) := by
  rw [f_X12_ring_37] at h
  obtain ⟨g1, h⟩ := x_gd h
  obtain ⟨g2, h⟩ := x_gd h
  refine g_bastoreB (pc := 37) dX12_ring_37 xc_171 (xin_of g1) (xb_of g2) (u' := (wr u 171 s1.toNatClampNeg s2)) rfl ?_
  refine g_inc (pc := 38) dX12_ring_38 (Nat.le_of_ble_eq_true rfl) rfl ic_1 (L' := [some (.ref 135), some (.int v1), some (.int (v2 + (1 : Int32))), none]) rfl ?_
  refine g_goto (tgt := 16) (pc := 41) dX12_ring_41 (by decide) ?_
  exact hk16 v1 (v2 + (1 : Int32)) (wr u 171 s1.toNatClampNeg s2) h
set_option maxRecDepth 100000 in
set_option maxHeartbeats 4000000 in
theorem G_X12_ring_16 {sc : Nat × (Nat → Int32)} {d : Nat} (hd : 2 ≤ d) {r : Int32} {u' : xS} : ∀ (n : Nat) (v1 : Int32) (v2 : Int32) (u : xS), f_X12_ring_16 n v1 v2 u = some (r, u') → xG sc mX12_ring d 0 0 (xR (some (.int r)) (xL0, u') 0 0) 0 0 16 [some (.ref 135), some (.int v1), some (.int v2), none] [] (xL0, u) := by
  intro n
  induction n with
  | zero =>
    intro v1 v2 u h
    rw [f_X12_ring_16] at h
    cases h
  | succ n ih =>
    intro v1 v2 u h
    rw [f_X12_ring_16] at h
    refine g_iload_n (pc := 16) dX12_ring_16 rfl ?_
    refine g_bipush (pc := 17) dX12_ring_17 bp_6 ?_
    refine g_icmp_ge (tgt := 44) (pc := 19) dX12_ring_19 (by decide) (fun c1 => ?_) (fun c1 => ?_)
    · replace h := (if_pos c1).symm.trans h
      refine g_iconst (pc := 44) dX12_ring_44 ic_1 ?_
      refine g_istore_n (pc := 45) dX12_ring_45 (Nat.le_of_ble_eq_true rfl) (L' := [some (.ref 135), some (.int v1), some (.int (1 : Int32)), none]) rfl ?_
      refine g_L (L' := [some (.ref 135), none, some (.int (1 : Int32)), none]) ⟨rfl, ⟨rfl, trivial⟩⟩ ?_
      exact G_X12_ring_46 hd xN (1 : Int32) u h
    · replace h := (if_neg c1).symm.trans h
      refine g_aload_n (pc := 22) dX12_ring_22 rfl ?_
      refine g_gR (pc := 23) dX12_ring_23 fR_RX12_120 xc_135 (v := 171) rfl ?_
      refine g_iload_n (pc := 26) dX12_ring_26 rfl ?_
      refine g_iload_n (pc := 27) dX12_ring_27 rfl ?_
      refine g_iload_n (pc := 28) dX12_ring_28 rfl ?_
      refine g_icmp_ne (tgt := 36) (pc := 29) dX12_ring_29 (by decide) (fun c2 => ?_) (fun c2 => ?_)
      · replace h := (if_neg c2).symm.trans h
        refine g_iconst (pc := 36) dX12_ring_36 ic_0 ?_
        exact G_X12_ring_37 hd ih v1 v2 v2 (0 : Int32) u h
      · replace h := (if_pos c2).symm.trans h
        refine g_iconst (pc := 32) dX12_ring_32 ic_1 ?_
        refine g_goto (tgt := 37) (pc := 33) dX12_ring_33 (by decide) ?_
        exact G_X12_ring_37 hd ih v1 v2 v2 (1 : Int32) u h
set_option maxRecDepth 100000 in
set_option maxHeartbeats 4000000 in
theorem G_X12_ring_0 {sc : Nat × (Nat → Int32)} {d : Nat} (hd : 2 ≤ d) {r : Int32} {u' : xS} (v1 : Int32) (u : xS) (h : f_X12_ring v1 u = some (r, u')) : xG sc mX12_ring d 0 0 (xR (some (.int r)) (xL0, u') 0 0) 0 0 0 [some (.ref 135), some (.int v1), none, none] [] (xL0, u) := by
  rw [f_X12_ring] at h
  refine g_aload_n (pc := 0) dX12_ring_0 rfl ?_
  refine g_iconst (pc := 1) dX12_ring_1 ic_0 ?_
  refine g_pI (pc := 2) dX12_ring_2 pI_RX12_150 xc_135 (u' := (wr u 135 0 (0 : Int32))) rfl ?_
  refine g_iload_n (pc := 5) dX12_ring_5 rfl ?_
  refine g_cS (pc := 6) dX12_ring_6 cS_RX12_208 (M_X12_isSorter (Nat.le_refl _) rfl) (as := [.int v1]) (st := []) rfl rfl (Nat.le_of_ble_eq_true rfl) (Nat.le_trans (Nat.le_of_ble_eq_true rfl) hd) rfl ?_
  refine g_if_ne (tgt := 14) (pc := 9) dX12_ring_9 (by decide) (fun c1 => ?_) (fun c1 => ?_)
  · replace h := (if_neg c1).symm.trans h
    refine g_iconst (pc := 14) dX12_ring_14 ic_0 ?_
    refine g_istore_n (pc := 15) dX12_ring_15 (Nat.le_of_ble_eq_true rfl) (L' := [some (.ref 135), some (.int v1), some (.int (0 : Int32)), none]) rfl ?_
    exact G_X12_ring_16 hd xN v1 (0 : Int32) (wr u 135 0 (0 : Int32)) h
  · replace h := (if_pos c1).symm.trans h
    refine g_iconst (pc := 12) dX12_ring_12 ic_m1 ?_
    obtain ⟨h1, h2⟩ := x_inj2 h
    subst h1
    subst h2
    exact g_iret (pc := 13) dX12_ring_13 rfl rfl rfl (Nat.le_refl _) (Nat.le_refl _)
set_option maxRecDepth 100000 in
set_option maxHeartbeats 4000000 in
theorem M_X12_ring {sc : Nat × (Nat → Int32)} {d : Nat} (hd : 2 ≤ d) {r : Int32} {u u' : xS} {a1 : Int32} (h : f_X12_ring a1 u = some (r, u')) : xMt sc mX12_ring d 0 0 [.ref 135, .int a1] (xL0, u) (some (.int r)) (xL0, u') :=
  xMt.of (by decide +kernel) (by decide +kernel) (Nat.le_of_ble_eq_true rfl) (L := [some (.ref 135), some (.int a1), none, none]) rfl ((G_X12_ring_0 hd a1 u h))
set_option maxRecDepth 100000 in
set_option maxHeartbeats 4000000 in
theorem G_X12_row_0 {sc : Nat × (Nat → Int32)} {d : Nat} (hd : 1 ≤ d) {r : Int32} {u' : xS} (v1 : Int32) (u : xS) (h : f_X12_row v1 u = some (r, u')) : xG sc mX12_row d 0 0 (xR (some (.int r)) (xL0, u') 0 0) 0 0 0 [some (.ref 135), some (.int v1)] [] (xL0, u) := by
  rw [f_X12_row] at h
  refine g_aload_n (pc := 0) dX12_row_0 rfl ?_
  refine g_iconst (pc := 1) dX12_row_1 ic_0 ?_
  refine g_pI (pc := 2) dX12_row_2 pI_RX12_150 xc_135 (u' := (wr u 135 0 (0 : Int32))) rfl ?_
  refine g_iload_n (pc := 5) dX12_row_5 rfl ?_
  refine g_i2l (pc := 6) dX12_row_6 rfl ?_
  refine g_lconst (v := (0 : Int64)) (pc := 7) dX12_row_7 rfl ?_
  refine g_aload_n (pc := 8) dX12_row_8 rfl ?_
  refine g_gI (pc := 9) dX12_row_9 fI_RX12_388 xc_135 (v := (rd u 135 43)) rfl ?_
  refine g_iconst (pc := 12) dX12_row_12 ic_1 ?_
  refine g_isub (pc := 13) dX12_row_13 rfl ?_
  refine g_i2l (pc := 14) dX12_row_14 rfl ?_
  refine g_cS (pc := 15) dX12_row_15 cS_RX12_156 (M_X12_in (Nat.le_refl _) rfl) (as := [.long ((v1).toInt64), .long (0 : Int64), .long (((rd u 135 43) - (1 : Int32)).toInt64)]) (st := []) rfl rfl (Nat.le_of_ble_eq_true rfl) (Nat.le_trans (Nat.le_of_ble_eq_true rfl) hd) rfl ?_
  refine g_if_eq (tgt := 30) (pc := 18) dX12_row_18 (by decide) (fun c1 => ?_) (fun c1 => ?_)
  · replace h := (if_pos c1).symm.trans h
    refine g_aload_n (pc := 30) dX12_row_30 rfl ?_
    obtain ⟨⟨x3, u4⟩, e2, h⟩ := x_bind h
    dsimp only at h
    refine g_cV (pc := 31) dX12_row_31 cV_RX12_347 (M_X12_refuse (Nat.le_refl _) e2) xc_135 (as := []) (st := []) rfl rfl (Nat.le_of_ble_eq_true rfl) (Nat.le_trans (Nat.le_of_ble_eq_true rfl) hd) rfl ?_
    obtain ⟨h1, h2⟩ := x_inj2 h
    subst h1
    subst h2
    exact g_iret (pc := 34) dX12_row_34 rfl rfl rfl (Nat.le_refl _) (Nat.le_refl _)
  · replace h := (if_neg c1).symm.trans h
    refine g_aload_n (pc := 21) dX12_row_21 rfl ?_
    refine g_gR (pc := 22) dX12_row_22 fR_RX12_102 xc_135 (v := 165) rfl ?_
    refine g_iload_n (pc := 25) dX12_row_25 rfl ?_
    obtain ⟨g6, h⟩ := x_gd h
    refine g_iaload (pc := 26) dX12_row_26 xc_165 (xin_of g6) (v := (rd u 165 v1.toNatClampNeg)) rfl ?_
    refine g_goto (tgt := 34) (pc := 27) dX12_row_27 (by decide) ?_
    obtain ⟨h1, h2⟩ := x_inj2 h
    subst h1
    subst h2
    exact g_iret (pc := 34) dX12_row_34 rfl rfl rfl (Nat.le_refl _) (Nat.le_refl _)
set_option maxRecDepth 100000 in
set_option maxHeartbeats 4000000 in
theorem M_X12_row {sc : Nat × (Nat → Int32)} {d : Nat} (hd : 1 ≤ d) {r : Int32} {u u' : xS} {a1 : Int32} (h : f_X12_row a1 u = some (r, u')) : xMt sc mX12_row d 0 0 [.ref 135, .int a1] (xL0, u) (some (.int r)) (xL0, u') :=
  xMt.of (by decide +kernel) (by decide +kernel) (Nat.le_of_ble_eq_true rfl) (L := [some (.ref 135), some (.int a1)]) rfl ((G_X12_row_0 hd a1 u h))
