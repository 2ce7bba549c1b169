theorem zb_X12_isRecipe (u : xS) (v1 : Int32) : f_X12_isRecipe u v1 = 0 ∨ f_X12_isRecipe u v1 = 1 := by
  unfold f_X12_isRecipe
  repeat' first | exact Or.inl rfl | exact Or.inr rfl | exact zb_X12_in _ _ _ | apply x_ite
set_option maxRecDepth 100000 in
set_option maxHeartbeats 4000000 in
theorem G_X12_isRecipe_0 {sc : Nat × (Nat → Int32)} {d : Nat} (hd : 1 ≤ d) {r : Int32} {u : xS} (v1 : Int32) (h : f_X12_isRecipe u v1 = r) : xG sc mX12_isRecipe d 0 0 (xR (some (.int r)) (xL0, u) 0 0) 0 0 0 [some (.ref 135), some (.int v1)] [] (xL0, u) := by
  rw [f_X12_isRecipe] at h
  refine g_iload_n (pc := 0) dX12_isRecipe_0 rfl ?_
  refine g_i2l (pc := 1) dX12_isRecipe_1 rfl ?_
  refine g_lconst (v := (0 : Int64)) (pc := 2) dX12_isRecipe_2 rfl ?_
  refine g_aload_n (pc := 3) dX12_isRecipe_3 rfl ?_
  refine g_gI (pc := 4) dX12_isRecipe_4 fI_RX12_320 xc_135 (v := (rd u 135 28)) rfl ?_
  refine g_iconst (pc := 7) dX12_isRecipe_7 ic_1 ?_
  refine g_isub (pc := 8) dX12_isRecipe_8 rfl ?_
  refine g_i2l (pc := 9) dX12_isRecipe_9 rfl ?_
  refine g_cS (pc := 10) dX12_isRecipe_10 cS_RX12_156 (M_X12_in (Nat.le_refl _) rfl) (as := [.long ((v1).toInt64), .long (0 : Int64), .long (((rd u 135 28) - (1 : Int32)).toInt64)]) (st := []) rfl rfl (Nat.le_of_ble_eq_true rfl) (Nat.le_trans (Nat.le_of_ble_eq_true rfl) hd) rfl ?_
  subst h
  exact g_zret (pc := 13) dX12_isRecipe_13 rfl (zb_X12_in _ _ _) rfl rfl (Nat.le_refl _) (Nat.le_refl _)
set_option maxRecDepth 100000 in
set_option maxHeartbeats 4000000 in
theorem M_X12_isRecipe {sc : Nat × (Nat → Int32)} {d : Nat} (hd : 1 ≤ d) {r : Int32} {u : xS} {a1 : Int32} (h : f_X12_isRecipe u a1 = r) : xMt sc mX12_isRecipe d 0 0 [.ref 135, .int a1] (xL0, u) (some (.int r)) (xL0, u) :=
  xMt.of (by decide +kernel) (by decide +kernel) (Nat.le_of_ble_eq_true rfl) (L := [some (.ref 135), some (.int a1)]) rfl ((G_X12_isRecipe_0 hd a1 h))
set_option maxRecDepth 100000 in
set_option maxHeartbeats 4000000 in
theorem G_X12_judged_163 {sc : Nat × (Nat → Int32)} {d : Nat} (hd : 5 ≤ d) {r : Int32} {u' : xS} : ∀ (n : Nat) (v4 : Int32) (v5 : Int32) (v6 : Int32) (u : xS), f_X12_judged_163 n v4 v5 v6 u = some (r, u') → xG sc mX12_judged d 0 0 (xR (some (.int r)) (xL0, u') 0 0) 0 0 163 [some (.ref 135), none, none, none, some (.int v4), some (.int v5), some (.int v6)] [] (xL0, u) := by
  intro n
  induction n with
  | zero =>
    intro v4 v5 v6 u h
    rw [f_X12_judged_163] at h
    cases h
  | succ n ih =>
    intro v4 v5 v6 u h
    rw [f_X12_judged_163] at h
    refine g_iload (pc := 163) dX12_judged_163 rfl ?_
    refine g_iload (pc := 165) dX12_judged_165 rfl ?_
    refine g_icmp_ge (tgt := 198) (pc := 167) dX12_judged_167 (by decide) (fun c1 => ?_) (fun c1 => ?_)
    · replace h := (if_pos c1).symm.trans h
      refine g_iconst (pc := 198) dX12_judged_198 ic_m1 ?_
      obtain ⟨h1, h2⟩ := x_inj2 h
      subst h1
      subst h2
      exact g_iret (pc := 199) dX12_judged_199 rfl rfl rfl (Nat.le_refl _) (Nat.le_refl _)
    · replace h := (if_neg c1).symm.trans h
      refine g_aload_n (pc := 170) dX12_judged_170 rfl ?_
      refine g_iload (pc := 171) dX12_judged_171 rfl ?_
      refine g_iload (pc := 173) dX12_judged_173 rfl ?_
      obtain ⟨⟨x3, u4⟩, e2, h⟩ := x_bind h
      dsimp only at h
      refine g_cV (pc := 175) dX12_judged_175 cV_RX12_334 (M_X12_worked (Nat.le_refl _) e2) xc_135 (as := [.int v4, .int v5]) (st := []) rfl rfl (Nat.le_of_ble_eq_true rfl) (Nat.le_trans (Nat.le_of_ble_eq_true rfl) hd) rfl ?_
      refine g_if_ne (tgt := 184) (pc := 178) dX12_judged_178 (by decide) (fun c5 => ?_) (fun c5 => ?_)
      · replace h := (if_neg c5).symm.trans h
        refine g_aload_n (pc := 184) dX12_judged_184 rfl ?_
        refine g_gI (pc := 185) dX12_judged_185 fI_RX12_331 xc_135 (v := (rd u4 135 35)) rfl ?_
        refine g_iconst (pc := 188) dX12_judged_188 ic_1 ?_
        refine g_iadd (pc := 189) dX12_judged_189 rfl ?_
        refine g_istore (pc := 190) dX12_judged_190 (Nat.le_of_ble_eq_true rfl) (L' := [some (.ref 135), none, none, none, some (.int ((rd u4 135 35) + (1 : Int32))), some (.int v5), some (.int v6)]) rfl ?_
        refine g_inc (pc := 192) dX12_judged_192 (Nat.le_of_ble_eq_true rfl) rfl ic_1 (L' := [some (.ref 135), none, none, none, some (.int ((rd u4 135 35) + (1 : Int32))), some (.int v5), some (.int (v6 + (1 : Int32)))]) rfl ?_
        refine g_goto (tgt := 163) (pc := 195) dX12_judged_195 (by decide) ?_
        exact ih ((rd u4 135 35) + (1 : Int32)) v5 (v6 + (1 : Int32)) u4 h
      · replace h := (if_pos c5).symm.trans h
        refine g_iload (pc := 181) dX12_judged_181 rfl ?_
        obtain ⟨h1, h2⟩ := x_inj2 h
        subst h1
        subst h2
        exact g_iret (pc := 183) dX12_judged_183 rfl rfl rfl (Nat.le_refl _) (Nat.le_refl _)
set_option maxRecDepth 100000 in
set_option maxHeartbeats 4000000 in
theorem G_X12_judged_32 {sc : Nat × (Nat → Int32)} {d : Nat} (hd : 5 ≤ d) {r : Int32} {u' : xS} {k7 : Int32 → Int32 → Int32 → Int32 → xS → Option (Int32 × xS)} (hk7 : ∀ (v1 : Int32) (v2 : Int32) (v3 : Int32) (v4 : Int32) (u : xS), k7 v1 v2 v3 v4 u = some (r, u') → xG sc mX12_judged d 0 0 (xR (some (.int r)) (xL0, u') 0 0) 0 0 7 [some (.ref 135), some (.int v1), some (.int v2), some (.int v3), some (.int v4), none, none] [] (xL0, u)) (v1 : Int32) (v3 : Int32) (v4 : Int32) (s0 : Int32) (s1 : Int32) (u : xS) (h : f_X12_judged_32 k7 v1 v3 v4 s0 s1 u = some (r, u')) : xG sc mX12_judged d 0 0 (xR (some (.int r)) (xL0, u') 0 0) 0 0 32 [some (.ref 135), some (.int v1), none, some (.int v3), some (.int v4), none, none] [.int s1, .int s0] (xL0, u) := by
  rw [f_X12_judged_32] at h
  refine g_cS (pc := 32) dX12_judged_32 cS_RX12_190 (M_X12_truth (Nat.le_refl _) rfl) (as := [.int s1]) (st := [.int s0]) rfl rfl (Nat.le_of_ble_eq_true rfl) (Nat.le_trans (Nat.le_of_ble_eq_true rfl) hd) rfl ?_
  refine g_iadd (pc := 35) dX12_judged_35 rfl ?_
  refine g_istore_n (pc := 36) dX12_judged_36 (Nat.le_of_ble_eq_true rfl) (L' := [some (.ref 135), some (.int v1), some (.int (s0 + (f_X12_truth s1))), some (.int v3), some (.int v4), none, none]) rfl ?_
  refine g_iload_n (pc := 37) dX12_judged_37 rfl ?_
  refine g_aload_n (pc := 38) dX12_judged_38 rfl ?_
  refine g_gR (pc := 39) dX12_judged_39 fR_RX12_87 xc_135 (v := 160) rfl ?_
  refine g_iload (pc := 42) dX12_judged_42 rfl ?_
  obtain ⟨g1, h⟩ := x_gd h
  refine g_iaload (pc := 44) dX12_judged_44 xc_160 (xin_of g1) (v := (rd u 160 v4.toNatClampNeg)) rfl ?_
  refine g_max (pc := 45) dX12_judged_45 mK_RX12_238 (Nat.le_of_ble_eq_true rfl) (Nat.le_trans (Nat.le_of_ble_eq_true rfl) hd) (Nat.zero_le _) (Nat.zero_le _) ?_
  refine g_istore_n (pc := 48) dX12_judged_48 (Nat.le_of_ble_eq_true rfl) (L' := [some (.ref 135), some (.int v1), some (.int (s0 + (f_X12_truth s1))), some (.int (imax v3 (rd u 160 v4.toNatClampNeg))), some (.int v4), none, none]) rfl ?_
  refine g_inc (pc := 49) dX12_judged_49 (Nat.le_of_ble_eq_true rfl) rfl ic_1 (L' := [some (.ref 135), some (.int v1), some (.int (s0 + (f_X12_truth s1))), some (.int (imax v3 (rd u 160 v4.toNatClampNeg))), some (.int (v4 + (1 : Int32))), none, none]) rfl ?_
  refine g_goto (tgt := 7) (pc := 52) dX12_judged_52 (by decide) ?_
  exact hk7 v1 (s0 + (f_X12_truth s1)) (imax v3 (rd u 160 v4.toNatClampNeg)) (v4 + (1 : Int32)) u h
set_option maxRecDepth 100000 in
set_option maxHeartbeats 4000000 in
theorem G_X12_judged_7 {sc : Nat × (Nat → Int32)} {d : Nat} (hd : 5 ≤ d) {r : Int32} {u' : xS} : ∀ (n : Nat) (v1 : Int32) (v2 : Int32) (v3 : Int32) (v4 : Int32) (u : xS), f_X12_judged_7 n v1 v2 v3 v4 u = some (r, u') → xG sc mX12_judged d 0 0 (xR (some (.int r)) (xL0, u') 0 0) 0 0 7 [some (.ref 135), some (.int v1), some (.int v2), some (.int v3), some (.int v4), none, none] [] (xL0, u) := by
  intro n
  induction n with
  | zero =>
    intro v1 v2 v3 v4 u h
    rw [f_X12_judged_7] at h
    cases h
  | succ n ih =>
    intro v1 v2 v3 v4 u h
    rw [f_X12_judged_7] at h
    refine g_iload (pc := 7) dX12_judged_7 rfl ?_
    refine g_aload_n (pc := 9) dX12_judged_9 rfl ?_
    refine g_gI (pc := 10) dX12_judged_10 fI_RX12_153 xc_135 (v := (rd u 135 1)) rfl ?_
    refine g_icmp_ge (tgt := 55) (pc := 13) dX12_judged_13 (by decide) (fun c1 => ?_) (fun c1 => ?_)
    · replace h := (if_pos c1).symm.trans h
      refine g_aload_n (pc := 55) dX12_judged_55 rfl ?_
      obtain ⟨u3, e2, h⟩ := x_bind h
      refine g_cV (pc := 56) dX12_judged_56 cV_RX12_235 (M_X12_hush (Nat.le_refl _) e2) xc_135 (as := []) (st := []) rfl rfl (Nat.le_of_ble_eq_true rfl) (Nat.le_trans (Nat.le_of_ble_eq_true rfl) hd) rfl ?_
      refine g_aload_n (pc := 59) dX12_judged_59 rfl ?_
      refine g_bipush (pc := 60) dX12_judged_60 bp_114 ?_
      refine g_aload_n (pc := 62) dX12_judged_62 rfl ?_
      refine g_iconst (pc := 63) dX12_judged_63 ic_0 ?_
      obtain ⟨x5, e4, h⟩ := x_bind h
      refine g_cV (pc := 64) dX12_judged_64 cV_RX12_359 (M_X12_blended (Nat.le_refl _) e4) xc_135 (as := [.int (0 : Int32)]) (st := [.int (114 : Int32), .ref 135]) rfl rfl (Nat.le_of_ble_eq_true rfl) (Nat.le_trans (Nat.le_of_ble_eq_true rfl) hd) rfl ?_
      obtain ⟨u7, e6, h⟩ := x_bind h
      refine g_cV (pc := 67) dX12_judged_67 cV_RX12_243 (M_X12_says (Nat.le_refl _) e6) xc_135 (as := [.int (114 : Int32), .int x5]) (st := []) rfl rfl (Nat.le_of_ble_eq_true rfl) (Nat.le_trans (Nat.le_of_ble_eq_true rfl) hd) rfl ?_
      refine g_aload_n (pc := 70) dX12_judged_70 rfl ?_
      refine g_bipush (pc := 71) dX12_judged_71 bp_103 ?_
      refine g_aload_n (pc := 73) dX12_judged_73 rfl ?_
      refine g_iconst (pc := 74) dX12_judged_74 ic_1 ?_
      obtain ⟨x9, e8, h⟩ := x_bind h
      refine g_cV (pc := 75) dX12_judged_75 cV_RX12_359 (M_X12_blended (Nat.le_refl _) e8) xc_135 (as := [.int (1 : Int32)]) (st := [.int (103 : Int32), .ref 135]) rfl rfl (Nat.le_of_ble_eq_true rfl) (Nat.le_trans (Nat.le_of_ble_eq_true rfl) hd) rfl ?_
      obtain ⟨u11, e10, h⟩ := x_bind h
      refine g_cV (pc := 78) dX12_judged_78 cV_RX12_243 (M_X12_says (Nat.le_refl _) e10) xc_135 (as := [.int (103 : Int32), .int x9]) (st := []) rfl rfl (Nat.le_of_ble_eq_true rfl) (Nat.le_trans (Nat.le_of_ble_eq_true rfl) hd) rfl ?_
      refine g_aload_n (pc := 81) dX12_judged_81 rfl ?_
      refine g_bipush (pc := 82) dX12_judged_82 bp_98 ?_
      refine g_aload_n (pc := 84) dX12_judged_84 rfl ?_
      refine g_iconst (pc := 85) dX12_judged_85 ic_2 ?_
      obtain ⟨x13, e12, h⟩ := x_bind h
      refine g_cV (pc := 86) dX12_judged_86 cV_RX12_359 (M_X12_blended (Nat.le_refl _) e12) xc_135 (as := [.int (2 : Int32)]) (st := [.int (98 : Int32), .ref 135]) rfl rfl (Nat.le_of_ble_eq_true rfl) (Nat.le_trans (Nat.le_of_ble_eq_true rfl) hd) rfl ?_
      obtain ⟨u15, e14, h⟩ := x_bind h
      refine g_cV (pc := 89) dX12_judged_89 cV_RX12_243 (M_X12_says (Nat.le_refl _) e14) xc_135 (as := [.int (98 : Int32), .int x13]) (st := []) rfl rfl (Nat.le_of_ble_eq_true rfl) (Nat.le_trans (Nat.le_of_ble_eq_true rfl) hd) rfl ?_
      refine g_aload_n (pc := 92) dX12_judged_92 rfl ?_
      refine g_bipush (pc := 93) dX12_judged_93 bp_115 ?_
      refine g_aload_n (pc := 95) dX12_judged_95 rfl ?_
      refine g_iconst (pc := 96) dX12_judged_96 ic_3 ?_
      obtain ⟨x17, e16, h⟩ := x_bind h
      refine g_cV (pc := 97) dX12_judged_97 cV_RX12_359 (M_X12_blended (Nat.le_refl _) e16) xc_135 (as := [.int (3 : Int32)]) (st := [.int (115 : Int32), .ref 135]) rfl rfl (Nat.le_of_ble_eq_true rfl) (Nat.le_trans (Nat.le_of_ble_eq_true rfl) hd) rfl ?_
      obtain ⟨u19, e18, h⟩ := x_bind h
      refine g_cV (pc := 100) dX12_judged_100 cV_RX12_243 (M_X12_says (Nat.le_refl _) e18) xc_135 (as := [.int (115 : Int32), .int x17]) (st := []) rfl rfl (Nat.le_of_ble_eq_true rfl) (Nat.le_trans (Nat.le_of_ble_eq_true rfl) hd) rfl ?_
      refine g_aload_n (pc := 103) dX12_judged_103 rfl ?_
      refine g_bipush (pc := 104) dX12_judged_104 bp_119 ?_
      refine g_aload_n (pc := 106) dX12_judged_106 rfl ?_
      refine g_iconst (pc := 107) dX12_judged_107 ic_4 ?_
      obtain ⟨x21, e20, h⟩ := x_bind h
      refine g_cV (pc := 108) dX12_judged_108 cV_RX12_359 (M_X12_blended (Nat.le_refl _) e20) xc_135 (as := [.int (4 : Int32)]) (st := [.int (119 : Int32), .ref 135]) rfl rfl (Nat.le_of_ble_eq_true rfl) (Nat.le_trans (Nat.le_of_ble_eq_true rfl) hd) rfl ?_
      obtain ⟨u23, e22, h⟩ := x_bind h
      refine g_cV (pc := 111) dX12_judged_111 cV_RX12_243 (M_X12_says (Nat.le_refl _) e22) xc_135 (as := [.int (119 : Int32), .int x21]) (st := []) rfl rfl (Nat.le_of_ble_eq_true rfl) (Nat.le_trans (Nat.le_of_ble_eq_true rfl) hd) rfl ?_
      refine g_aload_n (pc := 114) dX12_judged_114 rfl ?_
      refine g_bipush (pc := 115) dX12_judged_115 bp_118 ?_
      refine g_aload_n (pc := 117) dX12_judged_117 rfl ?_
      refine g_iconst (pc := 118) dX12_judged_118 ic_5 ?_
      obtain ⟨x25, e24, h⟩ := x_bind h
      refine g_cV (pc := 119) dX12_judged_119 cV_RX12_359 (M_X12_blended (Nat.le_refl _) e24) xc_135 (as := [.int (5 : Int32)]) (st := [.int (118 : Int32), .ref 135]) rfl rfl (Nat.le_of_ble_eq_true rfl) (Nat.le_trans (Nat.le_of_ble_eq_true rfl) hd) rfl ?_
      obtain ⟨u27, e26, h⟩ := x_bind h
      refine g_cV (pc := 122) dX12_judged_122 cV_RX12_243 (M_X12_says (Nat.le_refl _) e26) xc_135 (as := [.int (118 : Int32), .int x25]) (st := []) rfl rfl (Nat.le_of_ble_eq_true rfl) (Nat.le_trans (Nat.le_of_ble_eq_true rfl) hd) rfl ?_
      refine g_aload_n (pc := 125) dX12_judged_125 rfl ?_
      refine g_bipush (pc := 126) dX12_judged_126 bp_110 ?_
      refine g_iload_n (pc := 128) dX12_judged_128 rfl ?_
      obtain ⟨u29, e28, h⟩ := x_bind h
      refine g_cV (pc := 129) dX12_judged_129 cV_RX12_243 (M_X12_says (Nat.le_refl _) e28) xc_135 (as := [.int (110 : Int32), .int v2]) (st := []) rfl rfl (Nat.le_of_ble_eq_true rfl) (Nat.le_trans (Nat.le_of_ble_eq_true rfl) hd) rfl ?_
      refine g_aload_n (pc := 132) dX12_judged_132 rfl ?_
      refine g_bipush (pc := 133) dX12_judged_133 bp_109 ?_
      refine g_iload_n (pc := 135) dX12_judged_135 rfl ?_
      obtain ⟨u31, e30, h⟩ := x_bind h
      refine g_cV (pc := 136) dX12_judged_136 cV_RX12_243 (M_X12_says (Nat.le_refl _) e30) xc_135 (as := [.int (109 : Int32), .int v3]) (st := []) rfl rfl (Nat.le_of_ble_eq_true rfl) (Nat.le_trans (Nat.le_of_ble_eq_true rfl) hd) rfl ?_
      refine g_bipush (pc := 139) dX12_judged_139 bp_64 ?_
      refine g_iconst (pc := 141) dX12_judged_141 ic_4 ?_
      refine g_iload_n (pc := 142) dX12_judged_142 rfl ?_
      refine g_iadd (pc := 143) dX12_judged_143 rfl ?_
      refine g_imul (pc := 144) dX12_judged_144 rfl ?_
      refine g_istore (pc := 145) dX12_judged_145 (Nat.le_of_ble_eq_true rfl) (L' := [some (.ref 135), some (.int v1), some (.int v2), some (.int v3), some (.int ((64 : Int32) * ((4 : Int32) + v1))), none, none]) rfl ?_
      refine g_iload (pc := 147) dX12_judged_147 rfl ?_
      refine g_aload_n (pc := 149) dX12_judged_149 rfl ?_
      refine g_gR (pc := 150) dX12_judged_150 fR_RX12_75 xc_135 (v := 156) rfl ?_
      refine g_iconst (pc := 153) dX12_judged_153 ic_4 ?_
      refine g_iload_n (pc := 154) dX12_judged_154 rfl ?_
      refine g_iadd (pc := 155) dX12_judged_155 rfl ?_
      obtain ⟨g32, h⟩ := x_gd h
      refine g_iaload (pc := 156) dX12_judged_156 xc_156 (xin_of g32) (v := (rd u31 156 ((4 : Int32) + v1).toNatClampNeg)) rfl ?_
      refine g_iadd (pc := 157) dX12_judged_157 rfl ?_
      refine g_istore (pc := 158) dX12_judged_158 (Nat.le_of_ble_eq_true rfl) (L' := [some (.ref 135), some (.int v1), some (.int v2), some (.int v3), some (.int ((64 : Int32) * ((4 : Int32) + v1))), some (.int (((64 : Int32) * ((4 : Int32) + v1)) + (rd u31 156 ((4 : Int32) + v1).toNatClampNeg))), none]) rfl ?_
      refine g_iconst (pc := 160) dX12_judged_160 ic_0 ?_
      refine g_istore (pc := 161) dX12_judged_161 (Nat.le_of_ble_eq_true rfl) (L' := [some (.ref 135), some (.int v1), some (.int v2), some (.int v3), some (.int ((64 : Int32) * ((4 : Int32) + v1))), some (.int (((64 : Int32) * ((4 : Int32) + v1)) + (rd u31 156 ((4 : Int32) + v1).toNatClampNeg))), some (.int (0 : Int32))]) rfl ?_
      refine g_L (L' := [some (.ref 135), none, none, none, some (.int ((64 : Int32) * ((4 : Int32) + v1))), some (.int (((64 : Int32) * ((4 : Int32) + v1)) + (rd u31 156 ((4 : Int32) + v1).toNatClampNeg))), some (.int (0 : Int32))]) ⟨rfl, ⟨rfl, ⟨rfl, ⟨rfl, trivial⟩⟩⟩⟩ ?_
      exact G_X12_judged_163 hd xN ((64 : Int32) * ((4 : Int32) + v1)) (((64 : Int32) * ((4 : Int32) + v1)) + (rd u31 156 ((4 : Int32) + v1).toNatClampNeg)) (0 : Int32) u31 h
    · replace h := (if_neg c1).symm.trans h
      refine g_iload_n (pc := 16) dX12_judged_16 rfl ?_
      refine g_aload_n (pc := 17) dX12_judged_17 rfl ?_
      refine g_gR (pc := 18) dX12_judged_18 fR_RX12_87 xc_135 (v := 160) rfl ?_
      refine g_iload (pc := 21) dX12_judged_21 rfl ?_
      obtain ⟨g33, h⟩ := x_gd h
      refine g_iaload (pc := 23) dX12_judged_23 xc_160 (xin_of g33) (v := (rd u 160 v4.toNatClampNeg)) rfl ?_
      refine g_if_le (tgt := 31) (pc := 24) dX12_judged_24 (by decide) (fun c34 => ?_) (fun c34 => ?_)
      · replace h := (if_pos c34).symm.trans h
        refine g_iconst (pc := 31) dX12_judged_31 ic_0 ?_
        refine g_L (L' := [some (.ref 135), some (.int v1), none, some (.int v3), some (.int v4), none, none]) ⟨rfl, ⟨rfl, ⟨rfl, ⟨rfl, trivial⟩⟩⟩⟩ ?_
        exact G_X12_judged_32 hd ih v1 v3 v4 v2 (0 : Int32) u h
      · replace h := (if_neg c34).symm.trans h
        refine g_iconst (pc := 27) dX12_judged_27 ic_1 ?_
        refine g_goto (tgt := 32) (pc := 28) dX12_judged_28 (by decide) ?_
        refine g_L (L' := [some (.ref 135), some (.int v1), none, some (.int v3), some (.int v4), none, none]) ⟨rfl, ⟨rfl, ⟨rfl, ⟨rfl, trivial⟩⟩⟩⟩ ?_
        exact G_X12_judged_32 hd ih v1 v3 v4 v2 (1 : Int32) u h
set_option maxRecDepth 100000 in
set_option maxHeartbeats 4000000 in
theorem G_X12_judged_0 {sc : Nat × (Nat → Int32)} {d : Nat} (hd : 5 ≤ d) {r : Int32} {u' : xS} (v1 : Int32) (u : xS) (h : f_X12_judged v1 u = some (r, u')) : xG sc mX12_judged d 0 0 (xR (some (.int r)) (xL0, u') 0 0) 0 0 0 [some (.ref 135), some (.int v1), none, none, none, none, none] [] (xL0, u) := by
  rw [f_X12_judged] at h
  refine g_iconst (pc := 0) dX12_judged_0 ic_0 ?_
  refine g_istore_n (pc := 1) dX12_judged_1 (Nat.le_of_ble_eq_true rfl) (L' := [some (.ref 135), some (.int v1), some (.int (0 : Int32)), none, none, none, none]) rfl ?_
  refine g_iconst (pc := 2) dX12_judged_2 ic_0 ?_
  refine g_istore_n (pc := 3) dX12_judged_3 (Nat.le_of_ble_eq_true rfl) (L' := [some (.ref 135), some (.int v1), some (.int (0 : Int32)), some (.int (0 : Int32)), none, none, none]) rfl ?_
  refine g_iconst (pc := 4) dX12_judged_4 ic_0 ?_
  refine g_istore (pc := 5) dX12_judged_5 (Nat.le_of_ble_eq_true rfl) (L' := [some (.ref 135), some (.int v1), some (.int (0 : Int32)), some (.int (0 : Int32)), some (.int (0 : Int32)), none, none]) rfl ?_
  exact G_X12_judged_7 hd xN v1 (0 : Int32) (0 : Int32) (0 : Int32) u h
set_option maxRecDepth 100000 in
set_option maxHeartbeats 4000000 in
theorem M_X12_judged {sc : Nat × (Nat → Int32)} {d : Nat} (hd : 5 ≤ d) {r : Int32} {u u' : xS} {a1 : Int32} (h : f_X12_judged a1 u = some (r, u')) : xMt sc mX12_judged d 0 0 [.ref 135, .int a1] (xL0, u) (some (.int r)) (xL0, u') :=
  xMt.of (by decide +kernel) (by decide +kernel) (Nat.le_of_ble_eq_true rfl) (L := [some (.ref 135), some (.int a1), none, none, none, none, none]) rfl ((G_X12_judged_0 hd a1 u h))
set_option maxRecDepth 100000 in
set_option maxHeartbeats 4000000 in
theorem G_X12_judge_0 {sc : Nat × (Nat → Int32)} {d : Nat} (hd : 6 ≤ d) {r : Int32} {u' : xS} (v1 : Int32) (u : xS) (h : f_X12_judge v1 u = some (r, u')) : xG sc mX12_judge d 0 0 (xR (some (.int r)) (xL0, u') 0 0) 0 0 0 [some (.ref 135), some (.int v1), none] [] (xL0, u) := by
  rw [f_X12_judge] at h
  refine g_aload_n (pc := 0) dX12_judge_0 rfl ?_
  refine g_iconst (pc := 1) dX12_judge_1 ic_0 ?_
  refine g_pI (pc := 2) dX12_judge_2 pI_RX12_150 xc_135 (u' := (wr u 135 0 (0 : Int32))) rfl ?_
  refine g_aload_n (pc := 5) dX12_judge_5 rfl ?_
  refine g_iload_n (pc := 6) dX12_judge_6 rfl ?_
  refine g_cV (pc := 7) dX12_judge_7 cV_RX12_362 (M_X12_isRecipe (Nat.le_refl _) rfl) xc_135 (as := [.int v1]) (st := []) rfl rfl (Nat.le_of_ble_eq_true rfl) (Nat.le_trans (Nat.le_of_ble_eq_true rfl) hd) rfl ?_
  refine g_if_eq (tgt := 22) (pc := 10) dX12_judge_10 (by decide) (fun c1 => ?_) (fun c1 => ?_)
  · replace h := (if_pos c1).symm.trans h
    refine g_iconst (pc := 22) dX12_judge_22 ic_m1 ?_
    obtain ⟨h1, h2⟩ := x_inj2 h
    subst h1
    subst h2
    exact g_iret (pc := 23) dX12_judge_23 rfl rfl rfl (Nat.le_refl _) (Nat.le_refl _)
  · replace h := (if_neg c1).symm.trans h
    refine g_aload_n (pc := 13) dX12_judge_13 rfl ?_
    obtain ⟨x3, e2, h⟩ := x_bind h
    refine g_cV (pc := 14) dX12_judge_14 cV_RX12_356 (M_X12_partsInAll (Nat.le_refl _) e2) xc_135 (as := []) (st := []) rfl rfl (Nat.le_of_ble_eq_true rfl) (Nat.le_trans (Nat.le_of_ble_eq_true rfl) hd) rfl ?_
    refine g_bipush (pc := 17) dX12_judge_17 bp_12 ?_
    refine g_icmp_eq (tgt := 24) (pc := 19) dX12_judge_19 (by decide) (fun c4 => ?_) (fun c4 => ?_)
    · replace h := (if_pos c4).symm.trans h
      refine g_aload_n (pc := 24) dX12_judge_24 rfl ?_
      refine g_iload_n (pc := 25) dX12_judge_25 rfl ?_
      obtain ⟨⟨x6, u7⟩, e5, h⟩ := x_bind h
      dsimp only at h
      refine g_cV (pc := 26) dX12_judge_26 cV_RX12_365 (M_X12_judged (Nat.le_refl _) e5) xc_135 (as := [.int v1]) (st := []) rfl rfl (Nat.le_of_ble_eq_true rfl) (Nat.le_trans (Nat.le_of_ble_eq_true rfl) hd) rfl ?_
      refine g_istore_n (pc := 29) dX12_judge_29 (Nat.le_of_ble_eq_true rfl) (L' := [some (.ref 135), some (.int v1), some (.int x6)]) rfl ?_
      refine g_iload_n (pc := 30) dX12_judge_30 rfl ?_
      refine g_if_ge (tgt := 39) (pc := 31) dX12_judge_31 (by decide) (fun c8 => ?_) (fun c8 => ?_)
      · replace h := (if_pos c8).symm.trans h
        refine g_iload_n (pc := 39) dX12_judge_39 rfl ?_
        obtain ⟨h1, h2⟩ := x_inj2 h
        subst h1
        subst h2
        exact g_iret (pc := 40) dX12_judge_40 rfl rfl rfl (Nat.le_refl _) (Nat.le_refl _)
      · replace h := (if_neg c8).symm.trans h
        refine g_bipush (pc := 34) dX12_judge_34 bp_m2 ?_
        refine g_goto (tgt := 40) (pc := 36) dX12_judge_36 (by decide) ?_
        obtain ⟨h1, h2⟩ := x_inj2 h
        subst h1
        subst h2
        exact g_iret (pc := 40) dX12_judge_40 rfl rfl rfl (Nat.le_refl _) (Nat.le_refl _)
    · replace h := (if_neg c4).symm.trans h
      refine g_iconst (pc := 22) dX12_judge_22 ic_m1 ?_
      obtain ⟨h1, h2⟩ := x_inj2 h
      subst h1
      subst h2
      exact g_iret (pc := 23) dX12_judge_23 rfl rfl rfl (Nat.le_refl _) (Nat.le_refl _)
set_option maxRecDepth 100000 in
set_option maxHeartbeats 4000000 in
theorem M_X12_judge {sc : Nat × (Nat → Int32)} {d : Nat} (hd : 6 ≤ d) {r : Int32} {u u' : xS} {a1 : Int32} (h : f_X12_judge a1 u = some (r, u')) : xMt sc mX12_judge d 0 0 [.ref 135, .int a1] (xL0, u) (some (.int r)) (xL0, u') :=
  xMt.of (by decide +kernel) (by decide +kernel) (Nat.le_of_ble_eq_true rfl) (L := [some (.ref 135), some (.int a1), none]) rfl ((G_X12_judge_0 hd a1 u h))
set_option maxRecDepth 100000 in
set_option maxHeartbeats 4000000 in
theorem G_X12_led_64 {sc : Nat × (Nat → Int32)} {d : Nat} (hd : 2 ≤ d) {r : Int32} {u' : xS} {k22 : Int32 → Int32 → xS → Option (Int32 × xS)} (hk22 : ∀ (v1 : Int32) (v2 : Int32) (u : xS), k22 v1 v2 u = some (r, u') → xG sc mX12_led d 0 0 (xR (some (.int r)) (xL0, u') 0 0) 0 0 22 [some (.ref 135), some (.int v1), some (.int v2)] [] (xL0, u)) (v1 : Int32) (v2 : Int32) (u : xS) (h : f_X12_led_64 k22 v1 v2 u = some (r, u')) : xG sc mX12_led d 0 0 (xR (some (.int r)) (xL0, u') 0 0) 0 0 64 [some (.ref 135), some (.int v1), some (.int v2)] [] (xL0, u) := by
  rw [f_X12_led_64] at h
  refine g_inc (pc := 64) dX12_led_64 (Nat.le_of_ble_eq_true rfl) rfl ic_1 (L' := [some (.ref 135), some (.int v1), some (.int (v2 + (1 : Int32)))]) rfl ?_
  refine g_goto (tgt := 22) (pc := 67) dX12_led_67 (by decide) ?_
  exact hk22 v1 (v2 + (1 : Int32)) u h
set_option maxRecDepth 100000 in
set_option maxHeartbeats 4000000 in
theorem G_X12_led_22 {sc : Nat × (Nat → Int32)} {d : Nat} (hd : 2 ≤ d) {r : Int32} {u' : xS} : ∀ (n : Nat) (v1 : Int32) (v2 : Int32) (u : xS), f_X12_led_22 n v1 v2 u = some (r, u') → xG sc mX12_led d 0 0 (xR (some (.int r)) (xL0, u') 0 0) 0 0 22 [some (.ref 135), some (.int v1), some (.int v2)] [] (xL0, u) := by
  intro n
  induction n with
  | zero =>
    intro v1 v2 u h
    rw [f_X12_led_22] at h
    cases h
  | succ n ih =>
    intro v1 v2 u h
    rw [f_X12_led_22] at h
    refine g_iload_n (pc := 22) dX12_led_22 rfl ?_
    refine g_aload_n (pc := 23) dX12_led_23 rfl ?_
    refine g_gI (pc := 24) dX12_led_24 fI_RX12_194 xc_135 (v := (rd u 135 7)) rfl ?_
    refine g_icmp_ge (tgt := 70) (pc := 27) dX12_led_27 (by decide) (fun c1 => ?_) (fun c1 => ?_)
    · replace h := (if_pos c1).symm.trans h
      refine g_aload_n (pc := 70) dX12_led_70 rfl ?_
      refine g_gI (pc := 71) dX12_led_71 fI_RX12_388 xc_135 (v := (rd u 135 43)) rfl ?_
      refine g_iconst (pc := 74) dX12_led_74 ic_2 ?_
      refine g_idiv (pc := 75) dX12_led_75 (by decide) rfl ?_
      obtain ⟨h1, h2⟩ := x_inj2 h
      subst h1
      subst h2
      exact g_iret (pc := 76) dX12_led_76 rfl rfl rfl (Nat.le_refl _) (Nat.le_refl _)
    · replace h := (if_neg c1).symm.trans h
      refine g_aload_n (pc := 30) dX12_led_30 rfl ?_
      refine g_gR (pc := 31) dX12_led_31 fR_RX12_90 xc_135 (v := 161) rfl ?_
      refine g_bipush (pc := 34) dX12_led_34 bp_24 ?_
      refine g_iload_n (pc := 36) dX12_led_36 rfl ?_
      refine g_imul (pc := 37) dX12_led_37 rfl ?_
      refine g_iload_n (pc := 38) dX12_led_38 rfl ?_
      refine g_iadd (pc := 39) dX12_led_39 rfl ?_
      obtain ⟨g2, h⟩ := x_gd h
      refine g_iaload (pc := 40) dX12_led_40 xc_161 (xin_of g2) (v := (rd u 161 (((24 : Int32) * v1) + v2).toNatClampNeg)) rfl ?_
      refine g_if_le (tgt := 64) (pc := 41) dX12_led_41 (by decide) (fun c3 => ?_) (fun c3 => ?_)
      · replace h := (if_pos c3).symm.trans h
        exact G_X12_led_64 hd ih v1 v2 u h
      · replace h := (if_neg c3).symm.trans h
        refine g_aload_n (pc := 44) dX12_led_44 rfl ?_
        refine g_iload_n (pc := 45) dX12_led_45 rfl ?_
        obtain ⟨u5, e4, h⟩ := x_bind h
        refine g_cV (pc := 46) dX12_led_46 cV_RX12_394 (M_X12_enters (Nat.le_refl _) e4) xc_135 (as := [.int v2]) (st := []) rfl rfl (Nat.le_of_ble_eq_true rfl) (Nat.le_trans (Nat.le_of_ble_eq_true rfl) hd) rfl ?_
        refine g_aload_n (pc := 49) dX12_led_49 rfl ?_
        refine g_aload_n (pc := 50) dX12_led_50 rfl ?_
        refine g_gR (pc := 51) dX12_led_51 fR_RX12_90 xc_135 (v := 161) rfl ?_
        refine g_bipush (pc := 54) dX12_led_54 bp_24 ?_
        refine g_iload_n (pc := 56) dX12_led_56 rfl ?_
        refine g_imul (pc := 57) dX12_led_57 rfl ?_
        refine g_iload_n (pc := 58) dX12_led_58 rfl ?_
        refine g_iadd (pc := 59) dX12_led_59 rfl ?_
        refine g_iaload (pc := 60) dX12_led_60 xc_161 (xin_of g2) (v := (rd u5 161 (((24 : Int32) * v1) + v2).toNatClampNeg)) rfl ?_
        obtain ⟨u7, e6, h⟩ := x_bind h
        refine g_cV (pc := 61) dX12_led_61 cV_RX12_394 (M_X12_enters (Nat.le_refl _) e6) xc_135 (as := [.int (rd u5 161 (((24 : Int32) * v1) + v2).toNatClampNeg)]) (st := []) rfl rfl (Nat.le_of_ble_eq_true rfl) (Nat.le_trans (Nat.le_of_ble_eq_true rfl) hd) rfl ?_
        exact G_X12_led_64 hd ih v1 v2 u7 h
set_option maxRecDepth 100000 in
set_option maxHeartbeats 4000000 in
theorem G_X12_led_0 {sc : Nat × (Nat → Int32)} {d : Nat} (hd : 2 ≤ d) {r : Int32} {u' : xS} (v1 : Int32) (u : xS) (h : f_X12_led v1 u = some (r, u')) : xG sc mX12_led d 0 0 (xR (some (.int r)) (xL0, u') 0 0) 0 0 0 [some (.ref 135), some (.int v1), none] [] (xL0, u) := by
  rw [f_X12_led] at h
  refine g_aload_n (pc := 0) dX12_led_0 rfl ?_
  refine g_iconst (pc := 1) dX12_led_1 ic_0 ?_
  refine g_pI (pc := 2) dX12_led_2 pI_RX12_150 xc_135 (u' := (wr u 135 0 (0 : Int32))) rfl ?_
  refine g_aload_n (pc := 5) dX12_led_5 rfl ?_
  refine g_iload_n (pc := 6) dX12_led_6 rfl ?_
  refine g_cV (pc := 7) dX12_led_7 cV_RX12_391 (M_X12_isCloth (Nat.le_refl _) rfl) xc_135 (as := [.int v1]) (st := []) rfl rfl (Nat.le_of_ble_eq_true rfl) (Nat.le_trans (Nat.le_of_ble_eq_true rfl) hd) rfl ?_
  refine g_if_ne (tgt := 15) (pc := 10) dX12_led_10 (by decide) (fun c1 => ?_) (fun c1 => ?_)
  · replace h := (if_neg c1).symm.trans h
    refine g_aload_n (pc := 15) dX12_led_15 rfl ?_
    refine g_iconst (pc := 16) dX12_led_16 ic_0 ?_
    refine g_pI (pc := 17) dX12_led_17 pI_RX12_388 xc_135 (u' := (wr (wr u 135 0 (0 : Int32)) 135 43 (0 : Int32))) rfl ?_
    refine g_iconst (pc := 20) dX12_led_20 ic_0 ?_
    refine g_istore_n (pc := 21) dX12_led_21 (Nat.le_of_ble_eq_true rfl) (L' := [some (.ref 135), some (.int v1), some (.int (0 : Int32))]) rfl ?_
    exact G_X12_led_22 hd xN v1 (0 : Int32) (wr (wr u 135 0 (0 : Int32)) 135 43 (0 : Int32)) h
  · replace h := (if_pos c1).symm.trans h
    refine g_iconst (pc := 13) dX12_led_13 ic_m1 ?_
    obtain ⟨h1, h2⟩ := x_inj2 h
    subst h1
    subst h2
    exact g_iret (pc := 14) dX12_led_14 rfl rfl rfl (Nat.le_refl _) (Nat.le_refl _)
set_option maxRecDepth 100000 in
set_option maxHeartbeats 4000000 in
theorem M_X12_led {sc : Nat × (Nat → Int32)} {d : Nat} (hd : 2 ≤ d) {r : Int32} {u u' : xS} {a1 : Int32} (h : f_X12_led a1 u = some (r, u')) : xMt sc mX12_led d 0 0 [.ref 135, .int a1] (xL0, u) (some (.int r)) (xL0, u') :=
  xMt.of (by decide +kernel) (by decide +kernel) (Nat.le_of_ble_eq_true rfl) (L := [some (.ref 135), some (.int a1), none]) rfl ((G_X12_led_0 hd a1 u h))
set_option maxRecDepth 100000 in
set_option maxHeartbeats 4000000 in
theorem G_X12_look_0 {sc : Nat × (Nat → Int32)} {d : Nat} (hd : 2 ≤ d) {r : Int32} {u' : xS} (v1 : Int32) (v2 : Int32) (v3 : Int32) (v4 : Int32) (v5 : Int32) (u : xS) (h : f_X12_look v1 v2 v3 v4 v5 u = some (r, u')) : xG sc mX12_look d 0 0 (xR (some (.int r)) (xL0, u') 0 0) 0 0 0 [some (.ref 135), some (.int v1), some (.int v2), some (.int v3), some (.int v4), some (.int v5)] [] (xL0, u) := by
  rw [f_X12_look] at h
  refine g_aload_n (pc := 0) dX12_look_0 rfl ?_
  refine g_iconst (pc := 1) dX12_look_1 ic_0 ?_
  refine g_pI (pc := 2) dX12_look_2 pI_RX12_150 xc_135 (u' := (wr u 135 0 (0 : Int32))) rfl ?_
  refine g_aload_n (pc := 5) dX12_look_5 rfl ?_
  refine g_iload_n (pc := 6) dX12_look_6 rfl ?_
  refine g_cV (pc := 7) dX12_look_7 cV_RX12_205 (M_X12_isBale (Nat.le_refl _) rfl) xc_135 (as := [.int v1]) (st := []) rfl rfl (Nat.le_of_ble_eq_true rfl) (Nat.le_trans (Nat.le_of_ble_eq_true rfl) hd) rfl ?_
  refine g_if_eq (tgt := 65) (pc := 10) dX12_look_10 (by decide) (fun c1 => ?_) (fun c1 => ?_)
  · replace h := (if_pos c1).symm.trans h
    refine g_iconst (pc := 65) dX12_look_65 ic_m1 ?_
    obtain ⟨h1, h2⟩ := x_inj2 h
    subst h1
    subst h2
    exact g_iret (pc := 66) dX12_look_66 rfl rfl rfl (Nat.le_refl _) (Nat.le_refl _)
  · replace h := (if_neg c1).symm.trans h
    refine g_iload_n (pc := 13) dX12_look_13 rfl ?_
    refine g_i2l (pc := 14) dX12_look_14 rfl ?_
    refine g_lconst (v := (0 : Int64)) (pc := 15) dX12_look_15 rfl ?_
    refine g_lconst (v := (1 : Int64)) (pc := 16) dX12_look_16 rfl ?_
    refine g_cS (pc := 17) dX12_look_17 cS_RX12_156 (M_X12_in (Nat.le_refl _) rfl) (as := [.long ((v2).toInt64), .long (0 : Int64), .long (1 : Int64)]) (st := []) rfl rfl (Nat.le_of_ble_eq_true rfl) (Nat.le_trans (Nat.le_of_ble_eq_true rfl) hd) rfl ?_
    refine g_if_eq (tgt := 65) (pc := 20) dX12_look_20 (by decide) (fun c2 => ?_) (fun c2 => ?_)
    · replace h := (if_pos c2).symm.trans h
      refine g_iconst (pc := 65) dX12_look_65 ic_m1 ?_
      obtain ⟨h1, h2⟩ := x_inj2 h
      subst h1
      subst h2
      exact g_iret (pc := 66) dX12_look_66 rfl rfl rfl (Nat.le_refl _) (Nat.le_refl _)
    · replace h := (if_neg c2).symm.trans h
      refine g_iload_n (pc := 23) dX12_look_23 rfl ?_
      refine g_cS (pc := 24) dX12_look_24 cS_RX12_226 (M_X12_isDay (Nat.le_refl _) rfl) (as := [.int v3]) (st := []) rfl rfl (Nat.le_of_ble_eq_true rfl) (Nat.le_trans (Nat.le_of_ble_eq_true rfl) hd) rfl ?_
      refine g_if_eq (tgt := 65) (pc := 27) dX12_look_27 (by decide) (fun c3 => ?_) (fun c3 => ?_)
      · replace h := (if_pos c3).symm.trans h
        refine g_iconst (pc := 65) dX12_look_65 ic_m1 ?_
        obtain ⟨h1, h2⟩ := x_inj2 h
        subst h1
        subst h2
        exact g_iret (pc := 66) dX12_look_66 rfl rfl rfl (Nat.le_refl _) (Nat.le_refl _)
      · replace h := (if_neg c3).symm.trans h
        refine g_iload (pc := 30) dX12_look_30 rfl ?_
        refine g_i2l (pc := 32) dX12_look_32 rfl ?_
        refine g_lconst (v := (0 : Int64)) (pc := 33) dX12_look_33 rfl ?_
        refine g_ldc2 (pc := 34) dX12_look_34 kl_RX12_201 ?_
        refine g_cS (pc := 37) dX12_look_37 cS_RX12_156 (M_X12_in (Nat.le_refl _) rfl) (as := [.long ((v4).toInt64), .long (0 : Int64), .long (9999 : Int64)]) (st := []) rfl rfl (Nat.le_of_ble_eq_true rfl) (Nat.le_trans (Nat.le_of_ble_eq_true rfl) hd) rfl ?_
        refine g_if_eq (tgt := 65) (pc := 40) dX12_look_40 (by decide) (fun c4 => ?_) (fun c4 => ?_)
        · replace h := (if_pos c4).symm.trans h
          refine g_iconst (pc := 65) dX12_look_65 ic_m1 ?_
          obtain ⟨h1, h2⟩ := x_inj2 h
          subst h1
          subst h2
          exact g_iret (pc := 66) dX12_look_66 rfl rfl rfl (Nat.le_refl _) (Nat.le_refl _)
        · replace h := (if_neg c4).symm.trans h
          refine g_iload (pc := 43) dX12_look_43 rfl ?_
          refine g_i2l (pc := 45) dX12_look_45 rfl ?_
          refine g_lconst (v := (0 : Int64)) (pc := 46) dX12_look_46 rfl ?_
          refine g_ldc2 (pc := 47) dX12_look_47 kl_RX12_164 ?_
          refine g_cS (pc := 50) dX12_look_50 cS_RX12_156 (M_X12_in (Nat.le_refl _) rfl) (as := [.long ((v5).toInt64), .long (0 : Int64), .long (1000 : Int64)]) (st := []) rfl rfl (Nat.le_of_ble_eq_true rfl) (Nat.le_trans (Nat.le_of_ble_eq_true rfl) hd) rfl ?_
          refine g_if_eq (tgt := 65) (pc := 53) dX12_look_53 (by decide) (fun c5 => ?_) (fun c5 => ?_)
          · replace h := (if_pos c5).symm.trans h
            refine g_iconst (pc := 65) dX12_look_65 ic_m1 ?_
            obtain ⟨h1, h2⟩ := x_inj2 h
            subst h1
            subst h2
            exact g_iret (pc := 66) dX12_look_66 rfl rfl rfl (Nat.le_refl _) (Nat.le_refl _)
          · replace h := (if_neg c5).symm.trans h
            refine g_aload_n (pc := 56) dX12_look_56 rfl ?_
            refine g_gI (pc := 57) dX12_look_57 fI_RX12_229 xc_135 (v := (rd u 135 18)) rfl ?_
            refine g_bipush (pc := 60) dX12_look_60 bp_60 ?_
            refine g_icmp_ne (tgt := 67) (pc := 62) dX12_look_62 (by decide) (fun c6 => ?_) (fun c6 => ?_)
            · replace h := (if_neg c6).symm.trans h
              refine g_aload_n (pc := 67) dX12_look_67 rfl ?_
              refine g_gR (pc := 68) dX12_look_68 fR_RX12_49 xc_135 (v := 149) rfl ?_
              refine g_aload_n (pc := 71) dX12_look_71 rfl ?_
              refine g_gI (pc := 72) dX12_look_72 fI_RX12_229 xc_135 (v := (rd u 135 18)) rfl ?_
              refine g_iload_n (pc := 75) dX12_look_75 rfl ?_
              obtain ⟨g7, h⟩ := x_gd h
              refine g_iastore (pc := 76) dX12_look_76 xc_149 (xin_of g7) (u' := (wr (wr u 135 0 (0 : Int32)) 149 (rd u 135 18).toNatClampNeg v1)) rfl ?_
              refine g_aload_n (pc := 77) dX12_look_77 rfl ?_
              refine g_gR (pc := 78) dX12_look_78 fR_RX12_52 xc_135 (v := 150) rfl ?_
              refine g_aload_n (pc := 81) dX12_look_81 rfl ?_
              refine g_gI (pc := 82) dX12_look_82 fI_RX12_229 xc_135 (v := (rd u 135 18)) rfl ?_
              refine g_iload_n (pc := 85) dX12_look_85 rfl ?_
              refine g_iastore (pc := 86) dX12_look_86 xc_150 (xin_of g7) (u' := (wr (wr (wr u 135 0 (0 : Int32)) 149 (rd u 135 18).toNatClampNeg v1) 150 (rd u 135 18).toNatClampNeg v2)) rfl ?_
              refine g_aload_n (pc := 87) dX12_look_87 rfl ?_
              refine g_gR (pc := 88) dX12_look_88 fR_RX12_55 xc_135 (v := 151) rfl ?_
              refine g_aload_n (pc := 91) dX12_look_91 rfl ?_
              refine g_gI (pc := 92) dX12_look_92 fI_RX12_229 xc_135 (v := (rd u 135 18)) rfl ?_
              refine g_iload_n (pc := 95) dX12_look_95 rfl ?_
              refine g_iastore (pc := 96) dX12_look_96 xc_151 (xin_of g7) (u' := (wr (wr (wr (wr u 135 0 (0 : Int32)) 149 (rd u 135 18).toNatClampNeg v1) 150 (rd u 135 18).toNatClampNeg v2) 151 (rd u 135 18).toNatClampNeg v3)) rfl ?_
              refine g_aload_n (pc := 97) dX12_look_97 rfl ?_
              refine g_gR (pc := 98) dX12_look_98 fR_RX12_58 xc_135 (v := 152) rfl ?_
              refine g_aload_n (pc := 101) dX12_look_101 rfl ?_
              refine g_gI (pc := 102) dX12_look_102 fI_RX12_229 xc_135 (v := (rd u 135 18)) rfl ?_
              refine g_iload (pc := 105) dX12_look_105 rfl ?_
              refine g_iastore (pc := 107) dX12_look_107 xc_152 (xin_of g7) (u' := (wr (wr (wr (wr (wr u 135 0 (0 : Int32)) 149 (rd u 135 18).toNatClampNeg v1) 150 (rd u 135 18).toNatClampNeg v2) 151 (rd u 135 18).toNatClampNeg v3) 152 (rd u 135 18).toNatClampNeg v4)) rfl ?_
              refine g_aload_n (pc := 108) dX12_look_108 rfl ?_
              refine g_gR (pc := 109) dX12_look_109 fR_RX12_61 xc_135 (v := 153) rfl ?_
              refine g_aload_n (pc := 112) dX12_look_112 rfl ?_
              refine g_gI (pc := 113) dX12_look_113 fI_RX12_229 xc_135 (v := (rd u 135 18)) rfl ?_
              refine g_iload (pc := 116) dX12_look_116 rfl ?_
              refine g_iastore (pc := 118) dX12_look_118 xc_153 (xin_of g7) (u' := (wr (wr (wr (wr (wr (wr u 135 0 (0 : Int32)) 149 (rd u 135 18).toNatClampNeg v1) 150 (rd u 135 18).toNatClampNeg v2) 151 (rd u 135 18).toNatClampNeg v3) 152 (rd u 135 18).toNatClampNeg v4) 153 (rd u 135 18).toNatClampNeg v5)) rfl ?_
              refine g_aload_n (pc := 119) dX12_look_119 rfl ?_
              refine g_dup (pc := 120) dX12_look_120 rfl ?_
              refine g_gI (pc := 121) dX12_look_121 fI_RX12_229 xc_135 (v := (rd u 135 18)) rfl ?_
              refine g_iconst (pc := 124) dX12_look_124 ic_1 ?_
              refine g_iadd (pc := 125) dX12_look_125 rfl ?_
              refine g_pI (pc := 126) dX12_look_126 pI_RX12_229 xc_135 (u' := (wr (wr (wr (wr (wr (wr (wr u 135 0 (0 : Int32)) 149 (rd u 135 18).toNatClampNeg v1) 150 (rd u 135 18).toNatClampNeg v2) 151 (rd u 135 18).toNatClampNeg v3) 152 (rd u 135 18).toNatClampNeg v4) 153 (rd u 135 18).toNatClampNeg v5) 135 18 ((rd u 135 18) + (1 : Int32)))) rfl ?_
              refine g_aload_n (pc := 129) dX12_look_129 rfl ?_
              refine g_gI (pc := 130) dX12_look_130 fI_RX12_229 xc_135 (v := ((rd u 135 18) + (1 : Int32))) rfl ?_
              obtain ⟨h1, h2⟩ := x_inj2 h
              subst h1
              subst h2
              exact g_iret (pc := 133) dX12_look_133 rfl rfl rfl (Nat.le_refl _) (Nat.le_refl _)
            · replace h := (if_pos c6).symm.trans h
              refine g_iconst (pc := 65) dX12_look_65 ic_m1 ?_
              obtain ⟨h1, h2⟩ := x_inj2 h
              subst h1
              subst h2
              exact g_iret (pc := 66) dX12_look_66 rfl rfl rfl (Nat.le_refl _) (Nat.le_refl _)
set_option maxRecDepth 100000 in
set_option maxHeartbeats 4000000 in
theorem M_X12_look {sc : Nat × (Nat → Int32)} {d : Nat} (hd : 2 ≤ d) {r : Int32} {u u' : xS} {a1 : Int32} {a2 : Int32} {a3 : Int32} {a4 : Int32} {a5 : Int32} (h : f_X12_look a1 a2 a3 a4 a5 u = some (r, u')) : xMt sc mX12_look d 0 0 [.ref 135, .int a1, .int a2, .int a3, .int a4, .int a5] (xL0, u) (some (.int r)) (xL0, u') :=
  xMt.of (by decide +kernel) (by decide +kernel) (Nat.le_of_ble_eq_true rfl) (L := [some (.ref 135), some (.int a1), some (.int a2), some (.int a3), some (.int a4), some (.int a5)]) rfl ((G_X12_look_0 hd a1 a2 a3 a4 a5 u h))
set_option maxRecDepth 100000 in
set_option maxHeartbeats 4000000 in
theorem G_X12_takesOf_102 {sc : Nat × (Nat → Int32)} {d : Nat} (hd : 1 ≤ d) {u' : xS} {k6 : Int32 → Int32 → Int32 → Int32 → xS → Option xS} (hk6 : ∀ (v1 : Int32) (v3 : Int32) (v4 : Int32) (v5 : Int32) (u : xS), k6 v1 v3 v4 v5 u = some u' → xG sc mX12_takesOf d 0 0 (xR none (xL0, u') 0 0) 0 0 6 [some (.ref 135), some (.int v1), none, some (.int v3), some (.int v4), some (.int v5), none, none, none] [] (xL0, u)) (v1 : Int32) (v3 : Int32) (v4 : Int32) (v5 : Int32) (u : xS) (h : f_X12_takesOf_102 k6 v1 v3 v4 v5 u = some u') : xG sc mX12_takesOf d 0 0 (xR none (xL0, u') 0 0) 0 0 102 [some (.ref 135), some (.int v1), none, some (.int v3), some (.int v4), some (.int v5), none, none, none] [] (xL0, u) := by
  rw [f_X12_takesOf_102] at h
  refine g_inc (pc := 102) dX12_takesOf_102 (Nat.le_of_ble_eq_true rfl) rfl ic_1 (L' := [some (.ref 135), some (.int v1), none, some (.int v3), some (.int v4), some (.int (v5 + (1 : Int32))), none, none, none]) rfl ?_
  refine g_goto (tgt := 6) (pc := 105) dX12_takesOf_105 (by decide) ?_
  exact hk6 v1 v3 v4 (v5 + (1 : Int32)) u h
set_option maxRecDepth 100000 in
set_option maxHeartbeats 4000000 in
theorem G_X12_takesOf_6 {sc : Nat × (Nat → Int32)} {d : Nat} (hd : 1 ≤ d) {u' : xS} : ∀ (n : Nat) (v1 : Int32) (v3 : Int32) (v4 : Int32) (v5 : Int32) (u : xS), f_X12_takesOf_6 n v1 v3 v4 v5 u = some u' → xG sc mX12_takesOf d 0 0 (xR none (xL0, u') 0 0) 0 0 6 [some (.ref 135), some (.int v1), none, some (.int v3), some (.int v4), some (.int v5), none, none, none] [] (xL0, u) := by
  intro n
  induction n with
  | zero =>
    intro v1 v3 v4 v5 u h
    rw [f_X12_takesOf_6] at h
    cases h
  | succ n ih =>
    intro v1 v3 v4 v5 u h
    rw [f_X12_takesOf_6] at h
    refine g_iload (pc := 6) dX12_takesOf_6 rfl ?_
    refine g_aload_n (pc := 8) dX12_takesOf_8 rfl ?_
    refine g_gI (pc := 9) dX12_takesOf_9 fI_RX12_214 xc_135 (v := (rd u 135 16)) rfl ?_
    refine g_icmp_ge (tgt := 108) (pc := 12) dX12_takesOf_12 (by decide) (fun c1 => ?_) (fun c1 => ?_)
    · replace h := (if_pos c1).symm.trans h
      replace h := Option.some.inj h
      subst h
      exact g_ret (pc := 108) dX12_takesOf_108 rfl rfl rfl (Nat.le_refl _) (Nat.le_refl _)
    · replace h := (if_neg c1).symm.trans h
      refine g_aload_n (pc := 15) dX12_takesOf_15 rfl ?_
      refine g_gR (pc := 16) dX12_takesOf_16 fR_RX12_46 xc_135 (v := 148) rfl ?_
      refine g_iload (pc := 19) dX12_takesOf_19 rfl ?_
      obtain ⟨g2, h⟩ := x_gd h
      refine g_iaload (pc := 21) dX12_takesOf_21 xc_148 (xin_of g2) (v := (rd u 148 v5.toNatClampNeg)) rfl ?_
      refine g_istore (pc := 22) dX12_takesOf_22 (Nat.le_of_ble_eq_true rfl) (L' := [some (.ref 135), some (.int v1), none, some (.int v3), some (.int v4), some (.int v5), some (.int (rd u 148 v5.toNatClampNeg)), none, none]) rfl ?_
      refine g_bipush (pc := 24) dX12_takesOf_24 bp_24 ?_
      refine g_iload_n (pc := 26) dX12_takesOf_26 rfl ?_
      refine g_imul (pc := 27) dX12_takesOf_27 rfl ?_
      refine g_iload (pc := 28) dX12_takesOf_28 rfl ?_
      refine g_iadd (pc := 30) dX12_takesOf_30 rfl ?_
      refine g_istore (pc := 31) dX12_takesOf_31 (Nat.le_of_ble_eq_true rfl) (L' := [some (.ref 135), some (.int v1), none, some (.int v3), some (.int v4), some (.int v5), some (.int (rd u 148 v5.toNatClampNeg)), some (.int (((24 : Int32) * v1) + (rd u 148 v5.toNatClampNeg))), none]) rfl ?_
      refine g_iload (pc := 33) dX12_takesOf_33 rfl ?_
      refine g_aload_n (pc := 35) dX12_takesOf_35 rfl ?_
      refine g_gR (pc := 36) dX12_takesOf_36 fR_RX12_43 xc_135 (v := 147) rfl ?_
      refine g_iload (pc := 39) dX12_takesOf_39 rfl ?_
      obtain ⟨g3, h⟩ := x_gd h
      refine g_iaload (pc := 41) dX12_takesOf_41 xc_147 (xin_of g3) (v := (rd u 147 (((24 : Int32) * v1) + (rd u 148 v5.toNatClampNeg)).toNatClampNeg)) rfl ?_
      refine g_min (pc := 42) dX12_takesOf_42 mK_RX12_250 (Nat.le_of_ble_eq_true rfl) (Nat.le_trans (Nat.le_of_ble_eq_true rfl) hd) (Nat.zero_le _) (Nat.zero_le _) ?_
      refine g_istore (pc := 45) dX12_takesOf_45 (Nat.le_of_ble_eq_true rfl) (L' := [some (.ref 135), some (.int v1), none, some (.int v3), some (.int v4), some (.int v5), some (.int (rd u 148 v5.toNatClampNeg)), some (.int (((24 : Int32) * v1) + (rd u 148 v5.toNatClampNeg))), some (.int (imin v4 (rd u 147 (((24 : Int32) * v1) + (rd u 148 v5.toNatClampNeg)).toNatClampNeg)))]) rfl ?_
      refine g_aload_n (pc := 47) dX12_takesOf_47 rfl ?_
      refine g_gR (pc := 48) dX12_takesOf_48 fR_RX12_43 xc_135 (v := 147) rfl ?_
      refine g_iload (pc := 51) dX12_takesOf_51 rfl ?_
      refine g_dup2 (pc := 53) dX12_takesOf_53 rfl rfl ?_
      refine g_iaload (pc := 54) dX12_takesOf_54 xc_147 (xin_of g3) (v := (rd u 147 (((24 : Int32) * v1) + (rd u 148 v5.toNatClampNeg)).toNatClampNeg)) rfl ?_
      refine g_iload (pc := 55) dX12_takesOf_55 rfl ?_
      refine g_isub (pc := 57) dX12_takesOf_57 rfl ?_
      refine g_iastore (pc := 58) dX12_takesOf_58 xc_147 (xin_of g3) (u' := (wr u 147 (((24 : Int32) * v1) + (rd u 148 v5.toNatClampNeg)).toNatClampNeg ((rd u 147 (((24 : Int32) * v1) + (rd u 148 v5.toNatClampNeg)).toNatClampNeg) - (imin v4 (rd u 147 (((24 : Int32) * v1) + (rd u 148 v5.toNatClampNeg)).toNatClampNeg))))) rfl ?_
      refine g_iload (pc := 59) dX12_takesOf_59 rfl ?_
      refine g_iload (pc := 61) dX12_takesOf_61 rfl ?_
      refine g_isub (pc := 63) dX12_takesOf_63 rfl ?_
      refine g_istore (pc := 64) dX12_takesOf_64 (Nat.le_of_ble_eq_true rfl) (L' := [some (.ref 135), some (.int v1), none, some (.int v3), some (.int (v4 - (imin v4 (rd u 147 (((24 : Int32) * v1) + (rd u 148 v5.toNatClampNeg)).toNatClampNeg)))), some (.int v5), some (.int (rd u 148 v5.toNatClampNeg)), some (.int (((24 : Int32) * v1) + (rd u 148 v5.toNatClampNeg))), some (.int (imin v4 (rd u 147 (((24 : Int32) * v1) + (rd u 148 v5.toNatClampNeg)).toNatClampNeg)))]) rfl ?_
      refine g_iload_n (pc := 66) dX12_takesOf_66 rfl ?_
      refine g_if_ge (tgt := 85) (pc := 67) dX12_takesOf_67 (by decide) (fun c4 => ?_) (fun c4 => ?_)
      · replace h := (if_pos c4).symm.trans h
        refine g_aload_n (pc := 85) dX12_takesOf_85 rfl ?_
        refine g_gR (pc := 86) dX12_takesOf_86 fR_RX12_90 xc_135 (v := 161) rfl ?_
        refine g_bipush (pc := 89) dX12_takesOf_89 bp_24 ?_
        refine g_iload_n (pc := 91) dX12_takesOf_91 rfl ?_
        refine g_imul (pc := 92) dX12_takesOf_92 rfl ?_
        refine g_iload (pc := 93) dX12_takesOf_93 rfl ?_
        refine g_iadd (pc := 95) dX12_takesOf_95 rfl ?_
        refine g_dup2 (pc := 96) dX12_takesOf_96 rfl rfl ?_
        obtain ⟨g5, h⟩ := x_gd h
        refine g_iaload (pc := 97) dX12_takesOf_97 xc_161 (xin_of g5) (v := (rd u 161 (((24 : Int32) * v3) + (rd u 148 v5.toNatClampNeg)).toNatClampNeg)) rfl ?_
        refine g_iload (pc := 98) dX12_takesOf_98 rfl ?_
        refine g_iadd (pc := 100) dX12_takesOf_100 rfl ?_
        refine g_iastore (pc := 101) dX12_takesOf_101 xc_161 (xin_of g5) (u' := (wr (wr u 147 (((24 : Int32) * v1) + (rd u 148 v5.toNatClampNeg)).toNatClampNeg ((rd u 147 (((24 : Int32) * v1) + (rd u 148 v5.toNatClampNeg)).toNatClampNeg) - (imin v4 (rd u 147 (((24 : Int32) * v1) + (rd u 148 v5.toNatClampNeg)).toNatClampNeg)))) 161 (((24 : Int32) * v3) + (rd u 148 v5.toNatClampNeg)).toNatClampNeg ((rd u 161 (((24 : Int32) * v3) + (rd u 148 v5.toNatClampNeg)).toNatClampNeg) + (imin v4 (rd u 147 (((24 : Int32) * v1) + (rd u 148 v5.toNatClampNeg)).toNatClampNeg))))) rfl ?_
        refine g_L (L' := [some (.ref 135), some (.int v1), none, some (.int v3), some (.int (v4 - (imin v4 (rd u 147 (((24 : Int32) * v1) + (rd u 148 v5.toNatClampNeg)).toNatClampNeg)))), some (.int v5), none, none, none]) ⟨rfl, ⟨rfl, ⟨rfl, ⟨rfl, ⟨rfl, trivial⟩⟩⟩⟩⟩ ?_
        exact G_X12_takesOf_102 hd ih v1 v3 (v4 - (imin v4 (rd u 147 (((24 : Int32) * v1) + (rd u 148 v5.toNatClampNeg)).toNatClampNeg))) v5 (wr (wr u 147 (((24 : Int32) * v1) + (rd u 148 v5.toNatClampNeg)).toNatClampNeg ((rd u 147 (((24 : Int32) * v1) + (rd u 148 v5.toNatClampNeg)).toNatClampNeg) - (imin v4 (rd u 147 (((24 : Int32) * v1) + (rd u 148 v5.toNatClampNeg)).toNatClampNeg)))) 161 (((24 : Int32) * v3) + (rd u 148 v5.toNatClampNeg)).toNatClampNeg ((rd u 161 (((24 : Int32) * v3) + (rd u 148 v5.toNatClampNeg)).toNatClampNeg) + (imin v4 (rd u 147 (((24 : Int32) * v1) + (rd u 148 v5.toNatClampNeg)).toNatClampNeg)))) h
      · replace h := (if_neg c4).symm.trans h
        refine g_aload_n (pc := 70) dX12_takesOf_70 rfl ?_
        refine g_gR (pc := 71) dX12_takesOf_71 fR_RX12_37 xc_135 (v := 145) rfl ?_
        refine g_iload (pc := 74) dX12_takesOf_74 rfl ?_
        refine g_dup2 (pc := 76) dX12_takesOf_76 rfl rfl ?_
        obtain ⟨g6, h⟩ := x_gd h
        refine g_iaload (pc := 77) dX12_takesOf_77 xc_145 (xin_of g6) (v := (rd u 145 (rd u 148 v5.toNatClampNeg).toNatClampNeg)) rfl ?_
        refine g_iload (pc := 78) dX12_takesOf_78 rfl ?_
        refine g_iadd (pc := 80) dX12_takesOf_80 rfl ?_
        refine g_iastore (pc := 81) dX12_takesOf_81 xc_145 (xin_of g6) (u' := (wr (wr u 147 (((24 : Int32) * v1) + (rd u 148 v5.toNatClampNeg)).toNatClampNeg ((rd u 147 (((24 : Int32) * v1) + (rd u 148 v5.toNatClampNeg)).toNatClampNeg) - (imin v4 (rd u 147 (((24 : Int32) * v1) + (rd u 148 v5.toNatClampNeg)).toNatClampNeg)))) 145 (rd u 148 v5.toNatClampNeg).toNatClampNeg ((rd u 145 (rd u 148 v5.toNatClampNeg).toNatClampNeg) + (imin v4 (rd u 147 (((24 : Int32) * v1) + (rd u 148 v5.toNatClampNeg)).toNatClampNeg))))) rfl ?_
        refine g_goto (tgt := 102) (pc := 82) dX12_takesOf_82 (by decide) ?_
        refine g_L (L' := [some (.ref 135), some (.int v1), none, some (.int v3), some (.int (v4 - (imin v4 (rd u 147 (((24 : Int32) * v1) + (rd u 148 v5.toNatClampNeg)).toNatClampNeg)))), some (.int v5), none, none, none]) ⟨rfl, ⟨rfl, ⟨rfl, ⟨rfl, ⟨rfl, trivial⟩⟩⟩⟩⟩ ?_
        exact G_X12_takesOf_102 hd ih v1 v3 (v4 - (imin v4 (rd u 147 (((24 : Int32) * v1) + (rd u 148 v5.toNatClampNeg)).toNatClampNeg))) v5 (wr (wr u 147 (((24 : Int32) * v1) + (rd u 148 v5.toNatClampNeg)).toNatClampNeg ((rd u 147 (((24 : Int32) * v1) + (rd u 148 v5.toNatClampNeg)).toNatClampNeg) - (imin v4 (rd u 147 (((24 : Int32) * v1) + (rd u 148 v5.toNatClampNeg)).toNatClampNeg)))) 145 (rd u 148 v5.toNatClampNeg).toNatClampNeg ((rd u 145 (rd u 148 v5.toNatClampNeg).toNatClampNeg) + (imin v4 (rd u 147 (((24 : Int32) * v1) + (rd u 148 v5.toNatClampNeg)).toNatClampNeg)))) h
set_option maxRecDepth 100000 in
set_option maxHeartbeats 4000000 in
theorem G_X12_takesOf_0 {sc : Nat × (Nat → Int32)} {d : Nat} (hd : 1 ≤ d) {u' : xS} (v1 : Int32) (v2 : Int32) (v3 : Int32) (u : xS) (h : f_X12_takesOf v1 v2 v3 u = some u') : xG sc mX12_takesOf d 0 0 (xR none (xL0, u') 0 0) 0 0 0 [some (.ref 135), some (.int v1), some (.int v2), some (.int v3), none, none, none, none, none] [] (xL0, u) := by
  rw [f_X12_takesOf] at h
  refine g_iload_n (pc := 0) dX12_takesOf_0 rfl ?_
  refine g_istore (pc := 1) dX12_takesOf_1 (Nat.le_of_ble_eq_true rfl) (L' := [some (.ref 135), some (.int v1), some (.int v2), some (.int v3), some (.int v2), none, none, none, none]) rfl ?_
  refine g_iconst (pc := 3) dX12_takesOf_3 ic_0 ?_
  refine g_istore (pc := 4) dX12_takesOf_4 (Nat.le_of_ble_eq_true rfl) (L' := [some (.ref 135), some (.int v1), some (.int v2), some (.int v3), some (.int v2), some (.int (0 : Int32)), none, none, none]) rfl ?_
  refine g_L (L' := [some (.ref 135), some (.int v1), none, some (.int v3), some (.int v2), some (.int (0 : Int32)), none, none, none]) ⟨rfl, ⟨rfl, ⟨rfl, ⟨rfl, ⟨rfl, trivial⟩⟩⟩⟩⟩ ?_
  exact G_X12_takesOf_6 hd xN v1 v3 v2 (0 : Int32) u h
set_option maxRecDepth 100000 in
set_option maxHeartbeats 4000000 in
theorem M_X12_takesOf {sc : Nat × (Nat → Int32)} {d : Nat} (hd : 1 ≤ d) {u u' : xS} {a1 : Int32} {a2 : Int32} {a3 : Int32} (h : f_X12_takesOf a1 a2 a3 u = some u') : xMt sc mX12_takesOf d 0 0 [.ref 135, .int a1, .int a2, .int a3] (xL0, u) none (xL0, u') :=
  xMt.of (by decide +kernel) (by decide +kernel) (Nat.le_of_ble_eq_true rfl) (L := [some (.ref 135), some (.int a1), some (.int a2), some (.int a3), none, none, none, none, none]) rfl ((G_X12_takesOf_0 hd a1 a2 a3 u h))
