set_option maxRecDepth 100000 in
set_option maxHeartbeats 4000000 in
theorem G_X11_mix_176 {sc : Nat × (Nat → Int32)} {d : Nat} (hd : 5 ≤ d) {r : Int32} {u' : xS} {k102 : Int32 → Int32 → Int32 → Int32 → Int32 → xS → Option (Int32 × xS)} (hk102 : ∀ (v1 : Int32) (v2 : Int32) (v3 : Int32) (v4 : Int32) (v7 : Int32) (u : xS), k102 v1 v2 v3 v4 v7 u = some (r, u') → xG sc mX11_mix d 0 0 (xR (some (.int r)) (xL0, u') 0 0) 0 0 102 [some (.ref 0), some (.int v1), some (.int v2), some (.int v3), some (.int v4), none, none, some (.int v7), none] [] (xL0, u)) (v1 : Int32) (v2 : Int32) (v3 : Int32) (v4 : Int32) (v7 : Int32) (u : xS) (h : f_X11_mix_176 k102 v1 v2 v3 v4 v7 u = some (r, u')) : xG sc mX11_mix d 0 0 (xR (some (.int r)) (xL0, u') 0 0) 0 0 176 [some (.ref 0), some (.int v1), some (.int v2), some (.int v3), some (.int v4), none, none, some (.int v7), none] [] (xL0, u) := by
  rw [f_X11_mix_176] at h
  refine g_inc (pc := 176) dX11_mix_176 (Nat.le_of_ble_eq_true rfl) rfl ic_1 (L' := [some (.ref 0), some (.int v1), some (.int v2), some (.int v3), some (.int v4), none, none, some (.int (v7 + (1 : Int32))), none]) rfl ?_
  refine g_goto (tgt := 102) (pc := 179) dX11_mix_179 (by decide) ?_
  exact hk102 v1 v2 v3 v4 (v7 + (1 : Int32)) u h
set_option maxRecDepth 100000 in
set_option maxHeartbeats 4000000 in
theorem G_X11_mix_152 {sc : Nat × (Nat → Int32)} {d : Nat} (hd : 5 ≤ d) {r : Int32} {u' : xS} {k102 : Int32 → Int32 → Int32 → Int32 → Int32 → xS → Option (Int32 × xS)} (hk102 : ∀ (v1 : Int32) (v2 : Int32) (v3 : Int32) (v4 : Int32) (v7 : Int32) (u : xS), k102 v1 v2 v3 v4 v7 u = some (r, u') → xG sc mX11_mix d 0 0 (xR (some (.int r)) (xL0, u') 0 0) 0 0 102 [some (.ref 0), some (.int v1), some (.int v2), some (.int v3), some (.int v4), none, none, some (.int v7), none] [] (xL0, u)) (v1 : Int32) (v2 : Int32) (v3 : Int32) (v4 : Int32) (v7 : Int32) (s0 : Int32) (u : xS) (h : f_X11_mix_152 k102 v1 v2 v3 v4 v7 s0 u = some (r, u')) : xG sc mX11_mix d 0 0 (xR (some (.int r)) (xL0, u') 0 0) 0 0 152 [some (.ref 0), some (.int v1), some (.int v2), some (.int v3), some (.int v4), none, none, some (.int v7), none] [.int s0] (xL0, u) := by
  rw [f_X11_mix_152] at h
  refine g_istore (pc := 152) dX11_mix_152 (Nat.le_of_ble_eq_true rfl) (L' := [some (.ref 0), some (.int v1), some (.int v2), some (.int v3), some (.int v4), none, none, some (.int v7), some (.int s0)]) rfl ?_
  refine g_aload_n (pc := 154) dX11_mix_154 rfl ?_
  refine g_gR (pc := 155) dX11_mix_155 fR_RX11_61 xc_0 (v := 79) rfl ?_
  refine g_iload (pc := 158) dX11_mix_158 rfl ?_
  refine g_aload_n (pc := 160) dX11_mix_160 rfl ?_
  refine g_gR (pc := 161) dX11_mix_161 fR_RX11_12 xc_0 (v := 1) rfl ?_
  refine g_iload (pc := 164) dX11_mix_164 rfl ?_
  refine g_iload (pc := 166) dX11_mix_166 rfl ?_
  obtain ⟨x2, e1, h⟩ := x_bind h
  refine g_cV (pc := 168) dX11_mix_168 cV_RX11_119 (M_X8_priceIn (Nat.le_refl _) e1) xc_1 (as := [.int v7, .int v4]) (st := [.int v7, .ref 79]) rfl rfl (Nat.le_of_ble_eq_true rfl) (Nat.le_trans (Nat.le_of_ble_eq_true rfl) hd) rfl ?_
  refine g_iload (pc := 171) dX11_mix_171 rfl ?_
  obtain ⟨u4, e3, h⟩ := x_bind h
  refine g_cV (pc := 173) dX11_mix_173 cV_RX11_323 (M_X1_choose (Nat.le_refl _) e3) xc_79 (as := [.int v7, .int x2, .int s0]) (st := []) rfl rfl (Nat.le_of_ble_eq_true rfl) (Nat.le_trans (Nat.le_of_ble_eq_true rfl) hd) rfl ?_
  refine g_L (L' := [some (.ref 0), some (.int v1), some (.int v2), some (.int v3), some (.int v4), none, none, some (.int v7), none]) ⟨rfl, ⟨rfl, ⟨rfl, ⟨rfl, ⟨rfl, ⟨rfl, trivial⟩⟩⟩⟩⟩⟩ ?_
  exact G_X11_mix_176 hd hk102 v1 v2 v3 v4 v7 u4 h
set_option maxRecDepth 100000 in
set_option maxHeartbeats 4000000 in
theorem G_X11_mix_102 {sc : Nat × (Nat → Int32)} {d : Nat} (hd : 5 ≤ d) {r : Int32} {u' : xS} : ∀ (n : Nat) (v1 : Int32) (v2 : Int32) (v3 : Int32) (v4 : Int32) (v7 : Int32) (u : xS), f_X11_mix_102 n v1 v2 v3 v4 v7 u = some (r, u') → xG sc mX11_mix d 0 0 (xR (some (.int r)) (xL0, u') 0 0) 0 0 102 [some (.ref 0), some (.int v1), some (.int v2), some (.int v3), some (.int v4), none, none, some (.int v7), none] [] (xL0, u) := by
  intro n
  induction n with
  | zero =>
    intro v1 v2 v3 v4 v7 u h
    rw [f_X11_mix_102] at h
    cases h
  | succ n ih =>
    intro v1 v2 v3 v4 v7 u h
    rw [f_X11_mix_102] at h
    refine g_iload (pc := 102) dX11_mix_102 rfl ?_
    refine g_aload_n (pc := 104) dX11_mix_104 rfl ?_
    refine g_gR (pc := 105) dX11_mix_105 fR_RX11_12 xc_0 (v := 1) rfl ?_
    refine g_gI (pc := 108) dX11_mix_108 fI_RX11_102 xc_1 (v := (rd u 1 2)) rfl ?_
    refine g_icmp_ge (tgt := 182) (pc := 111) dX11_mix_111 (by decide) (fun c1 => ?_) (fun c1 => ?_)
    · replace h := (if_pos c1).symm.trans h
      refine g_aload_n (pc := 182) dX11_mix_182 rfl ?_
      refine g_iload_n (pc := 183) dX11_mix_183 rfl ?_
      obtain ⟨⟨x3, u4⟩, e2, h⟩ := x_bind h
      dsimp only at h
      refine g_cV (pc := 184) dX11_mix_184 cV_RX11_326 (M_X11_cheapest (Nat.le_refl _) e2) xc_0 (as := [.int v1]) (st := []) rfl rfl (Nat.le_of_ble_eq_true rfl) (Nat.le_trans (Nat.le_of_ble_eq_true rfl) hd) rfl ?_
      refine g_istore (pc := 187) dX11_mix_187 (Nat.le_of_ble_eq_true rfl) (L' := [some (.ref 0), some (.int v1), some (.int v2), some (.int v3), some (.int v4), none, none, some (.int x3), none]) rfl ?_
      refine g_iload (pc := 189) dX11_mix_189 rfl ?_
      refine g_if_lt (tgt := 201) (pc := 191) dX11_mix_191 (by decide) (fun c5 => ?_) (fun c5 => ?_)
      · replace h := (if_pos c5).symm.trans h
        refine g_iload (pc := 201) dX11_mix_201 rfl ?_
        obtain ⟨h1, h2⟩ := x_inj2 h
        subst h1
        subst h2
        exact g_iret (pc := 203) dX11_mix_203 rfl rfl rfl (Nat.le_refl _) (Nat.le_refl _)
      · replace h := (if_neg c5).symm.trans h
        refine g_aload_n (pc := 194) dX11_mix_194 rfl ?_
        refine g_gR (pc := 195) dX11_mix_195 fR_RX11_61 xc_0 (v := 79) rfl ?_
        obtain ⟨u7, e6, h⟩ := x_bind h
        refine g_cV (pc := 198) dX11_mix_198 cV_RX11_329 (M_X1_settle (Nat.le_refl _) e6) xc_79 (as := []) (st := []) rfl rfl (Nat.le_of_ble_eq_true rfl) (Nat.le_trans (Nat.le_of_ble_eq_true rfl) hd) rfl ?_
        refine g_iload (pc := 201) dX11_mix_201 rfl ?_
        obtain ⟨h1, h2⟩ := x_inj2 h
        subst h1
        subst h2
        exact g_iret (pc := 203) dX11_mix_203 rfl rfl rfl (Nat.le_refl _) (Nat.le_refl _)
    · replace h := (if_neg c1).symm.trans h
      refine g_iload_n (pc := 114) dX11_mix_114 rfl ?_
      refine g_iload (pc := 115) dX11_mix_115 rfl ?_
      refine g_ishr (pc := 117) dX11_mix_117 rfl ?_
      refine g_iconst (pc := 118) dX11_mix_118 ic_1 ?_
      refine g_iand (pc := 119) dX11_mix_119 rfl ?_
      refine g_iconst (pc := 120) dX11_mix_120 ic_1 ?_
      refine g_icmp_ne (tgt := 176) (pc := 121) dX11_mix_121 (by decide) (fun c9 => ?_) (fun c9 => ?_)
      · replace h := (if_neg c9).symm.trans h
        exact G_X11_mix_176 hd ih v1 v2 v3 v4 v7 u h
      · replace h := (if_pos c9).symm.trans h
        refine g_iload_n (pc := 124) dX11_mix_124 rfl ?_
        refine g_if_ne (tgt := 133) (pc := 125) dX11_mix_125 (by decide) (fun c10 => ?_) (fun c10 => ?_)
        · replace h := (if_neg c10).symm.trans h
          refine g_bipush (pc := 133) dX11_mix_133 bp_12 ?_
          refine g_aload_n (pc := 135) dX11_mix_135 rfl ?_
          refine g_gR (pc := 136) dX11_mix_136 fR_RX11_54 xc_0 (v := 74) rfl ?_
          refine g_iload (pc := 139) dX11_mix_139 rfl ?_
          obtain ⟨x12, e11, h⟩ := x_bind h
          refine g_cV (pc := 141) dX11_mix_141 cV_RX11_263 (M_X6_ofSort (Nat.le_refl _) e11) xc_74 (as := [.int v7]) (st := [.int (12 : Int32)]) rfl rfl (Nat.le_of_ble_eq_true rfl) (Nat.le_trans (Nat.le_of_ble_eq_true rfl) hd) rfl ?_
          refine g_iload_n (pc := 144) dX11_mix_144 rfl ?_
          refine g_bipush (pc := 145) dX11_mix_145 bp_12 ?_
          refine g_idiv (pc := 147) dX11_mix_147 (by decide) rfl ?_
          obtain ⟨g13, h⟩ := x_gd h
          refine g_idiv (pc := 148) dX11_mix_148 (xnz_of g13) rfl ?_
          refine g_min (pc := 149) dX11_mix_149 mK_RX11_227 (Nat.le_of_ble_eq_true rfl) (Nat.le_trans (Nat.le_of_ble_eq_true rfl) hd) (Nat.zero_le _) (Nat.zero_le _) ?_
          exact G_X11_mix_152 hd ih v1 v2 v3 v4 v7 (imin (12 : Int32) (x12 / (v3 / (12 : Int32)))) u h
        · replace h := (if_pos c10).symm.trans h
          refine g_bipush (pc := 128) dX11_mix_128 bp_12 ?_
          refine g_goto (tgt := 152) (pc := 130) dX11_mix_130 (by decide) ?_
          exact G_X11_mix_152 hd ih v1 v2 v3 v4 v7 (12 : Int32) u h
set_option maxRecDepth 100000 in
set_option maxHeartbeats 4000000 in
theorem G_X11_mix_58 {sc : Nat × (Nat → Int32)} {d : Nat} (hd : 5 ≤ d) {r : Int32} {u' : xS} (v1 : Int32) (v2 : Int32) (v3 : Int32) (v4 : Int32) (v5 : Int32) (s0 : Int32) (u : xS) (h : f_X11_mix_58 v1 v2 v3 v4 v5 s0 u = some (r, u')) : xG sc mX11_mix d 0 0 (xR (some (.int r)) (xL0, u') 0 0) 0 0 58 [some (.ref 0), some (.int v1), some (.int v2), some (.int v3), some (.int v4), some (.int v5), none, none, none] [.int s0] (xL0, u) := by
  rw [f_X11_mix_58] at h
  refine g_istore (pc := 58) dX11_mix_58 (Nat.le_of_ble_eq_true rfl) (L' := [some (.ref 0), some (.int v1), some (.int v2), some (.int v3), some (.int v4), some (.int v5), some (.int s0), none, none]) rfl ?_
  refine g_aload_n (pc := 60) dX11_mix_60 rfl ?_
  refine g_gR (pc := 61) dX11_mix_61 fR_RX11_47 xc_0 (v := 58) rfl ?_
  refine g_iload_n (pc := 64) dX11_mix_64 rfl ?_
  refine g_cV (pc := 65) dX11_mix_65 cV_RX11_293 (M_X10_hasRecipe (Nat.le_refl _) rfl) xc_58 (as := [.int v1]) (st := []) rfl rfl (Nat.le_of_ble_eq_true rfl) (Nat.le_trans (Nat.le_of_ble_eq_true rfl) hd) rfl ?_
  refine g_if_eq (tgt := 89) (pc := 68) dX11_mix_68 (by decide) (fun c1 => ?_) (fun c1 => ?_)
  · replace h := (if_pos c1).symm.trans h
    refine g_iconst (pc := 89) dX11_mix_89 ic_m1 ?_
    obtain ⟨h1, h2⟩ := x_inj2 h
    subst h1
    subst h2
    exact g_iret (pc := 90) dX11_mix_90 rfl rfl rfl (Nat.le_refl _) (Nat.le_refl _)
  · replace h := (if_neg c1).symm.trans h
    refine g_iload (pc := 71) dX11_mix_71 rfl ?_
    refine g_if_eq (tgt := 89) (pc := 73) dX11_mix_73 (by decide) (fun c2 => ?_) (fun c2 => ?_)
    · replace h := (if_pos c2).symm.trans h
      refine g_iconst (pc := 89) dX11_mix_89 ic_m1 ?_
      obtain ⟨h1, h2⟩ := x_inj2 h
      subst h1
      subst h2
      exact g_iret (pc := 90) dX11_mix_90 rfl rfl rfl (Nat.le_refl _) (Nat.le_refl _)
    · replace h := (if_neg c2).symm.trans h
      refine g_iload (pc := 76) dX11_mix_76 rfl ?_
      refine g_if_eq (tgt := 89) (pc := 78) dX11_mix_78 (by decide) (fun c3 => ?_) (fun c3 => ?_)
      · replace h := (if_pos c3).symm.trans h
        refine g_iconst (pc := 89) dX11_mix_89 ic_m1 ?_
        obtain ⟨h1, h2⟩ := x_inj2 h
        subst h1
        subst h2
        exact g_iret (pc := 90) dX11_mix_90 rfl rfl rfl (Nat.le_refl _) (Nat.le_refl _)
      · replace h := (if_neg c3).symm.trans h
        refine g_iload (pc := 81) dX11_mix_81 rfl ?_
        refine g_cS (pc := 83) dX11_mix_83 cS_RX11_109 (M_X11_isDay (Nat.le_refl _) rfl) (as := [.int v4]) (st := []) rfl rfl (Nat.le_of_ble_eq_true rfl) (Nat.le_trans (Nat.le_of_ble_eq_true rfl) hd) rfl ?_
        refine g_if_ne (tgt := 91) (pc := 86) dX11_mix_86 (by decide) (fun c4 => ?_) (fun c4 => ?_)
        · replace h := (if_neg c4).symm.trans h
          refine g_aload_n (pc := 91) dX11_mix_91 rfl ?_
          refine g_gR (pc := 92) dX11_mix_92 fR_RX11_61 xc_0 (v := 79) rfl ?_
          refine g_iconst (pc := 95) dX11_mix_95 ic_0 ?_
          refine g_pI (pc := 96) dX11_mix_96 pI_RX11_320 xc_79 (u' := (wr u 79 5 (0 : Int32))) rfl ?_
          refine g_iconst (pc := 99) dX11_mix_99 ic_0 ?_
          refine g_istore (pc := 100) dX11_mix_100 (Nat.le_of_ble_eq_true rfl) (L' := [some (.ref 0), some (.int v1), some (.int v2), some (.int v3), some (.int v4), some (.int v5), some (.int s0), some (.int (0 : Int32)), none]) rfl ?_
          refine g_L (L' := [some (.ref 0), some (.int v1), some (.int v2), some (.int v3), some (.int v4), none, none, some (.int (0 : Int32)), none]) ⟨rfl, ⟨rfl, ⟨rfl, ⟨rfl, ⟨rfl, ⟨rfl, trivial⟩⟩⟩⟩⟩⟩ ?_
          exact G_X11_mix_102 hd xN v1 v2 v3 v4 (0 : Int32) (wr u 79 5 (0 : Int32)) h
        · replace h := (if_pos c4).symm.trans h
          refine g_iconst (pc := 89) dX11_mix_89 ic_m1 ?_
          obtain ⟨h1, h2⟩ := x_inj2 h
          subst h1
          subst h2
          exact g_iret (pc := 90) dX11_mix_90 rfl rfl rfl (Nat.le_refl _) (Nat.le_refl _)
set_option maxRecDepth 100000 in
set_option maxHeartbeats 4000000 in
theorem G_X11_mix_57 {sc : Nat × (Nat → Int32)} {d : Nat} (hd : 5 ≤ d) {r : Int32} {u' : xS} (v1 : Int32) (v2 : Int32) (v3 : Int32) (v4 : Int32) (v5 : Int32) (u : xS) (h : f_X11_mix_57 v1 v2 v3 v4 v5 u = some (r, u')) : xG sc mX11_mix d 0 0 (xR (some (.int r)) (xL0, u') 0 0) 0 0 57 [some (.ref 0), some (.int v1), some (.int v2), some (.int v3), some (.int v4), some (.int v5), none, none, none] [] (xL0, u) := by
  rw [f_X11_mix_57] at h
  refine g_iconst (pc := 57) dX11_mix_57 ic_0 ?_
  exact G_X11_mix_58 hd v1 v2 v3 v4 v5 (0 : Int32) u h
set_option maxRecDepth 100000 in
set_option maxHeartbeats 4000000 in
theorem G_X11_mix_33 {sc : Nat × (Nat → Int32)} {d : Nat} (hd : 5 ≤ d) {r : Int32} {u' : xS} (v1 : Int32) (v2 : Int32) (v3 : Int32) (v4 : Int32) (s0 : Int32) (u : xS) (h : f_X11_mix_33 v1 v2 v3 v4 s0 u = some (r, u')) : xG sc mX11_mix d 0 0 (xR (some (.int r)) (xL0, u') 0 0) 0 0 33 [some (.ref 0), some (.int v1), some (.int v2), some (.int v3), some (.int v4), none, none, none, none] [.int s0] (xL0, u) := by
  rw [f_X11_mix_33] at h
  refine g_istore (pc := 33) dX11_mix_33 (Nat.le_of_ble_eq_true rfl) (L' := [some (.ref 0), some (.int v1), some (.int v2), some (.int v3), some (.int v4), some (.int s0), none, none, none]) rfl ?_
  refine g_iload_n (pc := 35) dX11_mix_35 rfl ?_
  refine g_iconst (pc := 36) dX11_mix_36 ic_0 ?_
  refine g_sipush (pc := 37) dX11_mix_37 sp_9996 ?_
  refine g_cS (pc := 40) dX11_mix_40 cS_RX11_94 (M_X11_lies (Nat.le_refl _) rfl) (as := [.int v3, .int (0 : Int32), .int (9996 : Int32)]) (st := []) rfl rfl (Nat.le_of_ble_eq_true rfl) (Nat.le_trans (Nat.le_of_ble_eq_true rfl) hd) rfl ?_
  refine g_if_eq (tgt := 57) (pc := 43) dX11_mix_43 (by decide) (fun c1 => ?_) (fun c1 => ?_)
  · replace h := (if_pos c1).symm.trans h
    exact G_X11_mix_57 hd v1 v2 v3 v4 s0 u h
  · replace h := (if_neg c1).symm.trans h
    refine g_iload_n (pc := 46) dX11_mix_46 rfl ?_
    refine g_bipush (pc := 47) dX11_mix_47 bp_12 ?_
    refine g_irem (pc := 49) dX11_mix_49 (by decide) rfl ?_
    refine g_if_ne (tgt := 57) (pc := 50) dX11_mix_50 (by decide) (fun c2 => ?_) (fun c2 => ?_)
    · replace h := (if_neg c2).symm.trans h
      exact G_X11_mix_57 hd v1 v2 v3 v4 s0 u h
    · replace h := (if_pos c2).symm.trans h
      refine g_iconst (pc := 53) dX11_mix_53 ic_1 ?_
      refine g_goto (tgt := 58) (pc := 54) dX11_mix_54 (by decide) ?_
      exact G_X11_mix_58 hd v1 v2 v3 v4 s0 (1 : Int32) u h
set_option maxRecDepth 100000 in
set_option maxHeartbeats 4000000 in
theorem G_X11_mix_32 {sc : Nat × (Nat → Int32)} {d : Nat} (hd : 5 ≤ d) {r : Int32} {u' : xS} (v1 : Int32) (v2 : Int32) (v3 : Int32) (v4 : Int32) (u : xS) (h : f_X11_mix_32 v1 v2 v3 v4 u = some (r, u')) : xG sc mX11_mix d 0 0 (xR (some (.int r)) (xL0, u') 0 0) 0 0 32 [some (.ref 0), some (.int v1), some (.int v2), some (.int v3), some (.int v4), none, none, none, none] [] (xL0, u) := by
  rw [f_X11_mix_32] at h
  refine g_iconst (pc := 32) dX11_mix_32 ic_0 ?_
  exact G_X11_mix_33 hd v1 v2 v3 v4 (0 : Int32) u h
set_option maxRecDepth 100000 in
set_option maxHeartbeats 4000000 in
theorem G_X11_mix_0 {sc : Nat × (Nat → Int32)} {d : Nat} (hd : 5 ≤ d) {r : Int32} {u' : xS} (v1 : Int32) (v2 : Int32) (v3 : Int32) (v4 : Int32) (u : xS) (h : f_X11_mix v1 v2 v3 v4 u = some (r, u')) : xG sc mX11_mix d 0 0 (xR (some (.int r)) (xL0, u') 0 0) 0 0 0 [some (.ref 0), some (.int v1), some (.int v2), some (.int v3), some (.int v4), none, none, none, none] [] (xL0, u) := by
  rw [f_X11_mix] at h
  refine g_iload_n (pc := 0) dX11_mix_0 rfl ?_
  refine g_iconst (pc := 1) dX11_mix_1 ic_1 ?_
  refine g_iconst (pc := 2) dX11_mix_2 ic_1 ?_
  refine g_aload_n (pc := 3) dX11_mix_3 rfl ?_
  refine g_gR (pc := 4) dX11_mix_4 fR_RX11_12 xc_0 (v := 1) rfl ?_
  refine g_gI (pc := 7) dX11_mix_7 fI_RX11_102 xc_1 (v := (rd u 1 2)) rfl ?_
  refine g_ishl (pc := 10) dX11_mix_10 rfl ?_
  refine g_iconst (pc := 11) dX11_mix_11 ic_1 ?_
  refine g_isub (pc := 12) dX11_mix_12 rfl ?_
  refine g_cS (pc := 13) dX11_mix_13 cS_RX11_94 (M_X11_lies (Nat.le_refl _) rfl) (as := [.int v2, .int (1 : Int32), .int (((1 : Int32) <<< ((rd u 1 2) &&& 31)) - (1 : Int32))]) (st := []) rfl rfl (Nat.le_of_ble_eq_true rfl) (Nat.le_trans (Nat.le_of_ble_eq_true rfl) hd) rfl ?_
  refine g_if_eq (tgt := 32) (pc := 16) dX11_mix_16 (by decide) (fun c1 => ?_) (fun c1 => ?_)
  · replace h := (if_pos c1).symm.trans h
    exact G_X11_mix_32 hd v1 v2 v3 v4 u h
  · replace h := (if_neg c1).symm.trans h
    refine g_iload_n (pc := 19) dX11_mix_19 rfl ?_
    refine g_cS (pc := 20) dX11_mix_20 cS_RX11_315 (M_J6_bitCount_0f7a4 (Nat.le_refl _) rfl) (as := [.int v2]) (st := []) rfl rfl (Nat.le_of_ble_eq_true rfl) (Nat.le_trans (Nat.le_of_ble_eq_true rfl) hd) rfl ?_
    refine g_bipush (pc := 23) dX11_mix_23 bp_6 ?_
    refine g_icmp_gt (tgt := 32) (pc := 25) dX11_mix_25 (by decide) (fun c2 => ?_) (fun c2 => ?_)
    · replace h := (if_pos c2).symm.trans h
      exact G_X11_mix_32 hd v1 v2 v3 v4 u h
    · replace h := (if_neg c2).symm.trans h
      refine g_iconst (pc := 28) dX11_mix_28 ic_1 ?_
      refine g_goto (tgt := 33) (pc := 29) dX11_mix_29 (by decide) ?_
      exact G_X11_mix_33 hd v1 v2 v3 v4 (1 : Int32) u h
set_option maxRecDepth 100000 in
set_option maxHeartbeats 4000000 in
theorem M_X11_mix {sc : Nat × (Nat → Int32)} {d : Nat} (hd : 5 ≤ d) {r : Int32} {u u' : xS} {a1 : Int32} {a2 : Int32} {a3 : Int32} {a4 : Int32} (h : f_X11_mix a1 a2 a3 a4 u = some (r, u')) : xMt sc mX11_mix d 0 0 [.ref 0, .int a1, .int a2, .int a3, .int a4] (xL0, u) (some (.int r)) (xL0, u') :=
  xMt.of (by decide +kernel) (by decide +kernel) (Nat.le_of_ble_eq_true rfl) (L := [some (.ref 0), some (.int a1), some (.int a2), some (.int a3), some (.int a4), none, none, none, none]) rfl ((G_X11_mix_0 hd a1 a2 a3 a4 u h))
set_option maxRecDepth 100000 in
set_option maxHeartbeats 4000000 in
theorem G_X6_eat_49 {sc : Nat × (Nat → Int32)} {d : Nat} (hd : 1 ≤ d) {r : Int32} {u' : xS} {k5 : Int32 → Nat → Int32 → Int32 → xS → Option (Int32 × xS)} (hk5 : ∀ (v1 : Int32) (v2 : Nat) (v3 : Int32) (v4 : Int32) (u : xS), k5 v1 v2 v3 v4 u = some (r, u') → xG sc mX6_eat d 0 0 (xR (some (.int r)) (xL0, u') 0 0) 0 0 5 [some (.ref 74), some (.int v1), some (.ref v2), some (.int v3), some (.int v4)] [] (xL0, u)) (v1 : Int32) (v2 : Nat) (v3 : Int32) (v4 : Int32) (u : xS) (h : f_X6_eat_49 k5 v1 v2 v3 v4 u = some (r, u')) : xG sc mX6_eat d 0 0 (xR (some (.int r)) (xL0, u') 0 0) 0 0 49 [some (.ref 74), some (.int v1), some (.ref v2), some (.int v3), some (.int v4)] [] (xL0, u) := by
  rw [f_X6_eat_49] at h
  refine g_inc (pc := 49) dX6_eat_49 (Nat.le_of_ble_eq_true rfl) rfl ic_1 (L' := [some (.ref 74), some (.int v1), some (.ref v2), some (.int v3), some (.int (v4 + (1 : Int32)))]) rfl ?_
  refine g_goto (tgt := 5) (pc := 52) dX6_eat_52 (by decide) ?_
  exact hk5 v1 v2 v3 (v4 + (1 : Int32)) u h
set_option maxRecDepth 100000 in
set_option maxHeartbeats 4000000 in
theorem G_X6_eat_5 {sc : Nat × (Nat → Int32)} {d : Nat} (hd : 1 ≤ d) {r : Int32} {u' : xS} : ∀ (n : Nat) (v1 : Int32) (v2 : Nat) (v3 : Int32) (v4 : Int32) (u : xS), f_X6_eat_5 n v1 v2 v3 v4 u = some (r, u') → xG sc mX6_eat d 0 0 (xR (some (.int r)) (xL0, u') 0 0) 0 0 5 [some (.ref 74), some (.int v1), some (.ref v2), some (.int v3), some (.int v4)] [] (xL0, u) := by
  intro n
  induction n with
  | zero =>
    intro v1 v2 v3 v4 u h
    rw [f_X6_eat_5] at h
    cases h
  | succ n ih =>
    intro v1 v2 v3 v4 u h
    rw [f_X6_eat_5] at h
    refine g_iload (pc := 5) dX6_eat_5 rfl ?_
    refine g_aload_n (pc := 7) dX6_eat_7 rfl ?_
    refine g_gI (pc := 8) dX6_eat_8 fI_RX6_24 xc_74 (v := (rd u 74 4)) rfl ?_
    refine g_icmp_ge (tgt := 55) (pc := 11) dX6_eat_11 (by decide) (fun c1 => ?_) (fun c1 => ?_)
    · replace h := (if_pos c1).symm.trans h
      refine g_iload_n (pc := 55) dX6_eat_55 rfl ?_
      obtain ⟨h1, h2⟩ := x_inj2 h
      subst h1
      subst h2
      exact g_iret (pc := 56) dX6_eat_56 rfl rfl rfl (Nat.le_refl _) (Nat.le_refl _)
    · replace h := (if_neg c1).symm.trans h
      refine g_aload_n (pc := 14) dX6_eat_14 rfl ?_
      refine g_gR (pc := 15) dX6_eat_15 fR_RX6_15 xc_74 (v := 76) rfl ?_
      refine g_iload (pc := 18) dX6_eat_18 rfl ?_
      obtain ⟨g2, h⟩ := x_gd h
      refine g_iaload (pc := 20) dX6_eat_20 xc_76 (xin_of g2) (v := (rd u 76 v4.toNatClampNeg)) rfl ?_
      refine g_iload_n (pc := 21) dX6_eat_21 rfl ?_
      refine g_icmp_ne (tgt := 49) (pc := 22) dX6_eat_22 (by decide) (fun c3 => ?_) (fun c3 => ?_)
      · replace h := (if_neg c3).symm.trans h
        exact G_X6_eat_49 hd ih v1 v2 v3 v4 u h
      · replace h := (if_pos c3).symm.trans h
        refine g_iload_n (pc := 25) dX6_eat_25 rfl ?_
        refine g_aload_n (pc := 26) dX6_eat_26 rfl ?_
        refine g_gR (pc := 27) dX6_eat_27 fR_RX6_18 xc_74 (v := 77) rfl ?_
        refine g_iload (pc := 30) dX6_eat_30 rfl ?_
        refine g_iaload (pc := 32) dX6_eat_32 xc_77 (xin_of g2) (v := (rd u 77 v4.toNatClampNeg)) rfl ?_
        refine g_iadd (pc := 33) dX6_eat_33 rfl ?_
        refine g_istore_n (pc := 34) dX6_eat_34 (Nat.le_of_ble_eq_true rfl) (L' := [some (.ref 74), some (.int v1), some (.ref v2), some (.int (v3 + (rd u 77 v4.toNatClampNeg))), some (.int v4)]) rfl ?_
        refine g_aload_n (pc := 35) dX6_eat_35 rfl ?_
        refine g_iload (pc := 36) dX6_eat_36 rfl ?_
        refine g_aload_n (pc := 38) dX6_eat_38 rfl ?_
        refine g_gR (pc := 39) dX6_eat_39 fR_RX6_18 xc_74 (v := 77) rfl ?_
        refine g_iload (pc := 42) dX6_eat_42 rfl ?_
        refine g_iaload (pc := 44) dX6_eat_44 xc_77 (xin_of g2) (v := (rd u 77 v4.toNatClampNeg)) rfl ?_
        refine g_aload_n (pc := 45) dX6_eat_45 rfl ?_
        obtain ⟨u5, e4, h⟩ := x_bind h
        refine g_cV (pc := 46) dX6_eat_46 cV_RX6_34 (M_X6_lessen (Nat.le_refl _) e4) xc_74 (as := [.int v4, .int (rd u 77 v4.toNatClampNeg), .ref v2]) (st := []) rfl rfl (Nat.le_of_ble_eq_true rfl) (Nat.le_trans (Nat.le_of_ble_eq_true rfl) hd) rfl ?_
        exact G_X6_eat_49 hd ih v1 v2 (v3 + (rd u 77 v4.toNatClampNeg)) v4 u5 h
set_option maxRecDepth 100000 in
set_option maxHeartbeats 4000000 in
theorem G_X6_eat_0 {sc : Nat × (Nat → Int32)} {d : Nat} (hd : 1 ≤ d) {r : Int32} {u' : xS} (v1 : Int32) (v2 : Nat) (u : xS) (h : f_X6_eat v1 v2 u = some (r, u')) : xG sc mX6_eat d 0 0 (xR (some (.int r)) (xL0, u') 0 0) 0 0 0 [some (.ref 74), some (.int v1), some (.ref v2), none, none] [] (xL0, u) := by
  rw [f_X6_eat] at h
  refine g_iconst (pc := 0) dX6_eat_0 ic_0 ?_
  refine g_istore_n (pc := 1) dX6_eat_1 (Nat.le_of_ble_eq_true rfl) (L' := [some (.ref 74), some (.int v1), some (.ref v2), some (.int (0 : Int32)), none]) rfl ?_
  refine g_iconst (pc := 2) dX6_eat_2 ic_0 ?_
  refine g_istore (pc := 3) dX6_eat_3 (Nat.le_of_ble_eq_true rfl) (L' := [some (.ref 74), some (.int v1), some (.ref v2), some (.int (0 : Int32)), some (.int (0 : Int32))]) rfl ?_
  exact G_X6_eat_5 hd xN v1 v2 (0 : Int32) (0 : Int32) u h
set_option maxRecDepth 100000 in
set_option maxHeartbeats 4000000 in
theorem M_X6_eat {sc : Nat × (Nat → Int32)} {d : Nat} (hd : 1 ≤ d) {r : Int32} {u u' : xS} {a1 : Int32} {a2 : Nat} (h : f_X6_eat a1 a2 u = some (r, u')) : xMt sc mX6_eat d 0 0 [.ref 74, .int a1, .ref a2] (xL0, u) (some (.int r)) (xL0, u') :=
  xMt.of (by decide +kernel) (by decide +kernel) (Nat.le_of_ble_eq_true rfl) (L := [some (.ref 74), some (.int a1), some (.ref a2), none, none]) rfl ((G_X6_eat_0 hd a1 a2 u h))
set_option maxRecDepth 100000 in
set_option maxHeartbeats 4000000 in
theorem G_X11_moth_0 {sc : Nat × (Nat → Int32)} {d : Nat} (hd : 2 ≤ d) {r : Int32} {u' : xS} (v1 : Int32) (u : xS) (h : f_X11_moth v1 u = some (r, u')) : xG sc mX11_moth d 0 0 (xR (some (.int r)) (xL0, u') 0 0) 0 0 0 [some (.ref 0), some (.int v1)] [] (xL0, u) := by
  rw [f_X11_moth] at h
  refine g_aload_n (pc := 0) dX11_moth_0 rfl ?_
  refine g_gR (pc := 1) dX11_moth_1 fR_RX11_19 xc_0 (v := 13) rfl ?_
  refine g_iload_n (pc := 4) dX11_moth_4 rfl ?_
  refine g_cV (pc := 5) dX11_moth_5 cV_RX11_137 (M_X0_has (Nat.le_refl _) rfl) xc_13 (as := [.int v1]) (st := []) rfl rfl (Nat.le_of_ble_eq_true rfl) (Nat.le_trans (Nat.le_of_ble_eq_true rfl) hd) rfl ?_
  refine g_if_eq (tgt := 29) (pc := 8) dX11_moth_8 (by decide) (fun c1 => ?_) (fun c1 => ?_)
  · replace h := (if_pos c1).symm.trans h
    refine g_iconst (pc := 29) dX11_moth_29 ic_m1 ?_
    obtain ⟨h1, h2⟩ := x_inj2 h
    subst h1
    subst h2
    exact g_iret (pc := 30) dX11_moth_30 rfl rfl rfl (Nat.le_refl _) (Nat.le_refl _)
  · replace h := (if_neg c1).symm.trans h
    refine g_aload_n (pc := 11) dX11_moth_11 rfl ?_
    refine g_gR (pc := 12) dX11_moth_12 fR_RX11_54 xc_0 (v := 74) rfl ?_
    refine g_iload_n (pc := 15) dX11_moth_15 rfl ?_
    refine g_aload_n (pc := 16) dX11_moth_16 rfl ?_
    refine g_gR (pc := 17) dX11_moth_17 fR_RX11_19 xc_0 (v := 13) rfl ?_
    refine g_gR (pc := 20) dX11_moth_20 fR_RX11_176 xc_13 (v := 20) rfl ?_
    obtain ⟨⟨x3, u4⟩, e2, h⟩ := x_bind h
    dsimp only at h
    refine g_cV (pc := 23) dX11_moth_23 cV_RX11_270 (M_X6_eat (Nat.le_refl _) e2) xc_74 (as := [.int v1, .ref 20]) (st := []) rfl rfl (Nat.le_of_ble_eq_true rfl) (Nat.le_trans (Nat.le_of_ble_eq_true rfl) hd) rfl ?_
    refine g_goto (tgt := 30) (pc := 26) dX11_moth_26 (by decide) ?_
    obtain ⟨h1, h2⟩ := x_inj2 h
    subst h1
    subst h2
    exact g_iret (pc := 30) dX11_moth_30 rfl rfl rfl (Nat.le_refl _) (Nat.le_refl _)
set_option maxRecDepth 100000 in
set_option maxHeartbeats 4000000 in
theorem M_X11_moth {sc : Nat × (Nat → Int32)} {d : Nat} (hd : 2 ≤ d) {r : Int32} {u u' : xS} {a1 : Int32} (h : f_X11_moth a1 u = some (r, u')) : xMt sc mX11_moth d 0 0 [.ref 0, .int a1] (xL0, u) (some (.int r)) (xL0, u') :=
  xMt.of (by decide +kernel) (by decide +kernel) (Nat.le_of_ble_eq_true rfl) (L := [some (.ref 0), some (.int a1)]) rfl ((G_X11_moth_0 hd a1 u h))
set_option maxRecDepth 100000 in
set_option maxHeartbeats 4000000 in
theorem G_X6_ofBale_31 {sc : Nat × (Nat → Int32)} {d : Nat} (hd : 0 ≤ d) {r : Int32} {u : xS} {k4 : Int32 → Int32 → Int32 → Option Int32} (hk4 : ∀ (v1 : Int32) (v2 : Int32) (v3 : Int32), k4 v1 v2 v3 = some r → xG sc mX6_ofBale d 0 0 (xR (some (.int r)) (xL0, u) 0 0) 0 0 4 [some (.ref 74), some (.int v1), some (.int v2), some (.int v3)] [] (xL0, u)) (v1 : Int32) (v2 : Int32) (v3 : Int32) (h : f_X6_ofBale_31 k4 u v1 v2 v3 = some r) : xG sc mX6_ofBale d 0 0 (xR (some (.int r)) (xL0, u) 0 0) 0 0 31 [some (.ref 74), some (.int v1), some (.int v2), some (.int v3)] [] (xL0, u) := by
  rw [f_X6_ofBale_31] at h
  refine g_inc (pc := 31) dX6_ofBale_31 (Nat.le_of_ble_eq_true rfl) rfl ic_1 (L' := [some (.ref 74), some (.int v1), some (.int v2), some (.int (v3 + (1 : Int32)))]) rfl ?_
  refine g_goto (tgt := 4) (pc := 34) dX6_ofBale_34 (by decide) ?_
  exact hk4 v1 v2 (v3 + (1 : Int32)) h
set_option maxRecDepth 100000 in
set_option maxHeartbeats 4000000 in
theorem G_X6_ofBale_4 {sc : Nat × (Nat → Int32)} {d : Nat} (hd : 0 ≤ d) {r : Int32} {u : xS} : ∀ (n : Nat) (v1 : Int32) (v2 : Int32) (v3 : Int32), f_X6_ofBale_4 u n v1 v2 v3 = some r → xG sc mX6_ofBale d 0 0 (xR (some (.int r)) (xL0, u) 0 0) 0 0 4 [some (.ref 74), some (.int v1), some (.int v2), some (.int v3)] [] (xL0, u) := by
  intro n
  induction n with
  | zero =>
    intro v1 v2 v3 h
    rw [f_X6_ofBale_4] at h
    cases h
  | succ n ih =>
    intro v1 v2 v3 h
    rw [f_X6_ofBale_4] at h
    refine g_iload_n (pc := 4) dX6_ofBale_4 rfl ?_
    refine g_aload_n (pc := 5) dX6_ofBale_5 rfl ?_
    refine g_gI (pc := 6) dX6_ofBale_6 fI_RX6_24 xc_74 (v := (rd u 74 4)) rfl ?_
    refine g_icmp_ge (tgt := 37) (pc := 9) dX6_ofBale_9 (by decide) (fun c1 => ?_) (fun c1 => ?_)
    · replace h := (if_pos c1).symm.trans h
      refine g_iload_n (pc := 37) dX6_ofBale_37 rfl ?_
      replace h := Option.some.inj h
      subst h
      exact g_iret (pc := 38) dX6_ofBale_38 rfl rfl rfl (Nat.le_refl _) (Nat.le_refl _)
    · replace h := (if_neg c1).symm.trans h
      refine g_aload_n (pc := 12) dX6_ofBale_12 rfl ?_
      refine g_gR (pc := 13) dX6_ofBale_13 fR_RX6_15 xc_74 (v := 76) rfl ?_
      refine g_iload_n (pc := 16) dX6_ofBale_16 rfl ?_
      obtain ⟨g2, h⟩ := x_gd h
      refine g_iaload (pc := 17) dX6_ofBale_17 xc_76 (xin_of g2) (v := (rd u 76 v3.toNatClampNeg)) rfl ?_
      refine g_iload_n (pc := 18) dX6_ofBale_18 rfl ?_
      refine g_icmp_ne (tgt := 31) (pc := 19) dX6_ofBale_19 (by decide) (fun c3 => ?_) (fun c3 => ?_)
      · replace h := (if_neg c3).symm.trans h
        exact G_X6_ofBale_31 hd ih v1 v2 v3 h
      · replace h := (if_pos c3).symm.trans h
        refine g_iload_n (pc := 22) dX6_ofBale_22 rfl ?_
        refine g_aload_n (pc := 23) dX6_ofBale_23 rfl ?_
        refine g_gR (pc := 24) dX6_ofBale_24 fR_RX6_18 xc_74 (v := 77) rfl ?_
        refine g_iload_n (pc := 27) dX6_ofBale_27 rfl ?_
        refine g_iaload (pc := 28) dX6_ofBale_28 xc_77 (xin_of g2) (v := (rd u 77 v3.toNatClampNeg)) rfl ?_
        refine g_iadd (pc := 29) dX6_ofBale_29 rfl ?_
        refine g_istore_n (pc := 30) dX6_ofBale_30 (Nat.le_of_ble_eq_true rfl) (L' := [some (.ref 74), some (.int v1), some (.int (v2 + (rd u 77 v3.toNatClampNeg))), some (.int v3)]) rfl ?_
        exact G_X6_ofBale_31 hd ih v1 (v2 + (rd u 77 v3.toNatClampNeg)) v3 h
set_option maxRecDepth 100000 in
set_option maxHeartbeats 4000000 in
theorem G_X6_ofBale_0 {sc : Nat × (Nat → Int32)} {d : Nat} (hd : 0 ≤ d) {r : Int32} {u : xS} (v1 : Int32) (h : f_X6_ofBale u v1 = some r) : xG sc mX6_ofBale d 0 0 (xR (some (.int r)) (xL0, u) 0 0) 0 0 0 [some (.ref 74), some (.int v1), none, none] [] (xL0, u) := by
  rw [f_X6_ofBale] at h
  refine g_iconst (pc := 0) dX6_ofBale_0 ic_0 ?_
  refine g_istore_n (pc := 1) dX6_ofBale_1 (Nat.le_of_ble_eq_true rfl) (L' := [some (.ref 74), some (.int v1), some (.int (0 : Int32)), none]) rfl ?_
  refine g_iconst (pc := 2) dX6_ofBale_2 ic_0 ?_
  refine g_istore_n (pc := 3) dX6_ofBale_3 (Nat.le_of_ble_eq_true rfl) (L' := [some (.ref 74), some (.int v1), some (.int (0 : Int32)), some (.int (0 : Int32))]) rfl ?_
  exact G_X6_ofBale_4 hd xN v1 (0 : Int32) (0 : Int32) h
set_option maxRecDepth 100000 in
set_option maxHeartbeats 4000000 in
theorem M_X6_ofBale {sc : Nat × (Nat → Int32)} {d : Nat} (hd : 0 ≤ d) {r : Int32} {u : xS} {a1 : Int32} (h : f_X6_ofBale u a1 = some r) : xMt sc mX6_ofBale d 0 0 [.ref 74, .int a1] (xL0, u) (some (.int r)) (xL0, u) :=
  xMt.of (by decide +kernel) (by decide +kernel) (Nat.le_of_ble_eq_true rfl) (L := [some (.ref 74), some (.int a1), none, none]) rfl ((G_X6_ofBale_0 hd a1 h))
set_option maxRecDepth 100000 in
set_option maxHeartbeats 4000000 in
theorem G_X2_ofBale_4 {sc : Nat × (Nat → Int32)} {d : Nat} (hd : 0 ≤ d) {r : Int32} {u : xS} : ∀ (n : Nat) (v1 : Int32) (v2 : Int32) (v3 : Int32), f_X2_ofBale_4 u n v1 v2 v3 = some r → xG sc mX2_ofBale d 0 0 (xR (some (.int r)) (xL0, u) 0 0) 0 0 4 [some (.ref 87), some (.int v1), some (.int v2), some (.int v3)] [] (xL0, u) := by
  intro n
  induction n with
  | zero =>
    intro v1 v2 v3 h
    rw [f_X2_ofBale_4] at h
    cases h
  | succ n ih =>
    intro v1 v2 v3 h
    rw [f_X2_ofBale_4] at h
    refine g_iload_n (pc := 4) dX2_ofBale_4 rfl ?_
    refine g_aload_n (pc := 5) dX2_ofBale_5 rfl ?_
    refine g_gI (pc := 6) dX2_ofBale_6 fI_RX2_20 xc_87 (v := (rd u 87 2)) rfl ?_
    refine g_icmp_ge (tgt := 29) (pc := 9) dX2_ofBale_9 (by decide) (fun c1 => ?_) (fun c1 => ?_)
    · replace h := (if_pos c1).symm.trans h
      refine g_iload_n (pc := 29) dX2_ofBale_29 rfl ?_
      replace h := Option.some.inj h
      subst h
      exact g_iret (pc := 30) dX2_ofBale_30 rfl rfl rfl (Nat.le_refl _) (Nat.le_refl _)
    · replace h := (if_neg c1).symm.trans h
      refine g_iload_n (pc := 12) dX2_ofBale_12 rfl ?_
      refine g_aload_n (pc := 13) dX2_ofBale_13 rfl ?_
      refine g_gR (pc := 14) dX2_ofBale_14 fR_RX2_11 xc_87 (v := 88) rfl ?_
      refine g_iload_n (pc := 17) dX2_ofBale_17 rfl ?_
      obtain ⟨g2, h⟩ := x_gd h
      refine g_aaload (pc := 18) dX2_ofBale_18 xc_88 (xin_of g2) (v := (89 + v3.toNatClampNeg)) (xrf_88 _ (xin_lt g2)) ?_
      refine g_iload_n (pc := 19) dX2_ofBale_19 rfl ?_
      obtain ⟨g3, h⟩ := x_gd h
      refine g_iaload (pc := 20) dX2_ofBale_20 (xrow_88 _ (xin_lt g2)) (xin_of g3) (v := (rd u (89 + v3.toNatClampNeg) v1.toNatClampNeg)) rfl ?_
      refine g_iadd (pc := 21) dX2_ofBale_21 rfl ?_
      refine g_istore_n (pc := 22) dX2_ofBale_22 (Nat.le_of_ble_eq_true rfl) (L' := [some (.ref 87), some (.int v1), some (.int (v2 + (rd u (89 + v3.toNatClampNeg) v1.toNatClampNeg))), some (.int v3)]) rfl ?_
      refine g_inc (pc := 23) dX2_ofBale_23 (Nat.le_of_ble_eq_true rfl) rfl ic_1 (L' := [some (.ref 87), some (.int v1), some (.int (v2 + (rd u (89 + v3.toNatClampNeg) v1.toNatClampNeg))), some (.int (v3 + (1 : Int32)))]) rfl ?_
      refine g_goto (tgt := 4) (pc := 26) dX2_ofBale_26 (by decide) ?_
      exact ih v1 (v2 + (rd u (89 + v3.toNatClampNeg) v1.toNatClampNeg)) (v3 + (1 : Int32)) h
set_option maxRecDepth 100000 in
set_option maxHeartbeats 4000000 in
theorem G_X2_ofBale_0 {sc : Nat × (Nat → Int32)} {d : Nat} (hd : 0 ≤ d) {r : Int32} {u : xS} (v1 : Int32) (h : f_X2_ofBale u v1 = some r) : xG sc mX2_ofBale d 0 0 (xR (some (.int r)) (xL0, u) 0 0) 0 0 0 [some (.ref 87), some (.int v1), none, none] [] (xL0, u) := by
  rw [f_X2_ofBale] at h
  refine g_iconst (pc := 0) dX2_ofBale_0 ic_0 ?_
  refine g_istore_n (pc := 1) dX2_ofBale_1 (Nat.le_of_ble_eq_true rfl) (L' := [some (.ref 87), some (.int v1), some (.int (0 : Int32)), none]) rfl ?_
  refine g_iconst (pc := 2) dX2_ofBale_2 ic_0 ?_
  refine g_istore_n (pc := 3) dX2_ofBale_3 (Nat.le_of_ble_eq_true rfl) (L' := [some (.ref 87), some (.int v1), some (.int (0 : Int32)), some (.int (0 : Int32))]) rfl ?_
  exact G_X2_ofBale_4 hd xN v1 (0 : Int32) (0 : Int32) h
set_option maxRecDepth 100000 in
set_option maxHeartbeats 4000000 in
theorem M_X2_ofBale {sc : Nat × (Nat → Int32)} {d : Nat} (hd : 0 ≤ d) {r : Int32} {u : xS} {a1 : Int32} (h : f_X2_ofBale u a1 = some r) : xMt sc mX2_ofBale d 0 0 [.ref 87, .int a1] (xL0, u) (some (.int r)) (xL0, u) :=
  xMt.of (by decide +kernel) (by decide +kernel) (Nat.le_of_ble_eq_true rfl) (L := [some (.ref 87), some (.int a1), none, none]) rfl ((G_X2_ofBale_0 hd a1 h))
set_option maxRecDepth 100000 in
set_option maxHeartbeats 4000000 in
theorem G_X11_of_0 {sc : Nat × (Nat → Int32)} {d : Nat} (hd : 1 ≤ d) {r : Int32} {u : xS} (v1 : Int32) (v2 : Int32) (h : f_X11_of u v1 v2 = some r) : xG sc mX11_of d 0 0 (xR (some (.int r)) (xL0, u) 0 0) 0 0 0 [some (.ref 0), some (.int v1), some (.int v2)] [] (xL0, u) := by
  rw [f_X11_of] at h
  refine g_aload_n (pc := 0) dX11_of_0 rfl ?_
  refine g_gR (pc := 1) dX11_of_1 fR_RX11_19 xc_0 (v := 13) rfl ?_
  refine g_iload_n (pc := 4) dX11_of_4 rfl ?_
  refine g_cV (pc := 5) dX11_of_5 cV_RX11_137 (M_X0_has (Nat.le_refl _) rfl) xc_13 (as := [.int v1]) (st := []) rfl rfl (Nat.le_of_ble_eq_true rfl) (Nat.le_trans (Nat.le_of_ble_eq_true rfl) hd) rfl ?_
  refine g_if_ne (tgt := 13) (pc := 8) dX11_of_8 (by decide) (fun c1 => ?_) (fun c1 => ?_)
  · replace h := (if_neg c1).symm.trans h
    refine g_iload_n (pc := 13) dX11_of_13 rfl ?_
    by_cases c2 : v2 = (0 : Int32)
    · replace h := (if_pos c2).symm.trans h
      refine g_tableIn (tgt := 52) (off := 38) (pc := 14) dX11_of_14 (by rw [c2]; decide) (by rw [c2]; decide) (by rw [c2]; rfl) (by decide) ?_
      refine g_aload_n (pc := 52) dX11_of_52 rfl ?_
      refine g_gR (pc := 53) dX11_of_53 fR_RX11_19 xc_0 (v := 13) rfl ?_
      refine g_gR (pc := 56) dX11_of_56 fR_RX11_144 xc_13 (v := 16) rfl ?_
      refine g_iload_n (pc := 59) dX11_of_59 rfl ?_
      obtain ⟨g3, h⟩ := x_gd h
      refine g_iaload (pc := 60) dX11_of_60 xc_16 (xin_of g3) (v := (rd u 16 v1.toNatClampNeg)) rfl ?_
      replace h := Option.some.inj h
      subst h
      exact g_iret (pc := 61) dX11_of_61 rfl rfl rfl (Nat.le_refl _) (Nat.le_refl _)
    replace h := (if_neg c2).symm.trans h
    by_cases c4 : v2 = (1 : Int32)
    · replace h := (if_pos c4).symm.trans h
      refine g_tableIn (tgt := 62) (off := 48) (pc := 14) dX11_of_14 (by rw [c4]; decide) (by rw [c4]; decide) (by rw [c4]; rfl) (by decide) ?_
      refine g_aload_n (pc := 62) dX11_of_62 rfl ?_
      refine g_gR (pc := 63) dX11_of_63 fR_RX11_19 xc_0 (v := 13) rfl ?_
      refine g_gR (pc := 66) dX11_of_66 fR_RX11_168 xc_13 (v := 19) rfl ?_
      refine g_iload_n (pc := 69) dX11_of_69 rfl ?_
      obtain ⟨g5, h⟩ := x_gd h
      refine g_iaload (pc := 70) dX11_of_70 xc_19 (xin_of g5) (v := (rd u 19 v1.toNatClampNeg)) rfl ?_
      replace h := Option.some.inj h
      subst h
      exact g_iret (pc := 71) dX11_of_71 rfl rfl rfl (Nat.le_refl _) (Nat.le_refl _)
    replace h := (if_neg c4).symm.trans h
    by_cases c6 : v2 = (2 : Int32)
    · replace h := (if_pos c6).symm.trans h
      refine g_tableIn (tgt := 72) (off := 58) (pc := 14) dX11_of_14 (by rw [c6]; decide) (by rw [c6]; decide) (by rw [c6]; rfl) (by decide) ?_
      refine g_aload_n (pc := 72) dX11_of_72 rfl ?_
      refine g_gR (pc := 73) dX11_of_73 fR_RX11_19 xc_0 (v := 13) rfl ?_
      refine g_gR (pc := 76) dX11_of_76 fR_RX11_151 xc_13 (v := 18) rfl ?_
      refine g_iload_n (pc := 79) dX11_of_79 rfl ?_
      obtain ⟨g7, h⟩ := x_gd h
      refine g_iaload (pc := 80) dX11_of_80 xc_18 (xin_of g7) (v := (rd u 18 v1.toNatClampNeg)) rfl ?_
      replace h := Option.some.inj h
      subst h
      exact g_iret (pc := 81) dX11_of_81 rfl rfl rfl (Nat.le_refl _) (Nat.le_refl _)
    replace h := (if_neg c6).symm.trans h
    by_cases c8 : v2 = (3 : Int32)
    · replace h := (if_pos c8).symm.trans h
      refine g_tableIn (tgt := 82) (off := 68) (pc := 14) dX11_of_14 (by rw [c8]; decide) (by rw [c8]; decide) (by rw [c8]; rfl) (by decide) ?_
      refine g_aload_n (pc := 82) dX11_of_82 rfl ?_
      refine g_gR (pc := 83) dX11_of_83 fR_RX11_54 xc_0 (v := 74) rfl ?_
      refine g_iload_n (pc := 86) dX11_of_86 rfl ?_
      obtain ⟨x10, e9, h⟩ := x_bind h
      refine g_cV (pc := 87) dX11_of_87 cV_RX11_171 (M_X6_ofBale (Nat.le_refl _) e9) xc_74 (as := [.int v1]) (st := []) rfl rfl (Nat.le_of_ble_eq_true rfl) (Nat.le_trans (Nat.le_of_ble_eq_true rfl) hd) rfl ?_
      replace h := Option.some.inj h
      subst h
      exact g_iret (pc := 90) dX11_of_90 rfl rfl rfl (Nat.le_refl _) (Nat.le_refl _)
    replace h := (if_neg c8).symm.trans h
    by_cases c11 : v2 = (4 : Int32)
    · replace h := (if_pos c11).symm.trans h
      refine g_tableIn (tgt := 91) (off := 77) (pc := 14) dX11_of_14 (by rw [c11]; decide) (by rw [c11]; decide) (by rw [c11]; rfl) (by decide) ?_
      refine g_aload_n (pc := 91) dX11_of_91 rfl ?_
      refine g_gR (pc := 92) dX11_of_92 fR_RX11_68 xc_0 (v := 87) rfl ?_
      refine g_iload_n (pc := 95) dX11_of_95 rfl ?_
      obtain ⟨x13, e12, h⟩ := x_bind h
      refine g_cV (pc := 96) dX11_of_96 cV_RX11_175 (M_X2_ofBale (Nat.le_refl _) e12) xc_87 (as := [.int v1]) (st := []) rfl rfl (Nat.le_of_ble_eq_true rfl) (Nat.le_trans (Nat.le_of_ble_eq_true rfl) hd) rfl ?_
      replace h := Option.some.inj h
      subst h
      exact g_iret (pc := 99) dX11_of_99 rfl rfl rfl (Nat.le_refl _) (Nat.le_refl _)
    replace h := (if_neg c11).symm.trans h
    by_cases c14 : v2 = (5 : Int32)
    · replace h := (if_pos c14).symm.trans h
      refine g_tableIn (tgt := 100) (off := 86) (pc := 14) dX11_of_14 (by rw [c14]; decide) (by rw [c14]; decide) (by rw [c14]; rfl) (by decide) ?_
      refine g_aload_n (pc := 100) dX11_of_100 rfl ?_
      refine g_gR (pc := 101) dX11_of_101 fR_RX11_19 xc_0 (v := 13) rfl ?_
      refine g_gR (pc := 104) dX11_of_104 fR_RX11_176 xc_13 (v := 20) rfl ?_
      refine g_iload_n (pc := 107) dX11_of_107 rfl ?_
      obtain ⟨g15, h⟩ := x_gd h
      refine g_iaload (pc := 108) dX11_of_108 xc_20 (xin_of g15) (v := (rd u 20 v1.toNatClampNeg)) rfl ?_
      replace h := Option.some.inj h
      subst h
      exact g_iret (pc := 109) dX11_of_109 rfl rfl rfl (Nat.le_refl _) (Nat.le_refl _)
    replace h := (if_neg c14).symm.trans h
    have c2i := i32_ne c2 (m := 0) (by decide)
    have c4i := i32_ne c4 (m := 1) (by decide)
    have c6i := i32_ne c6 (m := 2) (by decide)
    have c8i := i32_ne c8 (m := 3) (by decide)
    have c11i := i32_ne c11 (m := 4) (by decide)
    have c14i := i32_ne c14 (m := 5) (by decide)
    refine g_tableOut (tgt := 110) (pc := 14) dX11_of_14 (by omega) (by decide) ?_
    refine g_iconst (pc := 110) dX11_of_110 ic_m1 ?_
    replace h := Option.some.inj h
    subst h
    exact g_iret (pc := 111) dX11_of_111 rfl rfl rfl (Nat.le_refl _) (Nat.le_refl _)
  · replace h := (if_pos c1).symm.trans h
    refine g_iconst (pc := 11) dX11_of_11 ic_m1 ?_
    replace h := Option.some.inj h
    subst h
    exact g_iret (pc := 12) dX11_of_12 rfl rfl rfl (Nat.le_refl _) (Nat.le_refl _)
set_option maxRecDepth 100000 in
set_option maxHeartbeats 4000000 in
theorem M_X11_of {sc : Nat × (Nat → Int32)} {d : Nat} (hd : 1 ≤ d) {r : Int32} {u : xS} {a1 : Int32} {a2 : Int32} (h : f_X11_of u a1 a2 = some r) : xMt sc mX11_of d 0 0 [.ref 0, .int a1, .int a2] (xL0, u) (some (.int r)) (xL0, u) :=
  xMt.of (by decide +kernel) (by decide +kernel) (Nat.le_of_ble_eq_true rfl) (L := [some (.ref 0), some (.int a1), some (.int a2)]) rfl ((G_X11_of_0 hd a1 a2 h))
set_option maxRecDepth 100000 in
set_option maxHeartbeats 4000000 in
theorem G_X11_off_0 {sc : Nat × (Nat → Int32)} {d : Nat} (hd : 4 ≤ d) {r : Int32} {u' : xS} (v1 : Int32) (v2 : Int32) (u : xS) (h : f_X11_off v1 v2 u = some (r, u')) : xG sc mX11_off d 0 0 (xR (some (.int r)) (xL0, u') 0 0) 0 0 0 [some (.ref 0), some (.int v1), some (.int v2)] [] (xL0, u) := by
  rw [f_X11_off] at h
  refine g_aload_n (pc := 0) dX11_off_0 rfl ?_
  refine g_gR (pc := 1) dX11_off_1 fR_RX11_19 xc_0 (v := 13) rfl ?_
  refine g_iload_n (pc := 4) dX11_off_4 rfl ?_
  refine g_cV (pc := 5) dX11_off_5 cV_RX11_137 (M_X0_has (Nat.le_refl _) rfl) xc_13 (as := [.int v1]) (st := []) rfl rfl (Nat.le_of_ble_eq_true rfl) (Nat.le_trans (Nat.le_of_ble_eq_true rfl) hd) rfl ?_
  refine g_if_eq (tgt := 29) (pc := 8) dX11_off_8 (by decide) (fun c1 => ?_) (fun c1 => ?_)
  · replace h := (if_pos c1).symm.trans h
    refine g_iconst (pc := 29) dX11_off_29 ic_m1 ?_
    obtain ⟨h1, h2⟩ := x_inj2 h
    subst h1
    subst h2
    exact g_iret (pc := 30) dX11_off_30 rfl rfl rfl (Nat.le_refl _) (Nat.le_refl _)
  · replace h := (if_neg c1).symm.trans h
    refine g_iload_n (pc := 11) dX11_off_11 rfl ?_
    refine g_iconst (pc := 12) dX11_off_12 ic_0 ?_
    refine g_iconst (pc := 13) dX11_off_13 ic_1 ?_
    refine g_cS (pc := 14) dX11_off_14 cS_RX11_94 (M_X11_lies (Nat.le_refl _) rfl) (as := [.int v2, .int (0 : Int32), .int (1 : Int32)]) (st := []) rfl rfl (Nat.le_of_ble_eq_true rfl) (Nat.le_trans (Nat.le_of_ble_eq_true rfl) hd) rfl ?_
    refine g_if_eq (tgt := 29) (pc := 17) dX11_off_17 (by decide) (fun c2 => ?_) (fun c2 => ?_)
    · replace h := (if_pos c2).symm.trans h
      refine g_iconst (pc := 29) dX11_off_29 ic_m1 ?_
      obtain ⟨h1, h2⟩ := x_inj2 h
      subst h1
      subst h2
      exact g_iret (pc := 30) dX11_off_30 rfl rfl rfl (Nat.le_refl _) (Nat.le_refl _)
    · replace h := (if_neg c2).symm.trans h
      refine g_aload_n (pc := 20) dX11_off_20 rfl ?_
      refine g_iload_n (pc := 21) dX11_off_21 rfl ?_
      refine g_iload_n (pc := 22) dX11_off_22 rfl ?_
      obtain ⟨⟨x4, u5⟩, e3, h⟩ := x_bind h
      dsimp only at h
      refine g_cV (pc := 23) dX11_off_23 cV_RX11_185 (M_X11_offOf (Nat.le_refl _) e3) xc_0 (as := [.int v1, .int v2]) (st := []) rfl rfl (Nat.le_of_ble_eq_true rfl) (Nat.le_trans (Nat.le_of_ble_eq_true rfl) hd) rfl ?_
      refine g_goto (tgt := 30) (pc := 26) dX11_off_26 (by decide) ?_
      obtain ⟨h1, h2⟩ := x_inj2 h
      subst h1
      subst h2
      exact g_iret (pc := 30) dX11_off_30 rfl rfl rfl (Nat.le_refl _) (Nat.le_refl _)
set_option maxRecDepth 100000 in
set_option maxHeartbeats 4000000 in
theorem M_X11_off {sc : Nat × (Nat → Int32)} {d : Nat} (hd : 4 ≤ d) {r : Int32} {u u' : xS} {a1 : Int32} {a2 : Int32} (h : f_X11_off a1 a2 u = some (r, u')) : xMt sc mX11_off d 0 0 [.ref 0, .int a1, .int a2] (xL0, u) (some (.int r)) (xL0, u') :=
  xMt.of (by decide +kernel) (by decide +kernel) (Nat.le_of_ble_eq_true rfl) (L := [some (.ref 0), some (.int a1), some (.int a2)]) rfl ((G_X11_off_0 hd a1 a2 u h))
set_option maxRecDepth 100000 in
set_option maxHeartbeats 4000000 in
theorem G_X11_sheetFits_6 {sc : Nat × (Nat → Int32)} {d : Nat} (hd : 1 ≤ d) {r : Int32} {u : xS} : ∀ (n : Nat) (v0 : Int32) (v1 : Int32) (v2 : Int32) (v3 : Int32) (v4 : Int32) (v5 : Int64) (v7 : Int32), f_X11_sheetFits_6 n v0 v1 v2 v3 v4 v5 v7 = some r → xG sc mX11_sheetFits d 0 0 (xR (some (.int r)) (xL0, u) 0 0) 0 0 6 [some (.int v0), some (.int v1), some (.int v2), some (.int v3), some (.int v4), some (.long v5), none, some (.int v7), none] [] (xL0, u) := by
  intro n
  induction n with
  | zero =>
    intro v0 v1 v2 v3 v4 v5 v7 h
    rw [f_X11_sheetFits_6] at h
    cases h
  | succ n ih =>
    intro v0 v1 v2 v3 v4 v5 v7 h
    rw [f_X11_sheetFits_6] at h
    refine g_iload (pc := 6) dX11_sheetFits_6 rfl ?_
    refine g_iload_n (pc := 8) dX11_sheetFits_8 rfl ?_
    refine g_icmp_ge (tgt := 46) (pc := 9) dX11_sheetFits_9 (by decide) (fun c1 => ?_) (fun c1 => ?_)
    · replace h := (if_pos c1).symm.trans h
      refine g_lload (pc := 46) dX11_sheetFits_46 rfl ?_
      refine g_iload_n (pc := 48) dX11_sheetFits_48 rfl ?_
      refine g_i2l (pc := 49) dX11_sheetFits_49 rfl ?_
      refine g_lcmp (pc := 50) dX11_sheetFits_50 rfl ?_
      refine g_if_gt (tgt := 58) (pc := 51) dX11_sheetFits_51 (by decide) (fun c2 => ?_) (fun c2 => ?_)
      · replace h := (if_pos c2).symm.trans h
        refine g_iconst (pc := 58) dX11_sheetFits_58 ic_0 ?_
        replace h := Option.some.inj h
        subst h
        exact g_zret (pc := 59) dX11_sheetFits_59 rfl (Or.inl rfl) rfl rfl (Nat.le_refl _) (Nat.le_refl _)
      · replace h := (if_neg c2).symm.trans h
        refine g_iconst (pc := 54) dX11_sheetFits_54 ic_1 ?_
        refine g_goto (tgt := 59) (pc := 55) dX11_sheetFits_55 (by decide) ?_
        replace h := Option.some.inj h
        subst h
        exact g_zret (pc := 59) dX11_sheetFits_59 rfl (Or.inr rfl) rfl rfl (Nat.le_refl _) (Nat.le_refl _)
    · replace h := (if_neg c1).symm.trans h
      refine g_iload_n (pc := 12) dX11_sheetFits_12 rfl ?_
      refine g_iload_n (pc := 13) dX11_sheetFits_13 rfl ?_
      refine g_iload (pc := 14) dX11_sheetFits_14 rfl ?_
      refine g_iload (pc := 16) dX11_sheetFits_16 rfl ?_
      refine g_imul (pc := 18) dX11_sheetFits_18 rfl ?_
      refine g_iadd (pc := 19) dX11_sheetFits_19 rfl ?_
      refine g_cS (pc := 20) dX11_sheetFits_20 cS_RX11_158 (M_X11_entry (Nat.le_refl _) rfl) (as := [.int v1, .int (v3 + (v7 * v4))]) (st := []) rfl rfl (Nat.le_of_ble_eq_true rfl) (Nat.le_trans (Nat.le_of_ble_eq_true rfl) hd) rfl ?_
      refine g_istore (pc := 23) dX11_sheetFits_23 (Nat.le_of_ble_eq_true rfl) (L' := [some (.int v0), some (.int v1), some (.int v2), some (.int v3), some (.int v4), some (.long v5), none, some (.int v7), some (.int (f_X11_entry v1 (v3 + (v7 * v4))))]) rfl ?_
      refine g_iload (pc := 25) dX11_sheetFits_25 rfl ?_
      refine g_if_ge (tgt := 32) (pc := 27) dX11_sheetFits_27 (by decide) (fun c3 => ?_) (fun c3 => ?_)
      · replace h := (if_pos c3).symm.trans h
        refine g_lload (pc := 32) dX11_sheetFits_32 rfl ?_
        refine g_iload (pc := 34) dX11_sheetFits_34 rfl ?_
        refine g_i2l (pc := 36) dX11_sheetFits_36 rfl ?_
        refine g_ladd (pc := 37) dX11_sheetFits_37 rfl ?_
        refine g_lstore (pc := 38) dX11_sheetFits_38 (Nat.le_of_ble_eq_true rfl) (Nat.le_of_ble_eq_true rfl) (L' := [some (.int v0), some (.int v1), some (.int v2), some (.int v3), some (.int v4), some (.long (v5 + ((f_X11_entry v1 (v3 + (v7 * v4))).toInt64))), none, some (.int v7), some (.int (f_X11_entry v1 (v3 + (v7 * v4))))]) rfl ?_
        refine g_inc (pc := 40) dX11_sheetFits_40 (Nat.le_of_ble_eq_true rfl) rfl ic_1 (L' := [some (.int v0), some (.int v1), some (.int v2), some (.int v3), some (.int v4), some (.long (v5 + ((f_X11_entry v1 (v3 + (v7 * v4))).toInt64))), none, some (.int (v7 + (1 : Int32))), some (.int (f_X11_entry v1 (v3 + (v7 * v4))))]) rfl ?_
        refine g_goto (tgt := 6) (pc := 43) dX11_sheetFits_43 (by decide) ?_
        refine g_L (L' := [some (.int v0), some (.int v1), some (.int v2), some (.int v3), some (.int v4), some (.long (v5 + ((f_X11_entry v1 (v3 + (v7 * v4))).toInt64))), none, some (.int (v7 + (1 : Int32))), none]) ⟨rfl, ⟨rfl, ⟨rfl, ⟨rfl, ⟨rfl, ⟨rfl, ⟨rfl, trivial⟩⟩⟩⟩⟩⟩⟩ ?_
        exact ih v0 v1 v2 v3 v4 (v5 + ((f_X11_entry v1 (v3 + (v7 * v4))).toInt64)) (v7 + (1 : Int32)) h
      · replace h := (if_neg c3).symm.trans h
        refine g_iconst (pc := 30) dX11_sheetFits_30 ic_0 ?_
        replace h := Option.some.inj h
        subst h
        exact g_zret (pc := 31) dX11_sheetFits_31 rfl (Or.inl rfl) rfl rfl (Nat.le_refl _) (Nat.le_refl _)
set_option maxRecDepth 100000 in
set_option maxHeartbeats 4000000 in
theorem G_X11_sheetFits_0 {sc : Nat × (Nat → Int32)} {d : Nat} (hd : 1 ≤ d) {r : Int32} {u : xS} (v0 : Int32) (v1 : Int32) (v2 : Int32) (v3 : Int32) (v4 : Int32) (h : f_X11_sheetFits v0 v1 v2 v3 v4 = some r) : xG sc mX11_sheetFits d 0 0 (xR (some (.int r)) (xL0, u) 0 0) 0 0 0 [some (.int v0), some (.int v1), some (.int v2), some (.int v3), some (.int v4), none, none, none, none] [] (xL0, u) := by
  rw [f_X11_sheetFits] at h
  refine g_lconst (v := (0 : Int64)) (pc := 0) dX11_sheetFits_0 rfl ?_
  refine g_lstore (pc := 1) dX11_sheetFits_1 (Nat.le_of_ble_eq_true rfl) (Nat.le_of_ble_eq_true rfl) (L' := [some (.int v0), some (.int v1), some (.int v2), some (.int v3), some (.int v4), some (.long (0 : Int64)), none, none, none]) rfl ?_
  refine g_iconst (pc := 3) dX11_sheetFits_3 ic_0 ?_
  refine g_istore (pc := 4) dX11_sheetFits_4 (Nat.le_of_ble_eq_true rfl) (L' := [some (.int v0), some (.int v1), some (.int v2), some (.int v3), some (.int v4), some (.long (0 : Int64)), none, some (.int (0 : Int32)), none]) rfl ?_
  exact G_X11_sheetFits_6 hd xN v0 v1 v2 v3 v4 (0 : Int64) (0 : Int32) h
set_option maxRecDepth 100000 in
set_option maxHeartbeats 4000000 in
theorem M_X11_sheetFits {sc : Nat × (Nat → Int32)} {d : Nat} (hd : 1 ≤ d) {r : Int32} {u : xS} {a0 : Int32} {a1 : Int32} {a2 : Int32} {a3 : Int32} {a4 : Int32} (h : f_X11_sheetFits a0 a1 a2 a3 a4 = some r) : xMt sc mX11_sheetFits d 0 0 [.int a0, .int a1, .int a2, .int a3, .int a4] (xL0, u) (some (.int r)) (xL0, u) :=
  xMt.of (by decide +kernel) (by decide +kernel) (Nat.le_of_ble_eq_true rfl) (L := [some (.int a0), some (.int a1), some (.int a2), some (.int a3), some (.int a4), none, none, none, none]) rfl ((G_X11_sheetFits_0 hd a0 a1 a2 a3 a4 h))
set_option maxRecDepth 100000 in
set_option maxHeartbeats 4000000 in
theorem G_X6_add_0 {sc : Nat × (Nat → Int32)} {d : Nat} (hd : 0 ≤ d) {u' : xS} (v1 : Int32) (v2 : Int32) (v3 : Int32) (u : xS) (h : f_X6_add v1 v2 v3 u = some u') : xG sc mX6_add d 0 0 (xR none (xL0, u') 0 0) 0 0 0 [some (.ref 74), some (.int v1), some (.int v2), some (.int v3)] [] (xL0, u) := by
  rw [f_X6_add] at h
  refine g_aload_n (pc := 0) dX6_add_0 rfl ?_
  refine g_gI (pc := 1) dX6_add_1 fI_RX6_24 xc_74 (v := (rd u 74 4)) rfl ?_
  refine g_sipush (pc := 4) dX6_add_4 sp_384 ?_
  refine g_icmp_ge (tgt := 60) (pc := 7) dX6_add_7 (by decide) (fun c1 => ?_) (fun c1 => ?_)
  · replace h := (if_pos c1).symm.trans h
    replace h := Option.some.inj h
    subst h
    exact g_ret (pc := 60) dX6_add_60 rfl rfl rfl (Nat.le_refl _) (Nat.le_refl _)
  · replace h := (if_neg c1).symm.trans h
    refine g_aload_n (pc := 10) dX6_add_10 rfl ?_
    refine g_gR (pc := 11) dX6_add_11 fR_RX6_11 xc_74 (v := 75) rfl ?_
    refine g_aload_n (pc := 14) dX6_add_14 rfl ?_
    refine g_gI (pc := 15) dX6_add_15 fI_RX6_24 xc_74 (v := (rd u 74 4)) rfl ?_
    refine g_iload_n (pc := 18) dX6_add_18 rfl ?_
    obtain ⟨g2, h⟩ := x_gd h
    refine g_iastore (pc := 19) dX6_add_19 xc_75 (xin_of g2) (u' := (wr u 75 (rd u 74 4).toNatClampNeg v1)) rfl ?_
    refine g_aload_n (pc := 20) dX6_add_20 rfl ?_
    refine g_gR (pc := 21) dX6_add_21 fR_RX6_15 xc_74 (v := 76) rfl ?_
    refine g_aload_n (pc := 24) dX6_add_24 rfl ?_
    refine g_gI (pc := 25) dX6_add_25 fI_RX6_24 xc_74 (v := (rd u 74 4)) rfl ?_
    refine g_iload_n (pc := 28) dX6_add_28 rfl ?_
    refine g_iastore (pc := 29) dX6_add_29 xc_76 (xin_of g2) (u' := (wr (wr u 75 (rd u 74 4).toNatClampNeg v1) 76 (rd u 74 4).toNatClampNeg v2)) rfl ?_
    refine g_aload_n (pc := 30) dX6_add_30 rfl ?_
    refine g_gR (pc := 31) dX6_add_31 fR_RX6_18 xc_74 (v := 77) rfl ?_
    refine g_aload_n (pc := 34) dX6_add_34 rfl ?_
    refine g_gI (pc := 35) dX6_add_35 fI_RX6_24 xc_74 (v := (rd u 74 4)) rfl ?_
    refine g_iload_n (pc := 38) dX6_add_38 rfl ?_
    refine g_iastore (pc := 39) dX6_add_39 xc_77 (xin_of g2) (u' := (wr (wr (wr u 75 (rd u 74 4).toNatClampNeg v1) 76 (rd u 74 4).toNatClampNeg v2) 77 (rd u 74 4).toNatClampNeg v3)) rfl ?_
    refine g_aload_n (pc := 40) dX6_add_40 rfl ?_
    refine g_gR (pc := 41) dX6_add_41 fR_RX6_21 xc_74 (v := 78) rfl ?_
    refine g_iload_n (pc := 44) dX6_add_44 rfl ?_
    refine g_dup2 (pc := 45) dX6_add_45 rfl rfl ?_
    obtain ⟨g3, h⟩ := x_gd h
    refine g_iaload (pc := 46) dX6_add_46 xc_78 (xin_of g3) (v := (rd u 78 v1.toNatClampNeg)) rfl ?_
    refine g_iload_n (pc := 47) dX6_add_47 rfl ?_
    refine g_iadd (pc := 48) dX6_add_48 rfl ?_
    refine g_iastore (pc := 49) dX6_add_49 xc_78 (xin_of g3) (u' := (wr (wr (wr (wr u 75 (rd u 74 4).toNatClampNeg v1) 76 (rd u 74 4).toNatClampNeg v2) 77 (rd u 74 4).toNatClampNeg v3) 78 v1.toNatClampNeg ((rd u 78 v1.toNatClampNeg) + v3))) rfl ?_
    refine g_aload_n (pc := 50) dX6_add_50 rfl ?_
    refine g_dup (pc := 51) dX6_add_51 rfl ?_
    refine g_gI (pc := 52) dX6_add_52 fI_RX6_24 xc_74 (v := (rd u 74 4)) rfl ?_
    refine g_iconst (pc := 55) dX6_add_55 ic_1 ?_
    refine g_iadd (pc := 56) dX6_add_56 rfl ?_
    refine g_pI (pc := 57) dX6_add_57 pI_RX6_24 xc_74 (u' := (wr (wr (wr (wr (wr u 75 (rd u 74 4).toNatClampNeg v1) 76 (rd u 74 4).toNatClampNeg v2) 77 (rd u 74 4).toNatClampNeg v3) 78 v1.toNatClampNeg ((rd u 78 v1.toNatClampNeg) + v3)) 74 4 ((rd u 74 4) + (1 : Int32)))) rfl ?_
    replace h := Option.some.inj h
    subst h
    exact g_ret (pc := 60) dX6_add_60 rfl rfl rfl (Nat.le_refl _) (Nat.le_refl _)
set_option maxRecDepth 100000 in
set_option maxHeartbeats 4000000 in
theorem M_X6_add {sc : Nat × (Nat → Int32)} {d : Nat} (hd : 0 ≤ d) {u u' : xS} {a1 : Int32} {a2 : Int32} {a3 : Int32} (h : f_X6_add a1 a2 a3 u = some u') : xMt sc mX6_add d 0 0 [.ref 74, .int a1, .int a2, .int a3] (xL0, u) none (xL0, u') :=
  xMt.of (by decide +kernel) (by decide +kernel) (Nat.le_of_ble_eq_true rfl) (L := [some (.ref 74), some (.int a1), some (.int a2), some (.int a3)]) rfl ((G_X6_add_0 hd a1 a2 a3 u h))
