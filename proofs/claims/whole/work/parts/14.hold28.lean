set_option maxRecDepth 100000 in
set_option maxHeartbeats 4000000 in
theorem G_X7_read_69 {sc : Nat × (Nat → Int32)} {d : Nat} (hd : 4 ≤ d) {r : Int32} {u' : xS} (v2 : Int32) (v3 : Int32) (u : xS) (h : f_X7_read_69 v2 v3 u = some (r, u')) : xG sc mX7_read d 0 0 (xR (some (.int r)) (xL0, u') 0 0) 0 0 69 [some (.ref 54), none, some (.int v2), some (.int v3), none] [] (xL0, u) := by
  rw [f_X7_read_69] at h
  refine g_iload_n (pc := 69) dX7_read_69 rfl ?_
  refine g_bipush (pc := 70) dX7_read_70 bp_60 ?_
  refine g_icmp_le (tgt := 78) (pc := 72) dX7_read_72 (by decide) (fun c1 => ?_) (fun c1 => ?_)
  · replace h := (if_pos c1).symm.trans h
    refine g_aload_n (pc := 78) dX7_read_78 rfl ?_
    refine g_gI (pc := 79) dX7_read_79 fI_RX7_26 xc_54 (v := (rd u 54 7)) rfl ?_
    refine g_if_ne (tgt := 92) (pc := 82) dX7_read_82 (by decide) (fun c2 => ?_) (fun c2 => ?_)
    · replace h := (if_neg c2).symm.trans h
      refine g_iload_n (pc := 92) dX7_read_92 rfl ?_
      obtain ⟨h1, h2⟩ := x_inj2 h
      subst h1
      subst h2
      exact g_iret (pc := 93) dX7_read_93 rfl rfl rfl (Nat.le_refl _) (Nat.le_refl _)
    · replace h := (if_pos c2).symm.trans h
      refine g_aload_n (pc := 85) dX7_read_85 rfl ?_
      refine g_gI (pc := 86) dX7_read_86 fI_RX7_37 xc_54 (v := (rd u 54 5)) rfl ?_
      refine g_if_le (tgt := 94) (pc := 89) dX7_read_89 (by decide) (fun c3 => ?_) (fun c3 => ?_)
      · replace h := (if_pos c3).symm.trans h
        refine g_aload_n (pc := 94) dX7_read_94 rfl ?_
        refine g_iconst (pc := 95) dX7_read_95 ic_1 ?_
        obtain ⟨u5, e4, h⟩ := x_bind h
        refine g_cV (pc := 96) dX7_read_96 cV_RX7_41 (M_X7_bringOut (Nat.le_refl _) e4) xc_54 (as := [.int (1 : Int32)]) (st := []) rfl rfl (Nat.le_of_ble_eq_true rfl) (Nat.le_trans (Nat.le_of_ble_eq_true rfl) hd) rfl ?_
        refine g_iload_n (pc := 99) dX7_read_99 rfl ?_
        refine g_if_eq (tgt := 109) (pc := 100) dX7_read_100 (by decide) (fun c6 => ?_) (fun c6 => ?_)
        · replace h := (if_pos c6).symm.trans h
          refine g_iconst (pc := 109) dX7_read_109 ic_m1 ?_
          obtain ⟨h1, h2⟩ := x_inj2 h
          subst h1
          subst h2
          exact g_iret (pc := 110) dX7_read_110 rfl rfl rfl (Nat.le_refl _) (Nat.le_refl _)
        · replace h := (if_neg c6).symm.trans h
          refine g_aload_n (pc := 103) dX7_read_103 rfl ?_
          refine g_bipush (pc := 104) dX7_read_104 bp_m59 ?_
          obtain ⟨u8, e7, h⟩ := x_bind h
          refine g_cV (pc := 106) dX7_read_106 cV_RX7_45 (M_X7_emit (Nat.le_refl _) e7) xc_54 (as := [.int (-59 : Int32)]) (st := []) rfl rfl (Nat.le_of_ble_eq_true rfl) (Nat.le_trans (Nat.le_of_ble_eq_true rfl) hd) rfl ?_
          refine g_iconst (pc := 109) dX7_read_109 ic_m1 ?_
          obtain ⟨h1, h2⟩ := x_inj2 h
          subst h1
          subst h2
          exact g_iret (pc := 110) dX7_read_110 rfl rfl rfl (Nat.le_refl _) (Nat.le_refl _)
      · replace h := (if_neg c3).symm.trans h
        refine g_iload_n (pc := 92) dX7_read_92 rfl ?_
        obtain ⟨h1, h2⟩ := x_inj2 h
        subst h1
        subst h2
        exact g_iret (pc := 93) dX7_read_93 rfl rfl rfl (Nat.le_refl _) (Nat.le_refl _)
  · replace h := (if_neg c1).symm.trans h
    refine g_bipush (pc := 75) dX7_read_75 bp_60 ?_
    obtain ⟨h1, h2⟩ := x_inj2 h
    subst h1
    subst h2
    exact g_iret (pc := 77) dX7_read_77 rfl rfl rfl (Nat.le_refl _) (Nat.le_refl _)
set_option maxRecDepth 100000 in
set_option maxHeartbeats 4000000 in
theorem G_X7_read_63 {sc : Nat × (Nat → Int32)} {d : Nat} (hd : 4 ≤ d) {r : Int32} {u' : xS} {k8 : Nat → Int32 → Int32 → Int32 → xS → Option (Int32 × xS)} (hk8 : ∀ (v1 : Nat) (v2 : Int32) (v3 : Int32) (v4 : Int32) (u : xS), k8 v1 v2 v3 v4 u = some (r, u') → xG sc mX7_read d 0 0 (xR (some (.int r)) (xL0, u') 0 0) 0 0 8 [some (.ref 54), some (.ref v1), some (.int v2), some (.int v3), some (.int v4)] [] (xL0, u)) (v1 : Nat) (v2 : Int32) (v3 : Int32) (v4 : Int32) (u : xS) (h : f_X7_read_63 k8 v1 v2 v3 v4 u = some (r, u')) : xG sc mX7_read d 0 0 (xR (some (.int r)) (xL0, u') 0 0) 0 0 63 [some (.ref 54), some (.ref v1), some (.int v2), some (.int v3), some (.int v4)] [] (xL0, u) := by
  rw [f_X7_read_63] at h
  refine g_inc (pc := 63) dX7_read_63 (Nat.le_of_ble_eq_true rfl) rfl ic_1 (L' := [some (.ref 54), some (.ref v1), some (.int v2), some (.int v3), some (.int (v4 + (1 : Int32)))]) rfl ?_
  refine g_goto (tgt := 8) (pc := 66) dX7_read_66 (by decide) ?_
  exact hk8 v1 v2 v3 (v4 + (1 : Int32)) u h
set_option maxRecDepth 100000 in
set_option maxHeartbeats 4000000 in
theorem G_X7_read_8 {sc : Nat × (Nat → Int32)} {d : Nat} (hd : 4 ≤ d) {r : Int32} {u' : xS} : ∀ (n : Nat) (v1 : Nat) (v2 : Int32) (v3 : Int32) (v4 : Int32) (u : xS), f_X7_read_8 n v1 v2 v3 v4 u = some (r, u') → xG sc mX7_read d 0 0 (xR (some (.int r)) (xL0, u') 0 0) 0 0 8 [some (.ref 54), some (.ref v1), some (.int v2), some (.int v3), some (.int v4)] [] (xL0, u) := by
  intro n
  induction n with
  | zero =>
    intro v1 v2 v3 v4 u h
    rw [f_X7_read_8] at h
    cases h
  | succ n ih =>
    intro v1 v2 v3 v4 u h
    rw [f_X7_read_8] at h
    refine g_iload (pc := 8) dX7_read_8 rfl ?_
    refine g_iload_n (pc := 10) dX7_read_10 rfl ?_
    refine g_icmp_ge (tgt := 69) (pc := 11) dX7_read_11 (by decide) (fun c1 => ?_) (fun c1 => ?_)
    · replace h := (if_pos c1).symm.trans h
      refine g_L (L' := [some (.ref 54), none, some (.int v2), some (.int v3), none]) ⟨rfl, ⟨rfl, ⟨rfl, trivial⟩⟩⟩ ?_
      exact G_X7_read_69 hd v2 v3 u h
    · replace h := (if_neg c1).symm.trans h
      refine g_iload (pc := 14) dX7_read_14 rfl ?_
      refine g_bipush (pc := 16) dX7_read_16 bp_60 ?_
      refine g_icmp_ge (tgt := 69) (pc := 18) dX7_read_18 (by decide) (fun c2 => ?_) (fun c2 => ?_)
      · replace h := (if_pos c2).symm.trans h
        refine g_L (L' := [some (.ref 54), none, some (.int v2), some (.int v3), none]) ⟨rfl, ⟨rfl, ⟨rfl, trivial⟩⟩⟩ ?_
        exact G_X7_read_69 hd v2 v3 u h
      · replace h := (if_neg c2).symm.trans h
        refine g_iload (pc := 21) dX7_read_21 rfl ?_
        refine g_aload_n (pc := 23) dX7_read_23 rfl ?_
        obtain ⟨g3, h⟩ := x_gd h
        obtain ⟨q4, hq5⟩ := xisI_of g3
        refine g_alen (pc := 24) dX7_read_24 hq5 (by decide) (v := (Int32.ofNat (xlen v1))) rfl ?_
        refine g_icmp_ge (tgt := 69) (pc := 25) dX7_read_25 (by decide) (fun c6 => ?_) (fun c6 => ?_)
        · replace h := (if_pos c6).symm.trans h
          refine g_L (L' := [some (.ref 54), none, some (.int v2), some (.int v3), none]) ⟨rfl, ⟨rfl, ⟨rfl, trivial⟩⟩⟩ ?_
          exact G_X7_read_69 hd v2 v3 u h
        · replace h := (if_neg c6).symm.trans h
          refine g_aload_n (pc := 28) dX7_read_28 rfl ?_
          refine g_gI (pc := 29) dX7_read_29 fI_RX7_26 xc_54 (v := (rd u 54 7)) rfl ?_
          refine g_if_eq (tgt := 49) (pc := 32) dX7_read_32 (by decide) (fun c7 => ?_) (fun c7 => ?_)
          · replace h := (if_pos c7).symm.trans h
            refine g_aload_n (pc := 49) dX7_read_49 rfl ?_
            refine g_aload_n (pc := 50) dX7_read_50 rfl ?_
            refine g_iload (pc := 51) dX7_read_51 rfl ?_
            obtain ⟨g8, h⟩ := x_gd h
            obtain ⟨g9, h⟩ := x_gd h
            obtain ⟨q10, hq11⟩ := xisI_of g8
            refine g_iaload (pc := 53) dX7_read_53 hq11 (xin_of g9) (v := (rd u v1 v4.toNatClampNeg)) rfl ?_
            obtain ⟨⟨x13, u14⟩, e12, h⟩ := x_bind h
            dsimp only at h
            refine g_cV (pc := 54) dX7_read_54 cV_RX7_34 (M_X7_goesOn (Nat.le_refl _) e12) xc_54 (as := [.int (rd u v1 v4.toNatClampNeg)]) (st := []) rfl rfl (Nat.le_of_ble_eq_true rfl) (Nat.le_trans (Nat.le_of_ble_eq_true rfl) hd) rfl ?_
            refine g_if_ne (tgt := 63) (pc := 57) dX7_read_57 (by decide) (fun c15 => ?_) (fun c15 => ?_)
            · replace h := (if_neg c15).symm.trans h
              exact G_X7_read_63 hd ih v1 v2 v3 v4 u14 h
            · replace h := (if_pos c15).symm.trans h
              refine g_iload (pc := 60) dX7_read_60 rfl ?_
              obtain ⟨h1, h2⟩ := x_inj2 h
              subst h1
              subst h2
              exact g_iret (pc := 62) dX7_read_62 rfl rfl rfl (Nat.le_refl _) (Nat.le_refl _)
          · replace h := (if_neg c7).symm.trans h
            refine g_aload_n (pc := 35) dX7_read_35 rfl ?_
            refine g_aload_n (pc := 36) dX7_read_36 rfl ?_
            refine g_iload (pc := 37) dX7_read_37 rfl ?_
            obtain ⟨g17, h⟩ := x_gd h
            obtain ⟨g18, h⟩ := x_gd h
            obtain ⟨q19, hq20⟩ := xisI_of g17
            refine g_iaload (pc := 39) dX7_read_39 hq20 (xin_of g18) (v := (rd u v1 v4.toNatClampNeg)) rfl ?_
            obtain ⟨⟨x22, u23⟩, e21, h⟩ := x_bind h
            dsimp only at h
            refine g_cV (pc := 40) dX7_read_40 cV_RX7_30 (M_X7_begins (Nat.le_refl _) e21) xc_54 (as := [.int (rd u v1 v4.toNatClampNeg)]) (st := []) rfl rfl (Nat.le_of_ble_eq_true rfl) (Nat.le_trans (Nat.le_of_ble_eq_true rfl) hd) rfl ?_
            refine g_if_eq (tgt := 60) (pc := 43) dX7_read_43 (by decide) (fun c24 => ?_) (fun c24 => ?_)
            · replace h := (if_pos c24).symm.trans h
              refine g_iload (pc := 60) dX7_read_60 rfl ?_
              obtain ⟨h1, h2⟩ := x_inj2 h
              subst h1
              subst h2
              exact g_iret (pc := 62) dX7_read_62 rfl rfl rfl (Nat.le_refl _) (Nat.le_refl _)
            · replace h := (if_neg c24).symm.trans h
              refine g_goto (tgt := 63) (pc := 46) dX7_read_46 (by decide) ?_
              exact G_X7_read_63 hd ih v1 v2 v3 v4 u23 h
set_option maxRecDepth 100000 in
set_option maxHeartbeats 4000000 in
theorem G_X7_read_0 {sc : Nat × (Nat → Int32)} {d : Nat} (hd : 4 ≤ d) {r : Int32} {u' : xS} (v1 : Nat) (v2 : Int32) (v3 : Int32) (u : xS) (h : f_X7_read v1 v2 v3 u = some (r, u')) : xG sc mX7_read d 0 0 (xR (some (.int r)) (xL0, u') 0 0) 0 0 0 [some (.ref 54), some (.ref v1), some (.int v2), some (.int v3), none] [] (xL0, u) := by
  rw [f_X7_read] at h
  refine g_aload_n (pc := 0) dX7_read_0 rfl ?_
  refine g_iload_n (pc := 1) dX7_read_1 rfl ?_
  obtain ⟨u2, e1, h⟩ := x_bind h
  refine g_cV (pc := 2) dX7_read_2 cV_RX7_22 (M_X7_begin (Nat.le_refl _) e1) xc_54 (as := [.int v3]) (st := []) rfl rfl (Nat.le_of_ble_eq_true rfl) (Nat.le_trans (Nat.le_of_ble_eq_true rfl) hd) rfl ?_
  refine g_iconst (pc := 5) dX7_read_5 ic_0 ?_
  refine g_istore (pc := 6) dX7_read_6 (Nat.le_of_ble_eq_true rfl) (L' := [some (.ref 54), some (.ref v1), some (.int v2), some (.int v3), some (.int (0 : Int32))]) rfl ?_
  exact G_X7_read_8 hd xN v1 v2 v3 (0 : Int32) u2 h
set_option maxRecDepth 100000 in
set_option maxHeartbeats 4000000 in
theorem M_X7_read {sc : Nat × (Nat → Int32)} {d : Nat} (hd : 4 ≤ d) {r : Int32} {u u' : xS} {a1 : Nat} {a2 : Int32} {a3 : Int32} (h : f_X7_read a1 a2 a3 u = some (r, u')) : xMt sc mX7_read d 0 0 [.ref 54, .ref a1, .int a2, .int a3] (xL0, u) (some (.int r)) (xL0, u') :=
  xMt.of (by decide +kernel) (by decide +kernel) (Nat.le_of_ble_eq_true rfl) (L := [some (.ref 54), some (.ref a1), some (.int a2), some (.int a3), none]) rfl ((G_X7_read_0 hd a1 a2 a3 u h))
set_option maxRecDepth 100000 in
set_option maxHeartbeats 4000000 in
theorem G_X11_text_143 {sc : Nat × (Nat → Int32)} {d : Nat} (hd : 5 ≤ d) {r : Int32} {u' : xS} (s1 : Int32) (u : xS) (h : f_X11_text_143 s1 u = some (r, u')) : xG sc mX11_text d 0 0 (xR (some (.int r)) (xL0, u') 0 0) 0 0 143 [some (.ref 0), none, none, none, none, none] [.int s1, .ref 58] (xL0, u) := by
  rw [f_X11_text_143] at h
  refine g_aload_n (pc := 143) dX11_text_143 rfl ?_
  refine g_gR (pc := 144) dX11_text_144 fR_RX11_40 xc_0 (v := 54) rfl ?_
  refine g_gR (pc := 147) dX11_text_147 fR_RX11_248 xc_54 (v := 55) rfl ?_
  refine g_aload_n (pc := 150) dX11_text_150 rfl ?_
  refine g_gR (pc := 151) dX11_text_151 fR_RX11_40 xc_0 (v := 54) rfl ?_
  refine g_gI (pc := 154) dX11_text_154 fI_RX11_251 xc_54 (v := (rd u 54 1)) rfl ?_
  obtain ⟨u2, e1, h⟩ := x_bind h
  refine g_cV (pc := 157) dX11_text_157 cV_RX11_256 (M_X10_keep (Nat.le_refl _) e1) xc_58 (as := [.int s1, .ref 55, .int (rd u 54 1)]) (st := []) rfl rfl (Nat.le_of_ble_eq_true rfl) (Nat.le_trans (Nat.le_of_ble_eq_true rfl) hd) rfl ?_
  refine g_iconst (pc := 160) dX11_text_160 ic_0 ?_
  obtain ⟨h1, h2⟩ := x_inj2 h
  subst h1
  subst h2
  exact g_iret (pc := 161) dX11_text_161 rfl rfl rfl (Nat.le_refl _) (Nat.le_refl _)
set_option maxRecDepth 100000 in
set_option maxHeartbeats 4000000 in
theorem G_X11_text_86 {sc : Nat × (Nat → Int32)} {d : Nat} (hd : 5 ≤ d) {r : Int32} {u' : xS} (v1 : Int32) (v2 : Int32) (s2 : Int32) (s3 : Int32) (u : xS) (h : f_X11_text_86 v1 v2 s2 s3 u = some (r, u')) : xG sc mX11_text d 0 0 (xR (some (.int r)) (xL0, u') 0 0) 0 0 86 [some (.ref 0), some (.int v1), some (.int v2), none, none, none] [.int s3, .int s2, .ref 53, .ref 54] (xL0, u) := by
  rw [f_X11_text_86] at h
  obtain ⟨⟨x2, u3⟩, e1, h⟩ := x_bind h
  dsimp only at h
  refine g_cV (pc := 86) dX11_text_86 cV_RX11_244 (M_X7_read (Nat.le_refl _) e1) xc_54 (as := [.ref 53, .int s2, .int s3]) (st := []) rfl rfl (Nat.le_of_ble_eq_true rfl) (Nat.le_trans (Nat.le_of_ble_eq_true rfl) hd) rfl ?_
  refine g_istore (pc := 89) dX11_text_89 (Nat.le_of_ble_eq_true rfl) (L' := [some (.ref 0), some (.int v1), some (.int v2), none, none, some (.int x2)]) rfl ?_
  refine g_iload (pc := 91) dX11_text_91 rfl ?_
  refine g_iconst (pc := 93) dX11_text_93 ic_m1 ?_
  refine g_icmp_eq (tgt := 102) (pc := 94) dX11_text_94 (by decide) (fun c4 => ?_) (fun c4 => ?_)
  · replace h := (if_pos c4).symm.trans h
    refine g_iload_n (pc := 102) dX11_text_102 rfl ?_
    refine g_iconst (pc := 103) dX11_text_103 ic_1 ?_
    refine g_icmp_ne (tgt := 129) (pc := 104) dX11_text_104 (by decide) (fun c5 => ?_) (fun c5 => ?_)
    · replace h := (if_neg c5).symm.trans h
      refine g_aload_n (pc := 129) dX11_text_129 rfl ?_
      refine g_gR (pc := 130) dX11_text_130 fR_RX11_47 xc_0 (v := 58) rfl ?_
      refine g_iload_n (pc := 133) dX11_text_133 rfl ?_
      refine g_if_ne (tgt := 141) (pc := 134) dX11_text_134 (by decide) (fun c6 => ?_) (fun c6 => ?_)
      · replace h := (if_neg c6).symm.trans h
        refine g_bipush (pc := 141) dX11_text_141 bp_10 ?_
        refine g_L (L' := [some (.ref 0), none, none, none, none, none]) ⟨rfl, trivial⟩ ?_
        exact G_X11_text_143 hd (10 : Int32) u3 h
      · replace h := (if_pos c6).symm.trans h
        refine g_iload_n (pc := 137) dX11_text_137 rfl ?_
        refine g_goto (tgt := 143) (pc := 138) dX11_text_138 (by decide) ?_
        refine g_L (L' := [some (.ref 0), none, none, none, none, none]) ⟨rfl, trivial⟩ ?_
        exact G_X11_text_143 hd v2 u3 h
    · replace h := (if_pos c5).symm.trans h
      refine g_aload_n (pc := 107) dX11_text_107 rfl ?_
      refine g_gR (pc := 108) dX11_text_108 fR_RX11_47 xc_0 (v := 58) rfl ?_
      refine g_aload_n (pc := 111) dX11_text_111 rfl ?_
      refine g_gR (pc := 112) dX11_text_112 fR_RX11_40 xc_0 (v := 54) rfl ?_
      refine g_gR (pc := 115) dX11_text_115 fR_RX11_248 xc_54 (v := 55) rfl ?_
      refine g_aload_n (pc := 118) dX11_text_118 rfl ?_
      refine g_gR (pc := 119) dX11_text_119 fR_RX11_40 xc_0 (v := 54) rfl ?_
      refine g_gI (pc := 122) dX11_text_122 fI_RX11_251 xc_54 (v := (rd u3 54 1)) rfl ?_
      obtain ⟨⟨x8, u9⟩, e7, h⟩ := x_bind h
      dsimp only at h
      refine g_cV (pc := 125) dX11_text_125 cV_RX11_252 (M_X10_addRecipe (Nat.le_refl _) e7) xc_58 (as := [.ref 55, .int (rd u3 54 1)]) (st := []) rfl rfl (Nat.le_of_ble_eq_true rfl) (Nat.le_trans (Nat.le_of_ble_eq_true rfl) hd) rfl ?_
      obtain ⟨h1, h2⟩ := x_inj2 h
      subst h1
      subst h2
      exact g_iret (pc := 128) dX11_text_128 rfl rfl rfl (Nat.le_refl _) (Nat.le_refl _)
  · replace h := (if_neg c4).symm.trans h
    refine g_iconst (pc := 97) dX11_text_97 ic_m1 ?_
    refine g_iload (pc := 98) dX11_text_98 rfl ?_
    refine g_isub (pc := 100) dX11_text_100 rfl ?_
    obtain ⟨h1, h2⟩ := x_inj2 h
    subst h1
    subst h2
    exact g_iret (pc := 101) dX11_text_101 rfl rfl rfl (Nat.le_refl _) (Nat.le_refl _)
set_option maxRecDepth 100000 in
set_option maxHeartbeats 4000000 in
theorem G_X11_text_64 {sc : Nat × (Nat → Int32)} {d : Nat} (hd : 5 ≤ d) {r : Int32} {u' : xS} (v1 : Int32) (v2 : Int32) (v3 : Int32) (u : xS) (h : f_X11_text_64 v1 v2 v3 u = some (r, u')) : xG sc mX11_text d 0 0 (xR (some (.int r)) (xL0, u') 0 0) 0 0 64 [some (.ref 0), some (.int v1), some (.int v2), some (.int v3), none, none] [] (xL0, u) := by
  rw [f_X11_text_64] at h
  refine g_aload_n (pc := 64) dX11_text_64 rfl ?_
  refine g_gR (pc := 65) dX11_text_65 fR_RX11_40 xc_0 (v := 54) rfl ?_
  refine g_aload_n (pc := 68) dX11_text_68 rfl ?_
  refine g_gR (pc := 69) dX11_text_69 fR_RX11_33 xc_0 (v := 52) rfl ?_
  refine g_gR (pc := 72) dX11_text_72 fR_RX11_241 xc_52 (v := 53) rfl ?_
  refine g_iload_n (pc := 75) dX11_text_75 rfl ?_
  refine g_iload_n (pc := 76) dX11_text_76 rfl ?_
  refine g_iconst (pc := 77) dX11_text_77 ic_1 ?_
  refine g_icmp_ne (tgt := 85) (pc := 78) dX11_text_78 (by decide) (fun c1 => ?_) (fun c1 => ?_)
  · replace h := (if_neg c1).symm.trans h
    refine g_iconst (pc := 85) dX11_text_85 ic_0 ?_
    refine g_L (L' := [some (.ref 0), some (.int v1), some (.int v2), none, none, none]) ⟨rfl, ⟨rfl, ⟨rfl, trivial⟩⟩⟩ ?_
    exact G_X11_text_86 hd v1 v2 v3 (0 : Int32) u h
  · replace h := (if_pos c1).symm.trans h
    refine g_iconst (pc := 81) dX11_text_81 ic_1 ?_
    refine g_goto (tgt := 86) (pc := 82) dX11_text_82 (by decide) ?_
    refine g_L (L' := [some (.ref 0), some (.int v1), some (.int v2), none, none, none]) ⟨rfl, ⟨rfl, ⟨rfl, trivial⟩⟩⟩ ?_
    exact G_X11_text_86 hd v1 v2 v3 (1 : Int32) u h
set_option maxRecDepth 100000 in
set_option maxHeartbeats 4000000 in
theorem G_X11_text_37 {sc : Nat × (Nat → Int32)} {d : Nat} (hd : 5 ≤ d) {r : Int32} {u' : xS} (v1 : Int32) (v2 : Int32) (v3 : Int32) (s0 : Int32) (u : xS) (h : f_X11_text_37 v1 v2 v3 s0 u = some (r, u')) : xG sc mX11_text d 0 0 (xR (some (.int r)) (xL0, u') 0 0) 0 0 37 [some (.ref 0), some (.int v1), some (.int v2), some (.int v3), none, none] [.int s0] (xL0, u) := by
  rw [f_X11_text_37] at h
  refine g_istore (pc := 37) dX11_text_37 (Nat.le_of_ble_eq_true rfl) (L' := [some (.ref 0), some (.int v1), some (.int v2), some (.int v3), some (.int s0), none]) rfl ?_
  refine g_iload (pc := 39) dX11_text_39 rfl ?_
  refine g_if_ne (tgt := 64) (pc := 41) dX11_text_41 (by decide) (fun c1 => ?_) (fun c1 => ?_)
  · replace h := (if_neg c1).symm.trans h
    refine g_L (L' := [some (.ref 0), some (.int v1), some (.int v2), some (.int v3), none, none]) ⟨rfl, ⟨rfl, ⟨rfl, ⟨rfl, trivial⟩⟩⟩⟩ ?_
    exact G_X11_text_64 hd v1 v2 v3 u h
  · replace h := (if_pos c1).symm.trans h
    refine g_iload_n (pc := 44) dX11_text_44 rfl ?_
    refine g_iconst (pc := 45) dX11_text_45 ic_1 ?_
    refine g_icmp_ne (tgt := 61) (pc := 46) dX11_text_46 (by decide) (fun c2 => ?_) (fun c2 => ?_)
    · replace h := (if_neg c2).symm.trans h
      refine g_bipush (pc := 61) dX11_text_61 bp_m100 ?_
      obtain ⟨h1, h2⟩ := x_inj2 h
      subst h1
      subst h2
      exact g_iret (pc := 63) dX11_text_63 rfl rfl rfl (Nat.le_refl _) (Nat.le_refl _)
    · replace h := (if_pos c2).symm.trans h
      refine g_aload_n (pc := 49) dX11_text_49 rfl ?_
      refine g_gR (pc := 50) dX11_text_50 fR_RX11_47 xc_0 (v := 58) rfl ?_
      refine g_gI (pc := 53) dX11_text_53 fI_RX11_238 xc_58 (v := (rd u 58 5)) rfl ?_
      refine g_bipush (pc := 56) dX11_text_56 bp_6 ?_
      refine g_icmp_lt (tgt := 64) (pc := 58) dX11_text_58 (by decide) (fun c3 => ?_) (fun c3 => ?_)
      · replace h := (if_pos c3).symm.trans h
        refine g_L (L' := [some (.ref 0), some (.int v1), some (.int v2), some (.int v3), none, none]) ⟨rfl, ⟨rfl, ⟨rfl, ⟨rfl, trivial⟩⟩⟩⟩ ?_
        exact G_X11_text_64 hd v1 v2 v3 u h
      · replace h := (if_neg c3).symm.trans h
        refine g_bipush (pc := 61) dX11_text_61 bp_m100 ?_
        obtain ⟨h1, h2⟩ := x_inj2 h
        subst h1
        subst h2
        exact g_iret (pc := 63) dX11_text_63 rfl rfl rfl (Nat.le_refl _) (Nat.le_refl _)
set_option maxRecDepth 100000 in
set_option maxHeartbeats 4000000 in
theorem G_X11_text_32 {sc : Nat × (Nat → Int32)} {d : Nat} (hd : 5 ≤ d) {r : Int32} {u' : xS} (v1 : Int32) (v2 : Int32) (v3 : Int32) (u : xS) (h : f_X11_text_32 v1 v2 v3 u = some (r, u')) : xG sc mX11_text d 0 0 (xR (some (.int r)) (xL0, u') 0 0) 0 0 32 [some (.ref 0), some (.int v1), some (.int v2), some (.int v3), none, none] [] (xL0, u) := by
  rw [f_X11_text_32] at h
  refine g_iconst (pc := 32) dX11_text_32 ic_1 ?_
  refine g_goto (tgt := 37) (pc := 33) dX11_text_33 (by decide) ?_
  exact G_X11_text_37 hd v1 v2 v3 (1 : Int32) u h
set_option maxRecDepth 100000 in
set_option maxHeartbeats 4000000 in
theorem G_X11_text_27 {sc : Nat × (Nat → Int32)} {d : Nat} (hd : 5 ≤ d) {r : Int32} {u' : xS} (v1 : Int32) (v2 : Int32) (v3 : Int32) (u : xS) (h : f_X11_text_27 v1 v2 v3 u = some (r, u')) : xG sc mX11_text d 0 0 (xR (some (.int r)) (xL0, u') 0 0) 0 0 27 [some (.ref 0), some (.int v1), some (.int v2), some (.int v3), none, none] [] (xL0, u) := by
  rw [f_X11_text_27] at h
  refine g_iload_n (pc := 27) dX11_text_27 rfl ?_
  refine g_iconst (pc := 28) dX11_text_28 ic_2 ?_
  refine g_icmp_ne (tgt := 36) (pc := 29) dX11_text_29 (by decide) (fun c1 => ?_) (fun c1 => ?_)
  · replace h := (if_neg c1).symm.trans h
    refine g_iconst (pc := 36) dX11_text_36 ic_0 ?_
    exact G_X11_text_37 hd v1 v2 v3 (0 : Int32) u h
  · replace h := (if_pos c1).symm.trans h
    exact G_X11_text_32 hd v1 v2 v3 u h
set_option maxRecDepth 100000 in
set_option maxHeartbeats 4000000 in
theorem G_X11_text_0 {sc : Nat × (Nat → Int32)} {d : Nat} (hd : 5 ≤ d) {r : Int32} {u' : xS} (v1 : Int32) (v2 : Int32) (u : xS) (h : f_X11_text v1 v2 u = some (r, u')) : xG sc mX11_text d 0 0 (xR (some (.int r)) (xL0, u') 0 0) 0 0 0 [some (.ref 0), some (.int v1), some (.int v2), none, none, none] [] (xL0, u) := by
  rw [f_X11_text] at h
  refine g_aload_n (pc := 0) dX11_text_0 rfl ?_
  refine g_gR (pc := 1) dX11_text_1 fR_RX11_33 xc_0 (v := 52) rfl ?_
  refine g_gI (pc := 4) dX11_text_4 fI_RX11_233 xc_52 (v := (rd u 52 1)) rfl ?_
  refine g_istore_n (pc := 7) dX11_text_7 (Nat.le_of_ble_eq_true rfl) (L' := [some (.ref 0), some (.int v1), some (.int v2), some (.int (rd u 52 1)), none, none]) rfl ?_
  refine g_aload_n (pc := 8) dX11_text_8 rfl ?_
  refine g_gR (pc := 9) dX11_text_9 fR_RX11_33 xc_0 (v := 52) rfl ?_
  refine g_iconst (pc := 12) dX11_text_12 ic_0 ?_
  refine g_pI (pc := 13) dX11_text_13 pI_RX11_233 xc_52 (u' := (wr u 52 1 (0 : Int32))) rfl ?_
  refine g_iload_n (pc := 16) dX11_text_16 rfl ?_
  refine g_if_ne (tgt := 27) (pc := 17) dX11_text_17 (by decide) (fun c1 => ?_) (fun c1 => ?_)
  · replace h := (if_neg c1).symm.trans h
    exact G_X11_text_27 hd v1 v2 (rd u 52 1) (wr u 52 1 (0 : Int32)) h
  · replace h := (if_pos c1).symm.trans h
    refine g_iload_n (pc := 20) dX11_text_20 rfl ?_
    refine g_cS (pc := 21) dX11_text_21 cS_RX11_127 (M_X11_isSeller (Nat.le_refl _) rfl) (as := [.int v2]) (st := []) rfl rfl (Nat.le_of_ble_eq_true rfl) (Nat.le_trans (Nat.le_of_ble_eq_true rfl) hd) rfl ?_
    refine g_if_ne (tgt := 32) (pc := 24) dX11_text_24 (by decide) (fun c2 => ?_) (fun c2 => ?_)
    · replace h := (if_neg c2).symm.trans h
      exact G_X11_text_32 hd v1 v2 (rd u 52 1) (wr u 52 1 (0 : Int32)) h
    · replace h := (if_pos c2).symm.trans h
      exact G_X11_text_27 hd v1 v2 (rd u 52 1) (wr u 52 1 (0 : Int32)) h
set_option maxRecDepth 100000 in
set_option maxHeartbeats 4000000 in
theorem M_X11_text {sc : Nat × (Nat → Int32)} {d : Nat} (hd : 5 ≤ d) {r : Int32} {u u' : xS} {a1 : Int32} {a2 : Int32} (h : f_X11_text a1 a2 u = some (r, u')) : xMt sc mX11_text d 0 0 [.ref 0, .int a1, .int a2] (xL0, u) (some (.int r)) (xL0, u') :=
  xMt.of (by decide +kernel) (by decide +kernel) (Nat.le_of_ble_eq_true rfl) (L := [some (.ref 0), some (.int a1), some (.int a2), none, none, none]) rfl ((G_X11_text_0 hd a1 a2 u h))
set_option maxRecDepth 100000 in
set_option maxHeartbeats 4000000 in
theorem G_X3_add_0 {sc : Nat × (Nat → Int32)} {d : Nat} (hd : 0 ≤ d) {r : Int32} {u' : xS} (v1 : Int32) (v2 : Int32) (v3 : Int32) (v4 : Int32) (u : xS) (h : f_X3_add v1 v2 v3 v4 u = some (r, u')) : xG sc mX3_add d 0 0 (xR (some (.int r)) (xL0, u') 0 0) 0 0 0 [some (.ref 113), some (.int v1), some (.int v2), some (.int v3), some (.int v4)] [] (xL0, u) := by
  rw [f_X3_add] at h
  refine g_aload_n (pc := 0) dX3_add_0 rfl ?_
  refine g_gI (pc := 1) dX3_add_1 fI_RX3_23 xc_113 (v := (rd u 113 3)) rfl ?_
  refine g_bipush (pc := 4) dX3_add_4 bp_99 ?_
  refine g_icmp_lt (tgt := 11) (pc := 6) dX3_add_6 (by decide) (fun c1 => ?_) (fun c1 => ?_)
  · replace h := (if_pos c1).symm.trans h
    refine g_aload_n (pc := 11) dX3_add_11 rfl ?_
    refine g_gR (pc := 12) dX3_add_12 fR_RX3_11 xc_113 (v := 114) rfl ?_
    refine g_iconst (pc := 15) dX3_add_15 ic_0 ?_
    refine g_aaload (pc := 16) dX3_add_16 xc_114 vin_0_2 (v := 115) rfl ?_
    refine g_aload_n (pc := 17) dX3_add_17 rfl ?_
    refine g_gI (pc := 18) dX3_add_18 fI_RX3_23 xc_113 (v := (rd u 113 3)) rfl ?_
    refine g_iload_n (pc := 21) dX3_add_21 rfl ?_
    obtain ⟨g2, h⟩ := x_gd h
    refine g_iastore (pc := 22) dX3_add_22 xc_115 (xin_of g2) (u' := (wr u 115 (rd u 113 3).toNatClampNeg v1)) rfl ?_
    refine g_aload_n (pc := 23) dX3_add_23 rfl ?_
    refine g_gR (pc := 24) dX3_add_24 fR_RX3_16 xc_113 (v := 117) rfl ?_
    refine g_iconst (pc := 27) dX3_add_27 ic_0 ?_
    refine g_aaload (pc := 28) dX3_add_28 xc_117 vin_0_2 (v := 118) rfl ?_
    refine g_aload_n (pc := 29) dX3_add_29 rfl ?_
    refine g_gI (pc := 30) dX3_add_30 fI_RX3_23 xc_113 (v := (rd u 113 3)) rfl ?_
    refine g_iload_n (pc := 33) dX3_add_33 rfl ?_
    refine g_iastore (pc := 34) dX3_add_34 xc_118 (xin_of g2) (u' := (wr (wr u 115 (rd u 113 3).toNatClampNeg v1) 118 (rd u 113 3).toNatClampNeg v2)) rfl ?_
    refine g_aload_n (pc := 35) dX3_add_35 rfl ?_
    refine g_gR (pc := 36) dX3_add_36 fR_RX3_11 xc_113 (v := 114) rfl ?_
    refine g_iconst (pc := 39) dX3_add_39 ic_1 ?_
    refine g_aaload (pc := 40) dX3_add_40 xc_114 vin_1_2 (v := 116) rfl ?_
    refine g_aload_n (pc := 41) dX3_add_41 rfl ?_
    refine g_gI (pc := 42) dX3_add_42 fI_RX3_23 xc_113 (v := (rd u 113 3)) rfl ?_
    refine g_iload_n (pc := 45) dX3_add_45 rfl ?_
    refine g_iastore (pc := 46) dX3_add_46 xc_116 (xin_of g2) (u' := (wr (wr (wr u 115 (rd u 113 3).toNatClampNeg v1) 118 (rd u 113 3).toNatClampNeg v2) 116 (rd u 113 3).toNatClampNeg v3)) rfl ?_
    refine g_aload_n (pc := 47) dX3_add_47 rfl ?_
    refine g_gR (pc := 48) dX3_add_48 fR_RX3_16 xc_113 (v := 117) rfl ?_
    refine g_iconst (pc := 51) dX3_add_51 ic_1 ?_
    refine g_aaload (pc := 52) dX3_add_52 xc_117 vin_1_2 (v := 119) rfl ?_
    refine g_aload_n (pc := 53) dX3_add_53 rfl ?_
    refine g_gI (pc := 54) dX3_add_54 fI_RX3_23 xc_113 (v := (rd u 113 3)) rfl ?_
    refine g_iload (pc := 57) dX3_add_57 rfl ?_
    refine g_iastore (pc := 59) dX3_add_59 xc_119 (xin_of g2) (u' := (wr (wr (wr (wr u 115 (rd u 113 3).toNatClampNeg v1) 118 (rd u 113 3).toNatClampNeg v2) 116 (rd u 113 3).toNatClampNeg v3) 119 (rd u 113 3).toNatClampNeg v4)) rfl ?_
    refine g_aload_n (pc := 60) dX3_add_60 rfl ?_
    refine g_dup (pc := 61) dX3_add_61 rfl ?_
    refine g_gI (pc := 62) dX3_add_62 fI_RX3_23 xc_113 (v := (rd u 113 3)) rfl ?_
    refine g_iconst (pc := 65) dX3_add_65 ic_1 ?_
    refine g_iadd (pc := 66) dX3_add_66 rfl ?_
    refine g_pI (pc := 67) dX3_add_67 pI_RX3_23 xc_113 (u' := (wr (wr (wr (wr (wr u 115 (rd u 113 3).toNatClampNeg v1) 118 (rd u 113 3).toNatClampNeg v2) 116 (rd u 113 3).toNatClampNeg v3) 119 (rd u 113 3).toNatClampNeg v4) 113 3 ((rd u 113 3) + (1 : Int32)))) rfl ?_
    refine g_aload_n (pc := 70) dX3_add_70 rfl ?_
    refine g_gI (pc := 71) dX3_add_71 fI_RX3_23 xc_113 (v := ((rd u 113 3) + (1 : Int32))) rfl ?_
    obtain ⟨h1, h2⟩ := x_inj2 h
    subst h1
    subst h2
    exact g_iret (pc := 74) dX3_add_74 rfl rfl rfl (Nat.le_refl _) (Nat.le_refl _)
  · replace h := (if_neg c1).symm.trans h
    refine g_iconst (pc := 9) dX3_add_9 ic_m1 ?_
    obtain ⟨h1, h2⟩ := x_inj2 h
    subst h1
    subst h2
    exact g_iret (pc := 10) dX3_add_10 rfl rfl rfl (Nat.le_refl _) (Nat.le_refl _)
set_option maxRecDepth 100000 in
set_option maxHeartbeats 4000000 in
theorem M_X3_add {sc : Nat × (Nat → Int32)} {d : Nat} (hd : 0 ≤ d) {r : Int32} {u u' : xS} {a1 : Int32} {a2 : Int32} {a3 : Int32} {a4 : Int32} (h : f_X3_add a1 a2 a3 a4 u = some (r, u')) : xMt sc mX3_add d 0 0 [.ref 113, .int a1, .int a2, .int a3, .int a4] (xL0, u) (some (.int r)) (xL0, u') :=
  xMt.of (by decide +kernel) (by decide +kernel) (Nat.le_of_ble_eq_true rfl) (L := [some (.ref 113), some (.int a1), some (.int a2), some (.int a3), some (.int a4)]) rfl ((G_X3_add_0 hd a1 a2 a3 a4 u h))
set_option maxRecDepth 100000 in
set_option maxHeartbeats 4000000 in
theorem G_X11_twice_47 {sc : Nat × (Nat → Int32)} {d : Nat} (hd : 2 ≤ d) {r : Int32} {u' : xS} (v1 : Int32) (v2 : Int32) (v3 : Int32) (v4 : Int32) (s0 : Int32) (u : xS) (h : f_X11_twice_47 v1 v2 v3 v4 s0 u = some (r, u')) : xG sc mX11_twice d 0 0 (xR (some (.int r)) (xL0, u') 0 0) 0 0 47 [some (.ref 0), some (.int v1), some (.int v2), some (.int v3), some (.int v4), none] [.int s0] (xL0, u) := by
  rw [f_X11_twice_47] at h
  refine g_istore (pc := 47) dX11_twice_47 (Nat.le_of_ble_eq_true rfl) (L' := [some (.ref 0), some (.int v1), some (.int v2), some (.int v3), some (.int v4), some (.int s0)]) rfl ?_
  refine g_iload (pc := 49) dX11_twice_49 rfl ?_
  refine g_if_eq (tgt := 81) (pc := 51) dX11_twice_51 (by decide) (fun c1 => ?_) (fun c1 => ?_)
  · replace h := (if_pos c1).symm.trans h
    refine g_iconst (pc := 81) dX11_twice_81 ic_m1 ?_
    obtain ⟨h1, h2⟩ := x_inj2 h
    subst h1
    subst h2
    exact g_iret (pc := 82) dX11_twice_82 rfl rfl rfl (Nat.le_refl _) (Nat.le_refl _)
  · replace h := (if_neg c1).symm.trans h
    refine g_aload_n (pc := 54) dX11_twice_54 rfl ?_
    refine g_gR (pc := 55) dX11_twice_55 fR_RX11_75 xc_0 (v := 113) rfl ?_
    refine g_gI (pc := 58) dX11_twice_58 fI_RX11_374 xc_113 (v := (rd u 113 3)) rfl ?_
    refine g_bipush (pc := 61) dX11_twice_61 bp_99 ?_
    refine g_icmp_ge (tgt := 81) (pc := 63) dX11_twice_63 (by decide) (fun c2 => ?_) (fun c2 => ?_)
    · replace h := (if_pos c2).symm.trans h
      refine g_iconst (pc := 81) dX11_twice_81 ic_m1 ?_
      obtain ⟨h1, h2⟩ := x_inj2 h
      subst h1
      subst h2
      exact g_iret (pc := 82) dX11_twice_82 rfl rfl rfl (Nat.le_refl _) (Nat.le_refl _)
    · replace h := (if_neg c2).symm.trans h
      refine g_aload_n (pc := 66) dX11_twice_66 rfl ?_
      refine g_gR (pc := 67) dX11_twice_67 fR_RX11_75 xc_0 (v := 113) rfl ?_
      refine g_iload_n (pc := 70) dX11_twice_70 rfl ?_
      refine g_iload_n (pc := 71) dX11_twice_71 rfl ?_
      refine g_iload_n (pc := 72) dX11_twice_72 rfl ?_
      refine g_iload (pc := 73) dX11_twice_73 rfl ?_
      obtain ⟨⟨x4, u5⟩, e3, h⟩ := x_bind h
      dsimp only at h
      refine g_cV (pc := 75) dX11_twice_75 cV_RX11_375 (M_X3_add (Nat.le_refl _) e3) xc_113 (as := [.int v1, .int v2, .int v3, .int v4]) (st := []) rfl rfl (Nat.le_of_ble_eq_true rfl) (Nat.le_trans (Nat.le_of_ble_eq_true rfl) hd) rfl ?_
      refine g_goto (tgt := 82) (pc := 78) dX11_twice_78 (by decide) ?_
      obtain ⟨h1, h2⟩ := x_inj2 h
      subst h1
      subst h2
      exact g_iret (pc := 82) dX11_twice_82 rfl rfl rfl (Nat.le_refl _) (Nat.le_refl _)
set_option maxRecDepth 100000 in
set_option maxHeartbeats 4000000 in
theorem G_X11_twice_46 {sc : Nat × (Nat → Int32)} {d : Nat} (hd : 2 ≤ d) {r : Int32} {u' : xS} (v1 : Int32) (v2 : Int32) (v3 : Int32) (v4 : Int32) (u : xS) (h : f_X11_twice_46 v1 v2 v3 v4 u = some (r, u')) : xG sc mX11_twice d 0 0 (xR (some (.int r)) (xL0, u') 0 0) 0 0 46 [some (.ref 0), some (.int v1), some (.int v2), some (.int v3), some (.int v4), none] [] (xL0, u) := by
  rw [f_X11_twice_46] at h
  refine g_iconst (pc := 46) dX11_twice_46 ic_0 ?_
  exact G_X11_twice_47 hd v1 v2 v3 v4 (0 : Int32) u h
set_option maxRecDepth 100000 in
set_option maxHeartbeats 4000000 in
theorem G_X11_twice_0 {sc : Nat × (Nat → Int32)} {d : Nat} (hd : 2 ≤ d) {r : Int32} {u' : xS} (v1 : Int32) (v2 : Int32) (v3 : Int32) (v4 : Int32) (u : xS) (h : f_X11_twice v1 v2 v3 v4 u = some (r, u')) : xG sc mX11_twice d 0 0 (xR (some (.int r)) (xL0, u') 0 0) 0 0 0 [some (.ref 0), some (.int v1), some (.int v2), some (.int v3), some (.int v4), none] [] (xL0, u) := by
  rw [f_X11_twice] at h
  refine g_iload_n (pc := 0) dX11_twice_0 rfl ?_
  refine g_cS (pc := 1) dX11_twice_1 cS_RX11_138 (M_X11_isSorter (Nat.le_refl _) rfl) (as := [.int v1]) (st := []) rfl rfl (Nat.le_of_ble_eq_true rfl) (Nat.le_trans (Nat.le_of_ble_eq_true rfl) hd) rfl ?_
  refine g_if_eq (tgt := 46) (pc := 4) dX11_twice_4 (by decide) (fun c1 => ?_) (fun c1 => ?_)
  · replace h := (if_pos c1).symm.trans h
    exact G_X11_twice_46 hd v1 v2 v3 v4 u h
  · replace h := (if_neg c1).symm.trans h
    refine g_iload_n (pc := 7) dX11_twice_7 rfl ?_
    refine g_cS (pc := 8) dX11_twice_8 cS_RX11_138 (M_X11_isSorter (Nat.le_refl _) rfl) (as := [.int v3]) (st := []) rfl rfl (Nat.le_of_ble_eq_true rfl) (Nat.le_trans (Nat.le_of_ble_eq_true rfl) hd) rfl ?_
    refine g_if_eq (tgt := 46) (pc := 11) dX11_twice_11 (by decide) (fun c2 => ?_) (fun c2 => ?_)
    · replace h := (if_pos c2).symm.trans h
      exact G_X11_twice_46 hd v1 v2 v3 v4 u h
    · replace h := (if_neg c2).symm.trans h
      refine g_iload_n (pc := 14) dX11_twice_14 rfl ?_
      refine g_iload_n (pc := 15) dX11_twice_15 rfl ?_
      refine g_icmp_eq (tgt := 46) (pc := 16) dX11_twice_16 (by decide) (fun c3 => ?_) (fun c3 => ?_)
      · replace h := (if_pos c3).symm.trans h
        exact G_X11_twice_46 hd v1 v2 v3 v4 u h
      · replace h := (if_neg c3).symm.trans h
        refine g_aload_n (pc := 19) dX11_twice_19 rfl ?_
        refine g_gR (pc := 20) dX11_twice_20 fR_RX11_12 xc_0 (v := 1) rfl ?_
        refine g_iload_n (pc := 23) dX11_twice_23 rfl ?_
        refine g_cV (pc := 24) dX11_twice_24 cV_RX11_98 (M_X8_has (Nat.le_refl _) rfl) xc_1 (as := [.int v2]) (st := []) rfl rfl (Nat.le_of_ble_eq_true rfl) (Nat.le_trans (Nat.le_of_ble_eq_true rfl) hd) rfl ?_
        refine g_if_eq (tgt := 46) (pc := 27) dX11_twice_27 (by decide) (fun c4 => ?_) (fun c4 => ?_)
        · replace h := (if_pos c4).symm.trans h
          exact G_X11_twice_46 hd v1 v2 v3 v4 u h
        · replace h := (if_neg c4).symm.trans h
          refine g_aload_n (pc := 30) dX11_twice_30 rfl ?_
          refine g_gR (pc := 31) dX11_twice_31 fR_RX11_12 xc_0 (v := 1) rfl ?_
          refine g_iload (pc := 34) dX11_twice_34 rfl ?_
          refine g_cV (pc := 36) dX11_twice_36 cV_RX11_98 (M_X8_has (Nat.le_refl _) rfl) xc_1 (as := [.int v4]) (st := []) rfl rfl (Nat.le_of_ble_eq_true rfl) (Nat.le_trans (Nat.le_of_ble_eq_true rfl) hd) rfl ?_
          refine g_if_eq (tgt := 46) (pc := 39) dX11_twice_39 (by decide) (fun c5 => ?_) (fun c5 => ?_)
          · replace h := (if_pos c5).symm.trans h
            exact G_X11_twice_46 hd v1 v2 v3 v4 u h
          · replace h := (if_neg c5).symm.trans h
            refine g_iconst (pc := 42) dX11_twice_42 ic_1 ?_
            refine g_goto (tgt := 47) (pc := 43) dX11_twice_43 (by decide) ?_
            exact G_X11_twice_47 hd v1 v2 v3 v4 (1 : Int32) u h
set_option maxRecDepth 100000 in
set_option maxHeartbeats 4000000 in
theorem M_X11_twice {sc : Nat × (Nat → Int32)} {d : Nat} (hd : 2 ≤ d) {r : Int32} {u u' : xS} {a1 : Int32} {a2 : Int32} {a3 : Int32} {a4 : Int32} (h : f_X11_twice a1 a2 a3 a4 u = some (r, u')) : xMt sc mX11_twice d 0 0 [.ref 0, .int a1, .int a2, .int a3, .int a4] (xL0, u) (some (.int r)) (xL0, u') :=
  xMt.of (by decide +kernel) (by decide +kernel) (Nat.le_of_ble_eq_true rfl) (L := [some (.ref 0), some (.int a1), some (.int a2), some (.int a3), some (.int a4), none]) rfl ((G_X11_twice_0 hd a1 a2 a3 a4 u h))
set_option maxRecDepth 100000 in
set_option maxHeartbeats 4000000 in
theorem G_X11_wipe_0 {sc : Nat × (Nat → Int32)} {d : Nat} (hd : 2 ≤ d) {r : Int32} {u' : xS} (v1 : Int32) (v2 : Int32) (v3 : Int32) (u : xS) (h : f_X11_wipe v1 v2 v3 u = some (r, u')) : xG sc mX11_wipe d 0 0 (xR (some (.int r)) (xL0, u') 0 0) 0 0 0 [some (.ref 0), some (.int v1), some (.int v2), some (.int v3)] [] (xL0, u) := by
  rw [f_X11_wipe] at h
  refine g_aload_n (pc := 0) dX11_wipe_0 rfl ?_
  refine g_gR (pc := 1) dX11_wipe_1 fR_RX11_12 xc_0 (v := 1) rfl ?_
  refine g_iload_n (pc := 4) dX11_wipe_4 rfl ?_
  refine g_cV (pc := 5) dX11_wipe_5 cV_RX11_98 (M_X8_has (Nat.le_refl _) rfl) xc_1 (as := [.int v1]) (st := []) rfl rfl (Nat.le_of_ble_eq_true rfl) (Nat.le_trans (Nat.le_of_ble_eq_true rfl) hd) rfl ?_
  refine g_if_eq (tgt := 45) (pc := 8) dX11_wipe_8 (by decide) (fun c1 => ?_) (fun c1 => ?_)
  · replace h := (if_pos c1).symm.trans h
    refine g_iconst (pc := 45) dX11_wipe_45 ic_m1 ?_
    obtain ⟨h1, h2⟩ := x_inj2 h
    subst h1
    subst h2
    exact g_iret (pc := 46) dX11_wipe_46 rfl rfl rfl (Nat.le_refl _) (Nat.le_refl _)
  · replace h := (if_neg c1).symm.trans h
    refine g_iload_n (pc := 11) dX11_wipe_11 rfl ?_
    refine g_iconst (pc := 12) dX11_wipe_12 ic_1 ?_
    refine g_sipush (pc := 13) dX11_wipe_13 sp_9999 ?_
    refine g_cS (pc := 16) dX11_wipe_16 cS_RX11_94 (M_X11_lies (Nat.le_refl _) rfl) (as := [.int v2, .int (1 : Int32), .int (9999 : Int32)]) (st := []) rfl rfl (Nat.le_of_ble_eq_true rfl) (Nat.le_trans (Nat.le_of_ble_eq_true rfl) hd) rfl ?_
    refine g_if_eq (tgt := 45) (pc := 19) dX11_wipe_19 (by decide) (fun c2 => ?_) (fun c2 => ?_)
    · replace h := (if_pos c2).symm.trans h
      refine g_iconst (pc := 45) dX11_wipe_45 ic_m1 ?_
      obtain ⟨h1, h2⟩ := x_inj2 h
      subst h1
      subst h2
      exact g_iret (pc := 46) dX11_wipe_46 rfl rfl rfl (Nat.le_refl _) (Nat.le_refl _)
    · replace h := (if_neg c2).symm.trans h
      refine g_iload_n (pc := 22) dX11_wipe_22 rfl ?_
      refine g_iconst (pc := 23) dX11_wipe_23 ic_0 ?_
      refine g_sipush (pc := 24) dX11_wipe_24 sp_1000 ?_
      refine g_cS (pc := 27) dX11_wipe_27 cS_RX11_94 (M_X11_lies (Nat.le_refl _) rfl) (as := [.int v3, .int (0 : Int32), .int (1000 : Int32)]) (st := []) rfl rfl (Nat.le_of_ble_eq_true rfl) (Nat.le_trans (Nat.le_of_ble_eq_true rfl) hd) rfl ?_
      refine g_if_eq (tgt := 45) (pc := 30) dX11_wipe_30 (by decide) (fun c3 => ?_) (fun c3 => ?_)
      · replace h := (if_pos c3).symm.trans h
        refine g_iconst (pc := 45) dX11_wipe_45 ic_m1 ?_
        obtain ⟨h1, h2⟩ := x_inj2 h
        subst h1
        subst h2
        exact g_iret (pc := 46) dX11_wipe_46 rfl rfl rfl (Nat.le_refl _) (Nat.le_refl _)
      · replace h := (if_neg c3).symm.trans h
        refine g_aload_n (pc := 33) dX11_wipe_33 rfl ?_
        refine g_gR (pc := 34) dX11_wipe_34 fR_RX11_54 xc_0 (v := 74) rfl ?_
        refine g_iload_n (pc := 37) dX11_wipe_37 rfl ?_
        obtain ⟨x5, e4, h⟩ := x_bind h
        refine g_cV (pc := 38) dX11_wipe_38 cV_RX11_263 (M_X6_ofSort (Nat.le_refl _) e4) xc_74 (as := [.int v1]) (st := []) rfl rfl (Nat.le_of_ble_eq_true rfl) (Nat.le_trans (Nat.le_of_ble_eq_true rfl) hd) rfl ?_
        refine g_iload_n (pc := 41) dX11_wipe_41 rfl ?_
        refine g_icmp_ge (tgt := 47) (pc := 42) dX11_wipe_42 (by decide) (fun c6 => ?_) (fun c6 => ?_)
        · replace h := (if_pos c6).symm.trans h
          refine g_aload_n (pc := 47) dX11_wipe_47 rfl ?_
          refine g_gR (pc := 48) dX11_wipe_48 fR_RX11_54 xc_0 (v := 74) rfl ?_
          refine g_iload_n (pc := 51) dX11_wipe_51 rfl ?_
          refine g_iload_n (pc := 52) dX11_wipe_52 rfl ?_
          refine g_aload_n (pc := 53) dX11_wipe_53 rfl ?_
          refine g_gR (pc := 54) dX11_wipe_54 fR_RX11_19 xc_0 (v := 13) rfl ?_
          refine g_gR (pc := 57) dX11_wipe_57 fR_RX11_176 xc_13 (v := 20) rfl ?_
          obtain ⟨u8, e7, h⟩ := x_bind h
          refine g_cV (pc := 60) dX11_wipe_60 cV_RX11_273 (M_X6_takeOut (Nat.le_refl _) e7) xc_74 (as := [.int v1, .int v2, .ref 20]) (st := []) rfl rfl (Nat.le_of_ble_eq_true rfl) (Nat.le_trans (Nat.le_of_ble_eq_true rfl) hd) rfl ?_
          refine g_iload_n (pc := 63) dX11_wipe_63 rfl ?_
          refine g_iload_n (pc := 64) dX11_wipe_64 rfl ?_
          refine g_imul (pc := 65) dX11_wipe_65 rfl ?_
          refine g_sipush (pc := 66) dX11_wipe_66 sp_1000 ?_
          refine g_idiv (pc := 69) dX11_wipe_69 (by decide) rfl ?_
          obtain ⟨h1, h2⟩ := x_inj2 h
          subst h1
          subst h2
          exact g_iret (pc := 70) dX11_wipe_70 rfl rfl rfl (Nat.le_refl _) (Nat.le_refl _)
        · replace h := (if_neg c6).symm.trans h
          refine g_iconst (pc := 45) dX11_wipe_45 ic_m1 ?_
          obtain ⟨h1, h2⟩ := x_inj2 h
          subst h1
          subst h2
          exact g_iret (pc := 46) dX11_wipe_46 rfl rfl rfl (Nat.le_refl _) (Nat.le_refl _)
set_option maxRecDepth 100000 in
set_option maxHeartbeats 4000000 in
theorem M_X11_wipe {sc : Nat × (Nat → Int32)} {d : Nat} (hd : 2 ≤ d) {r : Int32} {u u' : xS} {a1 : Int32} {a2 : Int32} {a3 : Int32} (h : f_X11_wipe a1 a2 a3 u = some (r, u')) : xMt sc mX11_wipe d 0 0 [.ref 0, .int a1, .int a2, .int a3] (xL0, u) (some (.int r)) (xL0, u') :=
  xMt.of (by decide +kernel) (by decide +kernel) (Nat.le_of_ble_eq_true rfl) (L := [some (.ref 0), some (.int a1), some (.int a2), some (.int a3)]) rfl ((G_X11_wipe_0 hd a1 a2 a3 u h))
set_option maxRecDepth 100000 in
set_option maxHeartbeats 4000000 in
theorem G_X11_within_0 {sc : Nat × (Nat → Int32)} {d : Nat} (hd : 2 ≤ d) {r : Int32} {u : xS} (v1 : Int32) (v2 : Int32) (h : f_X11_within u v1 v2 = some r) : xG sc mX11_within d 0 0 (xR (some (.int r)) (xL0, u) 0 0) 0 0 0 [some (.ref 0), some (.int v1), some (.int v2)] [] (xL0, u) := by
  rw [f_X11_within] at h
  refine g_aload_n (pc := 0) dX11_within_0 rfl ?_
  refine g_gR (pc := 1) dX11_within_1 fR_RX11_12 xc_0 (v := 1) rfl ?_
  refine g_iload_n (pc := 4) dX11_within_4 rfl ?_
  refine g_cV (pc := 5) dX11_within_5 cV_RX11_98 (M_X8_has (Nat.le_refl _) rfl) xc_1 (as := [.int v1]) (st := []) rfl rfl (Nat.le_of_ble_eq_true rfl) (Nat.le_trans (Nat.le_of_ble_eq_true rfl) hd) rfl ?_
  refine g_if_eq (tgt := 22) (pc := 8) dX11_within_8 (by decide) (fun c1 => ?_) (fun c1 => ?_)
  · replace h := (if_pos c1).symm.trans h
    refine g_iconst (pc := 22) dX11_within_22 ic_m1 ?_
    replace h := Option.some.inj h
    subst h
    exact g_iret (pc := 23) dX11_within_23 rfl rfl rfl (Nat.le_refl _) (Nat.le_refl _)
  · replace h := (if_neg c1).symm.trans h
    refine g_aload_n (pc := 11) dX11_within_11 rfl ?_
    refine g_gR (pc := 12) dX11_within_12 fR_RX11_12 xc_0 (v := 1) rfl ?_
    refine g_iload_n (pc := 15) dX11_within_15 rfl ?_
    refine g_cV (pc := 16) dX11_within_16 cV_RX11_98 (M_X8_has (Nat.le_refl _) rfl) xc_1 (as := [.int v2]) (st := []) rfl rfl (Nat.le_of_ble_eq_true rfl) (Nat.le_trans (Nat.le_of_ble_eq_true rfl) hd) rfl ?_
    refine g_if_ne (tgt := 24) (pc := 19) dX11_within_19 (by decide) (fun c2 => ?_) (fun c2 => ?_)
    · replace h := (if_neg c2).symm.trans h
      refine g_aload_n (pc := 24) dX11_within_24 rfl ?_
      refine g_gR (pc := 25) dX11_within_25 fR_RX11_12 xc_0 (v := 1) rfl ?_
      refine g_iload_n (pc := 28) dX11_within_28 rfl ?_
      refine g_iload_n (pc := 29) dX11_within_29 rfl ?_
      obtain ⟨x4, e3, h⟩ := x_bind h
      refine g_cV (pc := 30) dX11_within_30 cV_RX11_123 (M_X8_isPart (Nat.le_refl _) e3) xc_1 (as := [.int v1, .int v2]) (st := []) rfl rfl (Nat.le_of_ble_eq_true rfl) (Nat.le_trans (Nat.le_of_ble_eq_true rfl) hd) rfl ?_
      refine g_if_eq (tgt := 40) (pc := 33) dX11_within_33 (by decide) (fun c5 => ?_) (fun c5 => ?_)
      · replace h := (if_pos c5).symm.trans h
        refine g_iconst (pc := 40) dX11_within_40 ic_0 ?_
        replace h := Option.some.inj h
        subst h
        exact g_iret (pc := 41) dX11_within_41 rfl rfl rfl (Nat.le_refl _) (Nat.le_refl _)
      · replace h := (if_neg c5).symm.trans h
        refine g_iconst (pc := 36) dX11_within_36 ic_1 ?_
        refine g_goto (tgt := 41) (pc := 37) dX11_within_37 (by decide) ?_
        replace h := Option.some.inj h
        subst h
        exact g_iret (pc := 41) dX11_within_41 rfl rfl rfl (Nat.le_refl _) (Nat.le_refl _)
    · replace h := (if_pos c2).symm.trans h
      refine g_iconst (pc := 22) dX11_within_22 ic_m1 ?_
      replace h := Option.some.inj h
      subst h
      exact g_iret (pc := 23) dX11_within_23 rfl rfl rfl (Nat.le_refl _) (Nat.le_refl _)
set_option maxRecDepth 100000 in
set_option maxHeartbeats 4000000 in
theorem M_X11_within {sc : Nat × (Nat → Int32)} {d : Nat} (hd : 2 ≤ d) {r : Int32} {u : xS} {a1 : Int32} {a2 : Int32} (h : f_X11_within u a1 a2 = some r) : xMt sc mX11_within d 0 0 [.ref 0, .int a1, .int a2] (xL0, u) (some (.int r)) (xL0, u) :=
  xMt.of (by decide +kernel) (by decide +kernel) (Nat.le_of_ble_eq_true rfl) (L := [some (.ref 0), some (.int a1), some (.int a2)]) rfl ((G_X11_within_0 hd a1 a2 h))
