set_option maxRecDepth 100000 in
set_option maxHeartbeats 4000000 in
theorem G_X12_moth_19 {sc : Nat × (Nat → Int32)} {d : Nat} (hd : 2 ≤ d) {r : Int32} {u' : xS} : ∀ (n : Nat) (v1 : Int32) (v2 : Int32) (v3 : Int32) (u : xS), f_X12_moth_19 n v1 v2 v3 u = some (r, u') → xG sc mX12_moth d 0 0 (xR (some (.int r)) (xL0, u') 0 0) 0 0 19 [some (.ref 135), some (.int v1), some (.int v2), some (.int v3)] [] (xL0, u) := by
  intro n
  induction n with
  | zero =>
    intro v1 v2 v3 u h
    rw [f_X12_moth_19] at h
    cases h
  | succ n ih =>
    intro v1 v2 v3 u h
    rw [f_X12_moth_19] at h
    refine g_iload_n (pc := 19) dX12_moth_19 rfl ?_
    refine g_aload_n (pc := 20) dX12_moth_20 rfl ?_
    refine g_gI (pc := 21) dX12_moth_21 fI_RX12_153 xc_135 (v := (rd u 135 1)) rfl ?_
    refine g_icmp_ge (tgt := 59) (pc := 24) dX12_moth_24 (by decide) (fun c1 => ?_) (fun c1 => ?_)
    · replace h := (if_pos c1).symm.trans h
      refine g_aload_n (pc := 59) dX12_moth_59 rfl ?_
      refine g_gR (pc := 60) dX12_moth_60 fR_RX12_37 xc_135 (v := 145) rfl ?_
      refine g_iload_n (pc := 63) dX12_moth_63 rfl ?_
      refine g_dup2 (pc := 64) dX12_moth_64 rfl rfl ?_
      obtain ⟨g2, h⟩ := x_gd h
      refine g_iaload (pc := 65) dX12_moth_65 xc_145 (xin_of g2) (v := (rd u 145 v1.toNatClampNeg)) rfl ?_
      refine g_iload_n (pc := 66) dX12_moth_66 rfl ?_
      refine g_iadd (pc := 67) dX12_moth_67 rfl ?_
      refine g_iastore (pc := 68) dX12_moth_68 xc_145 (xin_of g2) (u' := (wr u 145 v1.toNatClampNeg ((rd u 145 v1.toNatClampNeg) + v2))) rfl ?_
      refine g_iload_n (pc := 69) dX12_moth_69 rfl ?_
      obtain ⟨h1, h2⟩ := x_inj2 h
      subst h1
      subst h2
      exact g_iret (pc := 70) dX12_moth_70 rfl rfl rfl (Nat.le_refl _) (Nat.le_refl _)
    · replace h := (if_neg c1).symm.trans h
      refine g_iload_n (pc := 27) dX12_moth_27 rfl ?_
      refine g_aload_n (pc := 28) dX12_moth_28 rfl ?_
      refine g_gR (pc := 29) dX12_moth_29 fR_RX12_43 xc_135 (v := 147) rfl ?_
      refine g_bipush (pc := 32) dX12_moth_32 bp_24 ?_
      refine g_iload_n (pc := 34) dX12_moth_34 rfl ?_
      refine g_imul (pc := 35) dX12_moth_35 rfl ?_
      refine g_iload_n (pc := 36) dX12_moth_36 rfl ?_
      refine g_iadd (pc := 37) dX12_moth_37 rfl ?_
      obtain ⟨g3, h⟩ := x_gd h
      refine g_iaload (pc := 38) dX12_moth_38 xc_147 (xin_of g3) (v := (rd u 147 (((24 : Int32) * v3) + v1).toNatClampNeg)) rfl ?_
      refine g_iadd (pc := 39) dX12_moth_39 rfl ?_
      refine g_istore_n (pc := 40) dX12_moth_40 (Nat.le_of_ble_eq_true rfl) (L' := [some (.ref 135), some (.int v1), some (.int (v2 + (rd u 147 (((24 : Int32) * v3) + v1).toNatClampNeg))), some (.int v3)]) rfl ?_
      refine g_aload_n (pc := 41) dX12_moth_41 rfl ?_
      refine g_gR (pc := 42) dX12_moth_42 fR_RX12_43 xc_135 (v := 147) rfl ?_
      refine g_bipush (pc := 45) dX12_moth_45 bp_24 ?_
      refine g_iload_n (pc := 47) dX12_moth_47 rfl ?_
      refine g_imul (pc := 48) dX12_moth_48 rfl ?_
      refine g_iload_n (pc := 49) dX12_moth_49 rfl ?_
      refine g_iadd (pc := 50) dX12_moth_50 rfl ?_
      refine g_iconst (pc := 51) dX12_moth_51 ic_0 ?_
      refine g_iastore (pc := 52) dX12_moth_52 xc_147 (xin_of g3) (u' := (wr u 147 (((24 : Int32) * v3) + v1).toNatClampNeg (0 : Int32))) rfl ?_
      refine g_inc (pc := 53) dX12_moth_53 (Nat.le_of_ble_eq_true rfl) rfl ic_1 (L' := [some (.ref 135), some (.int v1), some (.int (v2 + (rd u 147 (((24 : Int32) * v3) + v1).toNatClampNeg))), some (.int (v3 + (1 : Int32)))]) rfl ?_
      refine g_goto (tgt := 19) (pc := 56) dX12_moth_56 (by decide) ?_
      exact ih v1 (v2 + (rd u 147 (((24 : Int32) * v3) + v1).toNatClampNeg)) (v3 + (1 : Int32)) (wr u 147 (((24 : Int32) * v3) + v1).toNatClampNeg (0 : Int32)) h
set_option maxRecDepth 100000 in
set_option maxHeartbeats 4000000 in
theorem G_X12_moth_0 {sc : Nat × (Nat → Int32)} {d : Nat} (hd : 2 ≤ d) {r : Int32} {u' : xS} (v1 : Int32) (u : xS) (h : f_X12_moth v1 u = some (r, u')) : xG sc mX12_moth d 0 0 (xR (some (.int r)) (xL0, u') 0 0) 0 0 0 [some (.ref 135), some (.int v1), none, none] [] (xL0, u) := by
  rw [f_X12_moth] at h
  refine g_aload_n (pc := 0) dX12_moth_0 rfl ?_
  refine g_iconst (pc := 1) dX12_moth_1 ic_0 ?_
  refine g_pI (pc := 2) dX12_moth_2 pI_RX12_150 xc_135 (u' := (wr u 135 0 (0 : Int32))) rfl ?_
  refine g_aload_n (pc := 5) dX12_moth_5 rfl ?_
  refine g_iload_n (pc := 6) dX12_moth_6 rfl ?_
  refine g_cV (pc := 7) dX12_moth_7 cV_RX12_205 (M_X12_isBale (Nat.le_refl _) rfl) xc_135 (as := [.int v1]) (st := []) rfl rfl (Nat.le_of_ble_eq_true rfl) (Nat.le_trans (Nat.le_of_ble_eq_true rfl) hd) rfl ?_
  refine g_if_ne (tgt := 15) (pc := 10) dX12_moth_10 (by decide) (fun c1 => ?_) (fun c1 => ?_)
  · replace h := (if_neg c1).symm.trans h
    refine g_iconst (pc := 15) dX12_moth_15 ic_0 ?_
    refine g_istore_n (pc := 16) dX12_moth_16 (Nat.le_of_ble_eq_true rfl) (L' := [some (.ref 135), some (.int v1), some (.int (0 : Int32)), none]) rfl ?_
    refine g_iconst (pc := 17) dX12_moth_17 ic_0 ?_
    refine g_istore_n (pc := 18) dX12_moth_18 (Nat.le_of_ble_eq_true rfl) (L' := [some (.ref 135), some (.int v1), some (.int (0 : Int32)), some (.int (0 : Int32))]) rfl ?_
    exact G_X12_moth_19 hd xN v1 (0 : Int32) (0 : Int32) (wr u 135 0 (0 : Int32)) h
  · replace h := (if_pos c1).symm.trans h
    refine g_iconst (pc := 13) dX12_moth_13 ic_m1 ?_
    obtain ⟨h1, h2⟩ := x_inj2 h
    subst h1
    subst h2
    exact g_iret (pc := 14) dX12_moth_14 rfl rfl rfl (Nat.le_refl _) (Nat.le_refl _)
set_option maxRecDepth 100000 in
set_option maxHeartbeats 4000000 in
theorem M_X12_moth {sc : Nat × (Nat → Int32)} {d : Nat} (hd : 2 ≤ d) {r : Int32} {u u' : xS} {a1 : Int32} (h : f_X12_moth a1 u = some (r, u')) : xMt sc mX12_moth d 0 0 [.ref 135, .int a1] (xL0, u) (some (.int r)) (xL0, u') :=
  xMt.of (by decide +kernel) (by decide +kernel) (Nat.le_of_ble_eq_true rfl) (L := [some (.ref 135), some (.int a1), none, none]) rfl ((G_X12_moth_0 hd a1 u h))
set_option maxRecDepth 100000 in
set_option maxHeartbeats 4000000 in
theorem G_X12_of_93 {sc : Nat × (Nat → Int32)} {d : Nat} (hd : 2 ≤ d) {r : Int32} {u' : xS} (v1 : Int32) (v2 : Int32) (v3 : Int32) (u : xS) (h : f_X12_of_93 v1 v2 v3 u = some (r, u')) : xG sc mX12_of d 0 0 (xR (some (.int r)) (xL0, u') 0 0) 0 0 93 [some (.ref 135), some (.int v1), some (.int v2), some (.int v3), none] [] (xL0, u) := by
  rw [f_X12_of_93] at h
  refine g_iload_n (pc := 93) dX12_of_93 rfl ?_
  by_cases c1 : v2 = (0 : Int32)
  · replace h := (if_pos c1).symm.trans h
    refine g_tableIn (tgt := 132) (off := 38) (pc := 94) dX12_of_94 (by rw [c1]; decide) (by rw [c1]; decide) (by rw [c1]; rfl) (by decide) ?_
    refine g_aload_n (pc := 132) dX12_of_132 rfl ?_
    refine g_gR (pc := 133) dX12_of_133 fR_RX12_28 xc_135 (v := 142) rfl ?_
    refine g_iload_n (pc := 136) dX12_of_136 rfl ?_
    obtain ⟨g2, h⟩ := x_gd h
    refine g_iaload (pc := 137) dX12_of_137 xc_142 (xin_of g2) (v := (rd u 142 v1.toNatClampNeg)) rfl ?_
    obtain ⟨h1, h2⟩ := x_inj2 h
    subst h1
    subst h2
    exact g_iret (pc := 138) dX12_of_138 rfl rfl rfl (Nat.le_refl _) (Nat.le_refl _)
  replace h := (if_neg c1).symm.trans h
  by_cases c3 : v2 = (1 : Int32)
  · replace h := (if_pos c3).symm.trans h
    refine g_tableIn (tgt := 139) (off := 45) (pc := 94) dX12_of_94 (by rw [c3]; decide) (by rw [c3]; decide) (by rw [c3]; rfl) (by decide) ?_
    refine g_aload_n (pc := 139) dX12_of_139 rfl ?_
    refine g_gR (pc := 140) dX12_of_140 fR_RX12_34 xc_135 (v := 144) rfl ?_
    refine g_iload_n (pc := 143) dX12_of_143 rfl ?_
    obtain ⟨g4, h⟩ := x_gd h
    refine g_iaload (pc := 144) dX12_of_144 xc_144 (xin_of g4) (v := (rd u 144 v1.toNatClampNeg)) rfl ?_
    refine g_if_ge (tgt := 152) (pc := 145) dX12_of_145 (by decide) (fun c5 => ?_) (fun c5 => ?_)
    · replace h := (if_pos c5).symm.trans h
      refine g_aload_n (pc := 152) dX12_of_152 rfl ?_
      refine g_iload_n (pc := 153) dX12_of_153 rfl ?_
      obtain ⟨x7, e6, h⟩ := x_bind h
      refine g_cV (pc := 154) dX12_of_154 cV_RX12_217 (M_X12_dust (Nat.le_refl _) e6) xc_135 (as := [.int v1]) (st := []) rfl rfl (Nat.le_of_ble_eq_true rfl) (Nat.le_trans (Nat.le_of_ble_eq_true rfl) hd) rfl ?_
      obtain ⟨h1, h2⟩ := x_inj2 h
      subst h1
      subst h2
      exact g_iret (pc := 157) dX12_of_157 rfl rfl rfl (Nat.le_refl _) (Nat.le_refl _)
    · replace h := (if_neg c5).symm.trans h
      refine g_iconst (pc := 148) dX12_of_148 ic_m1 ?_
      refine g_goto (tgt := 157) (pc := 149) dX12_of_149 (by decide) ?_
      obtain ⟨h1, h2⟩ := x_inj2 h
      subst h1
      subst h2
      exact g_iret (pc := 157) dX12_of_157 rfl rfl rfl (Nat.le_refl _) (Nat.le_refl _)
  replace h := (if_neg c3).symm.trans h
  by_cases c8 : v2 = (2 : Int32)
  · replace h := (if_pos c8).symm.trans h
    refine g_tableIn (tgt := 158) (off := 64) (pc := 94) dX12_of_94 (by rw [c8]; decide) (by rw [c8]; decide) (by rw [c8]; rfl) (by decide) ?_
    refine g_aload_n (pc := 158) dX12_of_158 rfl ?_
    refine g_gR (pc := 159) dX12_of_159 fR_RX12_34 xc_135 (v := 144) rfl ?_
    refine g_iload_n (pc := 162) dX12_of_162 rfl ?_
    obtain ⟨g9, h⟩ := x_gd h
    refine g_iaload (pc := 163) dX12_of_163 xc_144 (xin_of g9) (v := (rd u 144 v1.toNatClampNeg)) rfl ?_
    obtain ⟨h1, h2⟩ := x_inj2 h
    subst h1
    subst h2
    exact g_iret (pc := 164) dX12_of_164 rfl rfl rfl (Nat.le_refl _) (Nat.le_refl _)
  replace h := (if_neg c8).symm.trans h
  by_cases c10 : v2 = (3 : Int32)
  · replace h := (if_pos c10).symm.trans h
    refine g_tableIn (tgt := 165) (off := 71) (pc := 94) dX12_of_94 (by rw [c10]; decide) (by rw [c10]; decide) (by rw [c10]; rfl) (by decide) ?_
    refine g_iload_n (pc := 165) dX12_of_165 rfl ?_
    obtain ⟨h1, h2⟩ := x_inj2 h
    subst h1
    subst h2
    exact g_iret (pc := 166) dX12_of_166 rfl rfl rfl (Nat.le_refl _) (Nat.le_refl _)
  replace h := (if_neg c10).symm.trans h
  by_cases c11 : v2 = (4 : Int32)
  · replace h := (if_pos c11).symm.trans h
    refine g_tableIn (tgt := 167) (off := 73) (pc := 94) dX12_of_94 (by rw [c11]; decide) (by rw [c11]; decide) (by rw [c11]; rfl) (by decide) ?_
    refine g_iload_n (pc := 167) dX12_of_167 rfl ?_
    obtain ⟨h1, h2⟩ := x_inj2 h
    subst h1
    subst h2
    exact g_iret (pc := 168) dX12_of_168 rfl rfl rfl (Nat.le_refl _) (Nat.le_refl _)
  replace h := (if_neg c11).symm.trans h
  by_cases c12 : v2 = (5 : Int32)
  · replace h := (if_pos c12).symm.trans h
    refine g_tableIn (tgt := 169) (off := 75) (pc := 94) dX12_of_94 (by rw [c12]; decide) (by rw [c12]; decide) (by rw [c12]; rfl) (by decide) ?_
    refine g_aload_n (pc := 169) dX12_of_169 rfl ?_
    refine g_gR (pc := 170) dX12_of_170 fR_RX12_37 xc_135 (v := 145) rfl ?_
    refine g_iload_n (pc := 173) dX12_of_173 rfl ?_
    obtain ⟨g13, h⟩ := x_gd h
    refine g_iaload (pc := 174) dX12_of_174 xc_145 (xin_of g13) (v := (rd u 145 v1.toNatClampNeg)) rfl ?_
    obtain ⟨h1, h2⟩ := x_inj2 h
    subst h1
    subst h2
    exact g_iret (pc := 175) dX12_of_175 rfl rfl rfl (Nat.le_refl _) (Nat.le_refl _)
  replace h := (if_neg c12).symm.trans h
  have c1i := i32_ne c1 (m := 0) (by decide)
  have c3i := i32_ne c3 (m := 1) (by decide)
  have c8i := i32_ne c8 (m := 2) (by decide)
  have c10i := i32_ne c10 (m := 3) (by decide)
  have c11i := i32_ne c11 (m := 4) (by decide)
  have c12i := i32_ne c12 (m := 5) (by decide)
  refine g_tableOut (tgt := 176) (pc := 94) dX12_of_94 (by omega) (by decide) ?_
  refine g_iconst (pc := 176) dX12_of_176 ic_m1 ?_
  obtain ⟨h1, h2⟩ := x_inj2 h
  subst h1
  subst h2
  exact g_iret (pc := 177) dX12_of_177 rfl rfl rfl (Nat.le_refl _) (Nat.le_refl _)
set_option maxRecDepth 100000 in
set_option maxHeartbeats 4000000 in
theorem G_X12_of_58 {sc : Nat × (Nat → Int32)} {d : Nat} (hd : 2 ≤ d) {r : Int32} {u' : xS} : ∀ (n : Nat) (v1 : Int32) (v2 : Int32) (v3 : Int32) (v4 : Int32) (u : xS), f_X12_of_58 n v1 v2 v3 v4 u = some (r, u') → xG sc mX12_of d 0 0 (xR (some (.int r)) (xL0, u') 0 0) 0 0 58 [some (.ref 135), some (.int v1), some (.int v2), some (.int v3), some (.int v4)] [] (xL0, u) := by
  intro n
  induction n with
  | zero =>
    intro v1 v2 v3 v4 u h
    rw [f_X12_of_58] at h
    cases h
  | succ n ih =>
    intro v1 v2 v3 v4 u h
    rw [f_X12_of_58] at h
    refine g_iload (pc := 58) dX12_of_58 rfl ?_
    refine g_aload_n (pc := 60) dX12_of_60 rfl ?_
    refine g_gI (pc := 61) dX12_of_61 fI_RX12_223 xc_135 (v := (rd u 135 37)) rfl ?_
    refine g_icmp_ge (tgt := 93) (pc := 64) dX12_of_64 (by decide) (fun c1 => ?_) (fun c1 => ?_)
    · replace h := (if_pos c1).symm.trans h
      refine g_L (L' := [some (.ref 135), some (.int v1), some (.int v2), some (.int v3), none]) ⟨rfl, ⟨rfl, ⟨rfl, ⟨rfl, trivial⟩⟩⟩⟩ ?_
      exact G_X12_of_93 hd v1 v2 v3 u h
    · replace h := (if_neg c1).symm.trans h
      refine g_iload_n (pc := 67) dX12_of_67 rfl ?_
      refine g_iconst (pc := 68) dX12_of_68 ic_4 ?_
      refine g_icmp_ne (tgt := 93) (pc := 69) dX12_of_69 (by decide) (fun c2 => ?_) (fun c2 => ?_)
      · replace h := (if_neg c2).symm.trans h
        refine g_L (L' := [some (.ref 135), some (.int v1), some (.int v2), some (.int v3), none]) ⟨rfl, ⟨rfl, ⟨rfl, ⟨rfl, trivial⟩⟩⟩⟩ ?_
        exact G_X12_of_93 hd v1 v2 v3 u h
      · replace h := (if_pos c2).symm.trans h
        refine g_iload_n (pc := 72) dX12_of_72 rfl ?_
        refine g_aload_n (pc := 73) dX12_of_73 rfl ?_
        refine g_gR (pc := 74) dX12_of_74 fR_RX12_90 xc_135 (v := 161) rfl ?_
        refine g_bipush (pc := 77) dX12_of_77 bp_24 ?_
        refine g_iload (pc := 79) dX12_of_79 rfl ?_
        refine g_imul (pc := 81) dX12_of_81 rfl ?_
        refine g_iload_n (pc := 82) dX12_of_82 rfl ?_
        refine g_iadd (pc := 83) dX12_of_83 rfl ?_
        obtain ⟨g3, h⟩ := x_gd h
        refine g_iaload (pc := 84) dX12_of_84 xc_161 (xin_of g3) (v := (rd u 161 (((24 : Int32) * v4) + v1).toNatClampNeg)) rfl ?_
        refine g_iadd (pc := 85) dX12_of_85 rfl ?_
        refine g_istore_n (pc := 86) dX12_of_86 (Nat.le_of_ble_eq_true rfl) (L' := [some (.ref 135), some (.int v1), some (.int v2), some (.int (v3 + (rd u 161 (((24 : Int32) * v4) + v1).toNatClampNeg))), some (.int v4)]) rfl ?_
        refine g_inc (pc := 87) dX12_of_87 (Nat.le_of_ble_eq_true rfl) rfl ic_1 (L' := [some (.ref 135), some (.int v1), some (.int v2), some (.int (v3 + (rd u 161 (((24 : Int32) * v4) + v1).toNatClampNeg))), some (.int (v4 + (1 : Int32)))]) rfl ?_
        refine g_goto (tgt := 58) (pc := 90) dX12_of_90 (by decide) ?_
        exact ih v1 v2 (v3 + (rd u 161 (((24 : Int32) * v4) + v1).toNatClampNeg)) (v4 + (1 : Int32)) u h
set_option maxRecDepth 100000 in
set_option maxHeartbeats 4000000 in
theorem G_X12_of_55 {sc : Nat × (Nat → Int32)} {d : Nat} (hd : 2 ≤ d) {r : Int32} {u' : xS} (v1 : Int32) (v2 : Int32) (v3 : Int32) (u : xS) (h : f_X12_of_55 v1 v2 v3 u = some (r, u')) : xG sc mX12_of d 0 0 (xR (some (.int r)) (xL0, u') 0 0) 0 0 55 [some (.ref 135), some (.int v1), some (.int v2), some (.int v3), none] [] (xL0, u) := by
  rw [f_X12_of_55] at h
  refine g_iconst (pc := 55) dX12_of_55 ic_0 ?_
  refine g_istore (pc := 56) dX12_of_56 (Nat.le_of_ble_eq_true rfl) (L' := [some (.ref 135), some (.int v1), some (.int v2), some (.int v3), some (.int (0 : Int32))]) rfl ?_
  exact G_X12_of_58 hd xN v1 v2 v3 (0 : Int32) u h
set_option maxRecDepth 100000 in
set_option maxHeartbeats 4000000 in
theorem G_X12_of_20 {sc : Nat × (Nat → Int32)} {d : Nat} (hd : 2 ≤ d) {r : Int32} {u' : xS} : ∀ (n : Nat) (v1 : Int32) (v2 : Int32) (v3 : Int32) (v4 : Int32) (u : xS), f_X12_of_20 n v1 v2 v3 v4 u = some (r, u') → xG sc mX12_of d 0 0 (xR (some (.int r)) (xL0, u') 0 0) 0 0 20 [some (.ref 135), some (.int v1), some (.int v2), some (.int v3), some (.int v4)] [] (xL0, u) := by
  intro n
  induction n with
  | zero =>
    intro v1 v2 v3 v4 u h
    rw [f_X12_of_20] at h
    cases h
  | succ n ih =>
    intro v1 v2 v3 v4 u h
    rw [f_X12_of_20] at h
    refine g_iload (pc := 20) dX12_of_20 rfl ?_
    refine g_aload_n (pc := 22) dX12_of_22 rfl ?_
    refine g_gI (pc := 23) dX12_of_23 fI_RX12_153 xc_135 (v := (rd u 135 1)) rfl ?_
    refine g_icmp_ge (tgt := 55) (pc := 26) dX12_of_26 (by decide) (fun c1 => ?_) (fun c1 => ?_)
    · replace h := (if_pos c1).symm.trans h
      refine g_L (L' := [some (.ref 135), some (.int v1), some (.int v2), some (.int v3), none]) ⟨rfl, ⟨rfl, ⟨rfl, ⟨rfl, trivial⟩⟩⟩⟩ ?_
      exact G_X12_of_55 hd v1 v2 v3 u h
    · replace h := (if_neg c1).symm.trans h
      refine g_iload_n (pc := 29) dX12_of_29 rfl ?_
      refine g_iconst (pc := 30) dX12_of_30 ic_3 ?_
      refine g_icmp_ne (tgt := 55) (pc := 31) dX12_of_31 (by decide) (fun c2 => ?_) (fun c2 => ?_)
      · replace h := (if_neg c2).symm.trans h
        refine g_L (L' := [some (.ref 135), some (.int v1), some (.int v2), some (.int v3), none]) ⟨rfl, ⟨rfl, ⟨rfl, ⟨rfl, trivial⟩⟩⟩⟩ ?_
        exact G_X12_of_55 hd v1 v2 v3 u h
      · replace h := (if_pos c2).symm.trans h
        refine g_iload_n (pc := 34) dX12_of_34 rfl ?_
        refine g_aload_n (pc := 35) dX12_of_35 rfl ?_
        refine g_gR (pc := 36) dX12_of_36 fR_RX12_43 xc_135 (v := 147) rfl ?_
        refine g_bipush (pc := 39) dX12_of_39 bp_24 ?_
        refine g_iload (pc := 41) dX12_of_41 rfl ?_
        refine g_imul (pc := 43) dX12_of_43 rfl ?_
        refine g_iload_n (pc := 44) dX12_of_44 rfl ?_
        refine g_iadd (pc := 45) dX12_of_45 rfl ?_
        obtain ⟨g3, h⟩ := x_gd h
        refine g_iaload (pc := 46) dX12_of_46 xc_147 (xin_of g3) (v := (rd u 147 (((24 : Int32) * v4) + v1).toNatClampNeg)) rfl ?_
        refine g_iadd (pc := 47) dX12_of_47 rfl ?_
        refine g_istore_n (pc := 48) dX12_of_48 (Nat.le_of_ble_eq_true rfl) (L' := [some (.ref 135), some (.int v1), some (.int v2), some (.int (v3 + (rd u 147 (((24 : Int32) * v4) + v1).toNatClampNeg))), some (.int v4)]) rfl ?_
        refine g_inc (pc := 49) dX12_of_49 (Nat.le_of_ble_eq_true rfl) rfl ic_1 (L' := [some (.ref 135), some (.int v1), some (.int v2), some (.int (v3 + (rd u 147 (((24 : Int32) * v4) + v1).toNatClampNeg))), some (.int (v4 + (1 : Int32)))]) rfl ?_
        refine g_goto (tgt := 20) (pc := 52) dX12_of_52 (by decide) ?_
        exact ih v1 v2 (v3 + (rd u 147 (((24 : Int32) * v4) + v1).toNatClampNeg)) (v4 + (1 : Int32)) u h
set_option maxRecDepth 100000 in
set_option maxHeartbeats 4000000 in
theorem G_X12_of_0 {sc : Nat × (Nat → Int32)} {d : Nat} (hd : 2 ≤ d) {r : Int32} {u' : xS} (v1 : Int32) (v2 : Int32) (u : xS) (h : f_X12_of v1 v2 u = some (r, u')) : xG sc mX12_of d 0 0 (xR (some (.int r)) (xL0, u') 0 0) 0 0 0 [some (.ref 135), some (.int v1), some (.int v2), none, none] [] (xL0, u) := by
  rw [f_X12_of] at h
  refine g_aload_n (pc := 0) dX12_of_0 rfl ?_
  refine g_iconst (pc := 1) dX12_of_1 ic_0 ?_
  refine g_pI (pc := 2) dX12_of_2 pI_RX12_150 xc_135 (u' := (wr u 135 0 (0 : Int32))) rfl ?_
  refine g_aload_n (pc := 5) dX12_of_5 rfl ?_
  refine g_iload_n (pc := 6) dX12_of_6 rfl ?_
  refine g_cV (pc := 7) dX12_of_7 cV_RX12_205 (M_X12_isBale (Nat.le_refl _) rfl) xc_135 (as := [.int v1]) (st := []) rfl rfl (Nat.le_of_ble_eq_true rfl) (Nat.le_trans (Nat.le_of_ble_eq_true rfl) hd) rfl ?_
  refine g_if_ne (tgt := 15) (pc := 10) dX12_of_10 (by decide) (fun c1 => ?_) (fun c1 => ?_)
  · replace h := (if_neg c1).symm.trans h
    refine g_iconst (pc := 15) dX12_of_15 ic_0 ?_
    refine g_istore_n (pc := 16) dX12_of_16 (Nat.le_of_ble_eq_true rfl) (L' := [some (.ref 135), some (.int v1), some (.int v2), some (.int (0 : Int32)), none]) rfl ?_
    refine g_iconst (pc := 17) dX12_of_17 ic_0 ?_
    refine g_istore (pc := 18) dX12_of_18 (Nat.le_of_ble_eq_true rfl) (L' := [some (.ref 135), some (.int v1), some (.int v2), some (.int (0 : Int32)), some (.int (0 : Int32))]) rfl ?_
    exact G_X12_of_20 hd xN v1 v2 (0 : Int32) (0 : Int32) (wr u 135 0 (0 : Int32)) h
  · replace h := (if_pos c1).symm.trans h
    refine g_iconst (pc := 13) dX12_of_13 ic_m1 ?_
    obtain ⟨h1, h2⟩ := x_inj2 h
    subst h1
    subst h2
    exact g_iret (pc := 14) dX12_of_14 rfl rfl rfl (Nat.le_refl _) (Nat.le_refl _)
set_option maxRecDepth 100000 in
set_option maxHeartbeats 4000000 in
theorem M_X12_of {sc : Nat × (Nat → Int32)} {d : Nat} (hd : 2 ≤ d) {r : Int32} {u u' : xS} {a1 : Int32} {a2 : Int32} (h : f_X12_of a1 a2 u = some (r, u')) : xMt sc mX12_of d 0 0 [.ref 135, .int a1, .int a2] (xL0, u) (some (.int r)) (xL0, u') :=
  xMt.of (by decide +kernel) (by decide +kernel) (Nat.le_of_ble_eq_true rfl) (L := [some (.ref 135), some (.int a1), some (.int a2), none, none]) rfl ((G_X12_of_0 hd a1 a2 u h))
set_option maxRecDepth 100000 in
set_option maxHeartbeats 4000000 in
theorem G_X12_off_0 {sc : Nat × (Nat → Int32)} {d : Nat} (hd : 6 ≤ d) {r : Int32} {u' : xS} (v1 : Int32) (v2 : Int32) (u : xS) (h : f_X12_off v1 v2 u = some (r, u')) : xG sc mX12_off d 0 0 (xR (some (.int r)) (xL0, u') 0 0) 0 0 0 [some (.ref 135), some (.int v1), some (.int v2)] [] (xL0, u) := by
  rw [f_X12_off] at h
  refine g_aload_n (pc := 0) dX12_off_0 rfl ?_
  refine g_iconst (pc := 1) dX12_off_1 ic_0 ?_
  refine g_pI (pc := 2) dX12_off_2 pI_RX12_150 xc_135 (u' := (wr u 135 0 (0 : Int32))) rfl ?_
  refine g_aload_n (pc := 5) dX12_off_5 rfl ?_
  refine g_iload_n (pc := 6) dX12_off_6 rfl ?_
  refine g_cV (pc := 7) dX12_off_7 cV_RX12_205 (M_X12_isBale (Nat.le_refl _) rfl) xc_135 (as := [.int v1]) (st := []) rfl rfl (Nat.le_of_ble_eq_true rfl) (Nat.le_trans (Nat.le_of_ble_eq_true rfl) hd) rfl ?_
  refine g_if_eq (tgt := 32) (pc := 10) dX12_off_10 (by decide) (fun c1 => ?_) (fun c1 => ?_)
  · replace h := (if_pos c1).symm.trans h
    refine g_iconst (pc := 32) dX12_off_32 ic_m1 ?_
    obtain ⟨h1, h2⟩ := x_inj2 h
    subst h1
    subst h2
    exact g_iret (pc := 33) dX12_off_33 rfl rfl rfl (Nat.le_refl _) (Nat.le_refl _)
  · replace h := (if_neg c1).symm.trans h
    refine g_iload_n (pc := 13) dX12_off_13 rfl ?_
    refine g_i2l (pc := 14) dX12_off_14 rfl ?_
    refine g_lconst (v := (0 : Int64)) (pc := 15) dX12_off_15 rfl ?_
    refine g_lconst (v := (1 : Int64)) (pc := 16) dX12_off_16 rfl ?_
    refine g_cS (pc := 17) dX12_off_17 cS_RX12_156 (M_X12_in (Nat.le_refl _) rfl) (as := [.long ((v2).toInt64), .long (0 : Int64), .long (1 : Int64)]) (st := []) rfl rfl (Nat.le_of_ble_eq_true rfl) (Nat.le_trans (Nat.le_of_ble_eq_true rfl) hd) rfl ?_
    refine g_if_eq (tgt := 32) (pc := 20) dX12_off_20 (by decide) (fun c2 => ?_) (fun c2 => ?_)
    · replace h := (if_pos c2).symm.trans h
      refine g_iconst (pc := 32) dX12_off_32 ic_m1 ?_
      obtain ⟨h1, h2⟩ := x_inj2 h
      subst h1
      subst h2
      exact g_iret (pc := 33) dX12_off_33 rfl rfl rfl (Nat.le_refl _) (Nat.le_refl _)
    · replace h := (if_neg c2).symm.trans h
      refine g_aload_n (pc := 23) dX12_off_23 rfl ?_
      refine g_iload_n (pc := 24) dX12_off_24 rfl ?_
      refine g_iload_n (pc := 25) dX12_off_25 rfl ?_
      obtain ⟨⟨x4, u5⟩, e3, h⟩ := x_bind h
      dsimp only at h
      refine g_cV (pc := 26) dX12_off_26 cV_RX12_253 (M_X12_offOf (Nat.le_refl _) e3) xc_135 (as := [.int v1, .int v2]) (st := []) rfl rfl (Nat.le_of_ble_eq_true rfl) (Nat.le_trans (Nat.le_of_ble_eq_true rfl) hd) rfl ?_
      refine g_goto (tgt := 33) (pc := 29) dX12_off_29 (by decide) ?_
      obtain ⟨h1, h2⟩ := x_inj2 h
      subst h1
      subst h2
      exact g_iret (pc := 33) dX12_off_33 rfl rfl rfl (Nat.le_refl _) (Nat.le_refl _)
set_option maxRecDepth 100000 in
set_option maxHeartbeats 4000000 in
theorem M_X12_off {sc : Nat × (Nat → Int32)} {d : Nat} (hd : 6 ≤ d) {r : Int32} {u u' : xS} {a1 : Int32} {a2 : Int32} (h : f_X12_off a1 a2 u = some (r, u')) : xMt sc mX12_off d 0 0 [.ref 135, .int a1, .int a2] (xL0, u) (some (.int r)) (xL0, u') :=
  xMt.of (by decide +kernel) (by decide +kernel) (Nat.le_of_ble_eq_true rfl) (L := [some (.ref 135), some (.int a1), some (.int a2)]) rfl ((G_X12_off_0 hd a1 a2 u h))
set_option maxRecDepth 100000 in
set_option maxHeartbeats 4000000 in
theorem G_X12_open_162 {sc : Nat × (Nat → Int32)} {d : Nat} (hd : 2 ≤ d) {r : Int32} {u' : xS} : ∀ (n : Nat) (v1 : Int32) (v2 : Int32) (v3 : Int32) (v4 : Int32) (v6 : Int32) (v9 : Int32) (v11 : Int32) (u : xS), f_X12_open_162 n v1 v2 v3 v4 v6 v9 v11 u = some (r, u') → xG sc mX12_open d 0 0 (xR (some (.int r)) (xL0, u') 0 0) 0 0 162 [some (.ref 135), some (.int v1), some (.int v2), some (.int v3), some (.int v4), none, some (.int v6), none, none, some (.int v9), none, some (.int v11), none] [] (xL0, u) := by
  intro n
  induction n with
  | zero =>
    intro v1 v2 v3 v4 v6 v9 v11 u h
    rw [f_X12_open_162] at h
    cases h
  | succ n ih =>
    intro v1 v2 v3 v4 v6 v9 v11 u h
    rw [f_X12_open_162] at h
    refine g_iload (pc := 162) dX12_open_162 rfl ?_
    refine g_iload (pc := 164) dX12_open_164 rfl ?_
    refine g_icmp_ge (tgt := 218) (pc := 166) dX12_open_166 (by decide) (fun c1 => ?_) (fun c1 => ?_)
    · replace h := (if_pos c1).symm.trans h
      refine g_aload_n (pc := 218) dX12_open_218 rfl ?_
      refine g_gR (pc := 219) dX12_open_219 fR_RX12_34 xc_135 (v := 144) rfl ?_
      refine g_iload_n (pc := 222) dX12_open_222 rfl ?_
      refine g_iload_n (pc := 223) dX12_open_223 rfl ?_
      obtain ⟨g2, h⟩ := x_gd h
      refine g_iastore (pc := 224) dX12_open_224 xc_144 (xin_of g2) (u' := (wr u 144 v1.toNatClampNeg v2)) rfl ?_
      refine g_aload_n (pc := 225) dX12_open_225 rfl ?_
      refine g_gR (pc := 226) dX12_open_226 fR_RX12_46 xc_135 (v := 148) rfl ?_
      refine g_aload_n (pc := 229) dX12_open_229 rfl ?_
      refine g_gI (pc := 230) dX12_open_230 fI_RX12_214 xc_135 (v := (rd u 135 16)) rfl ?_
      refine g_iload_n (pc := 233) dX12_open_233 rfl ?_
      obtain ⟨g3, h⟩ := x_gd h
      refine g_iastore (pc := 234) dX12_open_234 xc_148 (xin_of g3) (u' := (wr (wr u 144 v1.toNatClampNeg v2) 148 (rd u 135 16).toNatClampNeg v1)) rfl ?_
      refine g_aload_n (pc := 235) dX12_open_235 rfl ?_
      refine g_dup (pc := 236) dX12_open_236 rfl ?_
      refine g_gI (pc := 237) dX12_open_237 fI_RX12_214 xc_135 (v := (rd u 135 16)) rfl ?_
      refine g_iconst (pc := 240) dX12_open_240 ic_1 ?_
      refine g_iadd (pc := 241) dX12_open_241 rfl ?_
      refine g_pI (pc := 242) dX12_open_242 pI_RX12_214 xc_135 (u' := (wr (wr (wr u 144 v1.toNatClampNeg v2) 148 (rd u 135 16).toNatClampNeg v1) 135 16 ((rd u 135 16) + (1 : Int32)))) rfl ?_
      refine g_aload_n (pc := 245) dX12_open_245 rfl ?_
      refine g_iload_n (pc := 246) dX12_open_246 rfl ?_
      obtain ⟨x5, e4, h⟩ := x_bind h
      refine g_cV (pc := 247) dX12_open_247 cV_RX12_217 (M_X12_dust (Nat.le_refl _) e4) xc_135 (as := [.int v1]) (st := []) rfl rfl (Nat.le_of_ble_eq_true rfl) (Nat.le_trans (Nat.le_of_ble_eq_true rfl) hd) rfl ?_
      obtain ⟨h1, h2⟩ := x_inj2 h
      subst h1
      subst h2
      exact g_iret (pc := 250) dX12_open_250 rfl rfl rfl (Nat.le_refl _) (Nat.le_refl _)
    · replace h := (if_neg c1).symm.trans h
      refine g_aload_n (pc := 169) dX12_open_169 rfl ?_
      refine g_gR (pc := 170) dX12_open_170 fR_RX12_40 xc_135 (v := 146) rfl ?_
      refine g_bipush (pc := 173) dX12_open_173 bp_24 ?_
      refine g_iload (pc := 175) dX12_open_175 rfl ?_
      refine g_imul (pc := 177) dX12_open_177 rfl ?_
      refine g_iload_n (pc := 178) dX12_open_178 rfl ?_
      refine g_iadd (pc := 179) dX12_open_179 rfl ?_
      refine g_iload_n (pc := 180) dX12_open_180 rfl ?_
      refine g_iload (pc := 181) dX12_open_181 rfl ?_
      refine g_cS (pc := 183) dX12_open_183 cS_RX12_211 (M_X12_entry (Nat.le_refl _) rfl) (as := [.int v3, .int v9]) (st := [.int (((24 : Int32) * v11) + v1), .ref 146]) rfl rfl (Nat.le_of_ble_eq_true rfl) (Nat.le_trans (Nat.le_of_ble_eq_true rfl) hd) rfl ?_
      obtain ⟨g6, h⟩ := x_gd h
      refine g_iastore (pc := 186) dX12_open_186 xc_146 (xin_of g6) (u' := (wr u 146 (((24 : Int32) * v11) + v1).toNatClampNeg (f_X12_entry v3 v9))) rfl ?_
      refine g_aload_n (pc := 187) dX12_open_187 rfl ?_
      refine g_gR (pc := 188) dX12_open_188 fR_RX12_43 xc_135 (v := 147) rfl ?_
      refine g_bipush (pc := 191) dX12_open_191 bp_24 ?_
      refine g_iload (pc := 193) dX12_open_193 rfl ?_
      refine g_imul (pc := 195) dX12_open_195 rfl ?_
      refine g_iload_n (pc := 196) dX12_open_196 rfl ?_
      refine g_iadd (pc := 197) dX12_open_197 rfl ?_
      refine g_iload_n (pc := 198) dX12_open_198 rfl ?_
      refine g_iload (pc := 199) dX12_open_199 rfl ?_
      refine g_cS (pc := 201) dX12_open_201 cS_RX12_211 (M_X12_entry (Nat.le_refl _) rfl) (as := [.int v3, .int v9]) (st := [.int (((24 : Int32) * v11) + v1), .ref 147]) rfl rfl (Nat.le_of_ble_eq_true rfl) (Nat.le_trans (Nat.le_of_ble_eq_true rfl) hd) rfl ?_
      refine g_iastore (pc := 204) dX12_open_204 xc_147 (xin_of g6) (u' := (wr (wr u 146 (((24 : Int32) * v11) + v1).toNatClampNeg (f_X12_entry v3 v9)) 147 (((24 : Int32) * v11) + v1).toNatClampNeg (f_X12_entry v3 v9))) rfl ?_
      refine g_iload (pc := 205) dX12_open_205 rfl ?_
      refine g_iload (pc := 207) dX12_open_207 rfl ?_
      refine g_iadd (pc := 209) dX12_open_209 rfl ?_
      refine g_istore (pc := 210) dX12_open_210 (Nat.le_of_ble_eq_true rfl) (L' := [some (.ref 135), some (.int v1), some (.int v2), some (.int v3), some (.int v4), none, some (.int v6), none, none, some (.int (v9 + v6)), none, some (.int v11), none]) rfl ?_
      refine g_inc (pc := 212) dX12_open_212 (Nat.le_of_ble_eq_true rfl) rfl ic_1 (L' := [some (.ref 135), some (.int v1), some (.int v2), some (.int v3), some (.int v4), none, some (.int v6), none, none, some (.int (v9 + v6)), none, some (.int (v11 + (1 : Int32))), none]) rfl ?_
      refine g_goto (tgt := 162) (pc := 215) dX12_open_215 (by decide) ?_
      exact ih v1 v2 v3 v4 v6 (v9 + v6) (v11 + (1 : Int32)) (wr (wr u 146 (((24 : Int32) * v11) + v1).toNatClampNeg (f_X12_entry v3 v9)) 147 (((24 : Int32) * v11) + v1).toNatClampNeg (f_X12_entry v3 v9)) h
set_option maxRecDepth 100000 in
set_option maxHeartbeats 4000000 in
theorem G_X12_open_111 {sc : Nat × (Nat → Int32)} {d : Nat} (hd : 2 ≤ d) {r : Int32} {u' : xS} {k81 : Int32 → Int32 → Int32 → Int32 → Int32 → Int32 → Int64 → Int32 → Int32 → Int32 → xS → Option (Int32 × xS)} (hk81 : ∀ (v1 : Int32) (v2 : Int32) (v3 : Int32) (v4 : Int32) (v5 : Int32) (v6 : Int32) (v7 : Int64) (v9 : Int32) (v10 : Int32) (v11 : Int32) (u : xS), k81 v1 v2 v3 v4 v5 v6 v7 v9 v10 v11 u = some (r, u') → xG sc mX12_open d 0 0 (xR (some (.int r)) (xL0, u') 0 0) 0 0 81 [some (.ref 135), some (.int v1), some (.int v2), some (.int v3), some (.int v4), some (.int v5), some (.int v6), some (.long v7), none, some (.int v9), some (.int v10), some (.int v11), none] [] (xL0, u)) (v1 : Int32) (v2 : Int32) (v3 : Int32) (v4 : Int32) (v5 : Int32) (v6 : Int32) (v7 : Int64) (v9 : Int32) (v11 : Int32) (v12 : Int32) (s0 : Int32) (u : xS) (h : f_X12_open_111 k81 v1 v2 v3 v4 v5 v6 v7 v9 v11 v12 s0 u = some (r, u')) : xG sc mX12_open d 0 0 (xR (some (.int r)) (xL0, u') 0 0) 0 0 111 [some (.ref 135), some (.int v1), some (.int v2), some (.int v3), some (.int v4), some (.int v5), some (.int v6), some (.long v7), none, some (.int v9), none, some (.int v11), some (.int v12)] [.int s0] (xL0, u) := by
  rw [f_X12_open_111] at h
  refine g_istore (pc := 111) dX12_open_111 (Nat.le_of_ble_eq_true rfl) (L' := [some (.ref 135), some (.int v1), some (.int v2), some (.int v3), some (.int v4), some (.int v5), some (.int v6), some (.long v7), none, some (.int v9), some (.int s0), some (.int v11), some (.int v12)]) rfl ?_
  refine g_lload (pc := 113) dX12_open_113 rfl ?_
  refine g_iload (pc := 115) dX12_open_115 rfl ?_
  refine g_i2l (pc := 117) dX12_open_117 rfl ?_
  refine g_ladd (pc := 118) dX12_open_118 rfl ?_
  refine g_lstore (pc := 119) dX12_open_119 (Nat.le_of_ble_eq_true rfl) (Nat.le_of_ble_eq_true rfl) (L' := [some (.ref 135), some (.int v1), some (.int v2), some (.int v3), some (.int v4), some (.int v5), some (.int v6), some (.long (v7 + ((v12).toInt64))), none, some (.int v9), some (.int s0), some (.int v11), some (.int v12)]) rfl ?_
  refine g_iload (pc := 121) dX12_open_121 rfl ?_
  refine g_iload (pc := 123) dX12_open_123 rfl ?_
  refine g_iadd (pc := 125) dX12_open_125 rfl ?_
  refine g_istore (pc := 126) dX12_open_126 (Nat.le_of_ble_eq_true rfl) (L' := [some (.ref 135), some (.int v1), some (.int v2), some (.int v3), some (.int v4), some (.int v5), some (.int v6), some (.long (v7 + ((v12).toInt64))), none, some (.int (v9 + v6)), some (.int s0), some (.int v11), some (.int v12)]) rfl ?_
  refine g_inc (pc := 128) dX12_open_128 (Nat.le_of_ble_eq_true rfl) rfl ic_1 (L' := [some (.ref 135), some (.int v1), some (.int v2), some (.int v3), some (.int v4), some (.int v5), some (.int v6), some (.long (v7 + ((v12).toInt64))), none, some (.int (v9 + v6)), some (.int s0), some (.int (v11 + (1 : Int32))), some (.int v12)]) rfl ?_
  refine g_goto (tgt := 81) (pc := 131) dX12_open_131 (by decide) ?_
  refine g_L (L' := [some (.ref 135), some (.int v1), some (.int v2), some (.int v3), some (.int v4), some (.int v5), some (.int v6), some (.long (v7 + ((v12).toInt64))), none, some (.int (v9 + v6)), some (.int s0), some (.int (v11 + (1 : Int32))), none]) ⟨rfl, ⟨rfl, ⟨rfl, ⟨rfl, ⟨rfl, ⟨rfl, ⟨rfl, ⟨rfl, ⟨rfl, ⟨rfl, ⟨rfl, trivial⟩⟩⟩⟩⟩⟩⟩⟩⟩⟩⟩ ?_
  exact hk81 v1 v2 v3 v4 v5 v6 (v7 + ((v12).toInt64)) (v9 + v6) s0 (v11 + (1 : Int32)) u h
set_option maxRecDepth 100000 in
set_option maxHeartbeats 4000000 in
theorem G_X12_open_110 {sc : Nat × (Nat → Int32)} {d : Nat} (hd : 2 ≤ d) {r : Int32} {u' : xS} {k81 : Int32 → Int32 → Int32 → Int32 → Int32 → Int32 → Int64 → Int32 → Int32 → Int32 → xS → Option (Int32 × xS)} (hk81 : ∀ (v1 : Int32) (v2 : Int32) (v3 : Int32) (v4 : Int32) (v5 : Int32) (v6 : Int32) (v7 : Int64) (v9 : Int32) (v10 : Int32) (v11 : Int32) (u : xS), k81 v1 v2 v3 v4 v5 v6 v7 v9 v10 v11 u = some (r, u') → xG sc mX12_open d 0 0 (xR (some (.int r)) (xL0, u') 0 0) 0 0 81 [some (.ref 135), some (.int v1), some (.int v2), some (.int v3), some (.int v4), some (.int v5), some (.int v6), some (.long v7), none, some (.int v9), some (.int v10), some (.int v11), none] [] (xL0, u)) (v1 : Int32) (v2 : Int32) (v3 : Int32) (v4 : Int32) (v5 : Int32) (v6 : Int32) (v7 : Int64) (v9 : Int32) (v11 : Int32) (v12 : Int32) (u : xS) (h : f_X12_open_110 k81 v1 v2 v3 v4 v5 v6 v7 v9 v11 v12 u = some (r, u')) : xG sc mX12_open d 0 0 (xR (some (.int r)) (xL0, u') 0 0) 0 0 110 [some (.ref 135), some (.int v1), some (.int v2), some (.int v3), some (.int v4), some (.int v5), some (.int v6), some (.long v7), none, some (.int v9), none, some (.int v11), some (.int v12)] [] (xL0, u) := by
  rw [f_X12_open_110] at h
  refine g_iconst (pc := 110) dX12_open_110 ic_0 ?_
  exact G_X12_open_111 hd hk81 v1 v2 v3 v4 v5 v6 v7 v9 v11 v12 (0 : Int32) u h
set_option maxRecDepth 100000 in
set_option maxHeartbeats 4000000 in
theorem G_X12_open_81 {sc : Nat × (Nat → Int32)} {d : Nat} (hd : 2 ≤ d) {r : Int32} {u' : xS} : ∀ (n : Nat) (v1 : Int32) (v2 : Int32) (v3 : Int32) (v4 : Int32) (v5 : Int32) (v6 : Int32) (v7 : Int64) (v9 : Int32) (v10 : Int32) (v11 : Int32) (u : xS), f_X12_open_81 n v1 v2 v3 v4 v5 v6 v7 v9 v10 v11 u = some (r, u') → xG sc mX12_open d 0 0 (xR (some (.int r)) (xL0, u') 0 0) 0 0 81 [some (.ref 135), some (.int v1), some (.int v2), some (.int v3), some (.int v4), some (.int v5), some (.int v6), some (.long v7), none, some (.int v9), some (.int v10), some (.int v11), none] [] (xL0, u) := by
  intro n
  induction n with
  | zero =>
    intro v1 v2 v3 v4 v5 v6 v7 v9 v10 v11 u h
    rw [f_X12_open_81] at h
    cases h
  | succ n ih =>
    intro v1 v2 v3 v4 v5 v6 v7 v9 v10 v11 u h
    rw [f_X12_open_81] at h
    refine g_iload (pc := 81) dX12_open_81 rfl ?_
    refine g_iload (pc := 83) dX12_open_83 rfl ?_
    refine g_icmp_ge (tgt := 134) (pc := 85) dX12_open_85 (by decide) (fun c1 => ?_) (fun c1 => ?_)
    · replace h := (if_pos c1).symm.trans h
      refine g_iload (pc := 134) dX12_open_134 rfl ?_
      refine g_if_eq (tgt := 152) (pc := 136) dX12_open_136 (by decide) (fun c2 => ?_) (fun c2 => ?_)
      · replace h := (if_pos c2).symm.trans h
        refine g_bipush (pc := 152) dX12_open_152 bp_m4 ?_
        obtain ⟨h1, h2⟩ := x_inj2 h
        subst h1
        subst h2
        exact g_iret (pc := 154) dX12_open_154 rfl rfl rfl (Nat.le_refl _) (Nat.le_refl _)
      · replace h := (if_neg c2).symm.trans h
        refine g_lload (pc := 139) dX12_open_139 rfl ?_
        refine g_aload_n (pc := 141) dX12_open_141 rfl ?_
        refine g_gR (pc := 142) dX12_open_142 fR_RX12_28 xc_135 (v := 142) rfl ?_
        refine g_iload_n (pc := 145) dX12_open_145 rfl ?_
        obtain ⟨g3, h⟩ := x_gd h
        refine g_iaload (pc := 146) dX12_open_146 xc_142 (xin_of g3) (v := (rd u 142 v1.toNatClampNeg)) rfl ?_
        refine g_i2l (pc := 147) dX12_open_147 rfl ?_
        refine g_lcmp (pc := 148) dX12_open_148 rfl ?_
        refine g_if_le (tgt := 155) (pc := 149) dX12_open_149 (by decide) (fun c4 => ?_) (fun c4 => ?_)
        · replace h := (if_pos c4).symm.trans h
          refine g_iload (pc := 155) dX12_open_155 rfl ?_
          refine g_istore (pc := 157) dX12_open_157 (Nat.le_of_ble_eq_true rfl) (L' := [some (.ref 135), some (.int v1), some (.int v2), some (.int v3), some (.int v4), some (.int v5), some (.int v6), some (.long v7), none, some (.int v5), some (.int v10), some (.int v11), none]) rfl ?_
          refine g_iconst (pc := 159) dX12_open_159 ic_0 ?_
          refine g_istore (pc := 160) dX12_open_160 (Nat.le_of_ble_eq_true rfl) (L' := [some (.ref 135), some (.int v1), some (.int v2), some (.int v3), some (.int v4), some (.int v5), some (.int v6), some (.long v7), none, some (.int v5), some (.int v10), some (.int (0 : Int32)), none]) rfl ?_
          refine g_L (L' := [some (.ref 135), some (.int v1), some (.int v2), some (.int v3), some (.int v4), none, some (.int v6), none, none, some (.int v5), none, some (.int (0 : Int32)), none]) ⟨rfl, ⟨rfl, ⟨rfl, ⟨rfl, ⟨rfl, ⟨rfl, ⟨rfl, ⟨rfl, trivial⟩⟩⟩⟩⟩⟩⟩⟩ ?_
          exact G_X12_open_162 hd xN v1 v2 v3 v4 v6 v5 (0 : Int32) u h
        · replace h := (if_neg c4).symm.trans h
          refine g_bipush (pc := 152) dX12_open_152 bp_m4 ?_
          obtain ⟨h1, h2⟩ := x_inj2 h
          subst h1
          subst h2
          exact g_iret (pc := 154) dX12_open_154 rfl rfl rfl (Nat.le_refl _) (Nat.le_refl _)
    · replace h := (if_neg c1).symm.trans h
      refine g_iload_n (pc := 88) dX12_open_88 rfl ?_
      refine g_iload (pc := 89) dX12_open_89 rfl ?_
      refine g_cS (pc := 91) dX12_open_91 cS_RX12_211 (M_X12_entry (Nat.le_refl _) rfl) (as := [.int v3, .int v9]) (st := []) rfl rfl (Nat.le_of_ble_eq_true rfl) (Nat.le_trans (Nat.le_of_ble_eq_true rfl) hd) rfl ?_
      refine g_istore (pc := 94) dX12_open_94 (Nat.le_of_ble_eq_true rfl) (L' := [some (.ref 135), some (.int v1), some (.int v2), some (.int v3), some (.int v4), some (.int v5), some (.int v6), some (.long v7), none, some (.int v9), some (.int v10), some (.int v11), some (.int (f_X12_entry v3 v9))]) rfl ?_
      refine g_iload (pc := 96) dX12_open_96 rfl ?_
      refine g_if_eq (tgt := 110) (pc := 98) dX12_open_98 (by decide) (fun c5 => ?_) (fun c5 => ?_)
      · replace h := (if_pos c5).symm.trans h
        refine g_L (L' := [some (.ref 135), some (.int v1), some (.int v2), some (.int v3), some (.int v4), some (.int v5), some (.int v6), some (.long v7), none, some (.int v9), none, some (.int v11), some (.int (f_X12_entry v3 v9))]) ⟨rfl, ⟨rfl, ⟨rfl, ⟨rfl, ⟨rfl, ⟨rfl, ⟨rfl, ⟨rfl, ⟨rfl, ⟨rfl, ⟨rfl, trivial⟩⟩⟩⟩⟩⟩⟩⟩⟩⟩⟩ ?_
        exact G_X12_open_110 hd ih v1 v2 v3 v4 v5 v6 v7 v9 v11 (f_X12_entry v3 v9) u h
      · replace h := (if_neg c5).symm.trans h
        refine g_iload (pc := 101) dX12_open_101 rfl ?_
        refine g_if_lt (tgt := 110) (pc := 103) dX12_open_103 (by decide) (fun c6 => ?_) (fun c6 => ?_)
        · replace h := (if_pos c6).symm.trans h
          refine g_L (L' := [some (.ref 135), some (.int v1), some (.int v2), some (.int v3), some (.int v4), some (.int v5), some (.int v6), some (.long v7), none, some (.int v9), none, some (.int v11), some (.int (f_X12_entry v3 v9))]) ⟨rfl, ⟨rfl, ⟨rfl, ⟨rfl, ⟨rfl, ⟨rfl, ⟨rfl, ⟨rfl, ⟨rfl, ⟨rfl, ⟨rfl, trivial⟩⟩⟩⟩⟩⟩⟩⟩⟩⟩⟩ ?_
          exact G_X12_open_110 hd ih v1 v2 v3 v4 v5 v6 v7 v9 v11 (f_X12_entry v3 v9) u h
        · replace h := (if_neg c6).symm.trans h
          refine g_iconst (pc := 106) dX12_open_106 ic_1 ?_
          refine g_goto (tgt := 111) (pc := 107) dX12_open_107 (by decide) ?_
          refine g_L (L' := [some (.ref 135), some (.int v1), some (.int v2), some (.int v3), some (.int v4), some (.int v5), some (.int v6), some (.long v7), none, some (.int v9), none, some (.int v11), some (.int (f_X12_entry v3 v9))]) ⟨rfl, ⟨rfl, ⟨rfl, ⟨rfl, ⟨rfl, ⟨rfl, ⟨rfl, ⟨rfl, ⟨rfl, ⟨rfl, ⟨rfl, trivial⟩⟩⟩⟩⟩⟩⟩⟩⟩⟩⟩ ?_
          exact G_X12_open_111 hd ih v1 v2 v3 v4 v5 v6 v7 v9 v11 (f_X12_entry v3 v9) (1 : Int32) u h
set_option maxRecDepth 100000 in
set_option maxHeartbeats 4000000 in
theorem G_X12_open_0 {sc : Nat × (Nat → Int32)} {d : Nat} (hd : 2 ≤ d) {r : Int32} {u' : xS} (v1 : Int32) (v2 : Int32) (v3 : Int32) (v4 : Int32) (v5 : Int32) (v6 : Int32) (u : xS) (h : f_X12_open v1 v2 v3 v4 v5 v6 u = some (r, u')) : xG sc mX12_open d 0 0 (xR (some (.int r)) (xL0, u') 0 0) 0 0 0 [some (.ref 135), some (.int v1), some (.int v2), some (.int v3), some (.int v4), some (.int v5), some (.int v6), none, none, none, none, none, none] [] (xL0, u) := by
  rw [f_X12_open] at h
  refine g_aload_n (pc := 0) dX12_open_0 rfl ?_
  refine g_iconst (pc := 1) dX12_open_1 ic_0 ?_
  refine g_pI (pc := 2) dX12_open_2 pI_RX12_150 xc_135 (u' := (wr u 135 0 (0 : Int32))) rfl ?_
  refine g_aload_n (pc := 5) dX12_open_5 rfl ?_
  refine g_iload_n (pc := 6) dX12_open_6 rfl ?_
  refine g_cV (pc := 7) dX12_open_7 cV_RX12_205 (M_X12_isBale (Nat.le_refl _) rfl) xc_135 (as := [.int v1]) (st := []) rfl rfl (Nat.le_of_ble_eq_true rfl) (Nat.le_trans (Nat.le_of_ble_eq_true rfl) hd) rfl ?_
  refine g_if_eq (tgt := 50) (pc := 10) dX12_open_10 (by decide) (fun c1 => ?_) (fun c1 => ?_)
  · replace h := (if_pos c1).symm.trans h
    refine g_iconst (pc := 50) dX12_open_50 ic_m1 ?_
    obtain ⟨h1, h2⟩ := x_inj2 h
    subst h1
    subst h2
    exact g_iret (pc := 51) dX12_open_51 rfl rfl rfl (Nat.le_refl _) (Nat.le_refl _)
  · replace h := (if_neg c1).symm.trans h
    refine g_iload_n (pc := 13) dX12_open_13 rfl ?_
    refine g_cS (pc := 14) dX12_open_14 cS_RX12_208 (M_X12_isSorter (Nat.le_refl _) rfl) (as := [.int v2]) (st := []) rfl rfl (Nat.le_of_ble_eq_true rfl) (Nat.le_trans (Nat.le_of_ble_eq_true rfl) hd) rfl ?_
    refine g_if_eq (tgt := 50) (pc := 17) dX12_open_17 (by decide) (fun c2 => ?_) (fun c2 => ?_)
    · replace h := (if_pos c2).symm.trans h
      refine g_iconst (pc := 50) dX12_open_50 ic_m1 ?_
      obtain ⟨h1, h2⟩ := x_inj2 h
      subst h1
      subst h2
      exact g_iret (pc := 51) dX12_open_51 rfl rfl rfl (Nat.le_refl _) (Nat.le_refl _)
    · replace h := (if_neg c2).symm.trans h
      refine g_iload_n (pc := 20) dX12_open_20 rfl ?_
      refine g_i2l (pc := 21) dX12_open_21 rfl ?_
      refine g_lconst (v := (0 : Int64)) (pc := 22) dX12_open_22 rfl ?_
      refine g_ldc2 (pc := 23) dX12_open_23 kl_RX12_197 ?_
      refine g_cS (pc := 26) dX12_open_26 cS_RX12_156 (M_X12_in (Nat.le_refl _) rfl) (as := [.long ((v3).toInt64), .long (0 : Int64), .long (3 : Int64)]) (st := []) rfl rfl (Nat.le_of_ble_eq_true rfl) (Nat.le_trans (Nat.le_of_ble_eq_true rfl) hd) rfl ?_
      refine g_if_eq (tgt := 50) (pc := 29) dX12_open_29 (by decide) (fun c3 => ?_) (fun c3 => ?_)
      · replace h := (if_pos c3).symm.trans h
        refine g_iconst (pc := 50) dX12_open_50 ic_m1 ?_
        obtain ⟨h1, h2⟩ := x_inj2 h
        subst h1
        subst h2
        exact g_iret (pc := 51) dX12_open_51 rfl rfl rfl (Nat.le_refl _) (Nat.le_refl _)
      · replace h := (if_neg c3).symm.trans h
        refine g_aload_n (pc := 32) dX12_open_32 rfl ?_
        refine g_gR (pc := 33) dX12_open_33 fR_RX12_34 xc_135 (v := 144) rfl ?_
        refine g_iload_n (pc := 36) dX12_open_36 rfl ?_
        obtain ⟨g4, h⟩ := x_gd h
        refine g_iaload (pc := 37) dX12_open_37 xc_144 (xin_of g4) (v := (rd u 144 v1.toNatClampNeg)) rfl ?_
        refine g_if_ge (tgt := 50) (pc := 38) dX12_open_38 (by decide) (fun c5 => ?_) (fun c5 => ?_)
        · replace h := (if_pos c5).symm.trans h
          refine g_iconst (pc := 50) dX12_open_50 ic_m1 ?_
          obtain ⟨h1, h2⟩ := x_inj2 h
          subst h1
          subst h2
          exact g_iret (pc := 51) dX12_open_51 rfl rfl rfl (Nat.le_refl _) (Nat.le_refl _)
        · replace h := (if_neg c5).symm.trans h
          refine g_iload (pc := 41) dX12_open_41 rfl ?_
          refine g_aload_n (pc := 43) dX12_open_43 rfl ?_
          refine g_gI (pc := 44) dX12_open_44 fI_RX12_153 xc_135 (v := (rd u 135 1)) rfl ?_
          refine g_icmp_le (tgt := 52) (pc := 47) dX12_open_47 (by decide) (fun c6 => ?_) (fun c6 => ?_)
          · replace h := (if_pos c6).symm.trans h
            refine g_iload_n (pc := 52) dX12_open_52 rfl ?_
            refine g_iconst (pc := 53) dX12_open_53 ic_3 ?_
            refine g_icmp_ne (tgt := 60) (pc := 54) dX12_open_54 (by decide) (fun c7 => ?_) (fun c7 => ?_)
            · replace h := (if_neg c7).symm.trans h
              refine g_iload (pc := 60) dX12_open_60 rfl ?_
              refine g_if_ge (tgt := 68) (pc := 62) dX12_open_62 (by decide) (fun c8 => ?_) (fun c8 => ?_)
              · replace h := (if_pos c8).symm.trans h
                refine g_lconst (v := (0 : Int64)) (pc := 68) dX12_open_68 rfl ?_
                refine g_lstore (pc := 69) dX12_open_69 (Nat.le_of_ble_eq_true rfl) (Nat.le_of_ble_eq_true rfl) (L' := [some (.ref 135), some (.int v1), some (.int v2), some (.int v3), some (.int v4), some (.int v5), some (.int v6), some (.long (0 : Int64)), none, none, none, none, none]) rfl ?_
                refine g_iload (pc := 71) dX12_open_71 rfl ?_
                refine g_istore (pc := 73) dX12_open_73 (Nat.le_of_ble_eq_true rfl) (L' := [some (.ref 135), some (.int v1), some (.int v2), some (.int v3), some (.int v4), some (.int v5), some (.int v6), some (.long (0 : Int64)), none, some (.int v5), none, none, none]) rfl ?_
                refine g_iconst (pc := 75) dX12_open_75 ic_1 ?_
                refine g_istore (pc := 76) dX12_open_76 (Nat.le_of_ble_eq_true rfl) (L' := [some (.ref 135), some (.int v1), some (.int v2), some (.int v3), some (.int v4), some (.int v5), some (.int v6), some (.long (0 : Int64)), none, some (.int v5), some (.int (1 : Int32)), none, none]) rfl ?_
                refine g_iconst (pc := 78) dX12_open_78 ic_0 ?_
                refine g_istore (pc := 79) dX12_open_79 (Nat.le_of_ble_eq_true rfl) (L' := [some (.ref 135), some (.int v1), some (.int v2), some (.int v3), some (.int v4), some (.int v5), some (.int v6), some (.long (0 : Int64)), none, some (.int v5), some (.int (1 : Int32)), some (.int (0 : Int32)), none]) rfl ?_
                exact G_X12_open_81 hd xN v1 v2 v3 v4 v5 v6 (0 : Int64) v5 (1 : Int32) (0 : Int32) (wr u 135 0 (0 : Int32)) h
              · replace h := (if_neg c8).symm.trans h
                refine g_bipush (pc := 65) dX12_open_65 bp_m2 ?_
                obtain ⟨h1, h2⟩ := x_inj2 h
                subst h1
                subst h2
                exact g_iret (pc := 67) dX12_open_67 rfl rfl rfl (Nat.le_refl _) (Nat.le_refl _)
            · replace h := (if_pos c7).symm.trans h
              refine g_bipush (pc := 57) dX12_open_57 bp_m3 ?_
              obtain ⟨h1, h2⟩ := x_inj2 h
              subst h1
              subst h2
              exact g_iret (pc := 59) dX12_open_59 rfl rfl rfl (Nat.le_refl _) (Nat.le_refl _)
          · replace h := (if_neg c6).symm.trans h
            refine g_iconst (pc := 50) dX12_open_50 ic_m1 ?_
            obtain ⟨h1, h2⟩ := x_inj2 h
            subst h1
            subst h2
            exact g_iret (pc := 51) dX12_open_51 rfl rfl rfl (Nat.le_refl _) (Nat.le_refl _)
set_option maxRecDepth 100000 in
set_option maxHeartbeats 4000000 in
theorem M_X12_open {sc : Nat × (Nat → Int32)} {d : Nat} (hd : 2 ≤ d) {r : Int32} {u u' : xS} {a1 : Int32} {a2 : Int32} {a3 : Int32} {a4 : Int32} {a5 : Int32} {a6 : Int32} (h : f_X12_open a1 a2 a3 a4 a5 a6 u = some (r, u')) : xMt sc mX12_open d 0 0 [.ref 135, .int a1, .int a2, .int a3, .int a4, .int a5, .int a6] (xL0, u) (some (.int r)) (xL0, u') :=
  xMt.of (by decide +kernel) (by decide +kernel) (Nat.le_of_ble_eq_true rfl) (L := [some (.ref 135), some (.int a1), some (.int a2), some (.int a3), some (.int a4), some (.int a5), some (.int a6), none, none, none, none, none, none]) rfl ((G_X12_open_0 hd a1 a2 a3 a4 a5 a6 u h))
