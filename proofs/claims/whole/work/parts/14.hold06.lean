set_option maxRecDepth 100000 in
set_option maxHeartbeats 4000000 in
theorem G_X12_count_0 {sc : Nat × (Nat → Int32)} {d : Nat} (hd : 2 ≤ d) {r : Int32} {u' : xS} (v1 : Int32) (u : xS) (h : f_X12_count v1 u = some (r, u')) : xG sc mX12_count d 0 0 (xR (some (.int r)) (xL0, u') 0 0) 0 0 0 [some (.ref 135), some (.int v1)] [] (xL0, u) := by
  rw [f_X12_count] at h
  refine g_aload_n (pc := 0) dX12_count_0 rfl ?_
  refine g_iconst (pc := 1) dX12_count_1 ic_0 ?_
  refine g_pI (pc := 2) dX12_count_2 pI_RX12_150 xc_135 (u' := (wr u 135 0 (0 : Int32))) rfl ?_
  refine g_iload_n (pc := 5) dX12_count_5 rfl ?_
  by_cases c1 : v1 = (0 : Int32)
  · replace h := (if_pos c1).symm.trans h
    refine g_tableIn (tgt := 72) (off := 66) (pc := 6) dX12_count_6 (by rw [c1]; decide) (by rw [c1]; decide) (by rw [c1]; rfl) (by decide) ?_
    refine g_aload_n (pc := 72) dX12_count_72 rfl ?_
    refine g_gI (pc := 73) dX12_count_73 fI_RX12_153 xc_135 (v := (rd u 135 1)) rfl ?_
    obtain ⟨h1, h2⟩ := x_inj2 h
    subst h1
    subst h2
    exact g_iret (pc := 76) dX12_count_76 rfl rfl rfl (Nat.le_refl _) (Nat.le_refl _)
  replace h := (if_neg c1).symm.trans h
  by_cases c2 : v1 = (1 : Int32)
  · replace h := (if_pos c2).symm.trans h
    refine g_tableIn (tgt := 77) (off := 71) (pc := 6) dX12_count_6 (by rw [c2]; decide) (by rw [c2]; decide) (by rw [c2]; rfl) (by decide) ?_
    refine g_aload_n (pc := 77) dX12_count_77 rfl ?_
    refine g_gI (pc := 78) dX12_count_78 fI_RX12_175 xc_135 (v := (rd u 135 3)) rfl ?_
    obtain ⟨h1, h2⟩ := x_inj2 h
    subst h1
    subst h2
    exact g_iret (pc := 81) dX12_count_81 rfl rfl rfl (Nat.le_refl _) (Nat.le_refl _)
  replace h := (if_neg c2).symm.trans h
  by_cases c3 : v1 = (2 : Int32)
  · replace h := (if_pos c3).symm.trans h
    refine g_tableIn (tgt := 82) (off := 76) (pc := 6) dX12_count_6 (by rw [c3]; decide) (by rw [c3]; decide) (by rw [c3]; rfl) (by decide) ?_
    refine g_aload_n (pc := 82) dX12_count_82 rfl ?_
    refine g_gI (pc := 83) dX12_count_83 fI_RX12_194 xc_135 (v := (rd u 135 7)) rfl ?_
    obtain ⟨h1, h2⟩ := x_inj2 h
    subst h1
    subst h2
    exact g_iret (pc := 86) dX12_count_86 rfl rfl rfl (Nat.le_refl _) (Nat.le_refl _)
  replace h := (if_neg c3).symm.trans h
  by_cases c4 : v1 = (3 : Int32)
  · replace h := (if_pos c4).symm.trans h
    refine g_tableIn (tgt := 87) (off := 81) (pc := 6) dX12_count_6 (by rw [c4]; decide) (by rw [c4]; decide) (by rw [c4]; rfl) (by decide) ?_
    refine g_aload_n (pc := 87) dX12_count_87 rfl ?_
    refine g_gI (pc := 88) dX12_count_88 fI_RX12_229 xc_135 (v := (rd u 135 18)) rfl ?_
    obtain ⟨h1, h2⟩ := x_inj2 h
    subst h1
    subst h2
    exact g_iret (pc := 91) dX12_count_91 rfl rfl rfl (Nat.le_refl _) (Nat.le_refl _)
  replace h := (if_neg c4).symm.trans h
  by_cases c5 : v1 = (4 : Int32)
  · replace h := (if_pos c5).symm.trans h
    refine g_tableIn (tgt := 92) (off := 86) (pc := 6) dX12_count_6 (by rw [c5]; decide) (by rw [c5]; decide) (by rw [c5]; rfl) (by decide) ?_
    refine g_aload_n (pc := 92) dX12_count_92 rfl ?_
    refine g_gI (pc := 93) dX12_count_93 fI_RX12_320 xc_135 (v := (rd u 135 28)) rfl ?_
    obtain ⟨h1, h2⟩ := x_inj2 h
    subst h1
    subst h2
    exact g_iret (pc := 96) dX12_count_96 rfl rfl rfl (Nat.le_refl _) (Nat.le_refl _)
  replace h := (if_neg c5).symm.trans h
  by_cases c6 : v1 = (5 : Int32)
  · replace h := (if_pos c6).symm.trans h
    refine g_tableIn (tgt := 97) (off := 91) (pc := 6) dX12_count_6 (by rw [c6]; decide) (by rw [c6]; decide) (by rw [c6]; rfl) (by decide) ?_
    refine g_aload_n (pc := 97) dX12_count_97 rfl ?_
    obtain ⟨x8, e7, h⟩ := x_bind h
    refine g_cV (pc := 98) dX12_count_98 cV_RX12_433 (M_X12_lots (Nat.le_refl _) e7) xc_135 (as := []) (st := []) rfl rfl (Nat.le_of_ble_eq_true rfl) (Nat.le_trans (Nat.le_of_ble_eq_true rfl) hd) rfl ?_
    obtain ⟨h1, h2⟩ := x_inj2 h
    subst h1
    subst h2
    exact g_iret (pc := 101) dX12_count_101 rfl rfl rfl (Nat.le_refl _) (Nat.le_refl _)
  replace h := (if_neg c6).symm.trans h
  by_cases c9 : v1 = (6 : Int32)
  · replace h := (if_pos c9).symm.trans h
    refine g_tableIn (tgt := 102) (off := 96) (pc := 6) dX12_count_6 (by rw [c9]; decide) (by rw [c9]; decide) (by rw [c9]; rfl) (by decide) ?_
    refine g_aload_n (pc := 102) dX12_count_102 rfl ?_
    refine g_gI (pc := 103) dX12_count_103 fI_RX12_223 xc_135 (v := (rd u 135 37)) rfl ?_
    obtain ⟨h1, h2⟩ := x_inj2 h
    subst h1
    subst h2
    exact g_iret (pc := 106) dX12_count_106 rfl rfl rfl (Nat.le_refl _) (Nat.le_refl _)
  replace h := (if_neg c9).symm.trans h
  by_cases c10 : v1 = (7 : Int32)
  · replace h := (if_pos c10).symm.trans h
    refine g_tableIn (tgt := 107) (off := 101) (pc := 6) dX12_count_6 (by rw [c10]; decide) (by rw [c10]; decide) (by rw [c10]; rfl) (by decide) ?_
    refine g_aload_n (pc := 107) dX12_count_107 rfl ?_
    refine g_gI (pc := 108) dX12_count_108 fI_RX12_409 xc_135 (v := (rd u 135 46)) rfl ?_
    obtain ⟨h1, h2⟩ := x_inj2 h
    subst h1
    subst h2
    exact g_iret (pc := 111) dX12_count_111 rfl rfl rfl (Nat.le_refl _) (Nat.le_refl _)
  replace h := (if_neg c10).symm.trans h
  by_cases c11 : v1 = (8 : Int32)
  · replace h := (if_pos c11).symm.trans h
    refine g_tableIn (tgt := 112) (off := 106) (pc := 6) dX12_count_6 (by rw [c11]; decide) (by rw [c11]; decide) (by rw [c11]; rfl) (by decide) ?_
    refine g_aload_n (pc := 112) dX12_count_112 rfl ?_
    refine g_gI (pc := 113) dX12_count_113 fI_RX12_420 xc_135 (v := (rd u 135 54)) rfl ?_
    obtain ⟨h1, h2⟩ := x_inj2 h
    subst h1
    subst h2
    exact g_iret (pc := 116) dX12_count_116 rfl rfl rfl (Nat.le_refl _) (Nat.le_refl _)
  replace h := (if_neg c11).symm.trans h
  by_cases c12 : v1 = (9 : Int32)
  · replace h := (if_pos c12).symm.trans h
    refine g_tableIn (tgt := 117) (off := 111) (pc := 6) dX12_count_6 (by rw [c12]; decide) (by rw [c12]; decide) (by rw [c12]; rfl) (by decide) ?_
    refine g_aload_n (pc := 117) dX12_count_117 rfl ?_
    refine g_gI (pc := 118) dX12_count_118 fI_RX12_388 xc_135 (v := (rd u 135 43)) rfl ?_
    obtain ⟨h1, h2⟩ := x_inj2 h
    subst h1
    subst h2
    exact g_iret (pc := 121) dX12_count_121 rfl rfl rfl (Nat.le_refl _) (Nat.le_refl _)
  replace h := (if_neg c12).symm.trans h
  by_cases c13 : v1 = (10 : Int32)
  · replace h := (if_pos c13).symm.trans h
    refine g_tableIn (tgt := 122) (off := 116) (pc := 6) dX12_count_6 (by rw [c13]; decide) (by rw [c13]; decide) (by rw [c13]; rfl) (by decide) ?_
    refine g_aload_n (pc := 122) dX12_count_122 rfl ?_
    refine g_gI (pc := 123) dX12_count_123 fI_RX12_256 xc_135 (v := (rd u 135 32)) rfl ?_
    obtain ⟨h1, h2⟩ := x_inj2 h
    subst h1
    subst h2
    exact g_iret (pc := 126) dX12_count_126 rfl rfl rfl (Nat.le_refl _) (Nat.le_refl _)
  replace h := (if_neg c13).symm.trans h
  by_cases c14 : v1 = (11 : Int32)
  · replace h := (if_pos c14).symm.trans h
    refine g_tableIn (tgt := 127) (off := 121) (pc := 6) dX12_count_6 (by rw [c14]; decide) (by rw [c14]; decide) (by rw [c14]; rfl) (by decide) ?_
    refine g_aload_n (pc := 127) dX12_count_127 rfl ?_
    refine g_gI (pc := 128) dX12_count_128 fI_RX12_64 xc_135 (v := (rd u 135 24)) rfl ?_
    obtain ⟨h1, h2⟩ := x_inj2 h
    subst h1
    subst h2
    exact g_iret (pc := 131) dX12_count_131 rfl rfl rfl (Nat.le_refl _) (Nat.le_refl _)
  replace h := (if_neg c14).symm.trans h
  by_cases c15 : v1 = (12 : Int32)
  · replace h := (if_pos c15).symm.trans h
    refine g_tableIn (tgt := 132) (off := 126) (pc := 6) dX12_count_6 (by rw [c15]; decide) (by rw [c15]; decide) (by rw [c15]; rfl) (by decide) ?_
    refine g_aload_n (pc := 132) dX12_count_132 rfl ?_
    obtain ⟨x17, e16, h⟩ := x_bind h
    refine g_cV (pc := 133) dX12_count_133 cV_RX12_356 (M_X12_partsInAll (Nat.le_refl _) e16) xc_135 (as := []) (st := []) rfl rfl (Nat.le_of_ble_eq_true rfl) (Nat.le_trans (Nat.le_of_ble_eq_true rfl) hd) rfl ?_
    obtain ⟨h1, h2⟩ := x_inj2 h
    subst h1
    subst h2
    exact g_iret (pc := 136) dX12_count_136 rfl rfl rfl (Nat.le_refl _) (Nat.le_refl _)
  replace h := (if_neg c15).symm.trans h
  have c1i := i32_ne c1 (m := 0) (by decide)
  have c2i := i32_ne c2 (m := 1) (by decide)
  have c3i := i32_ne c3 (m := 2) (by decide)
  have c4i := i32_ne c4 (m := 3) (by decide)
  have c5i := i32_ne c5 (m := 4) (by decide)
  have c6i := i32_ne c6 (m := 5) (by decide)
  have c9i := i32_ne c9 (m := 6) (by decide)
  have c10i := i32_ne c10 (m := 7) (by decide)
  have c11i := i32_ne c11 (m := 8) (by decide)
  have c12i := i32_ne c12 (m := 9) (by decide)
  have c13i := i32_ne c13 (m := 10) (by decide)
  have c14i := i32_ne c14 (m := 11) (by decide)
  have c15i := i32_ne c15 (m := 12) (by decide)
  refine g_tableOut (tgt := 137) (pc := 6) dX12_count_6 (by omega) (by decide) ?_
  refine g_iconst (pc := 137) dX12_count_137 ic_m1 ?_
  obtain ⟨h1, h2⟩ := x_inj2 h
  subst h1
  subst h2
  exact g_iret (pc := 138) dX12_count_138 rfl rfl rfl (Nat.le_refl _) (Nat.le_refl _)
set_option maxRecDepth 100000 in
set_option maxHeartbeats 4000000 in
theorem M_X12_count {sc : Nat × (Nat → Int32)} {d : Nat} (hd : 2 ≤ d) {r : Int32} {u u' : xS} {a1 : Int32} (h : f_X12_count a1 u = some (r, u')) : xMt sc mX12_count d 0 0 [.ref 135, .int a1] (xL0, u) (some (.int r)) (xL0, u') :=
  xMt.of (by decide +kernel) (by decide +kernel) (Nat.le_of_ble_eq_true rfl) (L := [some (.ref 135), some (.int a1)]) rfl ((G_X12_count_0 hd a1 u h))
theorem zb_X12_isBale (u : xS) (v1 : Int32) : f_X12_isBale u v1 = 0 ∨ f_X12_isBale u v1 = 1 := by
  unfold f_X12_isBale
  repeat' first | exact Or.inl rfl | exact Or.inr rfl | exact zb_X12_in _ _ _ | apply x_ite
set_option maxRecDepth 100000 in
set_option maxHeartbeats 4000000 in
theorem G_X12_isBale_0 {sc : Nat × (Nat → Int32)} {d : Nat} (hd : 1 ≤ d) {r : Int32} {u : xS} (v1 : Int32) (h : f_X12_isBale u v1 = r) : xG sc mX12_isBale d 0 0 (xR (some (.int r)) (xL0, u) 0 0) 0 0 0 [some (.ref 135), some (.int v1)] [] (xL0, u) := by
  rw [f_X12_isBale] at h
  refine g_iload_n (pc := 0) dX12_isBale_0 rfl ?_
  refine g_i2l (pc := 1) dX12_isBale_1 rfl ?_
  refine g_lconst (v := (0 : Int64)) (pc := 2) dX12_isBale_2 rfl ?_
  refine g_aload_n (pc := 3) dX12_isBale_3 rfl ?_
  refine g_gI (pc := 4) dX12_isBale_4 fI_RX12_194 xc_135 (v := (rd u 135 7)) rfl ?_
  refine g_iconst (pc := 7) dX12_isBale_7 ic_1 ?_
  refine g_isub (pc := 8) dX12_isBale_8 rfl ?_
  refine g_i2l (pc := 9) dX12_isBale_9 rfl ?_
  refine g_cS (pc := 10) dX12_isBale_10 cS_RX12_156 (M_X12_in (Nat.le_refl _) rfl) (as := [.long ((v1).toInt64), .long (0 : Int64), .long (((rd u 135 7) - (1 : Int32)).toInt64)]) (st := []) rfl rfl (Nat.le_of_ble_eq_true rfl) (Nat.le_trans (Nat.le_of_ble_eq_true rfl) hd) rfl ?_
  subst h
  exact g_zret (pc := 13) dX12_isBale_13 rfl (zb_X12_in _ _ _) rfl rfl (Nat.le_refl _) (Nat.le_refl _)
set_option maxRecDepth 100000 in
set_option maxHeartbeats 4000000 in
theorem M_X12_isBale {sc : Nat × (Nat → Int32)} {d : Nat} (hd : 1 ≤ d) {r : Int32} {u : xS} {a1 : Int32} (h : f_X12_isBale u a1 = r) : xMt sc mX12_isBale d 0 0 [.ref 135, .int a1] (xL0, u) (some (.int r)) (xL0, u) :=
  xMt.of (by decide +kernel) (by decide +kernel) (Nat.le_of_ble_eq_true rfl) (L := [some (.ref 135), some (.int a1)]) rfl ((G_X12_isBale_0 hd a1 h))
set_option maxRecDepth 100000 in
set_option maxHeartbeats 4000000 in
theorem G_X12_says_0 {sc : Nat × (Nat → Int32)} {d : Nat} (hd : 4 ≤ d) {u' : xS} (v1 : Int32) (v2 : Int32) (u : xS) (h : f_X12_says v1 v2 u = some u') : xG sc mX12_says d 0 0 (xR none (xL0, u') 0 0) 0 0 0 [some (.ref 135), some (.int v1), some (.int v2)] [] (xL0, u) := by
  rw [f_X12_says] at h
  refine g_aload_n (pc := 0) dX12_says_0 rfl ?_
  refine g_gR (pc := 1) dX12_says_1 fR_RX12_81 xc_135 (v := 158) rfl ?_
  refine g_ldcSw 0 (pc := 4) dX12_says_4 rfl rfl ?_
  refine g_iload_n (pc := 7) dX12_says_7 rfl ?_
  obtain ⟨x2, e1, h⟩ := x_bind h
  refine g_cT 0 (pc := 8) dX12_says_8 cT_RX12_262 (M_J0_indexOf_0f7a4_t0 (Nat.le_refl _) e1) (by decide) (as := [.int v1]) (st := [.ref 158]) rfl rfl (Nat.le_of_ble_eq_true rfl) (Nat.le_trans (Nat.le_of_ble_eq_true rfl) hd) rfl ?_
  refine g_iload_n (pc := 11) dX12_says_11 rfl ?_
  obtain ⟨g3, h⟩ := x_gd h
  refine g_iastore (pc := 12) dX12_says_12 xc_158 (xin_of g3) (u' := (wr u 158 x2.toNatClampNeg v2)) rfl ?_
  replace h := Option.some.inj h
  subst h
  exact g_ret (pc := 13) dX12_says_13 rfl rfl rfl (Nat.le_refl _) (Nat.le_refl _)
set_option maxRecDepth 100000 in
set_option maxHeartbeats 4000000 in
theorem M_X12_says {sc : Nat × (Nat → Int32)} {d : Nat} (hd : 4 ≤ d) {u u' : xS} {a1 : Int32} {a2 : Int32} (h : f_X12_says a1 a2 u = some u') : xMt sc mX12_says d 0 0 [.ref 135, .int a1, .int a2] (xL0, u) none (xL0, u') :=
  xMt.of (by decide +kernel) (by decide +kernel) (Nat.le_of_ble_eq_true rfl) (L := [some (.ref 135), some (.int a1), some (.int a2)]) rfl ((G_X12_says_0 hd a1 a2 u h))
set_option maxRecDepth 100000 in
set_option maxHeartbeats 4000000 in
theorem G_X12_worked_190 {sc : Nat × (Nat → Int32)} {d : Nat} (hd : 2 ≤ d) {r : Int32} {u' : xS} (v4 : Int32) (u : xS) (h : f_X12_worked_190 v4 u = some (r, u')) : xG sc mX12_worked d 0 0 (xR (some (.int r)) (xL0, u') 0 0) 0 0 190 [some (.ref 135), none, none, none, some (.int v4), none] [] (xL0, u) := by
  rw [f_X12_worked_190] at h
  refine g_aload_n (pc := 190) dX12_worked_190 rfl ?_
  refine g_iload (pc := 191) dX12_worked_191 rfl ?_
  refine g_pI (pc := 193) dX12_worked_193 pI_RX12_331 xc_135 (u' := (wr u 135 35 v4)) rfl ?_
  refine g_aload_n (pc := 196) dX12_worked_196 rfl ?_
  refine g_gR (pc := 197) dX12_worked_197 fR_RX12_78 xc_135 (v := 157) rfl ?_
  refine g_iconst (pc := 200) dX12_worked_200 ic_0 ?_
  refine g_iaload (pc := 201) dX12_worked_201 xc_157 vin_0_64 (v := (rd u 157 0)) rfl ?_
  obtain ⟨h1, h2⟩ := x_inj2 h
  subst h1
  subst h2
  exact g_iret (pc := 202) dX12_worked_202 rfl rfl rfl (Nat.le_refl _) (Nat.le_refl _)
set_option maxRecDepth 100000 in
set_option maxHeartbeats 4000000 in
theorem G_X12_worked_184 {sc : Nat × (Nat → Int32)} {d : Nat} (hd : 2 ≤ d) {r : Int32} {u' : xS} {k5 : Int32 → Int32 → Int32 → xS → Option (Int32 × xS)} (hk5 : ∀ (v2 : Int32) (v3 : Int32) (v4 : Int32) (u : xS), k5 v2 v3 v4 u = some (r, u') → xG sc mX12_worked d 0 0 (xR (some (.int r)) (xL0, u') 0 0) 0 0 5 [some (.ref 135), none, some (.int v2), some (.int v3), some (.int v4), none] [] (xL0, u)) (v2 : Int32) (v3 : Int32) (v4 : Int32) (u : xS) (h : f_X12_worked_184 k5 v2 v3 v4 u = some (r, u')) : xG sc mX12_worked d 0 0 (xR (some (.int r)) (xL0, u') 0 0) 0 0 184 [some (.ref 135), none, some (.int v2), some (.int v3), some (.int v4), none] [] (xL0, u) := by
  rw [f_X12_worked_184] at h
  refine g_inc (pc := 184) dX12_worked_184 (Nat.le_of_ble_eq_true rfl) rfl ic_1 (L' := [some (.ref 135), none, some (.int v2), some (.int v3), some (.int (v4 + (1 : Int32))), none]) rfl ?_
  refine g_goto (tgt := 5) (pc := 187) dX12_worked_187 (by decide) ?_
  exact hk5 v2 v3 (v4 + (1 : Int32)) u h
set_option maxRecDepth 100000 in
set_option maxHeartbeats 4000000 in
theorem G_X12_worked_113 {sc : Nat × (Nat → Int32)} {d : Nat} (hd : 2 ≤ d) {r : Int32} {u' : xS} {k5 : Int32 → Int32 → Int32 → xS → Option (Int32 × xS)} (hk5 : ∀ (v2 : Int32) (v3 : Int32) (v4 : Int32) (u : xS), k5 v2 v3 v4 u = some (r, u') → xG sc mX12_worked d 0 0 (xR (some (.int r)) (xL0, u') 0 0) 0 0 5 [some (.ref 135), none, some (.int v2), some (.int v3), some (.int v4), none] [] (xL0, u)) (v2 : Int32) (v3 : Int32) (v4 : Int32) (s1 : Int32) (s2 : Int32) (u : xS) (h : f_X12_worked_113 k5 v2 v3 v4 s1 s2 u = some (r, u')) : xG sc mX12_worked d 0 0 (xR (some (.int r)) (xL0, u') 0 0) 0 0 113 [some (.ref 135), none, some (.int v2), some (.int v3), some (.int v4), none] [.int s2, .int s1, .ref 157] (xL0, u) := by
  rw [f_X12_worked_113] at h
  refine g_cS (pc := 113) dX12_worked_113 cS_RX12_190 (M_X12_truth (Nat.le_refl _) rfl) (as := [.int s2]) (st := [.int s1, .ref 157]) rfl rfl (Nat.le_of_ble_eq_true rfl) (Nat.le_trans (Nat.le_of_ble_eq_true rfl) hd) rfl ?_
  obtain ⟨g1, h⟩ := x_gd h
  refine g_iastore (pc := 116) dX12_worked_116 xc_157 (xin_of g1) (u' := (wr u 157 s1.toNatClampNeg (f_X12_truth s2))) rfl ?_
  refine g_goto (tgt := 184) (pc := 117) dX12_worked_117 (by decide) ?_
  exact G_X12_worked_184 hd hk5 v2 v3 v4 (wr u 157 s1.toNatClampNeg (f_X12_truth s2)) h
set_option maxRecDepth 100000 in
set_option maxHeartbeats 4000000 in
theorem G_X12_worked_5 {sc : Nat × (Nat → Int32)} {d : Nat} (hd : 2 ≤ d) {r : Int32} {u' : xS} : ∀ (n : Nat) (v2 : Int32) (v3 : Int32) (v4 : Int32) (u : xS), f_X12_worked_5 n v2 v3 v4 u = some (r, u') → xG sc mX12_worked d 0 0 (xR (some (.int r)) (xL0, u') 0 0) 0 0 5 [some (.ref 135), none, some (.int v2), some (.int v3), some (.int v4), none] [] (xL0, u) := by
  intro n
  induction n with
  | zero =>
    intro v2 v3 v4 u h
    rw [f_X12_worked_5] at h
    cases h
  | succ n ih =>
    intro v2 v3 v4 u h
    rw [f_X12_worked_5] at h
    refine g_iload (pc := 5) dX12_worked_5 rfl ?_
    refine g_iload_n (pc := 7) dX12_worked_7 rfl ?_
    refine g_icmp_ge (tgt := 190) (pc := 8) dX12_worked_8 (by decide) (fun c1 => ?_) (fun c1 => ?_)
    · replace h := (if_pos c1).symm.trans h
      refine g_L (L' := [some (.ref 135), none, none, none, some (.int v4), none]) ⟨rfl, ⟨rfl, trivial⟩⟩ ?_
      exact G_X12_worked_190 hd v4 u h
    · replace h := (if_neg c1).symm.trans h
      refine g_aload_n (pc := 11) dX12_worked_11 rfl ?_
      refine g_gR (pc := 12) dX12_worked_12 fR_RX12_72 xc_135 (v := 155) rfl ?_
      refine g_iload (pc := 15) dX12_worked_15 rfl ?_
      obtain ⟨g2, h⟩ := x_gd h
      refine g_iaload (pc := 17) dX12_worked_17 xc_155 (xin_of g2) (v := (rd u 155 v4.toNatClampNeg)) rfl ?_
      refine g_sipush (pc := 18) dX12_worked_18 sp_m300 ?_
      refine g_icmp_eq (tgt := 190) (pc := 21) dX12_worked_21 (by decide) (fun c3 => ?_) (fun c3 => ?_)
      · replace h := (if_pos c3).symm.trans h
        refine g_L (L' := [some (.ref 135), none, none, none, some (.int v4), none]) ⟨rfl, ⟨rfl, trivial⟩⟩ ?_
        exact G_X12_worked_190 hd v4 u h
      · replace h := (if_neg c3).symm.trans h
        refine g_aload_n (pc := 24) dX12_worked_24 rfl ?_
        refine g_gR (pc := 25) dX12_worked_25 fR_RX12_72 xc_135 (v := 155) rfl ?_
        refine g_iload (pc := 28) dX12_worked_28 rfl ?_
        refine g_iaload (pc := 30) dX12_worked_30 xc_155 (xin_of g2) (v := (rd u 155 v4.toNatClampNeg)) rfl ?_
        refine g_istore (pc := 31) dX12_worked_31 (Nat.le_of_ble_eq_true rfl) (L' := [some (.ref 135), none, some (.int v2), some (.int v3), some (.int v4), some (.int (rd u 155 v4.toNatClampNeg))]) rfl ?_
        refine g_iload (pc := 33) dX12_worked_33 rfl ?_
        refine g_if_lt (tgt := 52) (pc := 35) dX12_worked_35 (by decide) (fun c4 => ?_) (fun c4 => ?_)
        · replace h := (if_pos c4).symm.trans h
          refine g_iload (pc := 52) dX12_worked_52 rfl ?_
          refine g_bipush (pc := 54) dX12_worked_54 bp_m16 ?_
          refine g_icmp_lt (tgt := 80) (pc := 56) dX12_worked_56 (by decide) (fun c5 => ?_) (fun c5 => ?_)
          · replace h := (if_pos c5).symm.trans h
            refine g_iload (pc := 80) dX12_worked_80 rfl ?_
            refine g_bipush (pc := 82) dX12_worked_82 bp_33 ?_
            refine g_cS (pc := 84) dX12_worked_84 cS_RX12_297 (M_X12_act (Nat.le_refl _) rfl) (as := [.int (33 : Int32)]) (st := [.int (rd u 155 v4.toNatClampNeg)]) rfl rfl (Nat.le_of_ble_eq_true rfl) (Nat.le_trans (Nat.le_of_ble_eq_true rfl) hd) rfl ?_
            refine g_icmp_ne (tgt := 120) (pc := 87) dX12_worked_87 (by decide) (fun c6 => ?_) (fun c6 => ?_)
            · replace h := (if_neg c6).symm.trans h
              refine g_iload (pc := 120) dX12_worked_120 rfl ?_
              refine g_bipush (pc := 122) dX12_worked_122 bp_126 ?_
              refine g_cS (pc := 124) dX12_worked_124 cS_RX12_297 (M_X12_act (Nat.le_refl _) rfl) (as := [.int (126 : Int32)]) (st := [.int (rd u 155 v4.toNatClampNeg)]) rfl rfl (Nat.le_of_ble_eq_true rfl) (Nat.le_trans (Nat.le_of_ble_eq_true rfl) hd) rfl ?_
              refine g_icmp_ne (tgt := 150) (pc := 127) dX12_worked_127 (by decide) (fun c7 => ?_) (fun c7 => ?_)
              · replace h := (if_neg c7).symm.trans h
                refine g_inc (pc := 150) dX12_worked_150 (Nat.le_of_ble_eq_true rfl) rfl ic_m1 (L' := [some (.ref 135), none, some (.int v2), some (.int (v3 + (-1 : Int32))), some (.int v4), some (.int (rd u 155 v4.toNatClampNeg))]) rfl ?_
                refine g_aload_n (pc := 153) dX12_worked_153 rfl ?_
                refine g_gR (pc := 154) dX12_worked_154 fR_RX12_78 xc_135 (v := 157) rfl ?_
                refine g_iload_n (pc := 157) dX12_worked_157 rfl ?_
                refine g_iconst (pc := 158) dX12_worked_158 ic_1 ?_
                refine g_isub (pc := 159) dX12_worked_159 rfl ?_
                refine g_iload (pc := 160) dX12_worked_160 rfl ?_
                refine g_sipush (pc := 162) dX12_worked_162 sp_200 ?_
                refine g_iadd (pc := 165) dX12_worked_165 rfl ?_
                refine g_aload_n (pc := 166) dX12_worked_166 rfl ?_
                refine g_gR (pc := 167) dX12_worked_167 fR_RX12_78 xc_135 (v := 157) rfl ?_
                refine g_iload_n (pc := 170) dX12_worked_170 rfl ?_
                refine g_iconst (pc := 171) dX12_worked_171 ic_1 ?_
                refine g_isub (pc := 172) dX12_worked_172 rfl ?_
                obtain ⟨g8, h⟩ := x_gd h
                refine g_iaload (pc := 173) dX12_worked_173 xc_157 (xin_of g8) (v := (rd u 157 ((v3 + (-1 : Int32)) - (1 : Int32)).toNatClampNeg)) rfl ?_
                refine g_aload_n (pc := 174) dX12_worked_174 rfl ?_
                refine g_gR (pc := 175) dX12_worked_175 fR_RX12_78 xc_135 (v := 157) rfl ?_
                refine g_iload_n (pc := 178) dX12_worked_178 rfl ?_
                obtain ⟨g9, h⟩ := x_gd h
                refine g_iaload (pc := 179) dX12_worked_179 xc_157 (xin_of g9) (v := (rd u 157 (v3 + (-1 : Int32)).toNatClampNeg)) rfl ?_
                obtain ⟨x11, e10, h⟩ := x_bind h
                refine g_cS (pc := 180) dX12_worked_180 cS_RX12_327 (M_X12_acted (Nat.le_refl _) e10) (as := [.int ((rd u 155 v4.toNatClampNeg) + (200 : Int32)), .int (rd u 157 ((v3 + (-1 : Int32)) - (1 : Int32)).toNatClampNeg), .int (rd u 157 (v3 + (-1 : Int32)).toNatClampNeg)]) (st := [.int ((v3 + (-1 : Int32)) - (1 : Int32)), .ref 157]) rfl rfl (Nat.le_of_ble_eq_true rfl) (Nat.le_trans (Nat.le_of_ble_eq_true rfl) hd) rfl ?_
                refine g_iastore (pc := 183) dX12_worked_183 xc_157 (xin_of g8) (u' := (wr u 157 ((v3 + (-1 : Int32)) - (1 : Int32)).toNatClampNeg x11)) rfl ?_
                refine g_L (L' := [some (.ref 135), none, some (.int v2), some (.int (v3 + (-1 : Int32))), some (.int v4), none]) ⟨rfl, ⟨rfl, ⟨rfl, ⟨rfl, trivial⟩⟩⟩⟩ ?_
                exact G_X12_worked_184 hd ih v2 (v3 + (-1 : Int32)) v4 (wr u 157 ((v3 + (-1 : Int32)) - (1 : Int32)).toNatClampNeg x11) h
              · replace h := (if_pos c7).symm.trans h
                refine g_aload_n (pc := 130) dX12_worked_130 rfl ?_
                refine g_gR (pc := 131) dX12_worked_131 fR_RX12_78 xc_135 (v := 157) rfl ?_
                refine g_iload_n (pc := 134) dX12_worked_134 rfl ?_
                refine g_iconst (pc := 135) dX12_worked_135 ic_1 ?_
                refine g_isub (pc := 136) dX12_worked_136 rfl ?_
                refine g_aload_n (pc := 137) dX12_worked_137 rfl ?_
                refine g_gR (pc := 138) dX12_worked_138 fR_RX12_78 xc_135 (v := 157) rfl ?_
                refine g_iload_n (pc := 141) dX12_worked_141 rfl ?_
                refine g_iconst (pc := 142) dX12_worked_142 ic_1 ?_
                refine g_isub (pc := 143) dX12_worked_143 rfl ?_
                obtain ⟨g12, h⟩ := x_gd h
                refine g_iaload (pc := 144) dX12_worked_144 xc_157 (xin_of g12) (v := (rd u 157 (v3 - (1 : Int32)).toNatClampNeg)) rfl ?_
                refine g_ineg (pc := 145) dX12_worked_145 rfl ?_
                refine g_iastore (pc := 146) dX12_worked_146 xc_157 (xin_of g12) (u' := (wr u 157 (v3 - (1 : Int32)).toNatClampNeg (-(rd u 157 (v3 - (1 : Int32)).toNatClampNeg)))) rfl ?_
                refine g_goto (tgt := 184) (pc := 147) dX12_worked_147 (by decide) ?_
                refine g_L (L' := [some (.ref 135), none, some (.int v2), some (.int v3), some (.int v4), none]) ⟨rfl, ⟨rfl, ⟨rfl, ⟨rfl, trivial⟩⟩⟩⟩ ?_
                exact G_X12_worked_184 hd ih v2 v3 v4 (wr u 157 (v3 - (1 : Int32)).toNatClampNeg (-(rd u 157 (v3 - (1 : Int32)).toNatClampNeg))) h
            · replace h := (if_pos c6).symm.trans h
              refine g_aload_n (pc := 90) dX12_worked_90 rfl ?_
              refine g_gR (pc := 91) dX12_worked_91 fR_RX12_78 xc_135 (v := 157) rfl ?_
              refine g_iload_n (pc := 94) dX12_worked_94 rfl ?_
              refine g_iconst (pc := 95) dX12_worked_95 ic_1 ?_
              refine g_isub (pc := 96) dX12_worked_96 rfl ?_
              refine g_aload_n (pc := 97) dX12_worked_97 rfl ?_
              refine g_gR (pc := 98) dX12_worked_98 fR_RX12_78 xc_135 (v := 157) rfl ?_
              refine g_iload_n (pc := 101) dX12_worked_101 rfl ?_
              refine g_iconst (pc := 102) dX12_worked_102 ic_1 ?_
              refine g_isub (pc := 103) dX12_worked_103 rfl ?_
              obtain ⟨g13, h⟩ := x_gd h
              refine g_iaload (pc := 104) dX12_worked_104 xc_157 (xin_of g13) (v := (rd u 157 (v3 - (1 : Int32)).toNatClampNeg)) rfl ?_
              refine g_if_ne (tgt := 112) (pc := 105) dX12_worked_105 (by decide) (fun c14 => ?_) (fun c14 => ?_)
              · replace h := (if_neg c14).symm.trans h
                refine g_iconst (pc := 112) dX12_worked_112 ic_0 ?_
                refine g_L (L' := [some (.ref 135), none, some (.int v2), some (.int v3), some (.int v4), none]) ⟨rfl, ⟨rfl, ⟨rfl, ⟨rfl, trivial⟩⟩⟩⟩ ?_
                exact G_X12_worked_113 hd ih v2 v3 v4 (v3 - (1 : Int32)) (0 : Int32) u h
              · replace h := (if_pos c14).symm.trans h
                refine g_iconst (pc := 108) dX12_worked_108 ic_1 ?_
                refine g_goto (tgt := 113) (pc := 109) dX12_worked_109 (by decide) ?_
                refine g_L (L' := [some (.ref 135), none, some (.int v2), some (.int v3), some (.int v4), none]) ⟨rfl, ⟨rfl, ⟨rfl, ⟨rfl, trivial⟩⟩⟩⟩ ?_
                exact G_X12_worked_113 hd ih v2 v3 v4 (v3 - (1 : Int32)) (1 : Int32) u h
          · replace h := (if_neg c5).symm.trans h
            refine g_aload_n (pc := 59) dX12_worked_59 rfl ?_
            refine g_gR (pc := 60) dX12_worked_60 fR_RX12_78 xc_135 (v := 157) rfl ?_
            refine g_iload_n (pc := 63) dX12_worked_63 rfl ?_
            refine g_aload_n (pc := 64) dX12_worked_64 rfl ?_
            refine g_gR (pc := 65) dX12_worked_65 fR_RX12_81 xc_135 (v := 158) rfl ?_
            refine g_iconst (pc := 68) dX12_worked_68 ic_m1 ?_
            refine g_iload (pc := 69) dX12_worked_69 rfl ?_
            refine g_isub (pc := 71) dX12_worked_71 rfl ?_
            obtain ⟨g15, h⟩ := x_gd h
            refine g_iaload (pc := 72) dX12_worked_72 xc_158 (xin_of g15) (v := (rd u 158 ((-1 : Int32) - (rd u 155 v4.toNatClampNeg)).toNatClampNeg)) rfl ?_
            obtain ⟨g16, h⟩ := x_gd h
            refine g_iastore (pc := 73) dX12_worked_73 xc_157 (xin_of g16) (u' := (wr u 157 v3.toNatClampNeg (rd u 158 ((-1 : Int32) - (rd u 155 v4.toNatClampNeg)).toNatClampNeg))) rfl ?_
            refine g_inc (pc := 74) dX12_worked_74 (Nat.le_of_ble_eq_true rfl) rfl ic_1 (L' := [some (.ref 135), none, some (.int v2), some (.int (v3 + (1 : Int32))), some (.int v4), some (.int (rd u 155 v4.toNatClampNeg))]) rfl ?_
            refine g_goto (tgt := 184) (pc := 77) dX12_worked_77 (by decide) ?_
            refine g_L (L' := [some (.ref 135), none, some (.int v2), some (.int (v3 + (1 : Int32))), some (.int v4), none]) ⟨rfl, ⟨rfl, ⟨rfl, ⟨rfl, trivial⟩⟩⟩⟩ ?_
            exact G_X12_worked_184 hd ih v2 (v3 + (1 : Int32)) v4 (wr u 157 v3.toNatClampNeg (rd u 158 ((-1 : Int32) - (rd u 155 v4.toNatClampNeg)).toNatClampNeg)) h
        · replace h := (if_neg c4).symm.trans h
          refine g_aload_n (pc := 38) dX12_worked_38 rfl ?_
          refine g_gR (pc := 39) dX12_worked_39 fR_RX12_78 xc_135 (v := 157) rfl ?_
          refine g_iload_n (pc := 42) dX12_worked_42 rfl ?_
          refine g_iload (pc := 43) dX12_worked_43 rfl ?_
          obtain ⟨g17, h⟩ := x_gd h
          refine g_iastore (pc := 45) dX12_worked_45 xc_157 (xin_of g17) (u' := (wr u 157 v3.toNatClampNeg (rd u 155 v4.toNatClampNeg))) rfl ?_
          refine g_inc (pc := 46) dX12_worked_46 (Nat.le_of_ble_eq_true rfl) rfl ic_1 (L' := [some (.ref 135), none, some (.int v2), some (.int (v3 + (1 : Int32))), some (.int v4), some (.int (rd u 155 v4.toNatClampNeg))]) rfl ?_
          refine g_goto (tgt := 184) (pc := 49) dX12_worked_49 (by decide) ?_
          refine g_L (L' := [some (.ref 135), none, some (.int v2), some (.int (v3 + (1 : Int32))), some (.int v4), none]) ⟨rfl, ⟨rfl, ⟨rfl, ⟨rfl, trivial⟩⟩⟩⟩ ?_
          exact G_X12_worked_184 hd ih v2 (v3 + (1 : Int32)) v4 (wr u 157 v3.toNatClampNeg (rd u 155 v4.toNatClampNeg)) h
set_option maxRecDepth 100000 in
set_option maxHeartbeats 4000000 in
theorem G_X12_worked_0 {sc : Nat × (Nat → Int32)} {d : Nat} (hd : 2 ≤ d) {r : Int32} {u' : xS} (v1 : Int32) (v2 : Int32) (u : xS) (h : f_X12_worked v1 v2 u = some (r, u')) : xG sc mX12_worked d 0 0 (xR (some (.int r)) (xL0, u') 0 0) 0 0 0 [some (.ref 135), some (.int v1), some (.int v2), none, none, none] [] (xL0, u) := by
  rw [f_X12_worked] at h
  refine g_iconst (pc := 0) dX12_worked_0 ic_0 ?_
  refine g_istore_n (pc := 1) dX12_worked_1 (Nat.le_of_ble_eq_true rfl) (L' := [some (.ref 135), some (.int v1), some (.int v2), some (.int (0 : Int32)), none, none]) rfl ?_
  refine g_iload_n (pc := 2) dX12_worked_2 rfl ?_
  refine g_istore (pc := 3) dX12_worked_3 (Nat.le_of_ble_eq_true rfl) (L' := [some (.ref 135), some (.int v1), some (.int v2), some (.int (0 : Int32)), some (.int v1), none]) rfl ?_
  refine g_L (L' := [some (.ref 135), none, some (.int v2), some (.int (0 : Int32)), some (.int v1), none]) ⟨rfl, ⟨rfl, ⟨rfl, ⟨rfl, trivial⟩⟩⟩⟩ ?_
  exact G_X12_worked_5 hd xN v2 (0 : Int32) v1 u h
set_option maxRecDepth 100000 in
set_option maxHeartbeats 4000000 in
theorem M_X12_worked {sc : Nat × (Nat → Int32)} {d : Nat} (hd : 2 ≤ d) {r : Int32} {u u' : xS} {a1 : Int32} {a2 : Int32} (h : f_X12_worked a1 a2 u = some (r, u')) : xMt sc mX12_worked d 0 0 [.ref 135, .int a1, .int a2] (xL0, u) (some (.int r)) (xL0, u') :=
  xMt.of (by decide +kernel) (by decide +kernel) (Nat.le_of_ble_eq_true rfl) (L := [some (.ref 135), some (.int a1), some (.int a2), none, none, none]) rfl ((G_X12_worked_0 hd a1 a2 u h))
set_option maxRecDepth 100000 in
set_option maxHeartbeats 4000000 in
theorem G_X12_value_0 {sc : Nat × (Nat → Int32)} {d : Nat} (hd : 3 ≤ d) {r : Int32} {u' : xS} (v1 : Int32) (u : xS) (h : f_X12_value v1 u = some (r, u')) : xG sc mX12_value d 0 0 (xR (some (.int r)) (xL0, u') 0 0) 0 0 0 [some (.ref 135), some (.int v1)] [] (xL0, u) := by
  rw [f_X12_value] at h
  refine g_aload_n (pc := 0) dX12_value_0 rfl ?_
  refine g_bipush (pc := 1) dX12_value_1 bp_64 ?_
  refine g_iload_n (pc := 3) dX12_value_3 rfl ?_
  refine g_imul (pc := 4) dX12_value_4 rfl ?_
  refine g_bipush (pc := 5) dX12_value_5 bp_64 ?_
  refine g_iload_n (pc := 7) dX12_value_7 rfl ?_
  refine g_imul (pc := 8) dX12_value_8 rfl ?_
  refine g_aload_n (pc := 9) dX12_value_9 rfl ?_
  refine g_gR (pc := 10) dX12_value_10 fR_RX12_75 xc_135 (v := 156) rfl ?_
  refine g_iload_n (pc := 13) dX12_value_13 rfl ?_
  obtain ⟨g1, h⟩ := x_gd h
  refine g_iaload (pc := 14) dX12_value_14 xc_156 (xin_of g1) (v := (rd u 156 v1.toNatClampNeg)) rfl ?_
  refine g_iadd (pc := 15) dX12_value_15 rfl ?_
  obtain ⟨⟨x3, u4⟩, e2, h⟩ := x_bind h
  dsimp only at h
  refine g_cV (pc := 16) dX12_value_16 cV_RX12_334 (M_X12_worked (Nat.le_refl _) e2) xc_135 (as := [.int ((64 : Int32) * v1), .int (((64 : Int32) * v1) + (rd u 156 v1.toNatClampNeg))]) (st := []) rfl rfl (Nat.le_of_ble_eq_true rfl) (Nat.le_trans (Nat.le_of_ble_eq_true rfl) hd) rfl ?_
  obtain ⟨h1, h2⟩ := x_inj2 h
  subst h1
  subst h2
  exact g_iret (pc := 19) dX12_value_19 rfl rfl rfl (Nat.le_refl _) (Nat.le_refl _)
set_option maxRecDepth 100000 in
set_option maxHeartbeats 4000000 in
theorem M_X12_value {sc : Nat × (Nat → Int32)} {d : Nat} (hd : 3 ≤ d) {r : Int32} {u u' : xS} {a1 : Int32} (h : f_X12_value a1 u = some (r, u')) : xMt sc mX12_value d 0 0 [.ref 135, .int a1] (xL0, u) (some (.int r)) (xL0, u') :=
  xMt.of (by decide +kernel) (by decide +kernel) (Nat.le_of_ble_eq_true rfl) (L := [some (.ref 135), some (.int a1)]) rfl ((G_X12_value_0 hd a1 u h))
set_option maxRecDepth 100000 in
set_option maxHeartbeats 4000000 in
theorem G_X12_hush_2 {sc : Nat × (Nat → Int32)} {d : Nat} (hd : 0 ≤ d) {u' : xS} : ∀ (n : Nat) (v1 : Int32) (u : xS), f_X12_hush_2 n v1 u = some u' → xG sc mX12_hush d 0 0 (xR none (xL0, u') 0 0) 0 0 2 [some (.ref 135), some (.int v1)] [] (xL0, u) := by
  intro n
  induction n with
  | zero =>
    intro v1 u h
    rw [f_X12_hush_2] at h
    cases h
  | succ n ih =>
    intro v1 u h
    rw [f_X12_hush_2] at h
    refine g_iload_n (pc := 2) dX12_hush_2 rfl ?_
    refine g_aload_n (pc := 3) dX12_hush_3 rfl ?_
    refine g_gR (pc := 4) dX12_hush_4 fR_RX12_81 xc_135 (v := 158) rfl ?_
    refine g_alen (pc := 7) dX12_hush_7 xc_158 (by decide) (v := (16 : Int32)) (by decide) ?_
    refine g_icmp_ge (tgt := 24) (pc := 8) dX12_hush_8 (by decide) (fun c1 => ?_) (fun c1 => ?_)
    · replace h := (if_pos c1).symm.trans h
      replace h := Option.some.inj h
      subst h
      exact g_ret (pc := 24) dX12_hush_24 rfl rfl rfl (Nat.le_refl _) (Nat.le_refl _)
    · replace h := (if_neg c1).symm.trans h
      refine g_aload_n (pc := 11) dX12_hush_11 rfl ?_
      refine g_gR (pc := 12) dX12_hush_12 fR_RX12_81 xc_135 (v := 158) rfl ?_
      refine g_iload_n (pc := 15) dX12_hush_15 rfl ?_
      refine g_iconst (pc := 16) dX12_hush_16 ic_0 ?_
      obtain ⟨g2, h⟩ := x_gd h
      refine g_iastore (pc := 17) dX12_hush_17 xc_158 (xin_of g2) (u' := (wr u 158 v1.toNatClampNeg (0 : Int32))) rfl ?_
      refine g_inc (pc := 18) dX12_hush_18 (Nat.le_of_ble_eq_true rfl) rfl ic_1 (L' := [some (.ref 135), some (.int (v1 + (1 : Int32)))]) rfl ?_
      refine g_goto (tgt := 2) (pc := 21) dX12_hush_21 (by decide) ?_
      exact ih (v1 + (1 : Int32)) (wr u 158 v1.toNatClampNeg (0 : Int32)) h
set_option maxRecDepth 100000 in
set_option maxHeartbeats 4000000 in
theorem G_X12_hush_0 {sc : Nat × (Nat → Int32)} {d : Nat} (hd : 0 ≤ d) {u' : xS} (u : xS) (h : f_X12_hush u = some u') : xG sc mX12_hush d 0 0 (xR none (xL0, u') 0 0) 0 0 0 [some (.ref 135), none] [] (xL0, u) := by
  rw [f_X12_hush] at h
  refine g_iconst (pc := 0) dX12_hush_0 ic_0 ?_
  refine g_istore_n (pc := 1) dX12_hush_1 (Nat.le_of_ble_eq_true rfl) (L' := [some (.ref 135), some (.int (0 : Int32))]) rfl ?_
  exact G_X12_hush_2 hd xN (0 : Int32) u h
set_option maxRecDepth 100000 in
set_option maxHeartbeats 4000000 in
theorem M_X12_hush {sc : Nat × (Nat → Int32)} {d : Nat} (hd : 0 ≤ d) {u u' : xS} (h : f_X12_hush u = some u') : xMt sc mX12_hush d 0 0 [.ref 135] (xL0, u) none (xL0, u') :=
  xMt.of (by decide +kernel) (by decide +kernel) (Nat.le_of_ble_eq_true rfl) (L := [some (.ref 135), none]) rfl ((G_X12_hush_0 hd u h))
set_option maxRecDepth 100000 in
set_option maxHeartbeats 4000000 in
theorem G_X12_found_4 {sc : Nat × (Nat → Int32)} {d : Nat} (hd : 0 ≤ d) {r : Int32} {u : xS} : ∀ (n : Nat) (v1 : Int32) (v2 : Int32) (v3 : Int32), f_X12_found_4 u n v1 v2 v3 = some r → xG sc mX12_found d 0 0 (xR (some (.int r)) (xL0, u) 0 0) 0 0 4 [some (.ref 135), some (.int v1), some (.int v2), some (.int v3)] [] (xL0, u) := by
  intro n
  induction n with
  | zero =>
    intro v1 v2 v3 h
    rw [f_X12_found_4] at h
    cases h
  | succ n ih =>
    intro v1 v2 v3 h
    rw [f_X12_found_4] at h
    refine g_iload_n (pc := 4) dX12_found_4 rfl ?_
    refine g_aload_n (pc := 5) dX12_found_5 rfl ?_
    refine g_gI (pc := 6) dX12_found_6 fI_RX12_153 xc_135 (v := (rd u 135 1)) rfl ?_
    refine g_icmp_ge (tgt := 32) (pc := 9) dX12_found_9 (by decide) (fun c1 => ?_) (fun c1 => ?_)
    · replace h := (if_pos c1).symm.trans h
      refine g_iload_n (pc := 32) dX12_found_32 rfl ?_
      replace h := Option.some.inj h
      subst h
      exact g_iret (pc := 33) dX12_found_33 rfl rfl rfl (Nat.le_refl _) (Nat.le_refl _)
    · replace h := (if_neg c1).symm.trans h
      refine g_iload_n (pc := 12) dX12_found_12 rfl ?_
      refine g_aload_n (pc := 13) dX12_found_13 rfl ?_
      refine g_gR (pc := 14) dX12_found_14 fR_RX12_40 xc_135 (v := 146) rfl ?_
      refine g_bipush (pc := 17) dX12_found_17 bp_24 ?_
      refine g_iload_n (pc := 19) dX12_found_19 rfl ?_
      refine g_imul (pc := 20) dX12_found_20 rfl ?_
      refine g_iload_n (pc := 21) dX12_found_21 rfl ?_
      refine g_iadd (pc := 22) dX12_found_22 rfl ?_
      obtain ⟨g2, h⟩ := x_gd h
      refine g_iaload (pc := 23) dX12_found_23 xc_146 (xin_of g2) (v := (rd u 146 (((24 : Int32) * v3) + v1).toNatClampNeg)) rfl ?_
      refine g_iadd (pc := 24) dX12_found_24 rfl ?_
      refine g_istore_n (pc := 25) dX12_found_25 (Nat.le_of_ble_eq_true rfl) (L' := [some (.ref 135), some (.int v1), some (.int (v2 + (rd u 146 (((24 : Int32) * v3) + v1).toNatClampNeg))), some (.int v3)]) rfl ?_
      refine g_inc (pc := 26) dX12_found_26 (Nat.le_of_ble_eq_true rfl) rfl ic_1 (L' := [some (.ref 135), some (.int v1), some (.int (v2 + (rd u 146 (((24 : Int32) * v3) + v1).toNatClampNeg))), some (.int (v3 + (1 : Int32)))]) rfl ?_
      refine g_goto (tgt := 4) (pc := 29) dX12_found_29 (by decide) ?_
      exact ih v1 (v2 + (rd u 146 (((24 : Int32) * v3) + v1).toNatClampNeg)) (v3 + (1 : Int32)) h
set_option maxRecDepth 100000 in
set_option maxHeartbeats 4000000 in
theorem G_X12_found_0 {sc : Nat × (Nat → Int32)} {d : Nat} (hd : 0 ≤ d) {r : Int32} {u : xS} (v1 : Int32) (h : f_X12_found u v1 = some r) : xG sc mX12_found d 0 0 (xR (some (.int r)) (xL0, u) 0 0) 0 0 0 [some (.ref 135), some (.int v1), none, none] [] (xL0, u) := by
  rw [f_X12_found] at h
  refine g_iconst (pc := 0) dX12_found_0 ic_0 ?_
  refine g_istore_n (pc := 1) dX12_found_1 (Nat.le_of_ble_eq_true rfl) (L' := [some (.ref 135), some (.int v1), some (.int (0 : Int32)), none]) rfl ?_
  refine g_iconst (pc := 2) dX12_found_2 ic_0 ?_
  refine g_istore_n (pc := 3) dX12_found_3 (Nat.le_of_ble_eq_true rfl) (L' := [some (.ref 135), some (.int v1), some (.int (0 : Int32)), some (.int (0 : Int32))]) rfl ?_
  exact G_X12_found_4 hd xN v1 (0 : Int32) (0 : Int32) h
set_option maxRecDepth 100000 in
set_option maxHeartbeats 4000000 in
theorem M_X12_found {sc : Nat × (Nat → Int32)} {d : Nat} (hd : 0 ≤ d) {r : Int32} {u : xS} {a1 : Int32} (h : f_X12_found u a1 = some r) : xMt sc mX12_found d 0 0 [.ref 135, .int a1] (xL0, u) (some (.int r)) (xL0, u) :=
  xMt.of (by decide +kernel) (by decide +kernel) (Nat.le_of_ble_eq_true rfl) (L := [some (.ref 135), some (.int a1), none, none]) rfl ((G_X12_found_0 hd a1 h))
set_option maxRecDepth 100000 in
set_option maxHeartbeats 4000000 in
theorem G_X12_dust_0 {sc : Nat × (Nat → Int32)} {d : Nat} (hd : 1 ≤ d) {r : Int32} {u : xS} (v1 : Int32) (h : f_X12_dust u v1 = some r) : xG sc mX12_dust d 0 0 (xR (some (.int r)) (xL0, u) 0 0) 0 0 0 [some (.ref 135), some (.int v1)] [] (xL0, u) := by
  rw [f_X12_dust] at h
  refine g_aload_n (pc := 0) dX12_dust_0 rfl ?_
  refine g_gR (pc := 1) dX12_dust_1 fR_RX12_28 xc_135 (v := 142) rfl ?_
  refine g_iload_n (pc := 4) dX12_dust_4 rfl ?_
  obtain ⟨g1, h⟩ := x_gd h
  refine g_iaload (pc := 5) dX12_dust_5 xc_142 (xin_of g1) (v := (rd u 142 v1.toNatClampNeg)) rfl ?_
  refine g_aload_n (pc := 6) dX12_dust_6 rfl ?_
  refine g_iload_n (pc := 7) dX12_dust_7 rfl ?_
  obtain ⟨x3, e2, h⟩ := x_bind h
  refine g_cV (pc := 8) dX12_dust_8 cV_RX12_220 (M_X12_found (Nat.le_refl _) e2) xc_135 (as := [.int v1]) (st := [.int (rd u 142 v1.toNatClampNeg)]) rfl rfl (Nat.le_of_ble_eq_true rfl) (Nat.le_trans (Nat.le_of_ble_eq_true rfl) hd) rfl ?_
  refine g_isub (pc := 11) dX12_dust_11 rfl ?_
  replace h := Option.some.inj h
  subst h
  exact g_iret (pc := 12) dX12_dust_12 rfl rfl rfl (Nat.le_refl _) (Nat.le_refl _)
set_option maxRecDepth 100000 in
set_option maxHeartbeats 4000000 in
theorem M_X12_dust {sc : Nat × (Nat → Int32)} {d : Nat} (hd : 1 ≤ d) {r : Int32} {u : xS} {a1 : Int32} (h : f_X12_dust u a1 = some r) : xMt sc mX12_dust d 0 0 [.ref 135, .int a1] (xL0, u) (some (.int r)) (xL0, u) :=
  xMt.of (by decide +kernel) (by decide +kernel) (Nat.le_of_ble_eq_true rfl) (L := [some (.ref 135), some (.int a1)]) rfl ((G_X12_dust_0 hd a1 h))
set_option maxRecDepth 100000 in
set_option maxHeartbeats 4000000 in
theorem G_X12_lookOf_73 {sc : Nat × (Nat → Int32)} {d : Nat} (hd : 0 ≤ d) {r : Int32} {u : xS} {k5 : Int32 → Int32 → Int32 → Int32 → Option Int32} (hk5 : ∀ (v1 : Int32) (v2 : Int32) (v3 : Int32) (v4 : Int32), k5 v1 v2 v3 v4 = some r → xG sc mX12_lookOf d 0 0 (xR (some (.int r)) (xL0, u) 0 0) 0 0 5 [some (.ref 135), some (.int v1), some (.int v2), some (.int v3), some (.int v4)] [] (xL0, u)) (v1 : Int32) (v2 : Int32) (v3 : Int32) (v4 : Int32) (h : f_X12_lookOf_73 k5 u v1 v2 v3 v4 = some r) : xG sc mX12_lookOf d 0 0 (xR (some (.int r)) (xL0, u) 0 0) 0 0 73 [some (.ref 135), some (.int v1), some (.int v2), some (.int v3), some (.int v4)] [] (xL0, u) := by
  rw [f_X12_lookOf_73] at h
  refine g_inc (pc := 73) dX12_lookOf_73 (Nat.le_of_ble_eq_true rfl) rfl ic_1 (L' := [some (.ref 135), some (.int v1), some (.int v2), some (.int v3), some (.int (v4 + (1 : Int32)))]) rfl ?_
  refine g_goto (tgt := 5) (pc := 76) dX12_lookOf_76 (by decide) ?_
  exact hk5 v1 v2 v3 (v4 + (1 : Int32)) h
set_option maxRecDepth 100000 in
set_option maxHeartbeats 4000000 in
theorem G_X12_lookOf_70 {sc : Nat × (Nat → Int32)} {d : Nat} (hd : 0 ≤ d) {r : Int32} {u : xS} {k5 : Int32 → Int32 → Int32 → Int32 → Option Int32} (hk5 : ∀ (v1 : Int32) (v2 : Int32) (v3 : Int32) (v4 : Int32), k5 v1 v2 v3 v4 = some r → xG sc mX12_lookOf d 0 0 (xR (some (.int r)) (xL0, u) 0 0) 0 0 5 [some (.ref 135), some (.int v1), some (.int v2), some (.int v3), some (.int v4)] [] (xL0, u)) (v1 : Int32) (v2 : Int32) (v4 : Int32) (h : f_X12_lookOf_70 k5 u v1 v2 v4 = some r) : xG sc mX12_lookOf d 0 0 (xR (some (.int r)) (xL0, u) 0 0) 0 0 70 [some (.ref 135), some (.int v1), some (.int v2), none, some (.int v4)] [] (xL0, u) := by
  rw [f_X12_lookOf_70] at h
  refine g_iload (pc := 70) dX12_lookOf_70 rfl ?_
  refine g_istore_n (pc := 72) dX12_lookOf_72 (Nat.le_of_ble_eq_true rfl) (L' := [some (.ref 135), some (.int v1), some (.int v2), some (.int v4), some (.int v4)]) rfl ?_
  exact G_X12_lookOf_73 hd hk5 v1 v2 v4 v4 h
set_option maxRecDepth 100000 in
set_option maxHeartbeats 4000000 in
theorem G_X12_lookOf_5 {sc : Nat × (Nat → Int32)} {d : Nat} (hd : 0 ≤ d) {r : Int32} {u : xS} : ∀ (n : Nat) (v1 : Int32) (v2 : Int32) (v3 : Int32) (v4 : Int32), f_X12_lookOf_5 u n v1 v2 v3 v4 = some r → xG sc mX12_lookOf d 0 0 (xR (some (.int r)) (xL0, u) 0 0) 0 0 5 [some (.ref 135), some (.int v1), some (.int v2), some (.int v3), some (.int v4)] [] (xL0, u) := by
  intro n
  induction n with
  | zero =>
    intro v1 v2 v3 v4 h
    rw [f_X12_lookOf_5] at h
    cases h
  | succ n ih =>
    intro v1 v2 v3 v4 h
    rw [f_X12_lookOf_5] at h
    refine g_iload (pc := 5) dX12_lookOf_5 rfl ?_
    refine g_aload_n (pc := 7) dX12_lookOf_7 rfl ?_
    refine g_gI (pc := 8) dX12_lookOf_8 fI_RX12_229 xc_135 (v := (rd u 135 18)) rfl ?_
    refine g_icmp_ge (tgt := 79) (pc := 11) dX12_lookOf_11 (by decide) (fun c1 => ?_) (fun c1 => ?_)
    · replace h := (if_pos c1).symm.trans h
      refine g_iload_n (pc := 79) dX12_lookOf_79 rfl ?_
      replace h := Option.some.inj h
      subst h
      exact g_iret (pc := 80) dX12_lookOf_80 rfl rfl rfl (Nat.le_refl _) (Nat.le_refl _)
    · replace h := (if_neg c1).symm.trans h
      refine g_aload_n (pc := 14) dX12_lookOf_14 rfl ?_
      refine g_gR (pc := 15) dX12_lookOf_15 fR_RX12_49 xc_135 (v := 149) rfl ?_
      refine g_iload (pc := 18) dX12_lookOf_18 rfl ?_
      obtain ⟨g2, h⟩ := x_gd h
      refine g_iaload (pc := 20) dX12_lookOf_20 xc_149 (xin_of g2) (v := (rd u 149 v4.toNatClampNeg)) rfl ?_
      refine g_iload_n (pc := 21) dX12_lookOf_21 rfl ?_
      refine g_icmp_ne (tgt := 73) (pc := 22) dX12_lookOf_22 (by decide) (fun c3 => ?_) (fun c3 => ?_)
      · replace h := (if_neg c3).symm.trans h
        exact G_X12_lookOf_73 hd ih v1 v2 v3 v4 h
      · replace h := (if_pos c3).symm.trans h
        refine g_aload_n (pc := 25) dX12_lookOf_25 rfl ?_
        refine g_gR (pc := 26) dX12_lookOf_26 fR_RX12_52 xc_135 (v := 150) rfl ?_
        refine g_iload (pc := 29) dX12_lookOf_29 rfl ?_
        refine g_iaload (pc := 31) dX12_lookOf_31 xc_150 (xin_of g2) (v := (rd u 150 v4.toNatClampNeg)) rfl ?_
        refine g_iload_n (pc := 32) dX12_lookOf_32 rfl ?_
        refine g_icmp_ne (tgt := 73) (pc := 33) dX12_lookOf_33 (by decide) (fun c4 => ?_) (fun c4 => ?_)
        · replace h := (if_neg c4).symm.trans h
          exact G_X12_lookOf_73 hd ih v1 v2 v3 v4 h
        · replace h := (if_pos c4).symm.trans h
          refine g_aload_n (pc := 36) dX12_lookOf_36 rfl ?_
          refine g_gR (pc := 37) dX12_lookOf_37 fR_RX12_55 xc_135 (v := 151) rfl ?_
          refine g_iload (pc := 40) dX12_lookOf_40 rfl ?_
          refine g_iaload (pc := 42) dX12_lookOf_42 xc_151 (xin_of g2) (v := (rd u 151 v4.toNatClampNeg)) rfl ?_
          refine g_aload_n (pc := 43) dX12_lookOf_43 rfl ?_
          refine g_gI (pc := 44) dX12_lookOf_44 fI_RX12_64 xc_135 (v := (rd u 135 24)) rfl ?_
          refine g_icmp_gt (tgt := 73) (pc := 47) dX12_lookOf_47 (by decide) (fun c5 => ?_) (fun c5 => ?_)
          · replace h := (if_pos c5).symm.trans h
            exact G_X12_lookOf_73 hd ih v1 v2 v3 v4 h
          · replace h := (if_neg c5).symm.trans h
            refine g_iload_n (pc := 50) dX12_lookOf_50 rfl ?_
            refine g_if_lt (tgt := 70) (pc := 51) dX12_lookOf_51 (by decide) (fun c6 => ?_) (fun c6 => ?_)
            · replace h := (if_pos c6).symm.trans h
              refine g_L (L' := [some (.ref 135), some (.int v1), some (.int v2), none, some (.int v4)]) ⟨rfl, ⟨rfl, ⟨rfl, ⟨rfl, trivial⟩⟩⟩⟩ ?_
              exact G_X12_lookOf_70 hd ih v1 v2 v4 h
            · replace h := (if_neg c6).symm.trans h
              refine g_aload_n (pc := 54) dX12_lookOf_54 rfl ?_
              refine g_gR (pc := 55) dX12_lookOf_55 fR_RX12_55 xc_135 (v := 151) rfl ?_
              refine g_iload (pc := 58) dX12_lookOf_58 rfl ?_
              refine g_iaload (pc := 60) dX12_lookOf_60 xc_151 (xin_of g2) (v := (rd u 151 v4.toNatClampNeg)) rfl ?_
              refine g_aload_n (pc := 61) dX12_lookOf_61 rfl ?_
              refine g_gR (pc := 62) dX12_lookOf_62 fR_RX12_55 xc_135 (v := 151) rfl ?_
              refine g_iload_n (pc := 65) dX12_lookOf_65 rfl ?_
              obtain ⟨g7, h⟩ := x_gd h
              refine g_iaload (pc := 66) dX12_lookOf_66 xc_151 (xin_of g7) (v := (rd u 151 v3.toNatClampNeg)) rfl ?_
              refine g_icmp_lt (tgt := 73) (pc := 67) dX12_lookOf_67 (by decide) (fun c8 => ?_) (fun c8 => ?_)
              · replace h := (if_pos c8).symm.trans h
                exact G_X12_lookOf_73 hd ih v1 v2 v3 v4 h
              · replace h := (if_neg c8).symm.trans h
                refine g_L (L' := [some (.ref 135), some (.int v1), some (.int v2), none, some (.int v4)]) ⟨rfl, ⟨rfl, ⟨rfl, ⟨rfl, trivial⟩⟩⟩⟩ ?_
                exact G_X12_lookOf_70 hd ih v1 v2 v4 h
set_option maxRecDepth 100000 in
set_option maxHeartbeats 4000000 in
theorem G_X12_lookOf_0 {sc : Nat × (Nat → Int32)} {d : Nat} (hd : 0 ≤ d) {r : Int32} {u : xS} (v1 : Int32) (v2 : Int32) (h : f_X12_lookOf u v1 v2 = some r) : xG sc mX12_lookOf d 0 0 (xR (some (.int r)) (xL0, u) 0 0) 0 0 0 [some (.ref 135), some (.int v1), some (.int v2), none, none] [] (xL0, u) := by
  rw [f_X12_lookOf] at h
  refine g_iconst (pc := 0) dX12_lookOf_0 ic_m1 ?_
  refine g_istore_n (pc := 1) dX12_lookOf_1 (Nat.le_of_ble_eq_true rfl) (L' := [some (.ref 135), some (.int v1), some (.int v2), some (.int (-1 : Int32)), none]) rfl ?_
  refine g_iconst (pc := 2) dX12_lookOf_2 ic_0 ?_
  refine g_istore (pc := 3) dX12_lookOf_3 (Nat.le_of_ble_eq_true rfl) (L' := [some (.ref 135), some (.int v1), some (.int v2), some (.int (-1 : Int32)), some (.int (0 : Int32))]) rfl ?_
  exact G_X12_lookOf_5 hd xN v1 v2 (-1 : Int32) (0 : Int32) h
set_option maxRecDepth 100000 in
set_option maxHeartbeats 4000000 in
theorem M_X12_lookOf {sc : Nat × (Nat → Int32)} {d : Nat} (hd : 0 ≤ d) {r : Int32} {u : xS} {a1 : Int32} {a2 : Int32} (h : f_X12_lookOf u a1 a2 = some r) : xMt sc mX12_lookOf d 0 0 [.ref 135, .int a1, .int a2] (xL0, u) (some (.int r)) (xL0, u) :=
  xMt.of (by decide +kernel) (by decide +kernel) (Nat.le_of_ble_eq_true rfl) (L := [some (.ref 135), some (.int a1), some (.int a2), none, none]) rfl ((G_X12_lookOf_0 hd a1 a2 h))
