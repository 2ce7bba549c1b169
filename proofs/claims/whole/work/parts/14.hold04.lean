set_option maxRecDepth 100000 in
set_option maxHeartbeats 4000000 in
theorem G_X11_woolless_43 {sc : Nat × (Nat → Int32)} {d : Nat} (hd : 0 ≤ d) {r : Int32} {u : xS} {k4 : Int32 → Int32 → Int32 → Option Int32} (hk4 : ∀ (v1 : Int32) (v2 : Int32) (v3 : Int32), k4 v1 v2 v3 = some r → xG sc mX11_woolless d 0 0 (xR (some (.int r)) (xL0, u) 0 0) 0 0 4 [some (.ref 0), some (.int v1), some (.int v2), some (.int v3)] [] (xL0, u)) (v1 : Int32) (v2 : Int32) (v3 : Int32) (h : f_X11_woolless_43 k4 u v1 v2 v3 = some r) : xG sc mX11_woolless d 0 0 (xR (some (.int r)) (xL0, u) 0 0) 0 0 43 [some (.ref 0), some (.int v1), some (.int v2), some (.int v3)] [] (xL0, u) := by
  rw [f_X11_woolless_43] at h
  refine g_inc (pc := 43) dX11_woolless_43 (Nat.le_of_ble_eq_true rfl) rfl ic_1 (L' := [some (.ref 0), some (.int v1), some (.int v2), some (.int (v3 + (1 : Int32)))]) rfl ?_
  refine g_goto (tgt := 4) (pc := 46) dX11_woolless_46 (by decide) ?_
  exact hk4 v1 v2 (v3 + (1 : Int32)) h
set_option maxRecDepth 100000 in
set_option maxHeartbeats 4000000 in
theorem G_X11_woolless_4 {sc : Nat × (Nat → Int32)} {d : Nat} (hd : 0 ≤ d) {r : Int32} {u : xS} : ∀ (n : Nat) (v1 : Int32) (v2 : Int32) (v3 : Int32), f_X11_woolless_4 u n v1 v2 v3 = some r → xG sc mX11_woolless d 0 0 (xR (some (.int r)) (xL0, u) 0 0) 0 0 4 [some (.ref 0), some (.int v1), some (.int v2), some (.int v3)] [] (xL0, u) := by
  intro n
  induction n with
  | zero =>
    intro v1 v2 v3 h
    rw [f_X11_woolless_4] at h
    cases h
  | succ n ih =>
    intro v1 v2 v3 h
    rw [f_X11_woolless_4] at h
    refine g_iload_n (pc := 4) dX11_woolless_4 rfl ?_
    refine g_aload_n (pc := 5) dX11_woolless_5 rfl ?_
    refine g_gR (pc := 6) dX11_woolless_6 fR_RX11_12 xc_0 (v := 1) rfl ?_
    refine g_gI (pc := 9) dX11_woolless_9 fI_RX11_102 xc_1 (v := (rd u 1 2)) rfl ?_
    refine g_icmp_ge (tgt := 49) (pc := 12) dX11_woolless_12 (by decide) (fun c1 => ?_) (fun c1 => ?_)
    · replace h := (if_pos c1).symm.trans h
      refine g_iload_n (pc := 49) dX11_woolless_49 rfl ?_
      cases h
      exact g_iret (pc := 50) dX11_woolless_50 rfl rfl rfl (Nat.le_refl _) (Nat.le_refl _)
    · replace h := (if_neg c1).symm.trans h
      refine g_aload_n (pc := 15) dX11_woolless_15 rfl ?_
      refine g_gR (pc := 16) dX11_woolless_16 fR_RX11_12 xc_0 (v := 1) rfl ?_
      refine g_gR (pc := 19) dX11_woolless_19 fR_RX11_230 xc_1 (v := 2) rfl ?_
      refine g_iconst (pc := 22) dX11_woolless_22 ic_5 ?_
      refine g_aaload (pc := 23) dX11_woolless_23 xc_2 vin_5_6 (v := 8) rfl ?_
      refine g_iload_n (pc := 24) dX11_woolless_24 rfl ?_
      obtain ⟨g2, h⟩ := x_gd h
      refine g_iaload (pc := 25) dX11_woolless_25 xc_8 (xin_of g2) (v := (rd u 8 v3.toNatClampNeg)) rfl ?_
      refine g_if_ne (tgt := 43) (pc := 26) dX11_woolless_26 (by decide) (fun c3 => ?_) (fun c3 => ?_)
      · replace h := (if_neg c3).symm.trans h
        exact G_X11_woolless_43 hd ih v1 v2 v3 h
      · replace h := (if_pos c3).symm.trans h
        refine g_iload_n (pc := 29) dX11_woolless_29 rfl ?_
        refine g_aload_n (pc := 30) dX11_woolless_30 rfl ?_
        refine g_gR (pc := 31) dX11_woolless_31 fR_RX11_19 xc_0 (v := 13) rfl ?_
        refine g_gR (pc := 34) dX11_woolless_34 fR_RX11_161 xc_13 (v := 21) rfl ?_
        refine g_iload_n (pc := 37) dX11_woolless_37 rfl ?_
        obtain ⟨g4, h⟩ := x_gd h
        refine g_aaload (pc := 38) dX11_woolless_38 xc_21 (xin_of g4) (v := (22 + v1.toNatClampNeg)) (xrf_21 _ (xin_lt g4)) ?_
        refine g_iload_n (pc := 39) dX11_woolless_39 rfl ?_
        refine g_iaload (pc := 40) dX11_woolless_40 (xrow_21 _ (xin_lt g4)) (xin_of g2) (v := (rd u (22 + v1.toNatClampNeg) v3.toNatClampNeg)) rfl ?_
        refine g_iadd (pc := 41) dX11_woolless_41 rfl ?_
        refine g_istore_n (pc := 42) dX11_woolless_42 (Nat.le_of_ble_eq_true rfl) (L' := [some (.ref 0), some (.int v1), some (.int (v2 + (rd u (22 + v1.toNatClampNeg) v3.toNatClampNeg))), some (.int v3)]) rfl ?_
        exact G_X11_woolless_43 hd ih v1 (v2 + (rd u (22 + v1.toNatClampNeg) v3.toNatClampNeg)) v3 h
set_option maxRecDepth 100000 in
set_option maxHeartbeats 4000000 in
theorem G_X11_woolless_0 {sc : Nat × (Nat → Int32)} {d : Nat} (hd : 0 ≤ d) {r : Int32} {u : xS} (v1 : Int32) (h : f_X11_woolless u v1 = some r) : xG sc mX11_woolless d 0 0 (xR (some (.int r)) (xL0, u) 0 0) 0 0 0 [some (.ref 0), some (.int v1), none, none] [] (xL0, u) := by
  rw [f_X11_woolless] at h
  refine g_iconst (pc := 0) dX11_woolless_0 ic_0 ?_
  refine g_istore_n (pc := 1) dX11_woolless_1 (Nat.le_of_ble_eq_true rfl) (L' := [some (.ref 0), some (.int v1), some (.int (0 : Int32)), none]) rfl ?_
  refine g_iconst (pc := 2) dX11_woolless_2 ic_0 ?_
  refine g_istore_n (pc := 3) dX11_woolless_3 (Nat.le_of_ble_eq_true rfl) (L' := [some (.ref 0), some (.int v1), some (.int (0 : Int32)), some (.int (0 : Int32))]) rfl ?_
  exact G_X11_woolless_4 hd xN v1 (0 : Int32) (0 : Int32) h
set_option maxRecDepth 100000 in
set_option maxHeartbeats 4000000 in
theorem M_X11_woolless {sc : Nat × (Nat → Int32)} {d : Nat} (hd : 0 ≤ d) {r : Int32} {u : xS} {a1 : Int32} (h : f_X11_woolless u a1 = some r) : xMt sc mX11_woolless d 0 0 [.ref 0, .int a1] (xL0, u) (some (.int r)) (xL0, u) :=
  xMt.of (by decide +kernel) (Nat.le_of_ble_eq_true rfl) (L := [some (.ref 0), some (.int a1), none, none]) rfl ((G_X11_woolless_0 hd a1 h))
set_option maxRecDepth 100000 in
set_option maxHeartbeats 4000000 in
theorem G_X11_offOf_181 {sc : Nat × (Nat → Int32)} {d : Nat} (hd : 3 ≤ d) {r : Int32} {u' : xS} (v1 : Int32) (u : xS) (h : f_X11_offOf_181 v1 u = some (r, u')) : xG sc mX11_offOf d 0 0 (xR (some (.int r)) (xL0, u') 0 0) 0 0 181 [some (.ref 0), some (.int v1), none, none, none, none] [] (xL0, u) := by
  rw [f_X11_offOf_181] at h
  refine g_iconst (pc := 181) dX11_offOf_181 ic_0 ?_
  refine g_sipush (pc := 182) dX11_offOf_182 sp_1000 ?_
  refine g_aload_n (pc := 185) dX11_offOf_185 rfl ?_
  refine g_gR (pc := 186) dX11_offOf_186 fR_RX11_47 xc_0 (v := 58) rfl ?_
  refine g_aload_n (pc := 189) dX11_offOf_189 rfl ?_
  refine g_gR (pc := 190) dX11_offOf_190 fR_RX11_19 xc_0 (v := 13) rfl ?_
  refine g_gR (pc := 193) dX11_offOf_193 fR_RX11_221 xc_13 (v := 14) rfl ?_
  refine g_iload_n (pc := 196) dX11_offOf_196 rfl ?_
  obtain ⟨g1, h⟩ := x_gd h
  refine g_iaload (pc := 197) dX11_offOf_197 xc_14 (xin_of g1) (v := (rd u 14 v1.toNatClampNeg)) rfl ?_
  obtain ⟨⟨x3, u4⟩, e2, h⟩ := x_bind h
  dsimp only at h
  refine g_cV (pc := 198) dX11_offOf_198 cV_RX11_224 (M_X10_valueOf (Nat.le_refl _) e2) xc_58 (as := [.int (rd u 14 v1.toNatClampNeg)]) (st := [.int (1000 : Int32), .int (0 : Int32)]) rfl rfl (Nat.le_of_ble_eq_true rfl) (Nat.le_trans (Nat.le_of_ble_eq_true rfl) hd) rfl ?_
  refine g_min (pc := 201) dX11_offOf_201 mK_RX11_227 (Nat.le_of_ble_eq_true rfl) (Nat.le_trans (Nat.le_of_ble_eq_true rfl) hd) (Nat.le_refl _) (Nat.le_refl _) ?_
  refine g_max (pc := 204) dX11_offOf_204 mK_RX11_188 (Nat.le_of_ble_eq_true rfl) (Nat.le_trans (Nat.le_of_ble_eq_true rfl) hd) (Nat.le_refl _) (Nat.le_refl _) ?_
  cases h
  exact g_iret (pc := 207) dX11_offOf_207 rfl rfl rfl (Nat.le_refl _) (Nat.le_refl _)
set_option maxRecDepth 100000 in
set_option maxHeartbeats 4000000 in
theorem G_X11_offOf_0 {sc : Nat × (Nat → Int32)} {d : Nat} (hd : 3 ≤ d) {r : Int32} {u' : xS} (v1 : Int32) (v2 : Int32) (u : xS) (h : f_X11_offOf v1 v2 u = some (r, u')) : xG sc mX11_offOf d 0 0 (xR (some (.int r)) (xL0, u') 0 0) 0 0 0 [some (.ref 0), some (.int v1), some (.int v2), none, none, none] [] (xL0, u) := by
  rw [f_X11_offOf] at h
  refine g_aload_n (pc := 0) dX11_offOf_0 rfl ?_
  refine g_gR (pc := 1) dX11_offOf_1 fR_RX11_26 xc_0 (v := 46) rfl ?_
  refine g_iload_n (pc := 4) dX11_offOf_4 rfl ?_
  refine g_iload_n (pc := 5) dX11_offOf_5 rfl ?_
  obtain ⟨x2, e1, h⟩ := x_bind h
  refine g_cV (pc := 6) dX11_offOf_6 cV_RX11_198 (M_X5_held (Nat.le_refl _) e1) xc_46 (as := [.int v1, .int v2]) (st := []) rfl rfl (Nat.le_of_ble_eq_true rfl) (Nat.le_trans (Nat.le_of_ble_eq_true rfl) hd) rfl ?_
  refine g_istore_n (pc := 9) dX11_offOf_9 (Nat.le_of_ble_eq_true rfl) (L' := [some (.ref 0), some (.int v1), some (.int v2), some (.int x2), none, none]) rfl ?_
  refine g_iload_n (pc := 10) dX11_offOf_10 rfl ?_
  refine g_iconst (pc := 11) dX11_offOf_11 ic_0 ?_
  refine g_bipush (pc := 12) dX11_offOf_12 bp_59 ?_
  refine g_cS (pc := 14) dX11_offOf_14 cS_RX11_94 (M_X11_lies (Nat.le_refl _) rfl) (as := [.int x2, .int (0 : Int32), .int (59 : Int32)]) (st := []) rfl rfl (Nat.le_of_ble_eq_true rfl) (Nat.le_trans (Nat.le_of_ble_eq_true rfl) hd) rfl ?_
  refine g_if_ne (tgt := 22) (pc := 17) dX11_offOf_17 (by decide) (fun c3 => ?_) (fun c3 => ?_)
  · replace h := (if_neg c3).symm.trans h
    refine g_aload_n (pc := 22) dX11_offOf_22 rfl ?_
    refine g_gR (pc := 23) dX11_offOf_23 fR_RX11_19 xc_0 (v := 13) rfl ?_
    refine g_gR (pc := 26) dX11_offOf_26 fR_RX11_144 xc_13 (v := 16) rfl ?_
    refine g_iload_n (pc := 29) dX11_offOf_29 rfl ?_
    obtain ⟨g4, h⟩ := x_gd h
    refine g_iaload (pc := 30) dX11_offOf_30 xc_16 (xin_of g4) (v := (rd u 16 v1.toNatClampNeg)) rfl ?_
    refine g_istore (pc := 31) dX11_offOf_31 (Nat.le_of_ble_eq_true rfl) (L' := [some (.ref 0), some (.int v1), some (.int v2), some (.int x2), some (.int (rd u 16 v1.toNatClampNeg)), none]) rfl ?_
    refine g_aload_n (pc := 33) dX11_offOf_33 rfl ?_
    refine g_gR (pc := 34) dX11_offOf_34 fR_RX11_26 xc_0 (v := 46) rfl ?_
    refine g_gR (pc := 37) dX11_offOf_37 fR_RX11_201 xc_46 (v := 50) rfl ?_
    refine g_iload_n (pc := 40) dX11_offOf_40 rfl ?_
    obtain ⟨g5, h⟩ := x_gd h
    refine g_iaload (pc := 41) dX11_offOf_41 xc_50 (xin_of g5) (v := (rd u 50 x2.toNatClampNeg)) rfl ?_
    refine g_sipush (pc := 42) dX11_offOf_42 sp_1000 ?_
    refine g_aload_n (pc := 45) dX11_offOf_45 rfl ?_
    refine g_gR (pc := 46) dX11_offOf_46 fR_RX11_26 xc_0 (v := 46) rfl ?_
    refine g_gR (pc := 49) dX11_offOf_49 fR_RX11_202 xc_46 (v := 51) rfl ?_
    refine g_iload_n (pc := 52) dX11_offOf_52 rfl ?_
    refine g_iaload (pc := 53) dX11_offOf_53 xc_51 (xin_of g5) (v := (rd u 51 x2.toNatClampNeg)) rfl ?_
    refine g_isub (pc := 54) dX11_offOf_54 rfl ?_
    refine g_imul (pc := 55) dX11_offOf_55 rfl ?_
    refine g_sipush (pc := 56) dX11_offOf_56 sp_1000 ?_
    refine g_idiv (pc := 59) dX11_offOf_59 (by decide) rfl ?_
    refine g_istore (pc := 60) dX11_offOf_60 (Nat.le_of_ble_eq_true rfl) (L' := [some (.ref 0), some (.int v1), some (.int v2), some (.int x2), some (.int (rd u 16 v1.toNatClampNeg)), some (.int (((rd u 50 x2.toNatClampNeg) * ((1000 : Int32) - (rd u 51 x2.toNatClampNeg))) / (1000 : Int32)))]) rfl ?_
    refine g_aload_n (pc := 62) dX11_offOf_62 rfl ?_
    refine g_gR (pc := 63) dX11_offOf_63 fR_RX11_47 xc_0 (v := 58) rfl ?_
    obtain ⟨u7, e6, h⟩ := x_bind h
    refine g_cV (pc := 66) dX11_offOf_66 cV_RX11_205 (M_X10_clearLetters (Nat.le_refl _) e6) xc_58 (as := []) (st := []) rfl rfl (Nat.le_of_ble_eq_true rfl) (Nat.le_trans (Nat.le_of_ble_eq_true rfl) hd) rfl ?_
    refine g_aload_n (pc := 69) dX11_offOf_69 rfl ?_
    refine g_gR (pc := 70) dX11_offOf_70 fR_RX11_47 xc_0 (v := 58) rfl ?_
    refine g_bipush (pc := 73) dX11_offOf_73 bp_108 ?_
    refine g_iconst (pc := 75) dX11_offOf_75 ic_0 ?_
    refine g_iload (pc := 76) dX11_offOf_76 rfl ?_
    refine g_iload (pc := 78) dX11_offOf_78 rfl ?_
    refine g_isub (pc := 80) dX11_offOf_80 rfl ?_
    refine g_max (pc := 81) dX11_offOf_81 mK_RX11_188 (Nat.le_of_ble_eq_true rfl) (Nat.le_trans (Nat.le_of_ble_eq_true rfl) hd) (Nat.le_refl _) (Nat.le_refl _) ?_
    refine g_iload (pc := 84) dX11_offOf_84 rfl ?_
    obtain ⟨x9, e8, h⟩ := x_bind h
    refine g_cS (pc := 86) dX11_offOf_86 cS_RX11_208 (M_X11_inThousand (Nat.le_refl _) e8) (as := [.int (imax (0 : Int32) ((rd u 16 v1.toNatClampNeg) - (((rd u 50 x2.toNatClampNeg) * ((1000 : Int32) - (rd u 51 x2.toNatClampNeg))) / (1000 : Int32)))), .int (rd u 16 v1.toNatClampNeg)]) (st := [.int (108 : Int32), .ref 58]) rfl rfl (Nat.le_of_ble_eq_true rfl) (Nat.le_trans (Nat.le_of_ble_eq_true rfl) hd) rfl ?_
    obtain ⟨u11, e10, h⟩ := x_bind h
    refine g_cV (pc := 89) dX11_offOf_89 cV_RX11_211 (M_X10_tell (Nat.le_refl _) e10) xc_58 (as := [.int (108 : Int32), .int x9]) (st := []) rfl rfl (Nat.le_of_ble_eq_true rfl) (Nat.le_trans (Nat.le_of_ble_eq_true rfl) hd) rfl ?_
    refine g_aload_n (pc := 92) dX11_offOf_92 rfl ?_
    refine g_gR (pc := 93) dX11_offOf_93 fR_RX11_47 xc_0 (v := 58) rfl ?_
    refine g_bipush (pc := 96) dX11_offOf_96 bp_100 ?_
    refine g_aload_n (pc := 98) dX11_offOf_98 rfl ?_
    refine g_gR (pc := 99) dX11_offOf_99 fR_RX11_26 xc_0 (v := 46) rfl ?_
    refine g_gR (pc := 102) dX11_offOf_102 fR_RX11_202 xc_46 (v := 51) rfl ?_
    refine g_iload_n (pc := 105) dX11_offOf_105 rfl ?_
    refine g_iaload (pc := 106) dX11_offOf_106 xc_51 (xin_of g5) (v := (rd u11 51 x2.toNatClampNeg)) rfl ?_
    obtain ⟨u13, e12, h⟩ := x_bind h
    refine g_cV (pc := 107) dX11_offOf_107 cV_RX11_211 (M_X10_tell (Nat.le_refl _) e12) xc_58 (as := [.int (100 : Int32), .int (rd u11 51 x2.toNatClampNeg)]) (st := []) rfl rfl (Nat.le_of_ble_eq_true rfl) (Nat.le_trans (Nat.le_of_ble_eq_true rfl) hd) rfl ?_
    refine g_aload_n (pc := 110) dX11_offOf_110 rfl ?_
    refine g_gR (pc := 111) dX11_offOf_111 fR_RX11_47 xc_0 (v := 58) rfl ?_
    refine g_bipush (pc := 114) dX11_offOf_114 bp_113 ?_
    refine g_aload_n (pc := 116) dX11_offOf_116 rfl ?_
    refine g_gR (pc := 117) dX11_offOf_117 fR_RX11_19 xc_0 (v := 13) rfl ?_
    refine g_gR (pc := 120) dX11_offOf_120 fR_RX11_215 xc_13 (v := 15) rfl ?_
    refine g_iload_n (pc := 123) dX11_offOf_123 rfl ?_
    refine g_iaload (pc := 124) dX11_offOf_124 xc_15 (xin_of g4) (v := (rd u13 15 v1.toNatClampNeg)) rfl ?_
    obtain ⟨u15, e14, h⟩ := x_bind h
    refine g_cV (pc := 125) dX11_offOf_125 cV_RX11_211 (M_X10_tell (Nat.le_refl _) e14) xc_58 (as := [.int (113 : Int32), .int (rd u13 15 v1.toNatClampNeg)]) (st := []) rfl rfl (Nat.le_of_ble_eq_true rfl) (Nat.le_trans (Nat.le_of_ble_eq_true rfl) hd) rfl ?_
    refine g_aload_n (pc := 128) dX11_offOf_128 rfl ?_
    refine g_gR (pc := 129) dX11_offOf_129 fR_RX11_19 xc_0 (v := 13) rfl ?_
    refine g_iload_n (pc := 132) dX11_offOf_132 rfl ?_
    obtain ⟨x17, e16, h⟩ := x_bind h
    refine g_cV (pc := 133) dX11_offOf_133 cV_RX11_141 (M_X0_isSorted (Nat.le_refl _) e16) xc_13 (as := [.int v1]) (st := []) rfl rfl (Nat.le_of_ble_eq_true rfl) (Nat.le_trans (Nat.le_of_ble_eq_true rfl) hd) rfl ?_
    refine g_if_eq (tgt := 181) (pc := 136) dX11_offOf_136 (by decide) (fun c18 => ?_) (fun c18 => ?_)
    · replace h := (if_pos c18).symm.trans h
      refine g_L (L' := [some (.ref 0), some (.int v1), none, none, none, none]) ⟨rfl, ⟨rfl, trivial⟩⟩ ?_
      exact G_X11_offOf_181 hd v1 u15 h
    · replace h := (if_neg c18).symm.trans h
      refine g_aload_n (pc := 139) dX11_offOf_139 rfl ?_
      refine g_gR (pc := 140) dX11_offOf_140 fR_RX11_47 xc_0 (v := 58) rfl ?_
      refine g_bipush (pc := 143) dX11_offOf_143 bp_107 ?_
      refine g_aload_n (pc := 145) dX11_offOf_145 rfl ?_
      refine g_gR (pc := 146) dX11_offOf_146 fR_RX11_19 xc_0 (v := 13) rfl ?_
      refine g_gR (pc := 149) dX11_offOf_149 fR_RX11_168 xc_13 (v := 19) rfl ?_
      refine g_iload_n (pc := 152) dX11_offOf_152 rfl ?_
      refine g_iaload (pc := 153) dX11_offOf_153 xc_19 (xin_of g4) (v := (rd u15 19 v1.toNatClampNeg)) rfl ?_
      refine g_iload (pc := 154) dX11_offOf_154 rfl ?_
      obtain ⟨x20, e19, h⟩ := x_bind h
      refine g_cS (pc := 156) dX11_offOf_156 cS_RX11_208 (M_X11_inThousand (Nat.le_refl _) e19) (as := [.int (rd u15 19 v1.toNatClampNeg), .int (rd u 16 v1.toNatClampNeg)]) (st := [.int (107 : Int32), .ref 58]) rfl rfl (Nat.le_of_ble_eq_true rfl) (Nat.le_trans (Nat.le_of_ble_eq_true rfl) hd) rfl ?_
      obtain ⟨u22, e21, h⟩ := x_bind h
      refine g_cV (pc := 159) dX11_offOf_159 cV_RX11_211 (M_X10_tell (Nat.le_refl _) e21) xc_58 (as := [.int (107 : Int32), .int x20]) (st := []) rfl rfl (Nat.le_of_ble_eq_true rfl) (Nat.le_trans (Nat.le_of_ble_eq_true rfl) hd) rfl ?_
      refine g_aload_n (pc := 162) dX11_offOf_162 rfl ?_
      refine g_gR (pc := 163) dX11_offOf_163 fR_RX11_47 xc_0 (v := 58) rfl ?_
      refine g_bipush (pc := 166) dX11_offOf_166 bp_111 ?_
      refine g_aload_n (pc := 168) dX11_offOf_168 rfl ?_
      refine g_iload_n (pc := 169) dX11_offOf_169 rfl ?_
      obtain ⟨x24, e23, h⟩ := x_bind h
      refine g_cV (pc := 170) dX11_offOf_170 cV_RX11_218 (M_X11_woolless (Nat.le_refl _) e23) xc_0 (as := [.int v1]) (st := [.int (111 : Int32), .ref 58]) rfl rfl (Nat.le_of_ble_eq_true rfl) (Nat.le_trans (Nat.le_of_ble_eq_true rfl) hd) rfl ?_
      refine g_iload (pc := 173) dX11_offOf_173 rfl ?_
      obtain ⟨x26, e25, h⟩ := x_bind h
      refine g_cS (pc := 175) dX11_offOf_175 cS_RX11_208 (M_X11_inThousand (Nat.le_refl _) e25) (as := [.int x24, .int (rd u 16 v1.toNatClampNeg)]) (st := [.int (111 : Int32), .ref 58]) rfl rfl (Nat.le_of_ble_eq_true rfl) (Nat.le_trans (Nat.le_of_ble_eq_true rfl) hd) rfl ?_
      obtain ⟨u28, e27, h⟩ := x_bind h
      refine g_cV (pc := 178) dX11_offOf_178 cV_RX11_211 (M_X10_tell (Nat.le_refl _) e27) xc_58 (as := [.int (111 : Int32), .int x26]) (st := []) rfl rfl (Nat.le_of_ble_eq_true rfl) (Nat.le_trans (Nat.le_of_ble_eq_true rfl) hd) rfl ?_
      refine g_L (L' := [some (.ref 0), some (.int v1), none, none, none, none]) ⟨rfl, ⟨rfl, trivial⟩⟩ ?_
      exact G_X11_offOf_181 hd v1 u28 h
  · replace h := (if_pos c3).symm.trans h
    refine g_iconst (pc := 20) dX11_offOf_20 ic_m1 ?_
    cases h
    exact g_iret (pc := 21) dX11_offOf_21 rfl rfl rfl (Nat.le_refl _) (Nat.le_refl _)
set_option maxRecDepth 100000 in
set_option maxHeartbeats 4000000 in
theorem M_X11_offOf {sc : Nat × (Nat → Int32)} {d : Nat} (hd : 3 ≤ d) {r : Int32} {u u' : xS} {a1 : Int32} {a2 : Int32} (h : f_X11_offOf a1 a2 u = some (r, u')) : xMt sc mX11_offOf d 0 0 [.ref 0, .int a1, .int a2] (xL0, u) (some (.int r)) (xL0, u') :=
  xMt.of (by decide +kernel) (Nat.le_of_ble_eq_true rfl) (L := [some (.ref 0), some (.int a1), some (.int a2), none, none, none]) rfl ((G_X11_offOf_0 hd a1 a2 u h))
set_option maxRecDepth 100000 in
set_option maxHeartbeats 4000000 in
theorem G_X11_due_58 {sc : Nat × (Nat → Int32)} {d : Nat} (hd : 4 ≤ d) {r : Int32} {u' : xS} (v1 : Int32) (v4 : Int32) (u : xS) (h : f_X11_due_58 v1 v4 u = some (r, u')) : xG sc mX11_due d 0 0 (xR (some (.int r)) (xL0, u') 0 0) 0 0 58 [some (.ref 0), some (.int v1), none, none, some (.int v4)] [] (xL0, u) := by
  rw [f_X11_due_58] at h
  refine g_aload_n (pc := 58) dX11_due_58 rfl ?_
  refine g_gR (pc := 59) dX11_due_59 fR_RX11_19 xc_0 (v := 13) rfl ?_
  refine g_gR (pc := 62) dX11_due_62 fR_RX11_144 xc_13 (v := 16) rfl ?_
  refine g_iload_n (pc := 65) dX11_due_65 rfl ?_
  obtain ⟨g1, h⟩ := x_gd h
  refine g_iaload (pc := 66) dX11_due_66 xc_16 (xin_of g1) (v := (rd u 16 v1.toNatClampNeg)) rfl ?_
  refine g_i2l (pc := 67) dX11_due_67 rfl ?_
  refine g_aload_n (pc := 68) dX11_due_68 rfl ?_
  refine g_gR (pc := 69) dX11_due_69 fR_RX11_19 xc_0 (v := 13) rfl ?_
  refine g_gR (pc := 72) dX11_due_72 fR_RX11_193 xc_13 (v := 17) rfl ?_
  refine g_iload_n (pc := 75) dX11_due_75 rfl ?_
  refine g_iaload (pc := 76) dX11_due_76 xc_17 (xin_of g1) (v := (rd u 17 v1.toNatClampNeg)) rfl ?_
  refine g_i2l (pc := 77) dX11_due_77 rfl ?_
  refine g_lmul (pc := 78) dX11_due_78 rfl ?_
  refine g_sipush (pc := 79) dX11_due_79 sp_1000 ?_
  refine g_iload (pc := 82) dX11_due_82 rfl ?_
  refine g_isub (pc := 84) dX11_due_84 rfl ?_
  refine g_i2l (pc := 85) dX11_due_85 rfl ?_
  refine g_lmul (pc := 86) dX11_due_86 rfl ?_
  refine g_ldc2 (pc := 87) dX11_due_87 kl_RX11_196 ?_
  refine g_ldiv (pc := 90) dX11_due_90 (by decide) rfl ?_
  refine g_l2i (pc := 91) dX11_due_91 rfl ?_
  cases h
  exact g_iret (pc := 92) dX11_due_92 rfl rfl rfl (Nat.le_refl _) (Nat.le_refl _)
set_option maxRecDepth 100000 in
set_option maxHeartbeats 4000000 in
theorem G_X11_due_47 {sc : Nat × (Nat → Int32)} {d : Nat} (hd : 4 ≤ d) {r : Int32} {u' : xS} (v1 : Int32) (v2 : Int32) (v3 : Int32) (u : xS) (h : f_X11_due_47 v1 v2 v3 u = some (r, u')) : xG sc mX11_due d 0 0 (xR (some (.int r)) (xL0, u') 0 0) 0 0 47 [some (.ref 0), some (.int v1), some (.int v2), some (.int v3), none] [] (xL0, u) := by
  rw [f_X11_due_47] at h
  refine g_iconst (pc := 47) dX11_due_47 ic_0 ?_
  refine g_iload_n (pc := 48) dX11_due_48 rfl ?_
  refine g_iload_n (pc := 49) dX11_due_49 rfl ?_
  refine g_max (pc := 50) dX11_due_50 mK_RX11_188 (Nat.le_of_ble_eq_true rfl) (Nat.le_trans (Nat.le_of_ble_eq_true rfl) hd) (Nat.le_refl _) (Nat.le_refl _) ?_
  refine g_max (pc := 53) dX11_due_53 mK_RX11_188 (Nat.le_of_ble_eq_true rfl) (Nat.le_trans (Nat.le_of_ble_eq_true rfl) hd) (Nat.le_refl _) (Nat.le_refl _) ?_
  refine g_istore (pc := 56) dX11_due_56 (Nat.le_of_ble_eq_true rfl) (L' := [some (.ref 0), some (.int v1), some (.int v2), some (.int v3), some (.int (imax (0 : Int32) (imax v2 v3)))]) rfl ?_
  refine g_L (L' := [some (.ref 0), some (.int v1), none, none, some (.int (imax (0 : Int32) (imax v2 v3)))]) ⟨rfl, ⟨rfl, ⟨rfl, trivial⟩⟩⟩ ?_
  exact G_X11_due_58 hd v1 (imax (0 : Int32) (imax v2 v3)) u h
set_option maxRecDepth 100000 in
set_option maxHeartbeats 4000000 in
theorem G_X11_due_0 {sc : Nat × (Nat → Int32)} {d : Nat} (hd : 4 ≤ d) {r : Int32} {u' : xS} (v1 : Int32) (u : xS) (h : f_X11_due v1 u = some (r, u')) : xG sc mX11_due d 0 0 (xR (some (.int r)) (xL0, u') 0 0) 0 0 0 [some (.ref 0), some (.int v1), none, none, none] [] (xL0, u) := by
  rw [f_X11_due] at h
  refine g_aload_n (pc := 0) dX11_due_0 rfl ?_
  refine g_gR (pc := 1) dX11_due_1 fR_RX11_19 xc_0 (v := 13) rfl ?_
  refine g_iload_n (pc := 4) dX11_due_4 rfl ?_
  refine g_cV (pc := 5) dX11_due_5 cV_RX11_137 (M_X0_has (Nat.le_refl _) rfl) xc_13 (as := [.int v1]) (st := []) rfl rfl (Nat.le_of_ble_eq_true rfl) (Nat.le_trans (Nat.le_of_ble_eq_true rfl) hd) rfl ?_
  refine g_if_ne (tgt := 13) (pc := 8) dX11_due_8 (by decide) (fun c1 => ?_) (fun c1 => ?_)
  · replace h := (if_neg c1).symm.trans h
    refine g_aload_n (pc := 13) dX11_due_13 rfl ?_
    refine g_iload_n (pc := 14) dX11_due_14 rfl ?_
    refine g_iconst (pc := 15) dX11_due_15 ic_0 ?_
    obtain ⟨⟨x3, u4⟩, e2, h⟩ := x_bind h
    dsimp only at h
    refine g_cV (pc := 16) dX11_due_16 cV_RX11_185 (M_X11_offOf (Nat.le_refl _) e2) xc_0 (as := [.int v1, .int (0 : Int32)]) (st := []) rfl rfl (Nat.le_of_ble_eq_true rfl) (Nat.le_trans (Nat.le_of_ble_eq_true rfl) hd) rfl ?_
    refine g_istore_n (pc := 19) dX11_due_19 (Nat.le_of_ble_eq_true rfl) (L' := [some (.ref 0), some (.int v1), some (.int x3), none, none]) rfl ?_
    refine g_aload_n (pc := 20) dX11_due_20 rfl ?_
    refine g_iload_n (pc := 21) dX11_due_21 rfl ?_
    refine g_iconst (pc := 22) dX11_due_22 ic_1 ?_
    obtain ⟨⟨x6, u7⟩, e5, h⟩ := x_bind h
    dsimp only at h
    refine g_cV (pc := 23) dX11_due_23 cV_RX11_185 (M_X11_offOf (Nat.le_refl _) e5) xc_0 (as := [.int v1, .int (1 : Int32)]) (st := []) rfl rfl (Nat.le_of_ble_eq_true rfl) (Nat.le_trans (Nat.le_of_ble_eq_true rfl) hd) rfl ?_
    refine g_istore_n (pc := 26) dX11_due_26 (Nat.le_of_ble_eq_true rfl) (L' := [some (.ref 0), some (.int v1), some (.int x3), some (.int x6), none]) rfl ?_
    refine g_iload_n (pc := 27) dX11_due_27 rfl ?_
    refine g_iconst (pc := 28) dX11_due_28 ic_m1 ?_
    refine g_icmp_eq (tgt := 47) (pc := 29) dX11_due_29 (by decide) (fun c8 => ?_) (fun c8 => ?_)
    · replace h := (if_pos c8).symm.trans h
      exact G_X11_due_47 hd v1 x3 x6 u7 h
    · replace h := (if_neg c8).symm.trans h
      refine g_iload_n (pc := 32) dX11_due_32 rfl ?_
      refine g_iconst (pc := 33) dX11_due_33 ic_m1 ?_
      refine g_icmp_eq (tgt := 47) (pc := 34) dX11_due_34 (by decide) (fun c9 => ?_) (fun c9 => ?_)
      · replace h := (if_pos c9).symm.trans h
        exact G_X11_due_47 hd v1 x3 x6 u7 h
      · replace h := (if_neg c9).symm.trans h
        refine g_iload_n (pc := 37) dX11_due_37 rfl ?_
        refine g_iload_n (pc := 38) dX11_due_38 rfl ?_
        refine g_iadd (pc := 39) dX11_due_39 rfl ?_
        refine g_iconst (pc := 40) dX11_due_40 ic_2 ?_
        refine g_idiv (pc := 41) dX11_due_41 (by decide) rfl ?_
        refine g_istore (pc := 42) dX11_due_42 (Nat.le_of_ble_eq_true rfl) (L' := [some (.ref 0), some (.int v1), some (.int x3), some (.int x6), some (.int ((x3 + x6) / (2 : Int32)))]) rfl ?_
        refine g_goto (tgt := 58) (pc := 44) dX11_due_44 (by decide) ?_
        refine g_L (L' := [some (.ref 0), some (.int v1), none, none, some (.int ((x3 + x6) / (2 : Int32)))]) ⟨rfl, ⟨rfl, ⟨rfl, trivial⟩⟩⟩ ?_
        exact G_X11_due_58 hd v1 ((x3 + x6) / (2 : Int32)) u7 h
  · replace h := (if_pos c1).symm.trans h
    refine g_iconst (pc := 11) dX11_due_11 ic_m1 ?_
    cases h
    exact g_iret (pc := 12) dX11_due_12 rfl rfl rfl (Nat.le_refl _) (Nat.le_refl _)
set_option maxRecDepth 100000 in
set_option maxHeartbeats 4000000 in
theorem M_X11_due {sc : Nat × (Nat → Int32)} {d : Nat} (hd : 4 ≤ d) {r : Int32} {u u' : xS} {a1 : Int32} (h : f_X11_due a1 u = some (r, u')) : xMt sc mX11_due d 0 0 [.ref 0, .int a1] (xL0, u) (some (.int r)) (xL0, u') :=
  xMt.of (by decide +kernel) (Nat.le_of_ble_eq_true rfl) (L := [some (.ref 0), some (.int a1), none, none, none]) rfl ((G_X11_due_0 hd a1 u h))
set_option maxRecDepth 100000 in
set_option maxHeartbeats 4000000 in
theorem G_X11_end_0 {sc : Nat × (Nat → Int32)} {d : Nat} (hd : 1 ≤ d) {r : Int32} {u' : xS} (v1 : Int32) (u : xS) (h : f_X11_end v1 u = some (r, u')) : xG sc mX11_end d 0 0 (xR (some (.int r)) (xL0, u') 0 0) 0 0 0 [some (.ref 0), some (.int v1)] [] (xL0, u) := by
  rw [f_X11_end] at h
  refine g_iload_n (pc := 0) dX11_end_0 rfl ?_
  refine g_iconst (pc := 1) dX11_end_1 ic_0 ?_
  refine g_aload_n (pc := 2) dX11_end_2 rfl ?_
  refine g_gR (pc := 3) dX11_end_3 fR_RX11_33 xc_0 (v := 52) rfl ?_
  refine g_gI (pc := 6) dX11_end_6 fI_RX11_233 xc_52 (v := (rd u 52 1)) rfl ?_
  refine g_cS (pc := 9) dX11_end_9 cS_RX11_94 (M_X11_lies (Nat.le_refl _) rfl) (as := [.int v1, .int (0 : Int32), .int (rd u 52 1)]) (st := []) rfl rfl (Nat.le_of_ble_eq_true rfl) (Nat.le_trans (Nat.le_of_ble_eq_true rfl) hd) rfl ?_
  refine g_if_ne (tgt := 17) (pc := 12) dX11_end_12 (by decide) (fun c1 => ?_) (fun c1 => ?_)
  · replace h := (if_neg c1).symm.trans h
    refine g_aload_n (pc := 17) dX11_end_17 rfl ?_
    refine g_gR (pc := 18) dX11_end_18 fR_RX11_33 xc_0 (v := 52) rfl ?_
    refine g_iload_n (pc := 21) dX11_end_21 rfl ?_
    refine g_pI (pc := 22) dX11_end_22 pI_RX11_233 xc_52 (u' := (wr u 52 1 v1)) rfl ?_
    refine g_iconst (pc := 25) dX11_end_25 ic_1 ?_
    cases h
    exact g_zret (pc := 26) dX11_end_26 rfl (Or.inr rfl) rfl rfl (Nat.le_refl _) (Nat.le_refl _)
  · replace h := (if_pos c1).symm.trans h
    refine g_iconst (pc := 15) dX11_end_15 ic_0 ?_
    cases h
    exact g_zret (pc := 16) dX11_end_16 rfl (Or.inl rfl) rfl rfl (Nat.le_refl _) (Nat.le_refl _)
set_option maxRecDepth 100000 in
set_option maxHeartbeats 4000000 in
theorem M_X11_end {sc : Nat × (Nat → Int32)} {d : Nat} (hd : 1 ≤ d) {r : Int32} {u u' : xS} {a1 : Int32} (h : f_X11_end a1 u = some (r, u')) : xMt sc mX11_end d 0 0 [.ref 0, .int a1] (xL0, u) (some (.int r)) (xL0, u') :=
  xMt.of (by decide +kernel) (Nat.le_of_ble_eq_true rfl) (L := [some (.ref 0), some (.int a1)]) rfl ((G_X11_end_0 hd a1 u h))
set_option maxRecDepth 100000 in
set_option maxHeartbeats 4000000 in
theorem G_X11_entry_0 {sc : Nat × (Nat → Int32)} {d : Nat} (hd : 0 ≤ d) {r : Int32} {u : xS} (v0 : Int32) (v1 : Int32) (h : f_X11_entry v0 v1 = r) : xG sc mX11_entry d 0 0 (xR (some (.int r)) (xL0, u) 0 0) 0 0 0 [some (.int v0), some (.int v1)] [] (xL0, u) := by
  rw [f_X11_entry] at h
  refine g_iload_n (pc := 0) dX11_entry_0 rfl ?_
  by_cases c1 : v0 = (0 : Int32)
  · replace h := (if_pos c1).symm.trans h
    refine g_lookup (tgt := 28) (off := 27) (pc := 1) dX11_entry_1 (by decide) (by rw [c1]; decide) (by decide) ?_
    refine g_iload_n (pc := 28) dX11_entry_28 rfl ?_
    refine g_i2b (pc := 29) dX11_entry_29 rfl ?_
    subst h
    exact g_iret (pc := 30) dX11_entry_30 rfl rfl rfl (Nat.le_refl _) (Nat.le_refl _)
  replace h := (if_neg c1).symm.trans h
  by_cases c2 : v0 = (1 : Int32)
  · replace h := (if_pos c2).symm.trans h
    refine g_lookup (tgt := 31) (off := 30) (pc := 1) dX11_entry_1 (by decide) (by rw [c2]; decide) (by decide) ?_
    refine g_iload_n (pc := 31) dX11_entry_31 rfl ?_
    refine g_i2s (pc := 32) dX11_entry_32 rfl ?_
    subst h
    exact g_iret (pc := 33) dX11_entry_33 rfl rfl rfl (Nat.le_refl _) (Nat.le_refl _)
  replace h := (if_neg c2).symm.trans h
  have c1i := i32_ne c1 (m := 0) (by decide)
  have c2i := i32_ne c2 (m := 1) (by decide)
  refine g_lookup (tgt := 34) (off := 33) (pc := 1) dX11_entry_1 (by decide) (x_lsw (by simp [c1i, Ne.symm c1i, c2i, Ne.symm c2i])) (by decide) ?_
  refine g_iload_n (pc := 34) dX11_entry_34 rfl ?_
  subst h
  exact g_iret (pc := 35) dX11_entry_35 rfl rfl rfl (Nat.le_refl _) (Nat.le_refl _)
set_option maxRecDepth 100000 in
set_option maxHeartbeats 4000000 in
theorem M_X11_entry {sc : Nat × (Nat → Int32)} {d : Nat} (hd : 0 ≤ d) {r : Int32} {u : xS} {a0 : Int32} {a1 : Int32} (h : f_X11_entry a0 a1 = r) : xMt sc mX11_entry d 0 0 [.int a0, .int a1] (xL0, u) (some (.int r)) (xL0, u) :=
  xMt.of (by decide +kernel) (Nat.le_of_ble_eq_true rfl) (L := [some (.int a0), some (.int a1)]) rfl ((G_X11_entry_0 hd a0 a1 h))
set_option maxRecDepth 100000 in
set_option maxHeartbeats 4000000 in
theorem G_X3_isOf_33 {sc : Nat × (Nat → Int32)} {d : Nat} (hd : 0 ≤ d) {r : Int32} {u : xS} (h : f_X3_isOf_33 u = some r) : xG sc mX3_isOf d 0 0 (xR (some (.int r)) (xL0, u) 0 0) 0 0 33 [none, none, none, none, none] [] (xL0, u) := by
  rw [f_X3_isOf_33] at h
  refine g_iconst (pc := 33) dX3_isOf_33 ic_1 ?_
  refine g_goto (tgt := 38) (pc := 34) dX3_isOf_34 (by decide) ?_
  cases h
  exact g_zret (pc := 38) dX3_isOf_38 rfl (Or.inr rfl) rfl rfl (Nat.le_refl _) (Nat.le_refl _)
set_option maxRecDepth 100000 in
set_option maxHeartbeats 4000000 in
theorem G_X3_isOf_0 {sc : Nat × (Nat → Int32)} {d : Nat} (hd : 0 ≤ d) {r : Int32} {u : xS} (v1 : Int32) (v2 : Int32) (v3 : Int32) (v4 : Int32) (h : f_X3_isOf u v1 v2 v3 v4 = some r) : xG sc mX3_isOf d 0 0 (xR (some (.int r)) (xL0, u) 0 0) 0 0 0 [some (.ref 113), some (.int v1), some (.int v2), some (.int v3), some (.int v4)] [] (xL0, u) := by
  rw [f_X3_isOf] at h
  refine g_aload_n (pc := 0) dX3_isOf_0 rfl ?_
  refine g_gR (pc := 1) dX3_isOf_1 fR_RX3_11 xc_113 (v := 114) rfl ?_
  refine g_iload_n (pc := 4) dX3_isOf_4 rfl ?_
  obtain ⟨g1, h⟩ := x_gd h
  refine g_aaload (pc := 5) dX3_isOf_5 xc_114 (xin_of g1) (v := (115 + v2.toNatClampNeg)) (xrf_114 _ (xin_lt g1)) ?_
  refine g_iload_n (pc := 6) dX3_isOf_6 rfl ?_
  obtain ⟨g2, h⟩ := x_gd h
  refine g_iaload (pc := 7) dX3_isOf_7 (xrow_114 _ (xin_lt g1)) (xin_of g2) (v := (rd u (115 + v2.toNatClampNeg) v1.toNatClampNeg)) rfl ?_
  refine g_iload_n (pc := 8) dX3_isOf_8 rfl ?_
  refine g_icmp_ne (tgt := 37) (pc := 9) dX3_isOf_9 (by decide) (fun c3 => ?_) (fun c3 => ?_)
  · replace h := (if_neg c3).symm.trans h
    refine g_iconst (pc := 37) dX3_isOf_37 ic_0 ?_
    cases h
    exact g_zret (pc := 38) dX3_isOf_38 rfl (Or.inl rfl) rfl rfl (Nat.le_refl _) (Nat.le_refl _)
  · replace h := (if_pos c3).symm.trans h
    refine g_iload (pc := 12) dX3_isOf_12 rfl ?_
    refine g_iconst (pc := 14) dX3_isOf_14 ic_m1 ?_
    refine g_icmp_eq (tgt := 33) (pc := 15) dX3_isOf_15 (by decide) (fun c4 => ?_) (fun c4 => ?_)
    · replace h := (if_pos c4).symm.trans h
      refine g_L (L' := [none, none, none, none, none]) trivial ?_
      exact G_X3_isOf_33 hd h
    · replace h := (if_neg c4).symm.trans h
      refine g_aload_n (pc := 18) dX3_isOf_18 rfl ?_
      refine g_gR (pc := 19) dX3_isOf_19 fR_RX3_11 xc_113 (v := 114) rfl ?_
      refine g_iconst (pc := 22) dX3_isOf_22 ic_1 ?_
      refine g_iload_n (pc := 23) dX3_isOf_23 rfl ?_
      refine g_isub (pc := 24) dX3_isOf_24 rfl ?_
      obtain ⟨g5, h⟩ := x_gd h
      refine g_aaload (pc := 25) dX3_isOf_25 xc_114 (xin_of g5) (v := (115 + ((1 : Int32) - v2).toNatClampNeg)) (xrf_114 _ (xin_lt g5)) ?_
      refine g_iload_n (pc := 26) dX3_isOf_26 rfl ?_
      refine g_iaload (pc := 27) dX3_isOf_27 (xrow_114 _ (xin_lt g5)) (xin_of g2) (v := (rd u (115 + ((1 : Int32) - v2).toNatClampNeg) v1.toNatClampNeg)) rfl ?_
      refine g_iload (pc := 28) dX3_isOf_28 rfl ?_
      refine g_icmp_ne (tgt := 37) (pc := 30) dX3_isOf_30 (by decide) (fun c6 => ?_) (fun c6 => ?_)
      · replace h := (if_neg c6).symm.trans h
        refine g_iconst (pc := 37) dX3_isOf_37 ic_0 ?_
        cases h
        exact g_zret (pc := 38) dX3_isOf_38 rfl (Or.inl rfl) rfl rfl (Nat.le_refl _) (Nat.le_refl _)
      · replace h := (if_pos c6).symm.trans h
        refine g_L (L' := [none, none, none, none, none]) trivial ?_
        exact G_X3_isOf_33 hd h
set_option maxRecDepth 100000 in
set_option maxHeartbeats 4000000 in
theorem M_X3_isOf {sc : Nat × (Nat → Int32)} {d : Nat} (hd : 0 ≤ d) {r : Int32} {u : xS} {a1 : Int32} {a2 : Int32} {a3 : Int32} {a4 : Int32} (h : f_X3_isOf u a1 a2 a3 a4 = some r) : xMt sc mX3_isOf d 0 0 [.ref 113, .int a1, .int a2, .int a3, .int a4] (xL0, u) (some (.int r)) (xL0, u) :=
  xMt.of (by decide +kernel) (Nat.le_of_ble_eq_true rfl) (L := [some (.ref 113), some (.int a1), some (.int a2), some (.int a3), some (.int a4)]) rfl ((G_X3_isOf_0 hd a1 a2 a3 a4 h))
set_option maxRecDepth 100000 in
set_option maxHeartbeats 4000000 in
theorem G_X3_alike_75 {sc : Nat × (Nat → Int32)} {d : Nat} (hd : 1 ≤ d) {r : Int32} {u : xS} {k8 : Int32 → Int32 → Int32 → Int32 → Int32 → Option Int32} (hk8 : ∀ (v1 : Int32) (v2 : Int32) (v3 : Int32) (v4 : Int32) (v5 : Int32), k8 v1 v2 v3 v4 v5 = some r → xG sc mX3_alike d 0 0 (xR (some (.int r)) (xL0, u) 0 0) 0 0 8 [some (.ref 113), some (.int v1), some (.int v2), some (.int v3), some (.int v4), some (.int v5)] [] (xL0, u)) (v1 : Int32) (v2 : Int32) (v3 : Int32) (v4 : Int32) (v5 : Int32) (h : f_X3_alike_75 k8 u v1 v2 v3 v4 v5 = some r) : xG sc mX3_alike d 0 0 (xR (some (.int r)) (xL0, u) 0 0) 0 0 75 [some (.ref 113), some (.int v1), some (.int v2), some (.int v3), some (.int v4), some (.int v5)] [] (xL0, u) := by
  rw [f_X3_alike_75] at h
  refine g_inc (pc := 75) dX3_alike_75 (Nat.le_of_ble_eq_true rfl) rfl ic_1 (L' := [some (.ref 113), some (.int v1), some (.int v2), some (.int v3), some (.int v4), some (.int (v5 + (1 : Int32)))]) rfl ?_
  refine g_goto (tgt := 8) (pc := 78) dX3_alike_78 (by decide) ?_
  exact hk8 v1 v2 v3 v4 (v5 + (1 : Int32)) h
set_option maxRecDepth 100000 in
set_option maxHeartbeats 4000000 in
theorem G_X3_alike_72 {sc : Nat × (Nat → Int32)} {d : Nat} (hd : 1 ≤ d) {r : Int32} {u : xS} {k8 : Int32 → Int32 → Int32 → Int32 → Int32 → Option Int32} (hk8 : ∀ (v1 : Int32) (v2 : Int32) (v3 : Int32) (v4 : Int32) (v5 : Int32), k8 v1 v2 v3 v4 v5 = some r → xG sc mX3_alike d 0 0 (xR (some (.int r)) (xL0, u) 0 0) 0 0 8 [some (.ref 113), some (.int v1), some (.int v2), some (.int v3), some (.int v4), some (.int v5)] [] (xL0, u)) (v1 : Int32) (v2 : Int32) (v3 : Int32) (v5 : Int32) (s0 : Int32) (s1 : Int32) (h : f_X3_alike_72 k8 u v1 v2 v3 v5 s0 s1 = some r) : xG sc mX3_alike d 0 0 (xR (some (.int r)) (xL0, u) 0 0) 0 0 72 [some (.ref 113), some (.int v1), some (.int v2), some (.int v3), none, some (.int v5)] [.int s1, .int s0] (xL0, u) := by
  rw [f_X3_alike_72] at h
  refine g_iadd (pc := 72) dX3_alike_72 rfl ?_
  refine g_istore (pc := 73) dX3_alike_73 (Nat.le_of_ble_eq_true rfl) (L' := [some (.ref 113), some (.int v1), some (.int v2), some (.int v3), some (.int (s0 + s1)), some (.int v5)]) rfl ?_
  exact G_X3_alike_75 hd hk8 v1 v2 v3 (s0 + s1) v5 h
set_option maxRecDepth 100000 in
set_option maxHeartbeats 4000000 in
theorem G_X3_alike_41 {sc : Nat × (Nat → Int32)} {d : Nat} (hd : 1 ≤ d) {r : Int32} {u : xS} {k8 : Int32 → Int32 → Int32 → Int32 → Int32 → Option Int32} (hk8 : ∀ (v1 : Int32) (v2 : Int32) (v3 : Int32) (v4 : Int32) (v5 : Int32), k8 v1 v2 v3 v4 v5 = some r → xG sc mX3_alike d 0 0 (xR (some (.int r)) (xL0, u) 0 0) 0 0 8 [some (.ref 113), some (.int v1), some (.int v2), some (.int v3), some (.int v4), some (.int v5)] [] (xL0, u)) (v1 : Int32) (v2 : Int32) (v3 : Int32) (v4 : Int32) (v5 : Int32) (h : f_X3_alike_41 k8 u v1 v2 v3 v4 v5 = some r) : xG sc mX3_alike d 0 0 (xR (some (.int r)) (xL0, u) 0 0) 0 0 41 [some (.ref 113), some (.int v1), some (.int v2), some (.int v3), some (.int v4), some (.int v5)] [] (xL0, u) := by
  rw [f_X3_alike_41] at h
  refine g_inc (pc := 41) dX3_alike_41 (Nat.le_of_ble_eq_true rfl) rfl ic_1 (L' := [some (.ref 113), some (.int v1), some (.int v2), some (.int (v3 + (1 : Int32))), some (.int v4), some (.int v5)]) rfl ?_
  refine g_iload (pc := 44) dX3_alike_44 rfl ?_
  refine g_aload_n (pc := 46) dX3_alike_46 rfl ?_
  refine g_gR (pc := 47) dX3_alike_47 fR_RX3_16 xc_113 (v := 117) rfl ?_
  refine g_iconst (pc := 50) dX3_alike_50 ic_0 ?_
  refine g_aaload (pc := 51) dX3_alike_51 xc_117 vin_0_2 (v := 118) rfl ?_
  refine g_iload (pc := 52) dX3_alike_52 rfl ?_
  obtain ⟨g1, h⟩ := x_gd h
  refine g_iaload (pc := 54) dX3_alike_54 xc_118 (xin_of g1) (v := (rd u 118 v5.toNatClampNeg)) rfl ?_
  refine g_aload_n (pc := 55) dX3_alike_55 rfl ?_
  refine g_gR (pc := 56) dX3_alike_56 fR_RX3_16 xc_113 (v := 117) rfl ?_
  refine g_iconst (pc := 59) dX3_alike_59 ic_1 ?_
  refine g_aaload (pc := 60) dX3_alike_60 xc_117 vin_1_2 (v := 119) rfl ?_
  refine g_iload (pc := 61) dX3_alike_61 rfl ?_
  refine g_iaload (pc := 63) dX3_alike_63 xc_119 (xin_of g1) (v := (rd u 119 v5.toNatClampNeg)) rfl ?_
  refine g_icmp_ne (tgt := 71) (pc := 64) dX3_alike_64 (by decide) (fun c2 => ?_) (fun c2 => ?_)
  · replace h := (if_neg c2).symm.trans h
    refine g_iconst (pc := 71) dX3_alike_71 ic_0 ?_
    refine g_L (L' := [some (.ref 113), some (.int v1), some (.int v2), some (.int (v3 + (1 : Int32))), none, some (.int v5)]) ⟨rfl, ⟨rfl, ⟨rfl, ⟨rfl, ⟨rfl, trivial⟩⟩⟩⟩⟩ ?_
    exact G_X3_alike_72 hd hk8 v1 v2 (v3 + (1 : Int32)) v5 v4 (0 : Int32) h
  · replace h := (if_pos c2).symm.trans h
    refine g_iconst (pc := 67) dX3_alike_67 ic_1 ?_
    refine g_goto (tgt := 72) (pc := 68) dX3_alike_68 (by decide) ?_
    refine g_L (L' := [some (.ref 113), some (.int v1), some (.int v2), some (.int (v3 + (1 : Int32))), none, some (.int v5)]) ⟨rfl, ⟨rfl, ⟨rfl, ⟨rfl, ⟨rfl, trivial⟩⟩⟩⟩⟩ ?_
    exact G_X3_alike_72 hd hk8 v1 v2 (v3 + (1 : Int32)) v5 v4 (1 : Int32) h
set_option maxRecDepth 100000 in
set_option maxHeartbeats 4000000 in
theorem G_X3_alike_8 {sc : Nat × (Nat → Int32)} {d : Nat} (hd : 1 ≤ d) {r : Int32} {u : xS} : ∀ (n : Nat) (v1 : Int32) (v2 : Int32) (v3 : Int32) (v4 : Int32) (v5 : Int32), f_X3_alike_8 u n v1 v2 v3 v4 v5 = some r → xG sc mX3_alike d 0 0 (xR (some (.int r)) (xL0, u) 0 0) 0 0 8 [some (.ref 113), some (.int v1), some (.int v2), some (.int v3), some (.int v4), some (.int v5)] [] (xL0, u) := by
  intro n
  induction n with
  | zero =>
    intro v1 v2 v3 v4 v5 h
    rw [f_X3_alike_8] at h
    cases h
  | succ n ih =>
    intro v1 v2 v3 v4 v5 h
    rw [f_X3_alike_8] at h
    refine g_iload (pc := 8) dX3_alike_8 rfl ?_
    refine g_aload_n (pc := 10) dX3_alike_10 rfl ?_
    refine g_gI (pc := 11) dX3_alike_11 fI_RX3_23 xc_113 (v := (rd u 113 3)) rfl ?_
    refine g_icmp_ge (tgt := 81) (pc := 14) dX3_alike_14 (by decide) (fun c1 => ?_) (fun c1 => ?_)
    · replace h := (if_pos c1).symm.trans h
      refine g_iload_n (pc := 81) dX3_alike_81 rfl ?_
      refine g_if_ne (tgt := 89) (pc := 82) dX3_alike_82 (by decide) (fun c2 => ?_) (fun c2 => ?_)
      · replace h := (if_neg c2).symm.trans h
        refine g_iload (pc := 89) dX3_alike_89 rfl ?_
        refine g_iload_n (pc := 91) dX3_alike_91 rfl ?_
        obtain ⟨x4, e3, h⟩ := x_bind h
        refine g_cN (pc := 92) dX3_alike_92 cN_RX3_31 (M_X11_inThousand (Nat.le_refl _) e3) (as := [.int v4, .int v3]) (st := []) rfl rfl (Nat.le_of_ble_eq_true rfl) (Nat.le_trans (Nat.le_of_ble_eq_true rfl) hd) rfl ?_
        cases h
        exact g_iret (pc := 95) dX3_alike_95 rfl rfl rfl (Nat.le_refl _) (Nat.le_refl _)
      · replace h := (if_pos c2).symm.trans h
        refine g_iconst (pc := 85) dX3_alike_85 ic_m1 ?_
        refine g_goto (tgt := 95) (pc := 86) dX3_alike_86 (by decide) ?_
        cases h
        exact g_iret (pc := 95) dX3_alike_95 rfl rfl rfl (Nat.le_refl _) (Nat.le_refl _)
    · replace h := (if_neg c1).symm.trans h
      refine g_aload_n (pc := 17) dX3_alike_17 rfl ?_
      refine g_iload (pc := 18) dX3_alike_18 rfl ?_
      refine g_iconst (pc := 20) dX3_alike_20 ic_0 ?_
      refine g_iload_n (pc := 21) dX3_alike_21 rfl ?_
      refine g_iload_n (pc := 22) dX3_alike_22 rfl ?_
      obtain ⟨x6, e5, h⟩ := x_bind h
      refine g_cV (pc := 23) dX3_alike_23 cV_RX3_27 (M_X3_isOf (Nat.le_refl _) e5) xc_113 (as := [.int v5, .int (0 : Int32), .int v1, .int v2]) (st := []) rfl rfl (Nat.le_of_ble_eq_true rfl) (Nat.le_trans (Nat.le_of_ble_eq_true rfl) hd) rfl ?_
      refine g_if_ne (tgt := 41) (pc := 26) dX3_alike_26 (by decide) (fun c7 => ?_) (fun c7 => ?_)
      · replace h := (if_neg c7).symm.trans h
        exact G_X3_alike_41 hd ih v1 v2 v3 v4 v5 h
      · replace h := (if_pos c7).symm.trans h
        refine g_aload_n (pc := 29) dX3_alike_29 rfl ?_
        refine g_iload (pc := 30) dX3_alike_30 rfl ?_
        refine g_iconst (pc := 32) dX3_alike_32 ic_1 ?_
        refine g_iload_n (pc := 33) dX3_alike_33 rfl ?_
        refine g_iload_n (pc := 34) dX3_alike_34 rfl ?_
        obtain ⟨x9, e8, h⟩ := x_bind h
        refine g_cV (pc := 35) dX3_alike_35 cV_RX3_27 (M_X3_isOf (Nat.le_refl _) e8) xc_113 (as := [.int v5, .int (1 : Int32), .int v1, .int v2]) (st := []) rfl rfl (Nat.le_of_ble_eq_true rfl) (Nat.le_trans (Nat.le_of_ble_eq_true rfl) hd) rfl ?_
        refine g_if_eq (tgt := 75) (pc := 38) dX3_alike_38 (by decide) (fun c10 => ?_) (fun c10 => ?_)
        · replace h := (if_pos c10).symm.trans h
          exact G_X3_alike_75 hd ih v1 v2 v3 v4 v5 h
        · replace h := (if_neg c10).symm.trans h
          exact G_X3_alike_41 hd ih v1 v2 v3 v4 v5 h
set_option maxRecDepth 100000 in
set_option maxHeartbeats 4000000 in
theorem G_X3_alike_0 {sc : Nat × (Nat → Int32)} {d : Nat} (hd : 1 ≤ d) {r : Int32} {u : xS} (v1 : Int32) (v2 : Int32) (h : f_X3_alike u v1 v2 = some r) : xG sc mX3_alike d 0 0 (xR (some (.int r)) (xL0, u) 0 0) 0 0 0 [some (.ref 113), some (.int v1), some (.int v2), none, none, none] [] (xL0, u) := by
  rw [f_X3_alike] at h
  refine g_iconst (pc := 0) dX3_alike_0 ic_0 ?_
  refine g_istore_n (pc := 1) dX3_alike_1 (Nat.le_of_ble_eq_true rfl) (L' := [some (.ref 113), some (.int v1), some (.int v2), some (.int (0 : Int32)), none, none]) rfl ?_
  refine g_iconst (pc := 2) dX3_alike_2 ic_0 ?_
  refine g_istore (pc := 3) dX3_alike_3 (Nat.le_of_ble_eq_true rfl) (L' := [some (.ref 113), some (.int v1), some (.int v2), some (.int (0 : Int32)), some (.int (0 : Int32)), none]) rfl ?_
  refine g_iconst (pc := 5) dX3_alike_5 ic_0 ?_
  refine g_istore (pc := 6) dX3_alike_6 (Nat.le_of_ble_eq_true rfl) (L' := [some (.ref 113), some (.int v1), some (.int v2), some (.int (0 : Int32)), some (.int (0 : Int32)), some (.int (0 : Int32))]) rfl ?_
  exact G_X3_alike_8 hd xN v1 v2 (0 : Int32) (0 : Int32) (0 : Int32) h
set_option maxRecDepth 100000 in
set_option maxHeartbeats 4000000 in
theorem M_X3_alike {sc : Nat × (Nat → Int32)} {d : Nat} (hd : 1 ≤ d) {r : Int32} {u : xS} {a1 : Int32} {a2 : Int32} (h : f_X3_alike u a1 a2 = some r) : xMt sc mX3_alike d 0 0 [.ref 113, .int a1, .int a2] (xL0, u) (some (.int r)) (xL0, u) :=
  xMt.of (by decide +kernel) (Nat.le_of_ble_eq_true rfl) (L := [some (.ref 113), some (.int a1), some (.int a2), none, none, none]) rfl ((G_X3_alike_0 hd a1 a2 h))
set_option maxRecDepth 100000 in
set_option maxHeartbeats 4000000 in
theorem G_X11_eye_0 {sc : Nat × (Nat → Int32)} {d : Nat} (hd : 2 ≤ d) {r : Int32} {u : xS} (v1 : Int32) (h : f_X11_eye u v1 = some r) : xG sc mX11_eye d 0 0 (xR (some (.int r)) (xL0, u) 0 0) 0 0 0 [some (.ref 0), some (.int v1)] [] (xL0, u) := by
  rw [f_X11_eye] at h
  refine g_iload_n (pc := 0) dX11_eye_0 rfl ?_
  refine g_cS (pc := 1) dX11_eye_1 cS_RX11_138 (M_X11_isSorter (Nat.le_refl _) rfl) (as := [.int v1]) (st := []) rfl rfl (Nat.le_of_ble_eq_true rfl) (Nat.le_trans (Nat.le_of_ble_eq_true rfl) hd) rfl ?_
  refine g_if_eq (tgt := 19) (pc := 4) dX11_eye_4 (by decide) (fun c1 => ?_) (fun c1 => ?_)
  · replace h := (if_pos c1).symm.trans h
    refine g_iconst (pc := 19) dX11_eye_19 ic_m1 ?_
    cases h
    exact g_iret (pc := 20) dX11_eye_20 rfl rfl rfl (Nat.le_refl _) (Nat.le_refl _)
  · replace h := (if_neg c1).symm.trans h
    refine g_aload_n (pc := 7) dX11_eye_7 rfl ?_
    refine g_gR (pc := 8) dX11_eye_8 fR_RX11_75 xc_0 (v := 113) rfl ?_
    refine g_iload_n (pc := 11) dX11_eye_11 rfl ?_
    refine g_iconst (pc := 12) dX11_eye_12 ic_m1 ?_
    obtain ⟨x3, e2, h⟩ := x_bind h
    refine g_cV (pc := 13) dX11_eye_13 cV_RX11_260 (M_X3_alike (Nat.le_refl _) e2) xc_113 (as := [.int v1, .int (-1 : Int32)]) (st := []) rfl rfl (Nat.le_of_ble_eq_true rfl) (Nat.le_trans (Nat.le_of_ble_eq_true rfl) hd) rfl ?_
    refine g_goto (tgt := 20) (pc := 16) dX11_eye_16 (by decide) ?_
    cases h
    exact g_iret (pc := 20) dX11_eye_20 rfl rfl rfl (Nat.le_refl _) (Nat.le_refl _)
set_option maxRecDepth 100000 in
set_option maxHeartbeats 4000000 in
theorem M_X11_eye {sc : Nat × (Nat → Int32)} {d : Nat} (hd : 2 ≤ d) {r : Int32} {u : xS} {a1 : Int32} (h : f_X11_eye u a1 = some r) : xMt sc mX11_eye d 0 0 [.ref 0, .int a1] (xL0, u) (some (.int r)) (xL0, u) :=
  xMt.of (by decide +kernel) (Nat.le_of_ble_eq_true rfl) (L := [some (.ref 0), some (.int a1)]) rfl ((G_X11_eye_0 hd a1 h))
theorem zb_X2_has (u : xS) (v1 : Int32) : f_X2_has u v1 = 0 ∨ f_X2_has u v1 = 1 := by
  unfold f_X2_has
  (repeat' split) <;> first | exact Or.inl rfl | exact Or.inr rfl
set_option maxRecDepth 100000 in
set_option maxHeartbeats 4000000 in
theorem G_X2_has_0 {sc : Nat × (Nat → Int32)} {d : Nat} (hd : 0 ≤ d) {r : Int32} {u : xS} (v1 : Int32) (h : f_X2_has u v1 = r) : xG sc mX2_has d 0 0 (xR (some (.int r)) (xL0, u) 0 0) 0 0 0 [some (.ref 87), some (.int v1)] [] (xL0, u) := by
  rw [f_X2_has] at h
  refine g_iload_n (pc := 0) dX2_has_0 rfl ?_
  refine g_if_lt (tgt := 16) (pc := 1) dX2_has_1 (by decide) (fun c1 => ?_) (fun c1 => ?_)
  · replace h := (if_pos c1).symm.trans h
    refine g_iconst (pc := 16) dX2_has_16 ic_0 ?_
    subst h
    exact g_zret (pc := 17) dX2_has_17 rfl (Or.inl rfl) rfl rfl (Nat.le_refl _) (Nat.le_refl _)
  · replace h := (if_neg c1).symm.trans h
    refine g_iload_n (pc := 4) dX2_has_4 rfl ?_
    refine g_aload_n (pc := 5) dX2_has_5 rfl ?_
    refine g_gI (pc := 6) dX2_has_6 fI_RX2_20 xc_87 (v := (rd u 87 2)) rfl ?_
    refine g_icmp_ge (tgt := 16) (pc := 9) dX2_has_9 (by decide) (fun c2 => ?_) (fun c2 => ?_)
    · replace h := (if_pos c2).symm.trans h
      refine g_iconst (pc := 16) dX2_has_16 ic_0 ?_
      subst h
      exact g_zret (pc := 17) dX2_has_17 rfl (Or.inl rfl) rfl rfl (Nat.le_refl _) (Nat.le_refl _)
    · replace h := (if_neg c2).symm.trans h
      refine g_iconst (pc := 12) dX2_has_12 ic_1 ?_
      refine g_goto (tgt := 17) (pc := 13) dX2_has_13 (by decide) ?_
      subst h
      exact g_zret (pc := 17) dX2_has_17 rfl (Or.inr rfl) rfl rfl (Nat.le_refl _) (Nat.le_refl _)
set_option maxRecDepth 100000 in
set_option maxHeartbeats 4000000 in
theorem M_X2_has {sc : Nat × (Nat → Int32)} {d : Nat} (hd : 0 ≤ d) {r : Int32} {u : xS} {a1 : Int32} (h : f_X2_has u a1 = r) : xMt sc mX2_has d 0 0 [.ref 87, .int a1] (xL0, u) (some (.int r)) (xL0, u) :=
  xMt.of (by decide +kernel) (Nat.le_of_ble_eq_true rfl) (L := [some (.ref 87), some (.int a1)]) rfl ((G_X2_has_0 hd a1 h))
set_option maxRecDepth 100000 in
set_option maxHeartbeats 4000000 in
theorem G_X11_fault_0 {sc : Nat × (Nat → Int32)} {d : Nat} (hd : 1 ≤ d) {r : Int32} {u' : xS} (v1 : Int32) (v2 : Int32) (u : xS) (h : f_X11_fault v1 v2 u = some (r, u')) : xG sc mX11_fault d 0 0 (xR (some (.int r)) (xL0, u') 0 0) 0 0 0 [some (.ref 0), some (.int v1), some (.int v2), none] [] (xL0, u) := by
  rw [f_X11_fault] at h
  refine g_aload_n (pc := 0) dX11_fault_0 rfl ?_
  refine g_gR (pc := 1) dX11_fault_1 fR_RX11_68 xc_0 (v := 87) rfl ?_
  refine g_iload_n (pc := 4) dX11_fault_4 rfl ?_
  refine g_cV (pc := 5) dX11_fault_5 cV_RX11_358 (M_X2_has (Nat.le_refl _) rfl) xc_87 (as := [.int v1]) (st := []) rfl rfl (Nat.le_of_ble_eq_true rfl) (Nat.le_trans (Nat.le_of_ble_eq_true rfl) hd) rfl ?_
  refine g_if_eq (tgt := 20) (pc := 8) dX11_fault_8 (by decide) (fun c1 => ?_) (fun c1 => ?_)
  · replace h := (if_pos c1).symm.trans h
    refine g_iconst (pc := 20) dX11_fault_20 ic_m1 ?_
    cases h
    exact g_iret (pc := 21) dX11_fault_21 rfl rfl rfl (Nat.le_refl _) (Nat.le_refl _)
  · replace h := (if_neg c1).symm.trans h
    refine g_iload_n (pc := 11) dX11_fault_11 rfl ?_
    refine g_iconst (pc := 12) dX11_fault_12 ic_0 ?_
    refine g_iconst (pc := 13) dX11_fault_13 ic_2 ?_
    refine g_cS (pc := 14) dX11_fault_14 cS_RX11_94 (M_X11_lies (Nat.le_refl _) rfl) (as := [.int v2, .int (0 : Int32), .int (2 : Int32)]) (st := []) rfl rfl (Nat.le_of_ble_eq_true rfl) (Nat.le_trans (Nat.le_of_ble_eq_true rfl) hd) rfl ?_
    refine g_if_ne (tgt := 22) (pc := 17) dX11_fault_17 (by decide) (fun c2 => ?_) (fun c2 => ?_)
    · replace h := (if_neg c2).symm.trans h
      refine g_aload_n (pc := 22) dX11_fault_22 rfl ?_
      refine g_gR (pc := 23) dX11_fault_23 fR_RX11_68 xc_0 (v := 87) rfl ?_
      refine g_gR (pc := 26) dX11_fault_26 fR_RX11_362 xc_87 (v := 109) rfl ?_
      refine g_iload_n (pc := 29) dX11_fault_29 rfl ?_
      obtain ⟨g3, h⟩ := x_gd h
      refine g_iaload (pc := 30) dX11_fault_30 xc_109 (xin_of g3) (v := (rd u 109 v1.toNatClampNeg)) rfl ?_
      refine g_istore_n (pc := 31) dX11_fault_31 (Nat.le_of_ble_eq_true rfl) (L' := [some (.ref 0), some (.int v1), some (.int v2), some (.int (rd u 109 v1.toNatClampNeg))]) rfl ?_
      refine g_aload_n (pc := 32) dX11_fault_32 rfl ?_
      refine g_gR (pc := 33) dX11_fault_33 fR_RX11_68 xc_0 (v := 87) rfl ?_
      refine g_gR (pc := 36) dX11_fault_36 fR_RX11_362 xc_87 (v := 109) rfl ?_
      refine g_iload_n (pc := 39) dX11_fault_39 rfl ?_
      refine g_iload_n (pc := 40) dX11_fault_40 rfl ?_
      refine g_iastore (pc := 41) dX11_fault_41 xc_109 (xin_of g3) (u' := (wr u 109 v1.toNatClampNeg v2)) rfl ?_
      refine g_iload_n (pc := 42) dX11_fault_42 rfl ?_
      cases h
      exact g_iret (pc := 43) dX11_fault_43 rfl rfl rfl (Nat.le_refl _) (Nat.le_refl _)
    · replace h := (if_pos c2).symm.trans h
      refine g_iconst (pc := 20) dX11_fault_20 ic_m1 ?_
      cases h
      exact g_iret (pc := 21) dX11_fault_21 rfl rfl rfl (Nat.le_refl _) (Nat.le_refl _)
set_option maxRecDepth 100000 in
set_option maxHeartbeats 4000000 in
theorem M_X11_fault {sc : Nat × (Nat → Int32)} {d : Nat} (hd : 1 ≤ d) {r : Int32} {u u' : xS} {a1 : Int32} {a2 : Int32} (h : f_X11_fault a1 a2 u = some (r, u')) : xMt sc mX11_fault d 0 0 [.ref 0, .int a1, .int a2] (xL0, u) (some (.int r)) (xL0, u') :=
  xMt.of (by decide +kernel) (Nat.le_of_ble_eq_true rfl) (L := [some (.ref 0), some (.int a1), some (.int a2), none]) rfl ((G_X11_fault_0 hd a1 a2 u h))
set_option maxRecDepth 100000 in
set_option maxHeartbeats 4000000 in
theorem G_X6_lessen_0 {sc : Nat × (Nat → Int32)} {d : Nat} (hd : 0 ≤ d) {u' : xS} (v1 : Int32) (v2 : Int32) (v3 : Nat) (u : xS) (h : f_X6_lessen v1 v2 v3 u = some u') : xG sc mX6_lessen d 0 0 (xR none (xL0, u') 0 0) 0 0 0 [some (.ref 74), some (.int v1), some (.int v2), some (.ref v3)] [] (xL0, u) := by
  rw [f_X6_lessen] at h
  refine g_aload_n (pc := 0) dX6_lessen_0 rfl ?_
  refine g_gR (pc := 1) dX6_lessen_1 fR_RX6_18 xc_74 (v := 77) rfl ?_
  refine g_iload_n (pc := 4) dX6_lessen_4 rfl ?_
  refine g_dup2 (pc := 5) dX6_lessen_5 rfl rfl ?_
  obtain ⟨g1, h⟩ := x_gd h
  refine g_iaload (pc := 6) dX6_lessen_6 xc_77 (xin_of g1) (v := (rd u 77 v1.toNatClampNeg)) rfl ?_
  refine g_iload_n (pc := 7) dX6_lessen_7 rfl ?_
  refine g_isub (pc := 8) dX6_lessen_8 rfl ?_
  refine g_iastore (pc := 9) dX6_lessen_9 xc_77 (xin_of g1) (u' := (wr u 77 v1.toNatClampNeg ((rd u 77 v1.toNatClampNeg) - v2))) rfl ?_
  refine g_aload_n (pc := 10) dX6_lessen_10 rfl ?_
  refine g_gR (pc := 11) dX6_lessen_11 fR_RX6_21 xc_74 (v := 78) rfl ?_
  refine g_aload_n (pc := 14) dX6_lessen_14 rfl ?_
  refine g_gR (pc := 15) dX6_lessen_15 fR_RX6_11 xc_74 (v := 75) rfl ?_
  refine g_iload_n (pc := 18) dX6_lessen_18 rfl ?_
  refine g_iaload (pc := 19) dX6_lessen_19 xc_75 (xin_of g1) (v := (rd u 75 v1.toNatClampNeg)) rfl ?_
  refine g_dup2 (pc := 20) dX6_lessen_20 rfl rfl ?_
  obtain ⟨g2, h⟩ := x_gd h
  refine g_iaload (pc := 21) dX6_lessen_21 xc_78 (xin_of g2) (v := (rd u 78 (rd u 75 v1.toNatClampNeg).toNatClampNeg)) rfl ?_
  refine g_iload_n (pc := 22) dX6_lessen_22 rfl ?_
  refine g_isub (pc := 23) dX6_lessen_23 rfl ?_
  refine g_iastore (pc := 24) dX6_lessen_24 xc_78 (xin_of g2) (u' := (wr (wr u 77 v1.toNatClampNeg ((rd u 77 v1.toNatClampNeg) - v2)) 78 (rd u 75 v1.toNatClampNeg).toNatClampNeg ((rd u 78 (rd u 75 v1.toNatClampNeg).toNatClampNeg) - v2))) rfl ?_
  refine g_aload_n (pc := 25) dX6_lessen_25 rfl ?_
  refine g_aload_n (pc := 26) dX6_lessen_26 rfl ?_
  refine g_gR (pc := 27) dX6_lessen_27 fR_RX6_15 xc_74 (v := 76) rfl ?_
  refine g_iload_n (pc := 30) dX6_lessen_30 rfl ?_
  refine g_iaload (pc := 31) dX6_lessen_31 xc_76 (xin_of g1) (v := (rd u 76 v1.toNatClampNeg)) rfl ?_
  refine g_dup2 (pc := 32) dX6_lessen_32 rfl rfl ?_
  obtain ⟨g3, h⟩ := x_gd h
  obtain ⟨g4, h⟩ := x_gd h
  obtain ⟨q5, hq6⟩ := xisI_of g3
  refine g_iaload (pc := 33) dX6_lessen_33 hq6 (xin_of g4) (v := (rd (wr (wr u 77 v1.toNatClampNeg ((rd u 77 v1.toNatClampNeg) - v2)) 78 (rd u 75 v1.toNatClampNeg).toNatClampNeg ((rd u 78 (rd u 75 v1.toNatClampNeg).toNatClampNeg) - v2)) v3 (rd u 76 v1.toNatClampNeg).toNatClampNeg)) rfl ?_
  refine g_iload_n (pc := 34) dX6_lessen_34 rfl ?_
  refine g_iadd (pc := 35) dX6_lessen_35 rfl ?_
  obtain ⟨g7, h⟩ := x_gd h
  obtain ⟨q8, hq9⟩ := xisI_of g7
  obtain ⟨g10, h⟩ := x_gd h
  refine g_iastore (pc := 36) dX6_lessen_36 hq9 (xin_of g10) (u' := (wr (wr (wr u 77 v1.toNatClampNeg ((rd u 77 v1.toNatClampNeg) - v2)) 78 (rd u 75 v1.toNatClampNeg).toNatClampNeg ((rd u 78 (rd u 75 v1.toNatClampNeg).toNatClampNeg) - v2)) v3 (rd u 76 v1.toNatClampNeg).toNatClampNeg ((rd (wr (wr u 77 v1.toNatClampNeg ((rd u 77 v1.toNatClampNeg) - v2)) 78 (rd u 75 v1.toNatClampNeg).toNatClampNeg ((rd u 78 (rd u 75 v1.toNatClampNeg).toNatClampNeg) - v2)) v3 (rd u 76 v1.toNatClampNeg).toNatClampNeg) + v2))) rfl ?_
  cases h
  exact g_ret (pc := 37) dX6_lessen_37 rfl rfl rfl (Nat.le_refl _) (Nat.le_refl _)
set_option maxRecDepth 100000 in
set_option maxHeartbeats 4000000 in
theorem M_X6_lessen {sc : Nat × (Nat → Int32)} {d : Nat} (hd : 0 ≤ d) {u u' : xS} {a1 : Int32} {a2 : Int32} {a3 : Nat} (h : f_X6_lessen a1 a2 a3 u = some u') : xMt sc mX6_lessen d 0 0 [.ref 74, .int a1, .int a2, .ref a3] (xL0, u) none (xL0, u') :=
  xMt.of (by decide +kernel) (Nat.le_of_ble_eq_true rfl) (L := [some (.ref 74), some (.int a1), some (.int a2), some (.ref a3)]) rfl ((G_X6_lessen_0 hd a1 a2 a3 u h))
set_option maxRecDepth 100000 in
set_option maxHeartbeats 4000000 in
theorem G_X6_burn_5 {sc : Nat × (Nat → Int32)} {d : Nat} (hd : 1 ≤ d) {r : Int32} {u' : xS} : ∀ (n : Nat) (v1 : Int32) (v2 : Nat) (v3 : Int32) (v4 : Int32) (u : xS), f_X6_burn_5 n v1 v2 v3 v4 u = some (r, u') → xG sc mX6_burn d 0 0 (xR (some (.int r)) (xL0, u') 0 0) 0 0 5 [some (.ref 74), some (.int v1), some (.ref v2), some (.int v3), some (.int v4), none] [] (xL0, u) := by
  intro n
  induction n with
  | zero =>
    intro v1 v2 v3 v4 u h
    rw [f_X6_burn_5] at h
    cases h
  | succ n ih =>
    intro v1 v2 v3 v4 u h
    rw [f_X6_burn_5] at h
    refine g_iload (pc := 5) dX6_burn_5 rfl ?_
    refine g_aload_n (pc := 7) dX6_burn_7 rfl ?_
    refine g_gI (pc := 8) dX6_burn_8 fI_RX6_24 xc_74 (v := (rd u 74 4)) rfl ?_
    refine g_icmp_ge (tgt := 53) (pc := 11) dX6_burn_11 (by decide) (fun c1 => ?_) (fun c1 => ?_)
    · replace h := (if_pos c1).symm.trans h
      refine g_iload_n (pc := 53) dX6_burn_53 rfl ?_
      cases h
      exact g_iret (pc := 54) dX6_burn_54 rfl rfl rfl (Nat.le_refl _) (Nat.le_refl _)
    · replace h := (if_neg c1).symm.trans h
      refine g_aload_n (pc := 14) dX6_burn_14 rfl ?_
      refine g_gR (pc := 15) dX6_burn_15 fR_RX6_18 xc_74 (v := 77) rfl ?_
      refine g_iload (pc := 18) dX6_burn_18 rfl ?_
      obtain ⟨g2, h⟩ := x_gd h
      refine g_iaload (pc := 20) dX6_burn_20 xc_77 (xin_of g2) (v := (rd u 77 v4.toNatClampNeg)) rfl ?_
      refine g_iload_n (pc := 21) dX6_burn_21 rfl ?_
      refine g_imul (pc := 22) dX6_burn_22 rfl ?_
      refine g_sipush (pc := 23) dX6_burn_23 sp_999 ?_
      refine g_iadd (pc := 26) dX6_burn_26 rfl ?_
      refine g_sipush (pc := 27) dX6_burn_27 sp_1000 ?_
      refine g_idiv (pc := 30) dX6_burn_30 (by decide) rfl ?_
      refine g_istore (pc := 31) dX6_burn_31 (Nat.le_of_ble_eq_true rfl) (L' := [some (.ref 74), some (.int v1), some (.ref v2), some (.int v3), some (.int v4), some (.int ((((rd u 77 v4.toNatClampNeg) * v1) + (999 : Int32)) / (1000 : Int32)))]) rfl ?_
      refine g_aload_n (pc := 33) dX6_burn_33 rfl ?_
      refine g_iload (pc := 34) dX6_burn_34 rfl ?_
      refine g_iload (pc := 36) dX6_burn_36 rfl ?_
      refine g_aload_n (pc := 38) dX6_burn_38 rfl ?_
      obtain ⟨u4, e3, h⟩ := x_bind h
      refine g_cV (pc := 39) dX6_burn_39 cV_RX6_34 (M_X6_lessen (Nat.le_refl _) e3) xc_74 (as := [.int v4, .int ((((rd u 77 v4.toNatClampNeg) * v1) + (999 : Int32)) / (1000 : Int32)), .ref v2]) (st := []) rfl rfl (Nat.le_of_ble_eq_true rfl) (Nat.le_trans (Nat.le_of_ble_eq_true rfl) hd) rfl ?_
      refine g_iload_n (pc := 42) dX6_burn_42 rfl ?_
      refine g_iload (pc := 43) dX6_burn_43 rfl ?_
      refine g_iadd (pc := 45) dX6_burn_45 rfl ?_
      refine g_istore_n (pc := 46) dX6_burn_46 (Nat.le_of_ble_eq_true rfl) (L' := [some (.ref 74), some (.int v1), some (.ref v2), some (.int (v3 + ((((rd u 77 v4.toNatClampNeg) * v1) + (999 : Int32)) / (1000 : Int32)))), some (.int v4), some (.int ((((rd u 77 v4.toNatClampNeg) * v1) + (999 : Int32)) / (1000 : Int32)))]) rfl ?_
      refine g_inc (pc := 47) dX6_burn_47 (Nat.le_of_ble_eq_true rfl) rfl ic_1 (L' := [some (.ref 74), some (.int v1), some (.ref v2), some (.int (v3 + ((((rd u 77 v4.toNatClampNeg) * v1) + (999 : Int32)) / (1000 : Int32)))), some (.int (v4 + (1 : Int32))), some (.int ((((rd u 77 v4.toNatClampNeg) * v1) + (999 : Int32)) / (1000 : Int32)))]) rfl ?_
      refine g_goto (tgt := 5) (pc := 50) dX6_burn_50 (by decide) ?_
      refine g_L (L' := [some (.ref 74), some (.int v1), some (.ref v2), some (.int (v3 + ((((rd u 77 v4.toNatClampNeg) * v1) + (999 : Int32)) / (1000 : Int32)))), some (.int (v4 + (1 : Int32))), none]) ⟨rfl, ⟨rfl, ⟨rfl, ⟨rfl, ⟨rfl, trivial⟩⟩⟩⟩⟩ ?_
      exact ih v1 v2 (v3 + ((((rd u 77 v4.toNatClampNeg) * v1) + (999 : Int32)) / (1000 : Int32))) (v4 + (1 : Int32)) u4 h
set_option maxRecDepth 100000 in
set_option maxHeartbeats 4000000 in
theorem G_X6_burn_0 {sc : Nat × (Nat → Int32)} {d : Nat} (hd : 1 ≤ d) {r : Int32} {u' : xS} (v1 : Int32) (v2 : Nat) (u : xS) (h : f_X6_burn v1 v2 u = some (r, u')) : xG sc mX6_burn d 0 0 (xR (some (.int r)) (xL0, u') 0 0) 0 0 0 [some (.ref 74), some (.int v1), some (.ref v2), none, none, none] [] (xL0, u) := by
  rw [f_X6_burn] at h
  refine g_iconst (pc := 0) dX6_burn_0 ic_0 ?_
  refine g_istore_n (pc := 1) dX6_burn_1 (Nat.le_of_ble_eq_true rfl) (L' := [some (.ref 74), some (.int v1), some (.ref v2), some (.int (0 : Int32)), none, none]) rfl ?_
  refine g_iconst (pc := 2) dX6_burn_2 ic_0 ?_
  refine g_istore (pc := 3) dX6_burn_3 (Nat.le_of_ble_eq_true rfl) (L' := [some (.ref 74), some (.int v1), some (.ref v2), some (.int (0 : Int32)), some (.int (0 : Int32)), none]) rfl ?_
  exact G_X6_burn_5 hd xN v1 v2 (0 : Int32) (0 : Int32) u h
set_option maxRecDepth 100000 in
set_option maxHeartbeats 4000000 in
theorem M_X6_burn {sc : Nat × (Nat → Int32)} {d : Nat} (hd : 1 ≤ d) {r : Int32} {u u' : xS} {a1 : Int32} {a2 : Nat} (h : f_X6_burn a1 a2 u = some (r, u')) : xMt sc mX6_burn d 0 0 [.ref 74, .int a1, .ref a2] (xL0, u) (some (.int r)) (xL0, u') :=
  xMt.of (by decide +kernel) (Nat.le_of_ble_eq_true rfl) (L := [some (.ref 74), some (.int a1), some (.ref a2), none, none, none]) rfl ((G_X6_burn_0 hd a1 a2 u h))
set_option maxRecDepth 100000 in
set_option maxHeartbeats 4000000 in
theorem G_X11_fire_0 {sc : Nat × (Nat → Int32)} {d : Nat} (hd : 2 ≤ d) {r : Int32} {u' : xS} (v1 : Int32) (u : xS) (h : f_X11_fire v1 u = some (r, u')) : xG sc mX11_fire d 0 0 (xR (some (.int r)) (xL0, u') 0 0) 0 0 0 [some (.ref 0), some (.int v1)] [] (xL0, u) := by
  rw [f_X11_fire] at h
  refine g_iload_n (pc := 0) dX11_fire_0 rfl ?_
  refine g_iconst (pc := 1) dX11_fire_1 ic_0 ?_
  refine g_sipush (pc := 2) dX11_fire_2 sp_1000 ?_
  refine g_cS (pc := 5) dX11_fire_5 cS_RX11_94 (M_X11_lies (Nat.le_refl _) rfl) (as := [.int v1, .int (0 : Int32), .int (1000 : Int32)]) (st := []) rfl rfl (Nat.le_of_ble_eq_true rfl) (Nat.le_trans (Nat.le_of_ble_eq_true rfl) hd) rfl ?_
  refine g_if_eq (tgt := 29) (pc := 8) dX11_fire_8 (by decide) (fun c1 => ?_) (fun c1 => ?_)
  · replace h := (if_pos c1).symm.trans h
    refine g_iconst (pc := 29) dX11_fire_29 ic_m1 ?_
    cases h
    exact g_iret (pc := 30) dX11_fire_30 rfl rfl rfl (Nat.le_refl _) (Nat.le_refl _)
  · replace h := (if_neg c1).symm.trans h
    refine g_aload_n (pc := 11) dX11_fire_11 rfl ?_
    refine g_gR (pc := 12) dX11_fire_12 fR_RX11_54 xc_0 (v := 74) rfl ?_
    refine g_iload_n (pc := 15) dX11_fire_15 rfl ?_
    refine g_aload_n (pc := 16) dX11_fire_16 rfl ?_
    refine g_gR (pc := 17) dX11_fire_17 fR_RX11_19 xc_0 (v := 13) rfl ?_
    refine g_gR (pc := 20) dX11_fire_20 fR_RX11_176 xc_13 (v := 20) rfl ?_
    obtain ⟨⟨x3, u4⟩, e2, h⟩ := x_bind h
    dsimp only at h
    refine g_cV (pc := 23) dX11_fire_23 cV_RX11_266 (M_X6_burn (Nat.le_refl _) e2) xc_74 (as := [.int v1, .ref 20]) (st := []) rfl rfl (Nat.le_of_ble_eq_true rfl) (Nat.le_trans (Nat.le_of_ble_eq_true rfl) hd) rfl ?_
    refine g_goto (tgt := 30) (pc := 26) dX11_fire_26 (by decide) ?_
    cases h
    exact g_iret (pc := 30) dX11_fire_30 rfl rfl rfl (Nat.le_refl _) (Nat.le_refl _)
set_option maxRecDepth 100000 in
set_option maxHeartbeats 4000000 in
theorem M_X11_fire {sc : Nat × (Nat → Int32)} {d : Nat} (hd : 2 ≤ d) {r : Int32} {u u' : xS} {a1 : Int32} (h : f_X11_fire a1 u = some (r, u')) : xMt sc mX11_fire d 0 0 [.ref 0, .int a1] (xL0, u) (some (.int r)) (xL0, u') :=
  xMt.of (by decide +kernel) (Nat.le_of_ble_eq_true rfl) (L := [some (.ref 0), some (.int a1)]) rfl ((G_X11_fire_0 hd a1 u h))
set_option maxRecDepth 100000 in
set_option maxHeartbeats 4000000 in
theorem G_X8_isPart_5 {sc : Nat × (Nat → Int32)} {d : Nat} (hd : 1 ≤ d) {r : Int32} {u : xS} : ∀ (n : Nat) (v2 : Int32) (v3 : Int32) (v4 : Int32), f_X8_isPart_5 u n v2 v3 v4 = some r → xG sc mX8_isPart d 0 0 (xR (some (.int r)) (xL0, u) 0 0) 0 0 5 [some (.ref 1), none, some (.int v2), some (.int v3), some (.int v4)] [] (xL0, u) := by
  intro n
  induction n with
  | zero =>
    intro v2 v3 v4 h
    rw [f_X8_isPart_5] at h
    cases h
  | succ n ih =>
    intro v2 v3 v4 h
    rw [f_X8_isPart_5] at h
    refine g_iload (pc := 5) dX8_isPart_5 rfl ?_
    refine g_bipush (pc := 7) dX8_isPart_7 bp_16 ?_
    refine g_icmp_ge (tgt := 40) (pc := 9) dX8_isPart_9 (by decide) (fun c1 => ?_) (fun c1 => ?_)
    · replace h := (if_pos c1).symm.trans h
      refine g_iconst (pc := 40) dX8_isPart_40 ic_0 ?_
      cases h
      exact g_zret (pc := 41) dX8_isPart_41 rfl (Or.inl rfl) rfl rfl (Nat.le_refl _) (Nat.le_refl _)
    · replace h := (if_neg c1).symm.trans h
      refine g_aload_n (pc := 12) dX8_isPart_12 rfl ?_
      refine g_iload_n (pc := 13) dX8_isPart_13 rfl ?_
      refine g_cV (pc := 14) dX8_isPart_14 cV_RX8_36 (M_X8_has (Nat.le_refl _) rfl) xc_1 (as := [.int v3]) (st := []) rfl rfl (Nat.le_of_ble_eq_true rfl) (Nat.le_trans (Nat.le_of_ble_eq_true rfl) hd) rfl ?_
      refine g_if_eq (tgt := 40) (pc := 17) dX8_isPart_17 (by decide) (fun c2 => ?_) (fun c2 => ?_)
      · replace h := (if_pos c2).symm.trans h
        refine g_iconst (pc := 40) dX8_isPart_40 ic_0 ?_
        cases h
        exact g_zret (pc := 41) dX8_isPart_41 rfl (Or.inl rfl) rfl rfl (Nat.le_refl _) (Nat.le_refl _)
      · replace h := (if_neg c2).symm.trans h
        refine g_iload_n (pc := 20) dX8_isPart_20 rfl ?_
        refine g_iload_n (pc := 21) dX8_isPart_21 rfl ?_
        refine g_icmp_ne (tgt := 27) (pc := 22) dX8_isPart_22 (by decide) (fun c3 => ?_) (fun c3 => ?_)
        · replace h := (if_neg c3).symm.trans h
          refine g_aload_n (pc := 27) dX8_isPart_27 rfl ?_
          refine g_gR (pc := 28) dX8_isPart_28 fR_RX8_16 xc_1 (v := 9) rfl ?_
          refine g_iload_n (pc := 31) dX8_isPart_31 rfl ?_
          obtain ⟨g4, h⟩ := x_gd h
          refine g_iaload (pc := 32) dX8_isPart_32 xc_9 (xin_of g4) (v := (rd u 9 v3.toNatClampNeg)) rfl ?_
          refine g_istore_n (pc := 33) dX8_isPart_33 (Nat.le_of_ble_eq_true rfl) (L' := [some (.ref 1), none, some (.int v2), some (.int (rd u 9 v3.toNatClampNeg)), some (.int v4)]) rfl ?_
          refine g_inc (pc := 34) dX8_isPart_34 (Nat.le_of_ble_eq_true rfl) rfl ic_1 (L' := [some (.ref 1), none, some (.int v2), some (.int (rd u 9 v3.toNatClampNeg)), some (.int (v4 + (1 : Int32)))]) rfl ?_
          refine g_goto (tgt := 5) (pc := 37) dX8_isPart_37 (by decide) ?_
          exact ih v2 (rd u 9 v3.toNatClampNeg) (v4 + (1 : Int32)) h
        · replace h := (if_pos c3).symm.trans h
          refine g_iconst (pc := 25) dX8_isPart_25 ic_1 ?_
          cases h
          exact g_zret (pc := 26) dX8_isPart_26 rfl (Or.inr rfl) rfl rfl (Nat.le_refl _) (Nat.le_refl _)
set_option maxRecDepth 100000 in
set_option maxHeartbeats 4000000 in
theorem G_X8_isPart_0 {sc : Nat × (Nat → Int32)} {d : Nat} (hd : 1 ≤ d) {r : Int32} {u : xS} (v1 : Int32) (v2 : Int32) (h : f_X8_isPart u v1 v2 = some r) : xG sc mX8_isPart d 0 0 (xR (some (.int r)) (xL0, u) 0 0) 0 0 0 [some (.ref 1), some (.int v1), some (.int v2), none, none] [] (xL0, u) := by
  rw [f_X8_isPart] at h
  refine g_iload_n (pc := 0) dX8_isPart_0 rfl ?_
  refine g_istore_n (pc := 1) dX8_isPart_1 (Nat.le_of_ble_eq_true rfl) (L' := [some (.ref 1), some (.int v1), some (.int v2), some (.int v1), none]) rfl ?_
  refine g_iconst (pc := 2) dX8_isPart_2 ic_0 ?_
  refine g_istore (pc := 3) dX8_isPart_3 (Nat.le_of_ble_eq_true rfl) (L' := [some (.ref 1), some (.int v1), some (.int v2), some (.int v1), some (.int (0 : Int32))]) rfl ?_
  refine g_L (L' := [some (.ref 1), none, some (.int v2), some (.int v1), some (.int (0 : Int32))]) ⟨rfl, ⟨rfl, ⟨rfl, ⟨rfl, trivial⟩⟩⟩⟩ ?_
  exact G_X8_isPart_5 hd xN v2 v1 (0 : Int32) h
set_option maxRecDepth 100000 in
set_option maxHeartbeats 4000000 in
theorem M_X8_isPart {sc : Nat × (Nat → Int32)} {d : Nat} (hd : 1 ≤ d) {r : Int32} {u : xS} {a1 : Int32} {a2 : Int32} (h : f_X8_isPart u a1 a2 = some r) : xMt sc mX8_isPart d 0 0 [.ref 1, .int a1, .int a2] (xL0, u) (some (.int r)) (xL0, u) :=
  xMt.of (by decide +kernel) (Nat.le_of_ble_eq_true rfl) (L := [some (.ref 1), some (.int a1), some (.int a2), none, none]) rfl ((G_X8_isPart_0 hd a1 a2 h))
set_option maxRecDepth 100000 in
set_option maxHeartbeats 4000000 in
theorem G_X11_poundsWithin_45 {sc : Nat × (Nat → Int32)} {d : Nat} (hd : 2 ≤ d) {r : Int32} {u : xS} {k5 : Int32 → Int32 → Int32 → Int32 → Option Int32} (hk5 : ∀ (v1 : Int32) (v2 : Int32) (v3 : Int32) (v4 : Int32), k5 v1 v2 v3 v4 = some r → xG sc mX11_poundsWithin d 0 0 (xR (some (.int r)) (xL0, u) 0 0) 0 0 5 [some (.ref 0), some (.int v1), some (.int v2), some (.int v3), some (.int v4)] [] (xL0, u)) (v1 : Int32) (v2 : Int32) (v3 : Int32) (v4 : Int32) (h : f_X11_poundsWithin_45 k5 u v1 v2 v3 v4 = some r) : xG sc mX11_poundsWithin d 0 0 (xR (some (.int r)) (xL0, u) 0 0) 0 0 45 [some (.ref 0), some (.int v1), some (.int v2), some (.int v3), some (.int v4)] [] (xL0, u) := by
  rw [f_X11_poundsWithin_45] at h
  refine g_inc (pc := 45) dX11_poundsWithin_45 (Nat.le_of_ble_eq_true rfl) rfl ic_1 (L' := [some (.ref 0), some (.int v1), some (.int v2), some (.int v3), some (.int (v4 + (1 : Int32)))]) rfl ?_
  refine g_goto (tgt := 5) (pc := 48) dX11_poundsWithin_48 (by decide) ?_
  exact hk5 v1 v2 v3 (v4 + (1 : Int32)) h
set_option maxRecDepth 100000 in
set_option maxHeartbeats 4000000 in
theorem G_X11_poundsWithin_5 {sc : Nat × (Nat → Int32)} {d : Nat} (hd : 2 ≤ d) {r : Int32} {u : xS} : ∀ (n : Nat) (v1 : Int32) (v2 : Int32) (v3 : Int32) (v4 : Int32), f_X11_poundsWithin_5 u n v1 v2 v3 v4 = some r → xG sc mX11_poundsWithin d 0 0 (xR (some (.int r)) (xL0, u) 0 0) 0 0 5 [some (.ref 0), some (.int v1), some (.int v2), some (.int v3), some (.int v4)] [] (xL0, u) := by
  intro n
  induction n with
  | zero =>
    intro v1 v2 v3 v4 h
    rw [f_X11_poundsWithin_5] at h
    cases h
  | succ n ih =>
    intro v1 v2 v3 v4 h
    rw [f_X11_poundsWithin_5] at h
    refine g_iload (pc := 5) dX11_poundsWithin_5 rfl ?_
    refine g_aload_n (pc := 7) dX11_poundsWithin_7 rfl ?_
    refine g_gR (pc := 8) dX11_poundsWithin_8 fR_RX11_12 xc_0 (v := 1) rfl ?_
    refine g_gI (pc := 11) dX11_poundsWithin_11 fI_RX11_102 xc_1 (v := (rd u 1 2)) rfl ?_
    refine g_icmp_ge (tgt := 51) (pc := 14) dX11_poundsWithin_14 (by decide) (fun c1 => ?_) (fun c1 => ?_)
    · replace h := (if_pos c1).symm.trans h
      refine g_iload_n (pc := 51) dX11_poundsWithin_51 rfl ?_
      cases h
      exact g_iret (pc := 52) dX11_poundsWithin_52 rfl rfl rfl (Nat.le_refl _) (Nat.le_refl _)
    · replace h := (if_neg c1).symm.trans h
      refine g_aload_n (pc := 17) dX11_poundsWithin_17 rfl ?_
      refine g_gR (pc := 18) dX11_poundsWithin_18 fR_RX11_12 xc_0 (v := 1) rfl ?_
      refine g_iload (pc := 21) dX11_poundsWithin_21 rfl ?_
      refine g_iload_n (pc := 23) dX11_poundsWithin_23 rfl ?_
      obtain ⟨x3, e2, h⟩ := x_bind h
      refine g_cV (pc := 24) dX11_poundsWithin_24 cV_RX11_123 (M_X8_isPart (Nat.le_refl _) e2) xc_1 (as := [.int v4, .int v2]) (st := []) rfl rfl (Nat.le_of_ble_eq_true rfl) (Nat.le_trans (Nat.le_of_ble_eq_true rfl) hd) rfl ?_
      refine g_if_eq (tgt := 45) (pc := 27) dX11_poundsWithin_27 (by decide) (fun c4 => ?_) (fun c4 => ?_)
      · replace h := (if_pos c4).symm.trans h
        exact G_X11_poundsWithin_45 hd ih v1 v2 v3 v4 h
      · replace h := (if_neg c4).symm.trans h
        refine g_iload_n (pc := 30) dX11_poundsWithin_30 rfl ?_
        refine g_aload_n (pc := 31) dX11_poundsWithin_31 rfl ?_
        refine g_gR (pc := 32) dX11_poundsWithin_32 fR_RX11_19 xc_0 (v := 13) rfl ?_
        refine g_gR (pc := 35) dX11_poundsWithin_35 fR_RX11_161 xc_13 (v := 21) rfl ?_
        refine g_iload_n (pc := 38) dX11_poundsWithin_38 rfl ?_
        obtain ⟨g5, h⟩ := x_gd h
        refine g_aaload (pc := 39) dX11_poundsWithin_39 xc_21 (xin_of g5) (v := (22 + v1.toNatClampNeg)) (xrf_21 _ (xin_lt g5)) ?_
        refine g_iload (pc := 40) dX11_poundsWithin_40 rfl ?_
        obtain ⟨g6, h⟩ := x_gd h
        refine g_iaload (pc := 42) dX11_poundsWithin_42 (xrow_21 _ (xin_lt g5)) (xin_of g6) (v := (rd u (22 + v1.toNatClampNeg) v4.toNatClampNeg)) rfl ?_
        refine g_iadd (pc := 43) dX11_poundsWithin_43 rfl ?_
        refine g_istore_n (pc := 44) dX11_poundsWithin_44 (Nat.le_of_ble_eq_true rfl) (L' := [some (.ref 0), some (.int v1), some (.int v2), some (.int (v3 + (rd u (22 + v1.toNatClampNeg) v4.toNatClampNeg))), some (.int v4)]) rfl ?_
        exact G_X11_poundsWithin_45 hd ih v1 v2 (v3 + (rd u (22 + v1.toNatClampNeg) v4.toNatClampNeg)) v4 h
set_option maxRecDepth 100000 in
set_option maxHeartbeats 4000000 in
theorem G_X11_poundsWithin_0 {sc : Nat × (Nat → Int32)} {d : Nat} (hd : 2 ≤ d) {r : Int32} {u : xS} (v1 : Int32) (v2 : Int32) (h : f_X11_poundsWithin u v1 v2 = some r) : xG sc mX11_poundsWithin d 0 0 (xR (some (.int r)) (xL0, u) 0 0) 0 0 0 [some (.ref 0), some (.int v1), some (.int v2), none, none] [] (xL0, u) := by
  rw [f_X11_poundsWithin] at h
  refine g_iconst (pc := 0) dX11_poundsWithin_0 ic_0 ?_
  refine g_istore_n (pc := 1) dX11_poundsWithin_1 (Nat.le_of_ble_eq_true rfl) (L' := [some (.ref 0), some (.int v1), some (.int v2), some (.int (0 : Int32)), none]) rfl ?_
  refine g_iconst (pc := 2) dX11_poundsWithin_2 ic_0 ?_
  refine g_istore (pc := 3) dX11_poundsWithin_3 (Nat.le_of_ble_eq_true rfl) (L' := [some (.ref 0), some (.int v1), some (.int v2), some (.int (0 : Int32)), some (.int (0 : Int32))]) rfl ?_
  exact G_X11_poundsWithin_5 hd xN v1 v2 (0 : Int32) (0 : Int32) h
set_option maxRecDepth 100000 in
set_option maxHeartbeats 4000000 in
theorem M_X11_poundsWithin {sc : Nat × (Nat → Int32)} {d : Nat} (hd : 2 ≤ d) {r : Int32} {u : xS} {a1 : Int32} {a2 : Int32} (h : f_X11_poundsWithin u a1 a2 = some r) : xMt sc mX11_poundsWithin d 0 0 [.ref 0, .int a1, .int a2] (xL0, u) (some (.int r)) (xL0, u) :=
  xMt.of (by decide +kernel) (Nat.le_of_ble_eq_true rfl) (L := [some (.ref 0), some (.int a1), some (.int a2), none, none]) rfl ((G_X11_poundsWithin_0 hd a1 a2 h))
set_option maxRecDepth 100000 in
set_option maxHeartbeats 4000000 in
theorem G_X11_tell_0 {sc : Nat × (Nat → Int32)} {d : Nat} (hd : 0 ≤ d) {u' : xS} (v1 : Int32) (u : xS) (h : f_X11_tell v1 u = some u') : xG sc mX11_tell d 0 0 (xR none (xL0, u') 0 0) 0 0 0 [some (.ref 0), some (.int v1)] [] (xL0, u) := by
  rw [f_X11_tell] at h
  refine g_aload_n (pc := 0) dX11_tell_0 rfl ?_
  refine g_gI (pc := 1) dX11_tell_1 fI_RX11_90 xc_0 (v := (rd u 0 12)) rfl ?_
  refine g_bipush (pc := 4) dX11_tell_4 bp_48 ?_
  refine g_icmp_ge (tgt := 29) (pc := 6) dX11_tell_6 (by decide) (fun c1 => ?_) (fun c1 => ?_)
  · replace h := (if_pos c1).symm.trans h
    cases h
    exact g_ret (pc := 29) dX11_tell_29 rfl rfl rfl (Nat.le_refl _) (Nat.le_refl _)
  · replace h := (if_neg c1).symm.trans h
    refine g_aload_n (pc := 9) dX11_tell_9 rfl ?_
    refine g_gR (pc := 10) dX11_tell_10 fR_RX11_86 xc_0 (v := 134) rfl ?_
    refine g_aload_n (pc := 13) dX11_tell_13 rfl ?_
    refine g_gI (pc := 14) dX11_tell_14 fI_RX11_90 xc_0 (v := (rd u 0 12)) rfl ?_
    refine g_iload_n (pc := 17) dX11_tell_17 rfl ?_
    obtain ⟨g2, h⟩ := x_gd h
    refine g_iastore (pc := 18) dX11_tell_18 xc_134 (xin_of g2) (u' := (wr u 134 (rd u 0 12).toNatClampNeg v1)) rfl ?_
    refine g_aload_n (pc := 19) dX11_tell_19 rfl ?_
    refine g_dup (pc := 20) dX11_tell_20 rfl ?_
    refine g_gI (pc := 21) dX11_tell_21 fI_RX11_90 xc_0 (v := (rd u 0 12)) rfl ?_
    refine g_iconst (pc := 24) dX11_tell_24 ic_1 ?_
    refine g_iadd (pc := 25) dX11_tell_25 rfl ?_
    refine g_pI (pc := 26) dX11_tell_26 pI_RX11_90 xc_0 (u' := (wr (wr u 134 (rd u 0 12).toNatClampNeg v1) 0 12 ((rd u 0 12) + (1 : Int32)))) rfl ?_
    cases h
    exact g_ret (pc := 29) dX11_tell_29 rfl rfl rfl (Nat.le_refl _) (Nat.le_refl _)
set_option maxRecDepth 100000 in
set_option maxHeartbeats 4000000 in
theorem M_X11_tell {sc : Nat × (Nat → Int32)} {d : Nat} (hd : 0 ≤ d) {u u' : xS} {a1 : Int32} (h : f_X11_tell a1 u = some u') : xMt sc mX11_tell d 0 0 [.ref 0, .int a1] (xL0, u) none (xL0, u') :=
  xMt.of (by decide +kernel) (Nat.le_of_ble_eq_true rfl) (L := [some (.ref 0), some (.int a1)]) rfl ((G_X11_tell_0 hd a1 u h))
set_option maxRecDepth 100000 in
set_option maxHeartbeats 4000000 in
theorem G_X11_foretell_154 {sc : Nat × (Nat → Int32)} {d : Nat} (hd : 3 ≤ d) {r : Int32} {u' : xS} {k44 : Int32 → Int32 → Int32 → Int32 → Int32 → Int32 → Int32 → xS → Option (Int32 × xS)} (hk44 : ∀ (v1 : Int32) (v2 : Int32) (v3 : Int32) (v4 : Int32) (v5 : Int32) (v6 : Int32) (v7 : Int32) (u : xS), k44 v1 v2 v3 v4 v5 v6 v7 u = some (r, u') → xG sc mX11_foretell d 0 0 (xR (some (.int r)) (xL0, u') 0 0) 0 0 44 [some (.ref 0), some (.int v1), some (.int v2), some (.int v3), some (.int v4), some (.int v5), some (.int v6), some (.int v7), none] [] (xL0, u)) (v1 : Int32) (v2 : Int32) (v3 : Int32) (v4 : Int32) (v5 : Int32) (v6 : Int32) (v7 : Int32) (u : xS) (h : f_X11_foretell_154 k44 v1 v2 v3 v4 v5 v6 v7 u = some (r, u')) : xG sc mX11_foretell d 0 0 (xR (some (.int r)) (xL0, u') 0 0) 0 0 154 [some (.ref 0), some (.int v1), some (.int v2), some (.int v3), some (.int v4), some (.int v5), some (.int v6), some (.int v7), none] [] (xL0, u) := by
  rw [f_X11_foretell_154] at h
  refine g_inc (pc := 154) dX11_foretell_154 (Nat.le_of_ble_eq_true rfl) rfl ic_1 (L' := [some (.ref 0), some (.int v1), some (.int v2), some (.int v3), some (.int v4), some (.int v5), some (.int v6), some (.int (v7 + (1 : Int32))), none]) rfl ?_
  refine g_goto (tgt := 44) (pc := 157) dX11_foretell_157 (by decide) ?_
  exact hk44 v1 v2 v3 v4 v5 v6 (v7 + (1 : Int32)) u h
set_option maxRecDepth 100000 in
set_option maxHeartbeats 4000000 in
theorem G_X11_foretell_140 {sc : Nat × (Nat → Int32)} {d : Nat} (hd : 3 ≤ d) {r : Int32} {u' : xS} {k44 : Int32 → Int32 → Int32 → Int32 → Int32 → Int32 → Int32 → xS → Option (Int32 × xS)} (hk44 : ∀ (v1 : Int32) (v2 : Int32) (v3 : Int32) (v4 : Int32) (v5 : Int32) (v6 : Int32) (v7 : Int32) (u : xS), k44 v1 v2 v3 v4 v5 v6 v7 u = some (r, u') → xG sc mX11_foretell d 0 0 (xR (some (.int r)) (xL0, u') 0 0) 0 0 44 [some (.ref 0), some (.int v1), some (.int v2), some (.int v3), some (.int v4), some (.int v5), some (.int v6), some (.int v7), none] [] (xL0, u)) (v1 : Int32) (v2 : Int32) (v3 : Int32) (v5 : Int32) (v6 : Int32) (v7 : Int32) (v8 : Int32) (s0 : Int32) (u : xS) (h : f_X11_foretell_140 k44 v1 v2 v3 v5 v6 v7 v8 s0 u = some (r, u')) : xG sc mX11_foretell d 0 0 (xR (some (.int r)) (xL0, u') 0 0) 0 0 140 [some (.ref 0), some (.int v1), some (.int v2), some (.int v3), none, some (.int v5), some (.int v6), some (.int v7), some (.int v8)] [.int s0] (xL0, u) := by
  rw [f_X11_foretell_140] at h
  refine g_istore (pc := 140) dX11_foretell_140 (Nat.le_of_ble_eq_true rfl) (L' := [some (.ref 0), some (.int v1), some (.int v2), some (.int v3), some (.int s0), some (.int v5), some (.int v6), some (.int v7), some (.int v8)]) rfl ?_
  refine g_iload (pc := 142) dX11_foretell_142 rfl ?_
  refine g_iload (pc := 144) dX11_foretell_144 rfl ?_
  refine g_max (pc := 146) dX11_foretell_146 mK_RX11_188 (Nat.le_of_ble_eq_true rfl) (Nat.le_trans (Nat.le_of_ble_eq_true rfl) hd) (Nat.le_refl _) (Nat.le_refl _) ?_
  refine g_istore (pc := 149) dX11_foretell_149 (Nat.le_of_ble_eq_true rfl) (L' := [some (.ref 0), some (.int v1), some (.int v2), some (.int v3), some (.int s0), some (.int (imax v5 v8)), some (.int v6), some (.int v7), some (.int v8)]) rfl ?_
  refine g_inc (pc := 151) dX11_foretell_151 (Nat.le_of_ble_eq_true rfl) rfl ic_1 (L' := [some (.ref 0), some (.int v1), some (.int v2), some (.int v3), some (.int s0), some (.int (imax v5 v8)), some (.int (v6 + (1 : Int32))), some (.int v7), some (.int v8)]) rfl ?_
  refine g_L (L' := [some (.ref 0), some (.int v1), some (.int v2), some (.int v3), some (.int s0), some (.int (imax v5 v8)), some (.int (v6 + (1 : Int32))), some (.int v7), none]) ⟨rfl, ⟨rfl, ⟨rfl, ⟨rfl, ⟨rfl, ⟨rfl, ⟨rfl, ⟨rfl, trivial⟩⟩⟩⟩⟩⟩⟩⟩ ?_
  exact G_X11_foretell_154 hd hk44 v1 v2 v3 s0 (imax v5 v8) (v6 + (1 : Int32)) v7 u h
set_option maxRecDepth 100000 in
set_option maxHeartbeats 4000000 in
theorem G_X11_foretell_101 {sc : Nat × (Nat → Int32)} {d : Nat} (hd : 3 ≤ d) {r : Int32} {u' : xS} {k44 : Int32 → Int32 → Int32 → Int32 → Int32 → Int32 → Int32 → xS → Option (Int32 × xS)} (hk44 : ∀ (v1 : Int32) (v2 : Int32) (v3 : Int32) (v4 : Int32) (v5 : Int32) (v6 : Int32) (v7 : Int32) (u : xS), k44 v1 v2 v3 v4 v5 v6 v7 u = some (r, u') → xG sc mX11_foretell d 0 0 (xR (some (.int r)) (xL0, u') 0 0) 0 0 44 [some (.ref 0), some (.int v1), some (.int v2), some (.int v3), some (.int v4), some (.int v5), some (.int v6), some (.int v7), none] [] (xL0, u)) (v1 : Int32) (v2 : Int32) (v3 : Int32) (v4 : Int32) (v5 : Int32) (v6 : Int32) (v7 : Int32) (u : xS) (h : f_X11_foretell_101 k44 v1 v2 v3 v4 v5 v6 v7 u = some (r, u')) : xG sc mX11_foretell d 0 0 (xR (some (.int r)) (xL0, u') 0 0) 0 0 101 [some (.ref 0), some (.int v1), some (.int v2), some (.int v3), some (.int v4), some (.int v5), some (.int v6), some (.int v7), none] [] (xL0, u) := by
  rw [f_X11_foretell_101] at h
  refine g_aload_n (pc := 101) dX11_foretell_101 rfl ?_
  refine g_iload (pc := 102) dX11_foretell_102 rfl ?_
  refine g_iload_n (pc := 104) dX11_foretell_104 rfl ?_
  obtain ⟨x2, e1, h⟩ := x_bind h
  refine g_cV (pc := 105) dX11_foretell_105 cV_RX11_371 (M_X11_poundsWithin (Nat.le_refl _) e1) xc_0 (as := [.int v7, .int v3]) (st := []) rfl rfl (Nat.le_of_ble_eq_true rfl) (Nat.le_trans (Nat.le_of_ble_eq_true rfl) hd) rfl ?_
  refine g_aload_n (pc := 108) dX11_foretell_108 rfl ?_
  refine g_gR (pc := 109) dX11_foretell_109 fR_RX11_19 xc_0 (v := 13) rfl ?_
  refine g_gR (pc := 112) dX11_foretell_112 fR_RX11_144 xc_13 (v := 16) rfl ?_
  refine g_iload (pc := 115) dX11_foretell_115 rfl ?_
  obtain ⟨g3, h⟩ := x_gd h
  refine g_iaload (pc := 117) dX11_foretell_117 xc_16 (xin_of g3) (v := (rd u 16 v7.toNatClampNeg)) rfl ?_
  obtain ⟨x5, e4, h⟩ := x_bind h
  refine g_cS (pc := 118) dX11_foretell_118 cS_RX11_208 (M_X11_inThousand (Nat.le_refl _) e4) (as := [.int x2, .int (rd u 16 v7.toNatClampNeg)]) (st := []) rfl rfl (Nat.le_of_ble_eq_true rfl) (Nat.le_trans (Nat.le_of_ble_eq_true rfl) hd) rfl ?_
  refine g_istore (pc := 121) dX11_foretell_121 (Nat.le_of_ble_eq_true rfl) (L' := [some (.ref 0), some (.int v1), some (.int v2), some (.int v3), some (.int v4), some (.int v5), some (.int v6), some (.int v7), some (.int x5)]) rfl ?_
  refine g_iload (pc := 123) dX11_foretell_123 rfl ?_
  refine g_if_ne (tgt := 133) (pc := 125) dX11_foretell_125 (by decide) (fun c6 => ?_) (fun c6 => ?_)
  · replace h := (if_neg c6).symm.trans h
    refine g_iload (pc := 133) dX11_foretell_133 rfl ?_
    refine g_iload (pc := 135) dX11_foretell_135 rfl ?_
    refine g_min (pc := 137) dX11_foretell_137 mK_RX11_227 (Nat.le_of_ble_eq_true rfl) (Nat.le_trans (Nat.le_of_ble_eq_true rfl) hd) (Nat.le_refl _) (Nat.le_refl _) ?_
    refine g_L (L' := [some (.ref 0), some (.int v1), some (.int v2), some (.int v3), none, some (.int v5), some (.int v6), some (.int v7), some (.int x5)]) ⟨rfl, ⟨rfl, ⟨rfl, ⟨rfl, ⟨rfl, ⟨rfl, ⟨rfl, ⟨rfl, trivial⟩⟩⟩⟩⟩⟩⟩⟩ ?_
    exact G_X11_foretell_140 hd hk44 v1 v2 v3 v5 v6 v7 x5 (imin v4 x5) u h
  · replace h := (if_pos c6).symm.trans h
    refine g_iload (pc := 128) dX11_foretell_128 rfl ?_
    refine g_goto (tgt := 140) (pc := 130) dX11_foretell_130 (by decide) ?_
    refine g_L (L' := [some (.ref 0), some (.int v1), some (.int v2), some (.int v3), none, some (.int v5), some (.int v6), some (.int v7), some (.int x5)]) ⟨rfl, ⟨rfl, ⟨rfl, ⟨rfl, ⟨rfl, ⟨rfl, ⟨rfl, ⟨rfl, trivial⟩⟩⟩⟩⟩⟩⟩⟩ ?_
    exact G_X11_foretell_140 hd hk44 v1 v2 v3 v5 v6 v7 x5 x5 u h
set_option maxRecDepth 100000 in
set_option maxHeartbeats 4000000 in
theorem G_X11_foretell_44 {sc : Nat × (Nat → Int32)} {d : Nat} (hd : 3 ≤ d) {r : Int32} {u' : xS} : ∀ (n : Nat) (v1 : Int32) (v2 : Int32) (v3 : Int32) (v4 : Int32) (v5 : Int32) (v6 : Int32) (v7 : Int32) (u : xS), f_X11_foretell_44 n v1 v2 v3 v4 v5 v6 v7 u = some (r, u') → xG sc mX11_foretell d 0 0 (xR (some (.int r)) (xL0, u') 0 0) 0 0 44 [some (.ref 0), some (.int v1), some (.int v2), some (.int v3), some (.int v4), some (.int v5), some (.int v6), some (.int v7), none] [] (xL0, u) := by
  intro n
  induction n with
  | zero =>
    intro v1 v2 v3 v4 v5 v6 v7 u h
    rw [f_X11_foretell_44] at h
    cases h
  | succ n ih =>
    intro v1 v2 v3 v4 v5 v6 v7 u h
    rw [f_X11_foretell_44] at h
    refine g_iload (pc := 44) dX11_foretell_44 rfl ?_
    refine g_aload_n (pc := 46) dX11_foretell_46 rfl ?_
    refine g_gR (pc := 47) dX11_foretell_47 fR_RX11_19 xc_0 (v := 13) rfl ?_
    refine g_gI (pc := 50) dX11_foretell_50 fI_RX11_133 xc_13 (v := (rd u 13 8)) rfl ?_
    refine g_icmp_ge (tgt := 160) (pc := 53) dX11_foretell_53 (by decide) (fun c1 => ?_) (fun c1 => ?_)
    · replace h := (if_pos c1).symm.trans h
      refine g_iload (pc := 160) dX11_foretell_160 rfl ?_
      refine g_if_ne (tgt := 167) (pc := 162) dX11_foretell_162 (by decide) (fun c2 => ?_) (fun c2 => ?_)
      · replace h := (if_neg c2).symm.trans h
        refine g_aload_n (pc := 167) dX11_foretell_167 rfl ?_
        refine g_iconst (pc := 168) dX11_foretell_168 ic_0 ?_
        refine g_pI (pc := 169) dX11_foretell_169 pI_RX11_90 xc_0 (u' := (wr u 0 12 (0 : Int32))) rfl ?_
        refine g_aload_n (pc := 172) dX11_foretell_172 rfl ?_
        refine g_iload (pc := 173) dX11_foretell_173 rfl ?_
        obtain ⟨u4, e3, h⟩ := x_bind h
        refine g_cV (pc := 175) dX11_foretell_175 cV_RX11_359 (M_X11_tell (Nat.le_refl _) e3) xc_0 (as := [.int v4]) (st := []) rfl rfl (Nat.le_of_ble_eq_true rfl) (Nat.le_trans (Nat.le_of_ble_eq_true rfl) hd) rfl ?_
        refine g_aload_n (pc := 178) dX11_foretell_178 rfl ?_
        refine g_iload (pc := 179) dX11_foretell_179 rfl ?_
        obtain ⟨u6, e5, h⟩ := x_bind h
        refine g_cV (pc := 181) dX11_foretell_181 cV_RX11_359 (M_X11_tell (Nat.le_refl _) e5) xc_0 (as := [.int v5]) (st := []) rfl rfl (Nat.le_of_ble_eq_true rfl) (Nat.le_trans (Nat.le_of_ble_eq_true rfl) hd) rfl ?_
        refine g_aload_n (pc := 184) dX11_foretell_184 rfl ?_
        refine g_iload (pc := 185) dX11_foretell_185 rfl ?_
        obtain ⟨u8, e7, h⟩ := x_bind h
        refine g_cV (pc := 187) dX11_foretell_187 cV_RX11_359 (M_X11_tell (Nat.le_refl _) e7) xc_0 (as := [.int v6]) (st := []) rfl rfl (Nat.le_of_ble_eq_true rfl) (Nat.le_trans (Nat.le_of_ble_eq_true rfl) hd) rfl ?_
        refine g_iload (pc := 190) dX11_foretell_190 rfl ?_
        cases h
        exact g_iret (pc := 192) dX11_foretell_192 rfl rfl rfl (Nat.le_refl _) (Nat.le_refl _)
      · replace h := (if_pos c2).symm.trans h
        refine g_iconst (pc := 165) dX11_foretell_165 ic_m1 ?_
        cases h
        exact g_iret (pc := 166) dX11_foretell_166 rfl rfl rfl (Nat.le_refl _) (Nat.le_refl _)
    · replace h := (if_neg c1).symm.trans h
      refine g_aload_n (pc := 56) dX11_foretell_56 rfl ?_
      refine g_gR (pc := 57) dX11_foretell_57 fR_RX11_19 xc_0 (v := 13) rfl ?_
      refine g_iload (pc := 60) dX11_foretell_60 rfl ?_
      obtain ⟨x10, e9, h⟩ := x_bind h
      refine g_cV (pc := 62) dX11_foretell_62 cV_RX11_141 (M_X0_isSorted (Nat.le_refl _) e9) xc_13 (as := [.int v7]) (st := []) rfl rfl (Nat.le_of_ble_eq_true rfl) (Nat.le_trans (Nat.le_of_ble_eq_true rfl) hd) rfl ?_
      refine g_if_eq (tgt := 154) (pc := 65) dX11_foretell_65 (by decide) (fun c11 => ?_) (fun c11 => ?_)
      · replace h := (if_pos c11).symm.trans h
        exact G_X11_foretell_154 hd ih v1 v2 v3 v4 v5 v6 v7 u h
      · replace h := (if_neg c11).symm.trans h
        refine g_aload_n (pc := 68) dX11_foretell_68 rfl ?_
        refine g_gR (pc := 69) dX11_foretell_69 fR_RX11_19 xc_0 (v := 13) rfl ?_
        refine g_gR (pc := 72) dX11_foretell_72 fR_RX11_221 xc_13 (v := 14) rfl ?_
        refine g_iload (pc := 75) dX11_foretell_75 rfl ?_
        obtain ⟨g12, h⟩ := x_gd h
        refine g_iaload (pc := 77) dX11_foretell_77 xc_14 (xin_of g12) (v := (rd u 14 v7.toNatClampNeg)) rfl ?_
        refine g_iload_n (pc := 78) dX11_foretell_78 rfl ?_
        refine g_icmp_ne (tgt := 154) (pc := 79) dX11_foretell_79 (by decide) (fun c13 => ?_) (fun c13 => ?_)
        · replace h := (if_neg c13).symm.trans h
          exact G_X11_foretell_154 hd ih v1 v2 v3 v4 v5 v6 v7 u h
        · replace h := (if_pos c13).symm.trans h
          refine g_iload_n (pc := 82) dX11_foretell_82 rfl ?_
          refine g_iconst (pc := 83) dX11_foretell_83 ic_m1 ?_
          refine g_icmp_eq (tgt := 101) (pc := 84) dX11_foretell_84 (by decide) (fun c14 => ?_) (fun c14 => ?_)
          · replace h := (if_pos c14).symm.trans h
            exact G_X11_foretell_101 hd ih v1 v2 v3 v4 v5 v6 v7 u h
          · replace h := (if_neg c14).symm.trans h
            refine g_aload_n (pc := 87) dX11_foretell_87 rfl ?_
            refine g_gR (pc := 88) dX11_foretell_88 fR_RX11_19 xc_0 (v := 13) rfl ?_
            refine g_gR (pc := 91) dX11_foretell_91 fR_RX11_215 xc_13 (v := 15) rfl ?_
            refine g_iload (pc := 94) dX11_foretell_94 rfl ?_
            refine g_iaload (pc := 96) dX11_foretell_96 xc_15 (xin_of g12) (v := (rd u 15 v7.toNatClampNeg)) rfl ?_
            refine g_iload_n (pc := 97) dX11_foretell_97 rfl ?_
            refine g_icmp_ne (tgt := 154) (pc := 98) dX11_foretell_98 (by decide) (fun c15 => ?_) (fun c15 => ?_)
            · replace h := (if_neg c15).symm.trans h
              exact G_X11_foretell_154 hd ih v1 v2 v3 v4 v5 v6 v7 u h
            · replace h := (if_pos c15).symm.trans h
              exact G_X11_foretell_101 hd ih v1 v2 v3 v4 v5 v6 v7 u h
set_option maxRecDepth 100000 in
set_option maxHeartbeats 4000000 in
theorem G_X11_foretell_19 {sc : Nat × (Nat → Int32)} {d : Nat} (hd : 3 ≤ d) {r : Int32} {u' : xS} (v1 : Int32) (v2 : Int32) (v3 : Int32) (u : xS) (h : f_X11_foretell_19 v1 v2 v3 u = some (r, u')) : xG sc mX11_foretell d 0 0 (xR (some (.int r)) (xL0, u') 0 0) 0 0 19 [some (.ref 0), some (.int v1), some (.int v2), some (.int v3), none, none, none, none, none] [] (xL0, u) := by
  rw [f_X11_foretell_19] at h
  refine g_aload_n (pc := 19) dX11_foretell_19 rfl ?_
  refine g_gR (pc := 20) dX11_foretell_20 fR_RX11_12 xc_0 (v := 1) rfl ?_
  refine g_iload_n (pc := 23) dX11_foretell_23 rfl ?_
  refine g_cV (pc := 24) dX11_foretell_24 cV_RX11_98 (M_X8_has (Nat.le_refl _) rfl) xc_1 (as := [.int v3]) (st := []) rfl rfl (Nat.le_of_ble_eq_true rfl) (Nat.le_trans (Nat.le_of_ble_eq_true rfl) hd) rfl ?_
  refine g_if_ne (tgt := 32) (pc := 27) dX11_foretell_27 (by decide) (fun c1 => ?_) (fun c1 => ?_)
  · replace h := (if_neg c1).symm.trans h
    refine g_iconst (pc := 32) dX11_foretell_32 ic_m1 ?_
    refine g_istore (pc := 33) dX11_foretell_33 (Nat.le_of_ble_eq_true rfl) (L' := [some (.ref 0), some (.int v1), some (.int v2), some (.int v3), some (.int (-1 : Int32)), none, none, none, none]) rfl ?_
    refine g_iconst (pc := 35) dX11_foretell_35 ic_m1 ?_
    refine g_istore (pc := 36) dX11_foretell_36 (Nat.le_of_ble_eq_true rfl) (L' := [some (.ref 0), some (.int v1), some (.int v2), some (.int v3), some (.int (-1 : Int32)), some (.int (-1 : Int32)), none, none, none]) rfl ?_
    refine g_iconst (pc := 38) dX11_foretell_38 ic_0 ?_
    refine g_istore (pc := 39) dX11_foretell_39 (Nat.le_of_ble_eq_true rfl) (L' := [some (.ref 0), some (.int v1), some (.int v2), some (.int v3), some (.int (-1 : Int32)), some (.int (-1 : Int32)), some (.int (0 : Int32)), none, none]) rfl ?_
    refine g_iconst (pc := 41) dX11_foretell_41 ic_0 ?_
    refine g_istore (pc := 42) dX11_foretell_42 (Nat.le_of_ble_eq_true rfl) (L' := [some (.ref 0), some (.int v1), some (.int v2), some (.int v3), some (.int (-1 : Int32)), some (.int (-1 : Int32)), some (.int (0 : Int32)), some (.int (0 : Int32)), none]) rfl ?_
    exact G_X11_foretell_44 hd xN v1 v2 v3 (-1 : Int32) (-1 : Int32) (0 : Int32) (0 : Int32) u h
  · replace h := (if_pos c1).symm.trans h
    refine g_iconst (pc := 30) dX11_foretell_30 ic_m1 ?_
    cases h
    exact g_iret (pc := 31) dX11_foretell_31 rfl rfl rfl (Nat.le_refl _) (Nat.le_refl _)
set_option maxRecDepth 100000 in
set_option maxHeartbeats 4000000 in
theorem G_X11_foretell_0 {sc : Nat × (Nat → Int32)} {d : Nat} (hd : 3 ≤ d) {r : Int32} {u' : xS} (v1 : Int32) (v2 : Int32) (v3 : Int32) (u : xS) (h : f_X11_foretell v1 v2 v3 u = some (r, u')) : xG sc mX11_foretell d 0 0 (xR (some (.int r)) (xL0, u') 0 0) 0 0 0 [some (.ref 0), some (.int v1), some (.int v2), some (.int v3), none, none, none, none, none] [] (xL0, u) := by
  rw [f_X11_foretell] at h
  refine g_iload_n (pc := 0) dX11_foretell_0 rfl ?_
  refine g_cS (pc := 1) dX11_foretell_1 cS_RX11_127 (M_X11_isSeller (Nat.le_refl _) rfl) (as := [.int v1]) (st := []) rfl rfl (Nat.le_of_ble_eq_true rfl) (Nat.le_trans (Nat.le_of_ble_eq_true rfl) hd) rfl ?_
  refine g_if_eq (tgt := 30) (pc := 4) dX11_foretell_4 (by decide) (fun c1 => ?_) (fun c1 => ?_)
  · replace h := (if_pos c1).symm.trans h
    refine g_iconst (pc := 30) dX11_foretell_30 ic_m1 ?_
    cases h
    exact g_iret (pc := 31) dX11_foretell_31 rfl rfl rfl (Nat.le_refl _) (Nat.le_refl _)
  · replace h := (if_neg c1).symm.trans h
    refine g_iload_n (pc := 7) dX11_foretell_7 rfl ?_
    refine g_iconst (pc := 8) dX11_foretell_8 ic_m1 ?_
    refine g_icmp_eq (tgt := 19) (pc := 9) dX11_foretell_9 (by decide) (fun c2 => ?_) (fun c2 => ?_)
    · replace h := (if_pos c2).symm.trans h
      exact G_X11_foretell_19 hd v1 v2 v3 u h
    · replace h := (if_neg c2).symm.trans h
      refine g_iload_n (pc := 12) dX11_foretell_12 rfl ?_
      refine g_cS (pc := 13) dX11_foretell_13 cS_RX11_130 (M_X11_isMark (Nat.le_refl _) rfl) (as := [.int v2]) (st := []) rfl rfl (Nat.le_of_ble_eq_true rfl) (Nat.le_trans (Nat.le_of_ble_eq_true rfl) hd) rfl ?_
      refine g_if_eq (tgt := 30) (pc := 16) dX11_foretell_16 (by decide) (fun c3 => ?_) (fun c3 => ?_)
      · replace h := (if_pos c3).symm.trans h
        refine g_iconst (pc := 30) dX11_foretell_30 ic_m1 ?_
        cases h
        exact g_iret (pc := 31) dX11_foretell_31 rfl rfl rfl (Nat.le_refl _) (Nat.le_refl _)
      · replace h := (if_neg c3).symm.trans h
        exact G_X11_foretell_19 hd v1 v2 v3 u h
set_option maxRecDepth 100000 in
set_option maxHeartbeats 4000000 in
theorem M_X11_foretell {sc : Nat × (Nat → Int32)} {d : Nat} (hd : 3 ≤ d) {r : Int32} {u u' : xS} {a1 : Int32} {a2 : Int32} {a3 : Int32} (h : f_X11_foretell a1 a2 a3 u = some (r, u')) : xMt sc mX11_foretell d 0 0 [.ref 0, .int a1, .int a2, .int a3] (xL0, u) (some (.int r)) (xL0, u') :=
  xMt.of (by decide +kernel) (Nat.le_of_ble_eq_true rfl) (L := [some (.ref 0), some (.int a1), some (.int a2), some (.int a3), none, none, none, none, none]) rfl ((G_X11_foretell_0 hd a1 a2 a3 u h))
theorem zb_X11_isLand (v0 : Int32) : f_X11_isLand v0 = 0 ∨ f_X11_isLand v0 = 1 := by
  unfold f_X11_isLand
  (repeat' split) <;> first | exact Or.inl rfl | exact Or.inr rfl | exact zb_X11_lies _ _ _
set_option maxRecDepth 100000 in
set_option maxHeartbeats 4000000 in
theorem G_X11_isLand_0 {sc : Nat × (Nat → Int32)} {d : Nat} (hd : 1 ≤ d) {r : Int32} {u : xS} (v0 : Int32) (h : f_X11_isLand v0 = r) : xG sc mX11_isLand d 0 0 (xR (some (.int r)) (xL0, u) 0 0) 0 0 0 [some (.int v0)] [] (xL0, u) := by
  rw [f_X11_isLand] at h
  refine g_iload_n (pc := 0) dX11_isLand_0 rfl ?_
  refine g_iconst (pc := 1) dX11_isLand_1 ic_0 ?_
  refine g_iconst (pc := 2) dX11_isLand_2 ic_3 ?_
  refine g_cS (pc := 3) dX11_isLand_3 cS_RX11_94 (M_X11_lies (Nat.le_refl _) rfl) (as := [.int v0, .int (0 : Int32), .int (3 : Int32)]) (st := []) rfl rfl (Nat.le_of_ble_eq_true rfl) (Nat.le_trans (Nat.le_of_ble_eq_true rfl) hd) rfl ?_
  subst h
  exact g_zret (pc := 6) dX11_isLand_6 rfl (zb_X11_lies _ _ _) rfl rfl (Nat.le_refl _) (Nat.le_refl _)
set_option maxRecDepth 100000 in
set_option maxHeartbeats 4000000 in
theorem M_X11_isLand {sc : Nat × (Nat → Int32)} {d : Nat} (hd : 1 ≤ d) {r : Int32} {u : xS} {a0 : Int32} (h : f_X11_isLand a0 = r) : xMt sc mX11_isLand d 0 0 [.int a0] (xL0, u) (some (.int r)) (xL0, u) :=
  xMt.of (by decide +kernel) (Nat.le_of_ble_eq_true rfl) (L := [some (.int a0)]) rfl ((G_X11_isLand_0 hd a0 h))
theorem zb_X4_hasPack (u : xS) (v1 : Int32) : f_X4_hasPack u v1 = 0 ∨ f_X4_hasPack u v1 = 1 := by
  unfold f_X4_hasPack
  (repeat' split) <;> first | exact Or.inl rfl | exact Or.inr rfl
set_option maxRecDepth 100000 in
set_option maxHeartbeats 4000000 in
theorem G_X4_hasPack_0 {sc : Nat × (Nat → Int32)} {d : Nat} (hd : 0 ≤ d) {r : Int32} {u : xS} (v1 : Int32) (h : f_X4_hasPack u v1 = r) : xG sc mX4_hasPack d 0 0 (xR (some (.int r)) (xL0, u) 0 0) 0 0 0 [some (.ref 121), some (.int v1)] [] (xL0, u) := by
  rw [f_X4_hasPack] at h
  refine g_iload_n (pc := 0) dX4_hasPack_0 rfl ?_
  refine g_if_lt (tgt := 16) (pc := 1) dX4_hasPack_1 (by decide) (fun c1 => ?_) (fun c1 => ?_)
  · replace h := (if_pos c1).symm.trans h
    refine g_iconst (pc := 16) dX4_hasPack_16 ic_0 ?_
    subst h
    exact g_zret (pc := 17) dX4_hasPack_17 rfl (Or.inl rfl) rfl rfl (Nat.le_refl _) (Nat.le_refl _)
  · replace h := (if_neg c1).symm.trans h
    refine g_iload_n (pc := 4) dX4_hasPack_4 rfl ?_
    refine g_aload_n (pc := 5) dX4_hasPack_5 rfl ?_
    refine g_gI (pc := 6) dX4_hasPack_6 fI_RX4_32 xc_121 (v := (rd u 121 6)) rfl ?_
    refine g_icmp_ge (tgt := 16) (pc := 9) dX4_hasPack_9 (by decide) (fun c2 => ?_) (fun c2 => ?_)
    · replace h := (if_pos c2).symm.trans h
      refine g_iconst (pc := 16) dX4_hasPack_16 ic_0 ?_
      subst h
      exact g_zret (pc := 17) dX4_hasPack_17 rfl (Or.inl rfl) rfl rfl (Nat.le_refl _) (Nat.le_refl _)
    · replace h := (if_neg c2).symm.trans h
      refine g_iconst (pc := 12) dX4_hasPack_12 ic_1 ?_
      refine g_goto (tgt := 17) (pc := 13) dX4_hasPack_13 (by decide) ?_
      subst h
      exact g_zret (pc := 17) dX4_hasPack_17 rfl (Or.inr rfl) rfl rfl (Nat.le_refl _) (Nat.le_refl _)
set_option maxRecDepth 100000 in
set_option maxHeartbeats 4000000 in
theorem M_X4_hasPack {sc : Nat × (Nat → Int32)} {d : Nat} (hd : 0 ≤ d) {r : Int32} {u : xS} {a1 : Int32} (h : f_X4_hasPack u a1 = r) : xMt sc mX4_hasPack d 0 0 [.ref 121, .int a1] (xL0, u) (some (.int r)) (xL0, u) :=
  xMt.of (by decide +kernel) (Nat.le_of_ble_eq_true rfl) (L := [some (.ref 121), some (.int a1)]) rfl ((G_X4_hasPack_0 hd a1 h))
set_option maxRecDepth 100000 in
set_option maxHeartbeats 4000000 in
theorem G_X4_given_53 {sc : Nat × (Nat → Int32)} {d : Nat} (hd : 0 ≤ d) {r : Int32} {u : xS} (h : f_X4_given_53 u = some r) : xG sc mX4_given d 0 0 (xR (some (.int r)) (xL0, u) 0 0) 0 0 53 [none, none, none, none, none] [] (xL0, u) := by
  rw [f_X4_given_53] at h
  refine g_bipush (pc := 53) dX4_given_53 bp_m2 ?_
  refine g_goto (tgt := 76) (pc := 55) dX4_given_55 (by decide) ?_
  cases h
  exact g_iret (pc := 76) dX4_given_76 rfl rfl rfl (Nat.le_refl _) (Nat.le_refl _)
set_option maxRecDepth 100000 in
set_option maxHeartbeats 4000000 in
theorem G_X4_given_40 {sc : Nat × (Nat → Int32)} {d : Nat} (hd : 0 ≤ d) {r : Int32} {u : xS} (v2 : Int32) (v3 : Int32) (s0 : Int32) (h : f_X4_given_40 u v2 v3 s0 = some r) : xG sc mX4_given d 0 0 (xR (some (.int r)) (xL0, u) 0 0) 0 0 40 [some (.ref 121), none, some (.int v2), some (.int v3), none] [.int s0] (xL0, u) := by
  rw [f_X4_given_40] at h
  refine g_istore (pc := 40) dX4_given_40 (Nat.le_of_ble_eq_true rfl) (L' := [some (.ref 121), none, some (.int v2), some (.int v3), some (.int s0)]) rfl ?_
  refine g_iload_n (pc := 42) dX4_given_42 rfl ?_
  refine g_iconst (pc := 43) dX4_given_43 ic_m1 ?_
  refine g_icmp_eq (tgt := 53) (pc := 44) dX4_given_44 (by decide) (fun c1 => ?_) (fun c1 => ?_)
  · replace h := (if_pos c1).symm.trans h
    refine g_L (L' := [none, none, none, none, none]) trivial ?_
    exact G_X4_given_53 hd h
  · replace h := (if_neg c1).symm.trans h
    refine g_iload (pc := 47) dX4_given_47 rfl ?_
    refine g_iconst (pc := 49) dX4_given_49 ic_m1 ?_
    refine g_icmp_ne (tgt := 58) (pc := 50) dX4_given_50 (by decide) (fun c2 => ?_) (fun c2 => ?_)
    · replace h := (if_neg c2).symm.trans h
      refine g_iload_n (pc := 58) dX4_given_58 rfl ?_
      refine g_aload_n (pc := 59) dX4_given_59 rfl ?_
      refine g_gR (pc := 60) dX4_given_60 fR_RX4_23 xc_121 (v := 129) rfl ?_
      refine g_iload_n (pc := 63) dX4_given_63 rfl ?_
      obtain ⟨g3, h⟩ := x_gd h
      refine g_iaload (pc := 64) dX4_given_64 xc_129 (xin_of g3) (v := (rd u 129 v2.toNatClampNeg)) rfl ?_
      refine g_imul (pc := 65) dX4_given_65 rfl ?_
      refine g_iload (pc := 66) dX4_given_66 rfl ?_
      refine g_aload_n (pc := 68) dX4_given_68 rfl ?_
      refine g_gR (pc := 69) dX4_given_69 fR_RX4_29 xc_121 (v := 131) rfl ?_
      refine g_iload_n (pc := 72) dX4_given_72 rfl ?_
      refine g_iaload (pc := 73) dX4_given_73 xc_131 (xin_of g3) (v := (rd u 131 v2.toNatClampNeg)) rfl ?_
      refine g_imul (pc := 74) dX4_given_74 rfl ?_
      refine g_iadd (pc := 75) dX4_given_75 rfl ?_
      cases h
      exact g_iret (pc := 76) dX4_given_76 rfl rfl rfl (Nat.le_refl _) (Nat.le_refl _)
    · replace h := (if_pos c2).symm.trans h
      refine g_L (L' := [none, none, none, none, none]) trivial ?_
      exact G_X4_given_53 hd h
set_option maxRecDepth 100000 in
set_option maxHeartbeats 4000000 in
theorem G_X4_given_0 {sc : Nat × (Nat → Int32)} {d : Nat} (hd : 0 ≤ d) {r : Int32} {u : xS} (v1 : Int32) (v2 : Int32) (h : f_X4_given u v1 v2 = some r) : xG sc mX4_given d 0 0 (xR (some (.int r)) (xL0, u) 0 0) 0 0 0 [some (.ref 121), some (.int v1), some (.int v2), none, none] [] (xL0, u) := by
  rw [f_X4_given] at h
  refine g_aload_n (pc := 0) dX4_given_0 rfl ?_
  refine g_gR (pc := 1) dX4_given_1 fR_RX4_11 xc_121 (v := 122) rfl ?_
  refine g_iload_n (pc := 4) dX4_given_4 rfl ?_
  obtain ⟨g1, h⟩ := x_gd h
  refine g_aaload (pc := 5) dX4_given_5 xc_122 (xin_of g1) (v := (123 + v1.toNatClampNeg)) (xrf_122 _ (xin_lt g1)) ?_
  refine g_aload_n (pc := 6) dX4_given_6 rfl ?_
  refine g_gR (pc := 7) dX4_given_7 fR_RX4_20 xc_121 (v := 128) rfl ?_
  refine g_iload_n (pc := 10) dX4_given_10 rfl ?_
  obtain ⟨g2, h⟩ := x_gd h
  refine g_iaload (pc := 11) dX4_given_11 xc_128 (xin_of g2) (v := (rd u 128 v2.toNatClampNeg)) rfl ?_
  obtain ⟨g3, h⟩ := x_gd h
  refine g_iaload (pc := 12) dX4_given_12 (xrow_122 _ (xin_lt g1)) (xin_of g3) (v := (rd u (123 + v1.toNatClampNeg) (rd u 128 v2.toNatClampNeg).toNatClampNeg)) rfl ?_
  refine g_istore_n (pc := 13) dX4_given_13 (Nat.le_of_ble_eq_true rfl) (L' := [some (.ref 121), some (.int v1), some (.int v2), some (.int (rd u (123 + v1.toNatClampNeg) (rd u 128 v2.toNatClampNeg).toNatClampNeg)), none]) rfl ?_
  refine g_aload_n (pc := 14) dX4_given_14 rfl ?_
  refine g_gR (pc := 15) dX4_given_15 fR_RX4_29 xc_121 (v := 131) rfl ?_
  refine g_iload_n (pc := 18) dX4_given_18 rfl ?_
  refine g_iaload (pc := 19) dX4_given_19 xc_131 (xin_of g2) (v := (rd u 131 v2.toNatClampNeg)) rfl ?_
  refine g_if_ne (tgt := 27) (pc := 20) dX4_given_20 (by decide) (fun c4 => ?_) (fun c4 => ?_)
  · replace h := (if_neg c4).symm.trans h
    refine g_aload_n (pc := 27) dX4_given_27 rfl ?_
    refine g_gR (pc := 28) dX4_given_28 fR_RX4_11 xc_121 (v := 122) rfl ?_
    refine g_iload_n (pc := 31) dX4_given_31 rfl ?_
    refine g_aaload (pc := 32) dX4_given_32 xc_122 (xin_of g1) (v := (123 + v1.toNatClampNeg)) (xrf_122 _ (xin_lt g1)) ?_
    refine g_aload_n (pc := 33) dX4_given_33 rfl ?_
    refine g_gR (pc := 34) dX4_given_34 fR_RX4_26 xc_121 (v := 130) rfl ?_
    refine g_iload_n (pc := 37) dX4_given_37 rfl ?_
    refine g_iaload (pc := 38) dX4_given_38 xc_130 (xin_of g2) (v := (rd u 130 v2.toNatClampNeg)) rfl ?_
    obtain ⟨g5, h⟩ := x_gd h
    refine g_iaload (pc := 39) dX4_given_39 (xrow_122 _ (xin_lt g1)) (xin_of g5) (v := (rd u (123 + v1.toNatClampNeg) (rd u 130 v2.toNatClampNeg).toNatClampNeg)) rfl ?_
    refine g_L (L' := [some (.ref 121), none, some (.int v2), some (.int (rd u (123 + v1.toNatClampNeg) (rd u 128 v2.toNatClampNeg).toNatClampNeg)), none]) ⟨rfl, ⟨rfl, ⟨rfl, trivial⟩⟩⟩ ?_
    exact G_X4_given_40 hd v2 (rd u (123 + v1.toNatClampNeg) (rd u 128 v2.toNatClampNeg).toNatClampNeg) (rd u (123 + v1.toNatClampNeg) (rd u 130 v2.toNatClampNeg).toNatClampNeg) h
  · replace h := (if_pos c4).symm.trans h
    refine g_iconst (pc := 23) dX4_given_23 ic_0 ?_
    refine g_goto (tgt := 40) (pc := 24) dX4_given_24 (by decide) ?_
    refine g_L (L' := [some (.ref 121), none, some (.int v2), some (.int (rd u (123 + v1.toNatClampNeg) (rd u 128 v2.toNatClampNeg).toNatClampNeg)), none]) ⟨rfl, ⟨rfl, ⟨rfl, trivial⟩⟩⟩ ?_
    exact G_X4_given_40 hd v2 (rd u (123 + v1.toNatClampNeg) (rd u 128 v2.toNatClampNeg).toNatClampNeg) (0 : Int32) h
set_option maxRecDepth 100000 in
set_option maxHeartbeats 4000000 in
theorem M_X4_given {sc : Nat × (Nat → Int32)} {d : Nat} (hd : 0 ≤ d) {r : Int32} {u : xS} {a1 : Int32} {a2 : Int32} (h : f_X4_given u a1 a2 = some r) : xMt sc mX4_given d 0 0 [.ref 121, .int a1, .int a2] (xL0, u) (some (.int r)) (xL0, u) :=
  xMt.of (by decide +kernel) (Nat.le_of_ble_eq_true rfl) (L := [some (.ref 121), some (.int a1), some (.int a2), none, none]) rfl ((G_X4_given_0 hd a1 a2 h))
set_option maxRecDepth 100000 in
set_option maxHeartbeats 4000000 in
theorem G_X11_gives_0 {sc : Nat × (Nat → Int32)} {d : Nat} (hd : 2 ≤ d) {r : Int32} {u : xS} (v1 : Int32) (v2 : Int32) (h : f_X11_gives u v1 v2 = some r) : xG sc mX11_gives d 0 0 (xR (some (.int r)) (xL0, u) 0 0) 0 0 0 [some (.ref 0), some (.int v1), some (.int v2)] [] (xL0, u) := by
  rw [f_X11_gives] at h
  refine g_iload_n (pc := 0) dX11_gives_0 rfl ?_
  refine g_cS (pc := 1) dX11_gives_1 cS_RX11_382 (M_X11_isLand (Nat.le_refl _) rfl) (as := [.int v1]) (st := []) rfl rfl (Nat.le_of_ble_eq_true rfl) (Nat.le_trans (Nat.le_of_ble_eq_true rfl) hd) rfl ?_
  refine g_if_eq (tgt := 30) (pc := 4) dX11_gives_4 (by decide) (fun c1 => ?_) (fun c1 => ?_)
  · replace h := (if_pos c1).symm.trans h
    refine g_iconst (pc := 30) dX11_gives_30 ic_m1 ?_
    cases h
    exact g_iret (pc := 31) dX11_gives_31 rfl rfl rfl (Nat.le_refl _) (Nat.le_refl _)
  · replace h := (if_neg c1).symm.trans h
    refine g_aload_n (pc := 7) dX11_gives_7 rfl ?_
    refine g_gR (pc := 8) dX11_gives_8 fR_RX11_82 xc_0 (v := 121) rfl ?_
    refine g_iload_n (pc := 11) dX11_gives_11 rfl ?_
    refine g_cV (pc := 12) dX11_gives_12 cV_RX11_397 (M_X4_hasPack (Nat.le_refl _) rfl) xc_121 (as := [.int v2]) (st := []) rfl rfl (Nat.le_of_ble_eq_true rfl) (Nat.le_trans (Nat.le_of_ble_eq_true rfl) hd) rfl ?_
    refine g_if_eq (tgt := 30) (pc := 15) dX11_gives_15 (by decide) (fun c2 => ?_) (fun c2 => ?_)
    · replace h := (if_pos c2).symm.trans h
      refine g_iconst (pc := 30) dX11_gives_30 ic_m1 ?_
      cases h
      exact g_iret (pc := 31) dX11_gives_31 rfl rfl rfl (Nat.le_refl _) (Nat.le_refl _)
    · replace h := (if_neg c2).symm.trans h
      refine g_aload_n (pc := 18) dX11_gives_18 rfl ?_
      refine g_gR (pc := 19) dX11_gives_19 fR_RX11_82 xc_0 (v := 121) rfl ?_
      refine g_iload_n (pc := 22) dX11_gives_22 rfl ?_
      refine g_iload_n (pc := 23) dX11_gives_23 rfl ?_
      obtain ⟨x4, e3, h⟩ := x_bind h
      refine g_cV (pc := 24) dX11_gives_24 cV_RX11_400 (M_X4_given (Nat.le_refl _) e3) xc_121 (as := [.int v1, .int v2]) (st := []) rfl rfl (Nat.le_of_ble_eq_true rfl) (Nat.le_trans (Nat.le_of_ble_eq_true rfl) hd) rfl ?_
      refine g_goto (tgt := 31) (pc := 27) dX11_gives_27 (by decide) ?_
      cases h
      exact g_iret (pc := 31) dX11_gives_31 rfl rfl rfl (Nat.le_refl _) (Nat.le_refl _)
set_option maxRecDepth 100000 in
set_option maxHeartbeats 4000000 in
theorem M_X11_gives {sc : Nat × (Nat → Int32)} {d : Nat} (hd : 2 ≤ d) {r : Int32} {u : xS} {a1 : Int32} {a2 : Int32} (h : f_X11_gives u a1 a2 = some r) : xMt sc mX11_gives d 0 0 [.ref 0, .int a1, .int a2] (xL0, u) (some (.int r)) (xL0, u) :=
  xMt.of (by decide +kernel) (Nat.le_of_ble_eq_true rfl) (L := [some (.ref 0), some (.int a1), some (.int a2)]) rfl ((G_X11_gives_0 hd a1 a2 h))
set_option maxRecDepth 100000 in
set_option maxHeartbeats 4000000 in
theorem G_X6_ofSort_0 {sc : Nat × (Nat → Int32)} {d : Nat} (hd : 0 ≤ d) {r : Int32} {u : xS} (v1 : Int32) (h : f_X6_ofSort u v1 = some r) : xG sc mX6_ofSort d 0 0 (xR (some (.int r)) (xL0, u) 0 0) 0 0 0 [some (.ref 74), some (.int v1)] [] (xL0, u) := by
  rw [f_X6_ofSort] at h
  refine g_aload_n (pc := 0) dX6_ofSort_0 rfl ?_
  refine g_gR (pc := 1) dX6_ofSort_1 fR_RX6_21 xc_74 (v := 78) rfl ?_
  refine g_iload_n (pc := 4) dX6_ofSort_4 rfl ?_
  obtain ⟨g1, h⟩ := x_gd h
  refine g_iaload (pc := 5) dX6_ofSort_5 xc_78 (xin_of g1) (v := (rd u 78 v1.toNatClampNeg)) rfl ?_
  cases h
  exact g_iret (pc := 6) dX6_ofSort_6 rfl rfl rfl (Nat.le_refl _) (Nat.le_refl _)
set_option maxRecDepth 100000 in
set_option maxHeartbeats 4000000 in
theorem M_X6_ofSort {sc : Nat × (Nat → Int32)} {d : Nat} (hd : 0 ≤ d) {r : Int32} {u : xS} {a1 : Int32} (h : f_X6_ofSort u a1 = some r) : xMt sc mX6_ofSort d 0 0 [.ref 74, .int a1] (xL0, u) (some (.int r)) (xL0, u) :=
  xMt.of (by decide +kernel) (Nat.le_of_ble_eq_true rfl) (L := [some (.ref 74), some (.int a1)]) rfl ((G_X6_ofSort_0 hd a1 h))
set_option maxRecDepth 100000 in
set_option maxHeartbeats 4000000 in
theorem G_X11_hasFor_2 {sc : Nat × (Nat → Int32)} {d : Nat} (hd : 1 ≤ d) {r : Int32} {u : xS} : ∀ (n : Nat) (v1 : Int32) (v2 : Int32), f_X11_hasFor_2 u n v1 v2 = some r → xG sc mX11_hasFor d 0 0 (xR (some (.int r)) (xL0, u) 0 0) 0 0 2 [some (.ref 0), some (.int v1), some (.int v2)] [] (xL0, u) := by
  intro n
  induction n with
  | zero =>
    intro v1 v2 h
    rw [f_X11_hasFor_2] at h
    cases h
  | succ n ih =>
    intro v1 v2 h
    rw [f_X11_hasFor_2] at h
    refine g_iload_n (pc := 2) dX11_hasFor_2 rfl ?_
    refine g_aload_n (pc := 3) dX11_hasFor_3 rfl ?_
    refine g_gR (pc := 4) dX11_hasFor_4 fR_RX11_12 xc_0 (v := 1) rfl ?_
    refine g_gI (pc := 7) dX11_hasFor_7 fI_RX11_102 xc_1 (v := (rd u 1 2)) rfl ?_
    refine g_icmp_ge (tgt := 43) (pc := 10) dX11_hasFor_10 (by decide) (fun c1 => ?_) (fun c1 => ?_)
    · replace h := (if_pos c1).symm.trans h
      refine g_iconst (pc := 43) dX11_hasFor_43 ic_1 ?_
      cases h
      exact g_zret (pc := 44) dX11_hasFor_44 rfl (Or.inr rfl) rfl rfl (Nat.le_refl _) (Nat.le_refl _)
    · replace h := (if_neg c1).symm.trans h
      refine g_aload_n (pc := 13) dX11_hasFor_13 rfl ?_
      refine g_gR (pc := 14) dX11_hasFor_14 fR_RX11_54 xc_0 (v := 74) rfl ?_
      refine g_iload_n (pc := 17) dX11_hasFor_17 rfl ?_
      obtain ⟨x3, e2, h⟩ := x_bind h
      refine g_cV (pc := 18) dX11_hasFor_18 cV_RX11_263 (M_X6_ofSort (Nat.le_refl _) e2) xc_74 (as := [.int v2]) (st := []) rfl rfl (Nat.le_of_ble_eq_true rfl) (Nat.le_trans (Nat.le_of_ble_eq_true rfl) hd) rfl ?_
      refine g_aload_n (pc := 21) dX11_hasFor_21 rfl ?_
      refine g_gR (pc := 22) dX11_hasFor_22 fR_RX11_61 xc_0 (v := 79) rfl ?_
      refine g_gR (pc := 25) dX11_hasFor_25 fR_RX11_286 xc_79 (v := 80) rfl ?_
      refine g_iload_n (pc := 28) dX11_hasFor_28 rfl ?_
      obtain ⟨g4, h⟩ := x_gd h
      refine g_iaload (pc := 29) dX11_hasFor_29 xc_80 (xin_of g4) (v := (rd u 80 v2.toNatClampNeg)) rfl ?_
      refine g_iload_n (pc := 30) dX11_hasFor_30 rfl ?_
      refine g_imul (pc := 31) dX11_hasFor_31 rfl ?_
      refine g_icmp_ge (tgt := 37) (pc := 32) dX11_hasFor_32 (by decide) (fun c5 => ?_) (fun c5 => ?_)
      · replace h := (if_pos c5).symm.trans h
        refine g_inc (pc := 37) dX11_hasFor_37 (Nat.le_of_ble_eq_true rfl) rfl ic_1 (L' := [some (.ref 0), some (.int v1), some (.int (v2 + (1 : Int32)))]) rfl ?_
        refine g_goto (tgt := 2) (pc := 40) dX11_hasFor_40 (by decide) ?_
        exact ih v1 (v2 + (1 : Int32)) h
      · replace h := (if_neg c5).symm.trans h
        refine g_iconst (pc := 35) dX11_hasFor_35 ic_0 ?_
        cases h
        exact g_zret (pc := 36) dX11_hasFor_36 rfl (Or.inl rfl) rfl rfl (Nat.le_refl _) (Nat.le_refl _)
set_option maxRecDepth 100000 in
set_option maxHeartbeats 4000000 in
theorem G_X11_hasFor_0 {sc : Nat × (Nat → Int32)} {d : Nat} (hd : 1 ≤ d) {r : Int32} {u : xS} (v1 : Int32) (h : f_X11_hasFor u v1 = some r) : xG sc mX11_hasFor d 0 0 (xR (some (.int r)) (xL0, u) 0 0) 0 0 0 [some (.ref 0), some (.int v1), none] [] (xL0, u) := by
  rw [f_X11_hasFor] at h
  refine g_iconst (pc := 0) dX11_hasFor_0 ic_0 ?_
  refine g_istore_n (pc := 1) dX11_hasFor_1 (Nat.le_of_ble_eq_true rfl) (L' := [some (.ref 0), some (.int v1), some (.int (0 : Int32))]) rfl ?_
  exact G_X11_hasFor_2 hd xN v1 (0 : Int32) h
set_option maxRecDepth 100000 in
set_option maxHeartbeats 4000000 in
theorem M_X11_hasFor {sc : Nat × (Nat → Int32)} {d : Nat} (hd : 1 ≤ d) {r : Int32} {u : xS} {a1 : Int32} (h : f_X11_hasFor u a1 = some r) : xMt sc mX11_hasFor d 0 0 [.ref 0, .int a1] (xL0, u) (some (.int r)) (xL0, u) :=
  xMt.of (by decide +kernel) (Nat.le_of_ble_eq_true rfl) (L := [some (.ref 0), some (.int a1), none]) rfl ((G_X11_hasFor_0 hd a1 h))
set_option maxRecDepth 100000 in
set_option maxHeartbeats 4000000 in
theorem G_X11_judge_0 {sc : Nat × (Nat → Int32)} {d : Nat} (hd : 3 ≤ d) {r : Int32} {u' : xS} (v1 : Int32) (u : xS) (h : f_X11_judge v1 u = some (r, u')) : xG sc mX11_judge d 0 0 (xR (some (.int r)) (xL0, u') 0 0) 0 0 0 [some (.ref 0), some (.int v1)] [] (xL0, u) := by
  rw [f_X11_judge] at h
  refine g_aload_n (pc := 0) dX11_judge_0 rfl ?_
  refine g_gR (pc := 1) dX11_judge_1 fR_RX11_47 xc_0 (v := 58) rfl ?_
  refine g_iload_n (pc := 4) dX11_judge_4 rfl ?_
  refine g_cV (pc := 5) dX11_judge_5 cV_RX11_293 (M_X10_hasRecipe (Nat.le_refl _) rfl) xc_58 (as := [.int v1]) (st := []) rfl rfl (Nat.le_of_ble_eq_true rfl) (Nat.le_trans (Nat.le_of_ble_eq_true rfl) hd) rfl ?_
  refine g_if_eq (tgt := 23) (pc := 8) dX11_judge_8 (by decide) (fun c1 => ?_) (fun c1 => ?_)
  · replace h := (if_pos c1).symm.trans h
    refine g_iconst (pc := 23) dX11_judge_23 ic_m1 ?_
    cases h
    exact g_iret (pc := 24) dX11_judge_24 rfl rfl rfl (Nat.le_refl _) (Nat.le_refl _)
  · replace h := (if_neg c1).symm.trans h
    refine g_aload_n (pc := 11) dX11_judge_11 rfl ?_
    refine g_gR (pc := 12) dX11_judge_12 fR_RX11_61 xc_0 (v := 79) rfl ?_
    obtain ⟨x3, e2, h⟩ := x_bind h
    refine g_cV (pc := 15) dX11_judge_15 cV_RX11_289 (M_X1_inAll (Nat.le_refl _) e2) xc_79 (as := []) (st := []) rfl rfl (Nat.le_of_ble_eq_true rfl) (Nat.le_trans (Nat.le_of_ble_eq_true rfl) hd) rfl ?_
    refine g_bipush (pc := 18) dX11_judge_18 bp_12 ?_
    refine g_icmp_eq (tgt := 25) (pc := 20) dX11_judge_20 (by decide) (fun c4 => ?_) (fun c4 => ?_)
    · replace h := (if_pos c4).symm.trans h
      refine g_aload_n (pc := 25) dX11_judge_25 rfl ?_
      refine g_aload_n (pc := 26) dX11_judge_26 rfl ?_
      refine g_gR (pc := 27) dX11_judge_27 fR_RX11_61 xc_0 (v := 79) rfl ?_
      refine g_gR (pc := 30) dX11_judge_30 fR_RX11_286 xc_79 (v := 80) rfl ?_
      obtain ⟨u6, e5, h⟩ := x_bind h
      refine g_cV (pc := 33) dX11_judge_33 cV_RX11_296 (M_X11_tellBlend (Nat.le_refl _) e5) xc_0 (as := [.ref 80]) (st := []) rfl rfl (Nat.le_of_ble_eq_true rfl) (Nat.le_trans (Nat.le_of_ble_eq_true rfl) hd) rfl ?_
      refine g_aload_n (pc := 36) dX11_judge_36 rfl ?_
      refine g_gR (pc := 37) dX11_judge_37 fR_RX11_47 xc_0 (v := 58) rfl ?_
      refine g_iload_n (pc := 40) dX11_judge_40 rfl ?_
      obtain ⟨⟨x8, u9⟩, e7, h⟩ := x_bind h
      dsimp only at h
      refine g_cV (pc := 41) dX11_judge_41 cV_RX11_300 (M_X10_firstBroken (Nat.le_refl _) e7) xc_58 (as := [.int v1]) (st := []) rfl rfl (Nat.le_of_ble_eq_true rfl) (Nat.le_trans (Nat.le_of_ble_eq_true rfl) hd) rfl ?_
      cases h
      exact g_iret (pc := 44) dX11_judge_44 rfl rfl rfl (Nat.le_refl _) (Nat.le_refl _)
    · replace h := (if_neg c4).symm.trans h
      refine g_iconst (pc := 23) dX11_judge_23 ic_m1 ?_
      cases h
      exact g_iret (pc := 24) dX11_judge_24 rfl rfl rfl (Nat.le_refl _) (Nat.le_refl _)
set_option maxRecDepth 100000 in
set_option maxHeartbeats 4000000 in
theorem M_X11_judge {sc : Nat × (Nat → Int32)} {d : Nat} (hd : 3 ≤ d) {r : Int32} {u u' : xS} {a1 : Int32} (h : f_X11_judge a1 u = some (r, u')) : xMt sc mX11_judge d 0 0 [.ref 0, .int a1] (xL0, u) (some (.int r)) (xL0, u') :=
  xMt.of (by decide +kernel) (Nat.le_of_ble_eq_true rfl) (L := [some (.ref 0), some (.int a1)]) rfl ((G_X11_judge_0 hd a1 u h))
set_option maxRecDepth 100000 in
set_option maxHeartbeats 4000000 in
theorem G_X11_led_70 {sc : Nat × (Nat → Int32)} {d : Nat} (hd : 1 ≤ d) {r : Int32} {u' : xS} {k22 : Int32 → Int32 → Int32 → xS → Option (Int32 × xS)} (hk22 : ∀ (v1 : Int32) (v2 : Int32) (v3 : Int32) (u : xS), k22 v1 v2 v3 u = some (r, u') → xG sc mX11_led d 0 0 (xR (some (.int r)) (xL0, u') 0 0) 0 0 22 [some (.ref 0), some (.int v1), some (.int v2), some (.int v3)] [] (xL0, u)) (v1 : Int32) (v2 : Int32) (v3 : Int32) (u : xS) (h : f_X11_led_70 k22 v1 v2 v3 u = some (r, u')) : xG sc mX11_led d 0 0 (xR (some (.int r)) (xL0, u') 0 0) 0 0 70 [some (.ref 0), some (.int v1), some (.int v2), some (.int v3)] [] (xL0, u) := by
  rw [f_X11_led_70] at h
  refine g_inc (pc := 70) dX11_led_70 (Nat.le_of_ble_eq_true rfl) rfl ic_1 (L' := [some (.ref 0), some (.int v1), some (.int v2), some (.int (v3 + (1 : Int32)))]) rfl ?_
  refine g_goto (tgt := 22) (pc := 73) dX11_led_73 (by decide) ?_
  exact hk22 v1 v2 (v3 + (1 : Int32)) u h
set_option maxRecDepth 100000 in
set_option maxHeartbeats 4000000 in
theorem G_X11_led_22 {sc : Nat × (Nat → Int32)} {d : Nat} (hd : 1 ≤ d) {r : Int32} {u' : xS} : ∀ (n : Nat) (v1 : Int32) (v2 : Int32) (v3 : Int32) (u : xS), f_X11_led_22 n v1 v2 v3 u = some (r, u') → xG sc mX11_led d 0 0 (xR (some (.int r)) (xL0, u') 0 0) 0 0 22 [some (.ref 0), some (.int v1), some (.int v2), some (.int v3)] [] (xL0, u) := by
  intro n
  induction n with
  | zero =>
    intro v1 v2 v3 u h
    rw [f_X11_led_22] at h
    cases h
  | succ n ih =>
    intro v1 v2 v3 u h
    rw [f_X11_led_22] at h
    refine g_iload_n (pc := 22) dX11_led_22 rfl ?_
    refine g_aload_n (pc := 23) dX11_led_23 rfl ?_
    refine g_gR (pc := 24) dX11_led_24 fR_RX11_19 xc_0 (v := 13) rfl ?_
    refine g_gI (pc := 27) dX11_led_27 fI_RX11_133 xc_13 (v := (rd u 13 8)) rfl ?_
    refine g_icmp_ge (tgt := 76) (pc := 30) dX11_led_30 (by decide) (fun c1 => ?_) (fun c1 => ?_)
    · replace h := (if_pos c1).symm.trans h
      refine g_iload_n (pc := 76) dX11_led_76 rfl ?_
      cases h
      exact g_iret (pc := 77) dX11_led_77 rfl rfl rfl (Nat.le_refl _) (Nat.le_refl _)
    · replace h := (if_neg c1).symm.trans h
      refine g_aload_n (pc := 33) dX11_led_33 rfl ?_
      refine g_gR (pc := 34) dX11_led_34 fR_RX11_68 xc_0 (v := 87) rfl ?_
      refine g_gR (pc := 37) dX11_led_37 fR_RX11_357 xc_87 (v := 88) rfl ?_
      refine g_iload_n (pc := 40) dX11_led_40 rfl ?_
      obtain ⟨g2, h⟩ := x_gd h
      refine g_aaload (pc := 41) dX11_led_41 xc_88 (xin_of g2) (v := (89 + v1.toNatClampNeg)) (xrf_88 _ (xin_lt g2)) ?_
      refine g_iload_n (pc := 42) dX11_led_42 rfl ?_
      obtain ⟨g3, h⟩ := x_gd h
      refine g_iaload (pc := 43) dX11_led_43 (xrow_88 _ (xin_lt g2)) (xin_of g3) (v := (rd u (89 + v1.toNatClampNeg) v3.toNatClampNeg)) rfl ?_
      refine g_if_le (tgt := 70) (pc := 44) dX11_led_44 (by decide) (fun c4 => ?_) (fun c4 => ?_)
      · replace h := (if_pos c4).symm.trans h
        exact G_X11_led_70 hd ih v1 v2 v3 u h
      · replace h := (if_neg c4).symm.trans h
        refine g_aload_n (pc := 47) dX11_led_47 rfl ?_
        refine g_iload_n (pc := 48) dX11_led_48 rfl ?_
        obtain ⟨u6, e5, h⟩ := x_bind h
        refine g_cV (pc := 49) dX11_led_49 cV_RX11_359 (M_X11_tell (Nat.le_refl _) e5) xc_0 (as := [.int v3]) (st := []) rfl rfl (Nat.le_of_ble_eq_true rfl) (Nat.le_trans (Nat.le_of_ble_eq_true rfl) hd) rfl ?_
        refine g_aload_n (pc := 52) dX11_led_52 rfl ?_
        refine g_aload_n (pc := 53) dX11_led_53 rfl ?_
        refine g_gR (pc := 54) dX11_led_54 fR_RX11_68 xc_0 (v := 87) rfl ?_
        refine g_gR (pc := 57) dX11_led_57 fR_RX11_357 xc_87 (v := 88) rfl ?_
        refine g_iload_n (pc := 60) dX11_led_60 rfl ?_
        refine g_aaload (pc := 61) dX11_led_61 xc_88 (xin_of g2) (v := (89 + v1.toNatClampNeg)) (xrf_88 _ (xin_lt g2)) ?_
        refine g_iload_n (pc := 62) dX11_led_62 rfl ?_
        refine g_iaload (pc := 63) dX11_led_63 (xrow_88 _ (xin_lt g2)) (xin_of g3) (v := (rd u6 (89 + v1.toNatClampNeg) v3.toNatClampNeg)) rfl ?_
        obtain ⟨u8, e7, h⟩ := x_bind h
        refine g_cV (pc := 64) dX11_led_64 cV_RX11_359 (M_X11_tell (Nat.le_refl _) e7) xc_0 (as := [.int (rd u6 (89 + v1.toNatClampNeg) v3.toNatClampNeg)]) (st := []) rfl rfl (Nat.le_of_ble_eq_true rfl) (Nat.le_trans (Nat.le_of_ble_eq_true rfl) hd) rfl ?_
        refine g_inc (pc := 67) dX11_led_67 (Nat.le_of_ble_eq_true rfl) rfl ic_1 (L' := [some (.ref 0), some (.int v1), some (.int (v2 + (1 : Int32))), some (.int v3)]) rfl ?_
        exact G_X11_led_70 hd ih v1 (v2 + (1 : Int32)) v3 u8 h
set_option maxRecDepth 100000 in
set_option maxHeartbeats 4000000 in
theorem G_X11_led_0 {sc : Nat × (Nat → Int32)} {d : Nat} (hd : 1 ≤ d) {r : Int32} {u' : xS} (v1 : Int32) (u : xS) (h : f_X11_led v1 u = some (r, u')) : xG sc mX11_led d 0 0 (xR (some (.int r)) (xL0, u') 0 0) 0 0 0 [some (.ref 0), some (.int v1), none, none] [] (xL0, u) := by
  rw [f_X11_led] at h
  refine g_aload_n (pc := 0) dX11_led_0 rfl ?_
  refine g_gR (pc := 1) dX11_led_1 fR_RX11_68 xc_0 (v := 87) rfl ?_
  refine g_iload_n (pc := 4) dX11_led_4 rfl ?_
  refine g_cV (pc := 5) dX11_led_5 cV_RX11_358 (M_X2_has (Nat.le_refl _) rfl) xc_87 (as := [.int v1]) (st := []) rfl rfl (Nat.le_of_ble_eq_true rfl) (Nat.le_trans (Nat.le_of_ble_eq_true rfl) hd) rfl ?_
  refine g_if_ne (tgt := 13) (pc := 8) dX11_led_8 (by decide) (fun c1 => ?_) (fun c1 => ?_)
  · replace h := (if_neg c1).symm.trans h
    refine g_iconst (pc := 13) dX11_led_13 ic_0 ?_
    refine g_istore_n (pc := 14) dX11_led_14 (Nat.le_of_ble_eq_true rfl) (L' := [some (.ref 0), some (.int v1), some (.int (0 : Int32)), none]) rfl ?_
    refine g_aload_n (pc := 15) dX11_led_15 rfl ?_
    refine g_iconst (pc := 16) dX11_led_16 ic_0 ?_
    refine g_pI (pc := 17) dX11_led_17 pI_RX11_90 xc_0 (u' := (wr u 0 12 (0 : Int32))) rfl ?_
    refine g_iconst (pc := 20) dX11_led_20 ic_0 ?_
    refine g_istore_n (pc := 21) dX11_led_21 (Nat.le_of_ble_eq_true rfl) (L' := [some (.ref 0), some (.int v1), some (.int (0 : Int32)), some (.int (0 : Int32))]) rfl ?_
    exact G_X11_led_22 hd xN v1 (0 : Int32) (0 : Int32) (wr u 0 12 (0 : Int32)) h
  · replace h := (if_pos c1).symm.trans h
    refine g_iconst (pc := 11) dX11_led_11 ic_m1 ?_
    cases h
    exact g_iret (pc := 12) dX11_led_12 rfl rfl rfl (Nat.le_refl _) (Nat.le_refl _)
set_option maxRecDepth 100000 in
set_option maxHeartbeats 4000000 in
theorem M_X11_led {sc : Nat × (Nat → Int32)} {d : Nat} (hd : 1 ≤ d) {r : Int32} {u u' : xS} {a1 : Int32} (h : f_X11_led a1 u = some (r, u')) : xMt sc mX11_led d 0 0 [.ref 0, .int a1] (xL0, u) (some (.int r)) (xL0, u') :=
  xMt.of (by decide +kernel) (Nat.le_of_ble_eq_true rfl) (L := [some (.ref 0), some (.int a1), none, none]) rfl ((G_X11_led_0 hd a1 u h))
set_option maxRecDepth 100000 in
set_option maxHeartbeats 4000000 in
theorem G_X5_add_0 {sc : Nat × (Nat → Int32)} {d : Nat} (hd : 0 ≤ d) {r : Int32} {u' : xS} (v1 : Int32) (v2 : Int32) (v3 : Int32) (v4 : Int32) (v5 : Int32) (u : xS) (h : f_X5_add v1 v2 v3 v4 v5 u = some (r, u')) : xG sc mX5_add d 0 0 (xR (some (.int r)) (xL0, u') 0 0) 0 0 0 [some (.ref 46), some (.int v1), some (.int v2), some (.int v3), some (.int v4), some (.int v5)] [] (xL0, u) := by
  rw [f_X5_add] at h
  refine g_aload_n (pc := 0) dX5_add_0 rfl ?_
  refine g_gI (pc := 1) dX5_add_1 fI_RX5_27 xc_46 (v := (rd u 46 5)) rfl ?_
  refine g_bipush (pc := 4) dX5_add_4 bp_60 ?_
  refine g_icmp_lt (tgt := 11) (pc := 6) dX5_add_6 (by decide) (fun c1 => ?_) (fun c1 => ?_)
  · replace h := (if_pos c1).symm.trans h
    refine g_aload_n (pc := 11) dX5_add_11 rfl ?_
    refine g_gR (pc := 12) dX5_add_12 fR_RX5_9 xc_46 (v := 47) rfl ?_
    refine g_aload_n (pc := 15) dX5_add_15 rfl ?_
    refine g_gI (pc := 16) dX5_add_16 fI_RX5_27 xc_46 (v := (rd u 46 5)) rfl ?_
    refine g_iload_n (pc := 19) dX5_add_19 rfl ?_
    obtain ⟨g2, h⟩ := x_gd h
    refine g_iastore (pc := 20) dX5_add_20 xc_47 (xin_of g2) (u' := (wr u 47 (rd u 46 5).toNatClampNeg v1)) rfl ?_
    refine g_aload_n (pc := 21) dX5_add_21 rfl ?_
    refine g_gR (pc := 22) dX5_add_22 fR_RX5_15 xc_46 (v := 48) rfl ?_
    refine g_aload_n (pc := 25) dX5_add_25 rfl ?_
    refine g_gI (pc := 26) dX5_add_26 fI_RX5_27 xc_46 (v := (rd u 46 5)) rfl ?_
    refine g_iload_n (pc := 29) dX5_add_29 rfl ?_
    refine g_iastore (pc := 30) dX5_add_30 xc_48 (xin_of g2) (u' := (wr (wr u 47 (rd u 46 5).toNatClampNeg v1) 48 (rd u 46 5).toNatClampNeg v2)) rfl ?_
    refine g_aload_n (pc := 31) dX5_add_31 rfl ?_
    refine g_gR (pc := 32) dX5_add_32 fR_RX5_18 xc_46 (v := 49) rfl ?_
    refine g_aload_n (pc := 35) dX5_add_35 rfl ?_
    refine g_gI (pc := 36) dX5_add_36 fI_RX5_27 xc_46 (v := (rd u 46 5)) rfl ?_
    refine g_iload_n (pc := 39) dX5_add_39 rfl ?_
    refine g_iastore (pc := 40) dX5_add_40 xc_49 (xin_of g2) (u' := (wr (wr (wr u 47 (rd u 46 5).toNatClampNeg v1) 48 (rd u 46 5).toNatClampNeg v2) 49 (rd u 46 5).toNatClampNeg v3)) rfl ?_
    refine g_aload_n (pc := 41) dX5_add_41 rfl ?_
    refine g_gR (pc := 42) dX5_add_42 fR_RX5_21 xc_46 (v := 50) rfl ?_
    refine g_aload_n (pc := 45) dX5_add_45 rfl ?_
    refine g_gI (pc := 46) dX5_add_46 fI_RX5_27 xc_46 (v := (rd u 46 5)) rfl ?_
    refine g_iload (pc := 49) dX5_add_49 rfl ?_
    refine g_iastore (pc := 51) dX5_add_51 xc_50 (xin_of g2) (u' := (wr (wr (wr (wr u 47 (rd u 46 5).toNatClampNeg v1) 48 (rd u 46 5).toNatClampNeg v2) 49 (rd u 46 5).toNatClampNeg v3) 50 (rd u 46 5).toNatClampNeg v4)) rfl ?_
    refine g_aload_n (pc := 52) dX5_add_52 rfl ?_
    refine g_gR (pc := 53) dX5_add_53 fR_RX5_24 xc_46 (v := 51) rfl ?_
    refine g_aload_n (pc := 56) dX5_add_56 rfl ?_
    refine g_gI (pc := 57) dX5_add_57 fI_RX5_27 xc_46 (v := (rd u 46 5)) rfl ?_
    refine g_iload (pc := 60) dX5_add_60 rfl ?_
    refine g_iastore (pc := 62) dX5_add_62 xc_51 (xin_of g2) (u' := (wr (wr (wr (wr (wr u 47 (rd u 46 5).toNatClampNeg v1) 48 (rd u 46 5).toNatClampNeg v2) 49 (rd u 46 5).toNatClampNeg v3) 50 (rd u 46 5).toNatClampNeg v4) 51 (rd u 46 5).toNatClampNeg v5)) rfl ?_
    refine g_aload_n (pc := 63) dX5_add_63 rfl ?_
    refine g_dup (pc := 64) dX5_add_64 rfl ?_
    refine g_gI (pc := 65) dX5_add_65 fI_RX5_27 xc_46 (v := (rd u 46 5)) rfl ?_
    refine g_iconst (pc := 68) dX5_add_68 ic_1 ?_
    refine g_iadd (pc := 69) dX5_add_69 rfl ?_
    refine g_pI (pc := 70) dX5_add_70 pI_RX5_27 xc_46 (u' := (wr (wr (wr (wr (wr (wr u 47 (rd u 46 5).toNatClampNeg v1) 48 (rd u 46 5).toNatClampNeg v2) 49 (rd u 46 5).toNatClampNeg v3) 50 (rd u 46 5).toNatClampNeg v4) 51 (rd u 46 5).toNatClampNeg v5) 46 5 ((rd u 46 5) + (1 : Int32)))) rfl ?_
    refine g_aload_n (pc := 73) dX5_add_73 rfl ?_
    refine g_gI (pc := 74) dX5_add_74 fI_RX5_27 xc_46 (v := ((rd u 46 5) + (1 : Int32))) rfl ?_
    cases h
    exact g_iret (pc := 77) dX5_add_77 rfl rfl rfl (Nat.le_refl _) (Nat.le_refl _)
  · replace h := (if_neg c1).symm.trans h
    refine g_iconst (pc := 9) dX5_add_9 ic_m1 ?_
    cases h
    exact g_iret (pc := 10) dX5_add_10 rfl rfl rfl (Nat.le_refl _) (Nat.le_refl _)
set_option maxRecDepth 100000 in
set_option maxHeartbeats 4000000 in
theorem M_X5_add {sc : Nat × (Nat → Int32)} {d : Nat} (hd : 0 ≤ d) {r : Int32} {u u' : xS} {a1 : Int32} {a2 : Int32} {a3 : Int32} {a4 : Int32} {a5 : Int32} (h : f_X5_add a1 a2 a3 a4 a5 u = some (r, u')) : xMt sc mX5_add d 0 0 [.ref 46, .int a1, .int a2, .int a3, .int a4, .int a5] (xL0, u) (some (.int r)) (xL0, u') :=
  xMt.of (by decide +kernel) (Nat.le_of_ble_eq_true rfl) (L := [some (.ref 46), some (.int a1), some (.int a2), some (.int a3), some (.int a4), some (.int a5)]) rfl ((G_X5_add_0 hd a1 a2 a3 a4 a5 u h))
set_option maxRecDepth 100000 in
set_option maxHeartbeats 4000000 in
theorem G_X11_look_32 {sc : Nat × (Nat → Int32)} {d : Nat} (hd : 2 ≤ d) {r : Int32} {u' : xS} (v1 : Int32) (v2 : Int32) (v3 : Int32) (v4 : Int32) (v5 : Int32) (s0 : Int32) (u : xS) (h : f_X11_look_32 v1 v2 v3 v4 v5 s0 u = some (r, u')) : xG sc mX11_look d 0 0 (xR (some (.int r)) (xL0, u') 0 0) 0 0 32 [some (.ref 0), some (.int v1), some (.int v2), some (.int v3), some (.int v4), some (.int v5), none] [.int s0] (xL0, u) := by
  rw [f_X11_look_32] at h
  refine g_istore (pc := 32) dX11_look_32 (Nat.le_of_ble_eq_true rfl) (L' := [some (.ref 0), some (.int v1), some (.int v2), some (.int v3), some (.int v4), some (.int v5), some (.int s0)]) rfl ?_
  refine g_iload (pc := 34) dX11_look_34 rfl ?_
  refine g_if_eq (tgt := 75) (pc := 36) dX11_look_36 (by decide) (fun c1 => ?_) (fun c1 => ?_)
  · replace h := (if_pos c1).symm.trans h
    refine g_iconst (pc := 75) dX11_look_75 ic_m1 ?_
    cases h
    exact g_iret (pc := 76) dX11_look_76 rfl rfl rfl (Nat.le_refl _) (Nat.le_refl _)
  · replace h := (if_neg c1).symm.trans h
    refine g_iload (pc := 39) dX11_look_39 rfl ?_
    refine g_iconst (pc := 41) dX11_look_41 ic_0 ?_
    refine g_sipush (pc := 42) dX11_look_42 sp_9999 ?_
    refine g_cS (pc := 45) dX11_look_45 cS_RX11_94 (M_X11_lies (Nat.le_refl _) rfl) (as := [.int v4, .int (0 : Int32), .int (9999 : Int32)]) (st := []) rfl rfl (Nat.le_of_ble_eq_true rfl) (Nat.le_trans (Nat.le_of_ble_eq_true rfl) hd) rfl ?_
    refine g_if_eq (tgt := 75) (pc := 48) dX11_look_48 (by decide) (fun c2 => ?_) (fun c2 => ?_)
    · replace h := (if_pos c2).symm.trans h
      refine g_iconst (pc := 75) dX11_look_75 ic_m1 ?_
      cases h
      exact g_iret (pc := 76) dX11_look_76 rfl rfl rfl (Nat.le_refl _) (Nat.le_refl _)
    · replace h := (if_neg c2).symm.trans h
      refine g_iload (pc := 51) dX11_look_51 rfl ?_
      refine g_iconst (pc := 53) dX11_look_53 ic_0 ?_
      refine g_sipush (pc := 54) dX11_look_54 sp_1000 ?_
      refine g_cS (pc := 57) dX11_look_57 cS_RX11_94 (M_X11_lies (Nat.le_refl _) rfl) (as := [.int v5, .int (0 : Int32), .int (1000 : Int32)]) (st := []) rfl rfl (Nat.le_of_ble_eq_true rfl) (Nat.le_trans (Nat.le_of_ble_eq_true rfl) hd) rfl ?_
      refine g_if_eq (tgt := 75) (pc := 60) dX11_look_60 (by decide) (fun c3 => ?_) (fun c3 => ?_)
      · replace h := (if_pos c3).symm.trans h
        refine g_iconst (pc := 75) dX11_look_75 ic_m1 ?_
        cases h
        exact g_iret (pc := 76) dX11_look_76 rfl rfl rfl (Nat.le_refl _) (Nat.le_refl _)
      · replace h := (if_neg c3).symm.trans h
        refine g_aload_n (pc := 63) dX11_look_63 rfl ?_
        refine g_gR (pc := 64) dX11_look_64 fR_RX11_26 xc_0 (v := 46) rfl ?_
        refine g_gI (pc := 67) dX11_look_67 fI_RX11_179 xc_46 (v := (rd u 46 5)) rfl ?_
        refine g_bipush (pc := 70) dX11_look_70 bp_60 ?_
        refine g_icmp_lt (tgt := 77) (pc := 72) dX11_look_72 (by decide) (fun c4 => ?_) (fun c4 => ?_)
        · replace h := (if_pos c4).symm.trans h
          refine g_aload_n (pc := 77) dX11_look_77 rfl ?_
          refine g_gR (pc := 78) dX11_look_78 fR_RX11_26 xc_0 (v := 46) rfl ?_
          refine g_iload_n (pc := 81) dX11_look_81 rfl ?_
          refine g_iload_n (pc := 82) dX11_look_82 rfl ?_
          refine g_iload_n (pc := 83) dX11_look_83 rfl ?_
          refine g_iload (pc := 84) dX11_look_84 rfl ?_
          refine g_iload (pc := 86) dX11_look_86 rfl ?_
          obtain ⟨⟨x6, u7⟩, e5, h⟩ := x_bind h
          dsimp only at h
          refine g_cV (pc := 88) dX11_look_88 cV_RX11_180 (M_X5_add (Nat.le_refl _) e5) xc_46 (as := [.int v1, .int v2, .int v3, .int v4, .int v5]) (st := []) rfl rfl (Nat.le_of_ble_eq_true rfl) (Nat.le_trans (Nat.le_of_ble_eq_true rfl) hd) rfl ?_
          cases h
          exact g_iret (pc := 91) dX11_look_91 rfl rfl rfl (Nat.le_refl _) (Nat.le_refl _)
        · replace h := (if_neg c4).symm.trans h
          refine g_iconst (pc := 75) dX11_look_75 ic_m1 ?_
          cases h
          exact g_iret (pc := 76) dX11_look_76 rfl rfl rfl (Nat.le_refl _) (Nat.le_refl _)
set_option maxRecDepth 100000 in
set_option maxHeartbeats 4000000 in
theorem G_X11_look_31 {sc : Nat × (Nat → Int32)} {d : Nat} (hd : 2 ≤ d) {r : Int32} {u' : xS} (v1 : Int32) (v2 : Int32) (v3 : Int32) (v4 : Int32) (v5 : Int32) (u : xS) (h : f_X11_look_31 v1 v2 v3 v4 v5 u = some (r, u')) : xG sc mX11_look d 0 0 (xR (some (.int r)) (xL0, u') 0 0) 0 0 31 [some (.ref 0), some (.int v1), some (.int v2), some (.int v3), some (.int v4), some (.int v5), none] [] (xL0, u) := by
  rw [f_X11_look_31] at h
  refine g_iconst (pc := 31) dX11_look_31 ic_0 ?_
  exact G_X11_look_32 hd v1 v2 v3 v4 v5 (0 : Int32) u h
set_option maxRecDepth 100000 in
set_option maxHeartbeats 4000000 in
theorem G_X11_look_0 {sc : Nat × (Nat → Int32)} {d : Nat} (hd : 2 ≤ d) {r : Int32} {u' : xS} (v1 : Int32) (v2 : Int32) (v3 : Int32) (v4 : Int32) (v5 : Int32) (u : xS) (h : f_X11_look v1 v2 v3 v4 v5 u = some (r, u')) : xG sc mX11_look d 0 0 (xR (some (.int r)) (xL0, u') 0 0) 0 0 0 [some (.ref 0), some (.int v1), some (.int v2), some (.int v3), some (.int v4), some (.int v5), none] [] (xL0, u) := by
  rw [f_X11_look] at h
  refine g_aload_n (pc := 0) dX11_look_0 rfl ?_
  refine g_gR (pc := 1) dX11_look_1 fR_RX11_19 xc_0 (v := 13) rfl ?_
  refine g_iload_n (pc := 4) dX11_look_4 rfl ?_
  refine g_cV (pc := 5) dX11_look_5 cV_RX11_137 (M_X0_has (Nat.le_refl _) rfl) xc_13 (as := [.int v1]) (st := []) rfl rfl (Nat.le_of_ble_eq_true rfl) (Nat.le_trans (Nat.le_of_ble_eq_true rfl) hd) rfl ?_
  refine g_if_eq (tgt := 31) (pc := 8) dX11_look_8 (by decide) (fun c1 => ?_) (fun c1 => ?_)
  · replace h := (if_pos c1).symm.trans h
    exact G_X11_look_31 hd v1 v2 v3 v4 v5 u h
  · replace h := (if_neg c1).symm.trans h
    refine g_iload_n (pc := 11) dX11_look_11 rfl ?_
    refine g_iconst (pc := 12) dX11_look_12 ic_0 ?_
    refine g_iconst (pc := 13) dX11_look_13 ic_1 ?_
    refine g_cS (pc := 14) dX11_look_14 cS_RX11_94 (M_X11_lies (Nat.le_refl _) rfl) (as := [.int v2, .int (0 : Int32), .int (1 : Int32)]) (st := []) rfl rfl (Nat.le_of_ble_eq_true rfl) (Nat.le_trans (Nat.le_of_ble_eq_true rfl) hd) rfl ?_
    refine g_if_eq (tgt := 31) (pc := 17) dX11_look_17 (by decide) (fun c2 => ?_) (fun c2 => ?_)
    · replace h := (if_pos c2).symm.trans h
      exact G_X11_look_31 hd v1 v2 v3 v4 v5 u h
    · replace h := (if_neg c2).symm.trans h
      refine g_iload_n (pc := 20) dX11_look_20 rfl ?_
      refine g_cS (pc := 21) dX11_look_21 cS_RX11_109 (M_X11_isDay (Nat.le_refl _) rfl) (as := [.int v3]) (st := []) rfl rfl (Nat.le_of_ble_eq_true rfl) (Nat.le_trans (Nat.le_of_ble_eq_true rfl) hd) rfl ?_
      refine g_if_eq (tgt := 31) (pc := 24) dX11_look_24 (by decide) (fun c3 => ?_) (fun c3 => ?_)
      · replace h := (if_pos c3).symm.trans h
        exact G_X11_look_31 hd v1 v2 v3 v4 v5 u h
      · replace h := (if_neg c3).symm.trans h
        refine g_iconst (pc := 27) dX11_look_27 ic_1 ?_
        refine g_goto (tgt := 32) (pc := 28) dX11_look_28 (by decide) ?_
        exact G_X11_look_32 hd v1 v2 v3 v4 v5 (1 : Int32) u h
set_option maxRecDepth 100000 in
set_option maxHeartbeats 4000000 in
theorem M_X11_look {sc : Nat × (Nat → Int32)} {d : Nat} (hd : 2 ≤ d) {r : Int32} {u u' : xS} {a1 : Int32} {a2 : Int32} {a3 : Int32} {a4 : Int32} {a5 : Int32} (h : f_X11_look a1 a2 a3 a4 a5 u = some (r, u')) : xMt sc mX11_look d 0 0 [.ref 0, .int a1, .int a2, .int a3, .int a4, .int a5] (xL0, u) (some (.int r)) (xL0, u') :=
  xMt.of (by decide +kernel) (Nat.le_of_ble_eq_true rfl) (L := [some (.ref 0), some (.int a1), some (.int a2), some (.int a3), some (.int a4), some (.int a5), none]) rfl ((G_X11_look_0 hd a1 a2 a3 a4 a5 u h))
set_option maxRecDepth 100000 in
set_option maxHeartbeats 4000000 in
theorem G_X6_takeOut_61 {sc : Nat × (Nat → Int32)} {d : Nat} (hd : 1 ≤ d) {u' : xS} {k6 : Int32 → Nat → Int32 → Int32 → xS → Option xS} (hk6 : ∀ (v1 : Int32) (v3 : Nat) (v4 : Int32) (v5 : Int32) (u : xS), k6 v1 v3 v4 v5 u = some u' → xG sc mX6_takeOut d 0 0 (xR none (xL0, u') 0 0) 0 0 6 [some (.ref 74), some (.int v1), none, some (.ref v3), some (.int v4), some (.int v5), none] [] (xL0, u)) (v1 : Int32) (v3 : Nat) (v4 : Int32) (v5 : Int32) (u : xS) (h : f_X6_takeOut_61 k6 v1 v3 v4 v5 u = some u') : xG sc mX6_takeOut d 0 0 (xR none (xL0, u') 0 0) 0 0 61 [some (.ref 74), some (.int v1), none, some (.ref v3), some (.int v4), some (.int v5), none] [] (xL0, u) := by
  rw [f_X6_takeOut_61] at h
  refine g_inc (pc := 61) dX6_takeOut_61 (Nat.le_of_ble_eq_true rfl) rfl ic_1 (L' := [some (.ref 74), some (.int v1), none, some (.ref v3), some (.int v4), some (.int (v5 + (1 : Int32))), none]) rfl ?_
  refine g_goto (tgt := 6) (pc := 64) dX6_takeOut_64 (by decide) ?_
  exact hk6 v1 v3 v4 (v5 + (1 : Int32)) u h
set_option maxRecDepth 100000 in
set_option maxHeartbeats 4000000 in
theorem G_X6_takeOut_6 {sc : Nat × (Nat → Int32)} {d : Nat} (hd : 1 ≤ d) {u' : xS} : ∀ (n : Nat) (v1 : Int32) (v3 : Nat) (v4 : Int32) (v5 : Int32) (u : xS), f_X6_takeOut_6 n v1 v3 v4 v5 u = some u' → xG sc mX6_takeOut d 0 0 (xR none (xL0, u') 0 0) 0 0 6 [some (.ref 74), some (.int v1), none, some (.ref v3), some (.int v4), some (.int v5), none] [] (xL0, u) := by
  intro n
  induction n with
  | zero =>
    intro v1 v3 v4 v5 u h
    rw [f_X6_takeOut_6] at h
    cases h
  | succ n ih =>
    intro v1 v3 v4 v5 u h
    rw [f_X6_takeOut_6] at h
    refine g_iload (pc := 6) dX6_takeOut_6 rfl ?_
    refine g_aload_n (pc := 8) dX6_takeOut_8 rfl ?_
    refine g_gI (pc := 9) dX6_takeOut_9 fI_RX6_24 xc_74 (v := (rd u 74 4)) rfl ?_
    refine g_icmp_ge (tgt := 67) (pc := 12) dX6_takeOut_12 (by decide) (fun c1 => ?_) (fun c1 => ?_)
    · replace h := (if_pos c1).symm.trans h
      cases h
      exact g_ret (pc := 67) dX6_takeOut_67 rfl rfl rfl (Nat.le_refl _) (Nat.le_refl _)
    · replace h := (if_neg c1).symm.trans h
      refine g_iload (pc := 15) dX6_takeOut_15 rfl ?_
      refine g_if_le (tgt := 67) (pc := 17) dX6_takeOut_17 (by decide) (fun c2 => ?_) (fun c2 => ?_)
      · replace h := (if_pos c2).symm.trans h
        cases h
        exact g_ret (pc := 67) dX6_takeOut_67 rfl rfl rfl (Nat.le_refl _) (Nat.le_refl _)
      · replace h := (if_neg c2).symm.trans h
        refine g_aload_n (pc := 20) dX6_takeOut_20 rfl ?_
        refine g_gR (pc := 21) dX6_takeOut_21 fR_RX6_11 xc_74 (v := 75) rfl ?_
        refine g_iload (pc := 24) dX6_takeOut_24 rfl ?_
        obtain ⟨g3, h⟩ := x_gd h
        refine g_iaload (pc := 26) dX6_takeOut_26 xc_75 (xin_of g3) (v := (rd u 75 v5.toNatClampNeg)) rfl ?_
        refine g_iload_n (pc := 27) dX6_takeOut_27 rfl ?_
        refine g_icmp_ne (tgt := 61) (pc := 28) dX6_takeOut_28 (by decide) (fun c4 => ?_) (fun c4 => ?_)
        · replace h := (if_neg c4).symm.trans h
          exact G_X6_takeOut_61 hd ih v1 v3 v4 v5 u h
        · replace h := (if_pos c4).symm.trans h
          refine g_iload (pc := 31) dX6_takeOut_31 rfl ?_
          refine g_aload_n (pc := 33) dX6_takeOut_33 rfl ?_
          refine g_gR (pc := 34) dX6_takeOut_34 fR_RX6_18 xc_74 (v := 77) rfl ?_
          refine g_iload (pc := 37) dX6_takeOut_37 rfl ?_
          refine g_iaload (pc := 39) dX6_takeOut_39 xc_77 (xin_of g3) (v := (rd u 77 v5.toNatClampNeg)) rfl ?_
          refine g_min (pc := 40) dX6_takeOut_40 mK_RX6_28 (Nat.le_of_ble_eq_true rfl) (Nat.le_trans (Nat.le_of_ble_eq_true rfl) hd) (Nat.le_refl _) (Nat.le_refl _) ?_
          refine g_istore (pc := 43) dX6_takeOut_43 (Nat.le_of_ble_eq_true rfl) (L' := [some (.ref 74), some (.int v1), none, some (.ref v3), some (.int v4), some (.int v5), some (.int (imin v4 (rd u 77 v5.toNatClampNeg)))]) rfl ?_
          refine g_aload_n (pc := 45) dX6_takeOut_45 rfl ?_
          refine g_iload (pc := 46) dX6_takeOut_46 rfl ?_
          refine g_iload (pc := 48) dX6_takeOut_48 rfl ?_
          refine g_aload_n (pc := 50) dX6_takeOut_50 rfl ?_
          obtain ⟨u6, e5, h⟩ := x_bind h
          refine g_cV (pc := 51) dX6_takeOut_51 cV_RX6_34 (M_X6_lessen (Nat.le_refl _) e5) xc_74 (as := [.int v5, .int (imin v4 (rd u 77 v5.toNatClampNeg)), .ref v3]) (st := []) rfl rfl (Nat.le_of_ble_eq_true rfl) (Nat.le_trans (Nat.le_of_ble_eq_true rfl) hd) rfl ?_
          refine g_iload (pc := 54) dX6_takeOut_54 rfl ?_
          refine g_iload (pc := 56) dX6_takeOut_56 rfl ?_
          refine g_isub (pc := 58) dX6_takeOut_58 rfl ?_
          refine g_istore (pc := 59) dX6_takeOut_59 (Nat.le_of_ble_eq_true rfl) (L' := [some (.ref 74), some (.int v1), none, some (.ref v3), some (.int (v4 - (imin v4 (rd u 77 v5.toNatClampNeg)))), some (.int v5), some (.int (imin v4 (rd u 77 v5.toNatClampNeg)))]) rfl ?_
          refine g_L (L' := [some (.ref 74), some (.int v1), none, some (.ref v3), some (.int (v4 - (imin v4 (rd u 77 v5.toNatClampNeg)))), some (.int v5), none]) ⟨rfl, ⟨rfl, ⟨rfl, ⟨rfl, ⟨rfl, trivial⟩⟩⟩⟩⟩ ?_
          exact G_X6_takeOut_61 hd ih v1 v3 (v4 - (imin v4 (rd u 77 v5.toNatClampNeg))) v5 u6 h
set_option maxRecDepth 100000 in
set_option maxHeartbeats 4000000 in
theorem G_X6_takeOut_0 {sc : Nat × (Nat → Int32)} {d : Nat} (hd : 1 ≤ d) {u' : xS} (v1 : Int32) (v2 : Int32) (v3 : Nat) (u : xS) (h : f_X6_takeOut v1 v2 v3 u = some u') : xG sc mX6_takeOut d 0 0 (xR none (xL0, u') 0 0) 0 0 0 [some (.ref 74), some (.int v1), some (.int v2), some (.ref v3), none, none, none] [] (xL0, u) := by
  rw [f_X6_takeOut] at h
  refine g_iload_n (pc := 0) dX6_takeOut_0 rfl ?_
  refine g_istore (pc := 1) dX6_takeOut_1 (Nat.le_of_ble_eq_true rfl) (L' := [some (.ref 74), some (.int v1), some (.int v2), some (.ref v3), some (.int v2), none, none]) rfl ?_
  refine g_iconst (pc := 3) dX6_takeOut_3 ic_0 ?_
  refine g_istore (pc := 4) dX6_takeOut_4 (Nat.le_of_ble_eq_true rfl) (L' := [some (.ref 74), some (.int v1), some (.int v2), some (.ref v3), some (.int v2), some (.int (0 : Int32)), none]) rfl ?_
  refine g_L (L' := [some (.ref 74), some (.int v1), none, some (.ref v3), some (.int v2), some (.int (0 : Int32)), none]) ⟨rfl, ⟨rfl, ⟨rfl, ⟨rfl, ⟨rfl, trivial⟩⟩⟩⟩⟩ ?_
  exact G_X6_takeOut_6 hd xN v1 v3 v2 (0 : Int32) u h
set_option maxRecDepth 100000 in
set_option maxHeartbeats 4000000 in
theorem M_X6_takeOut {sc : Nat × (Nat → Int32)} {d : Nat} (hd : 1 ≤ d) {u u' : xS} {a1 : Int32} {a2 : Int32} {a3 : Nat} (h : f_X6_takeOut a1 a2 a3 u = some u') : xMt sc mX6_takeOut d 0 0 [.ref 74, .int a1, .int a2, .ref a3] (xL0, u) none (xL0, u') :=
  xMt.of (by decide +kernel) (Nat.le_of_ble_eq_true rfl) (L := [some (.ref 74), some (.int a1), some (.int a2), some (.ref a3), none, none, none]) rfl ((G_X6_takeOut_0 hd a1 a2 a3 u h))
set_option maxRecDepth 100000 in
set_option maxHeartbeats 4000000 in
theorem G_X2_add_0 {sc : Nat × (Nat → Int32)} {d : Nat} (hd : 0 ≤ d) {r : Int32} {u' : xS} (u : xS) (h : f_X2_add u = some (r, u')) : xG sc mX2_add d 0 0 (xR (some (.int r)) (xL0, u') 0 0) 0 0 0 [some (.ref 87)] [] (xL0, u) := by
  rw [f_X2_add] at h
  refine g_aload_n (pc := 0) dX2_add_0 rfl ?_
  refine g_gI (pc := 1) dX2_add_1 fI_RX2_20 xc_87 (v := (rd u 87 2)) rfl ?_
  refine g_bipush (pc := 4) dX2_add_4 bp_20 ?_
  refine g_icmp_lt (tgt := 11) (pc := 6) dX2_add_6 (by decide) (fun c1 => ?_) (fun c1 => ?_)
  · replace h := (if_pos c1).symm.trans h
    refine g_aload_n (pc := 11) dX2_add_11 rfl ?_
    refine g_gR (pc := 12) dX2_add_12 fR_RX2_16 xc_87 (v := 109) rfl ?_
    refine g_aload_n (pc := 15) dX2_add_15 rfl ?_
    refine g_gI (pc := 16) dX2_add_16 fI_RX2_20 xc_87 (v := (rd u 87 2)) rfl ?_
    refine g_iconst (pc := 19) dX2_add_19 ic_2 ?_
    obtain ⟨g2, h⟩ := x_gd h
    refine g_iastore (pc := 20) dX2_add_20 xc_109 (xin_of g2) (u' := (wr u 109 (rd u 87 2).toNatClampNeg (2 : Int32))) rfl ?_
    refine g_aload_n (pc := 21) dX2_add_21 rfl ?_
    refine g_dup (pc := 22) dX2_add_22 rfl ?_
    refine g_gI (pc := 23) dX2_add_23 fI_RX2_20 xc_87 (v := (rd u 87 2)) rfl ?_
    refine g_dup_x1 (pc := 26) dX2_add_26 rfl rfl ?_
    refine g_iconst (pc := 27) dX2_add_27 ic_1 ?_
    refine g_iadd (pc := 28) dX2_add_28 rfl ?_
    refine g_pI (pc := 29) dX2_add_29 pI_RX2_20 xc_87 (u' := (wr (wr u 109 (rd u 87 2).toNatClampNeg (2 : Int32)) 87 2 ((rd u 87 2) + (1 : Int32)))) rfl ?_
    cases h
    exact g_iret (pc := 32) dX2_add_32 rfl rfl rfl (Nat.le_refl _) (Nat.le_refl _)
  · replace h := (if_neg c1).symm.trans h
    refine g_iconst (pc := 9) dX2_add_9 ic_m1 ?_
    cases h
    exact g_iret (pc := 10) dX2_add_10 rfl rfl rfl (Nat.le_refl _) (Nat.le_refl _)
set_option maxRecDepth 100000 in
set_option maxHeartbeats 4000000 in
theorem M_X2_add {sc : Nat × (Nat → Int32)} {d : Nat} (hd : 0 ≤ d) {r : Int32} {u u' : xS} (h : f_X2_add u = some (r, u')) : xMt sc mX2_add d 0 0 [.ref 87] (xL0, u) (some (.int r)) (xL0, u') :=
  xMt.of (by decide +kernel) (Nat.le_of_ble_eq_true rfl) (L := [some (.ref 87)]) rfl ((G_X2_add_0 hd u h))
set_option maxRecDepth 100000 in
set_option maxHeartbeats 4000000 in
theorem G_X11_make_68 {sc : Nat × (Nat → Int32)} {d : Nat} (hd : 2 ≤ d) {r : Int32} {u' : xS} : ∀ (n : Nat) (v1 : Int32) (v2 : Int32) (v3 : Int32) (u : xS), f_X11_make_68 n v1 v2 v3 u = some (r, u') → xG sc mX11_make d 0 0 (xR (some (.int r)) (xL0, u') 0 0) 0 0 68 [some (.ref 0), some (.int v1), some (.int v2), some (.int v3)] [] (xL0, u) := by
  intro n
  induction n with
  | zero =>
    intro v1 v2 v3 u h
    rw [f_X11_make_68] at h
    cases h
  | succ n ih =>
    intro v1 v2 v3 u h
    rw [f_X11_make_68] at h
    refine g_iload_n (pc := 68) dX11_make_68 rfl ?_
    refine g_aload_n (pc := 69) dX11_make_69 rfl ?_
    refine g_gR (pc := 70) dX11_make_70 fR_RX11_12 xc_0 (v := 1) rfl ?_
    refine g_gI (pc := 73) dX11_make_73 fI_RX11_102 xc_1 (v := (rd u 1 2)) rfl ?_
    refine g_icmp_ge (tgt := 116) (pc := 76) dX11_make_76 (by decide) (fun c1 => ?_) (fun c1 => ?_)
    · replace h := (if_pos c1).symm.trans h
      refine g_iload_n (pc := 116) dX11_make_116 rfl ?_
      cases h
      exact g_iret (pc := 117) dX11_make_117 rfl rfl rfl (Nat.le_refl _) (Nat.le_refl _)
    · replace h := (if_neg c1).symm.trans h
      refine g_aload_n (pc := 79) dX11_make_79 rfl ?_
      refine g_gR (pc := 80) dX11_make_80 fR_RX11_54 xc_0 (v := 74) rfl ?_
      refine g_iload_n (pc := 83) dX11_make_83 rfl ?_
      refine g_aload_n (pc := 84) dX11_make_84 rfl ?_
      refine g_gR (pc := 85) dX11_make_85 fR_RX11_61 xc_0 (v := 79) rfl ?_
      refine g_gR (pc := 88) dX11_make_88 fR_RX11_286 xc_79 (v := 80) rfl ?_
      refine g_iload_n (pc := 91) dX11_make_91 rfl ?_
      obtain ⟨g2, h⟩ := x_gd h
      refine g_iaload (pc := 92) dX11_make_92 xc_80 (xin_of g2) (v := (rd u 80 v3.toNatClampNeg)) rfl ?_
      refine g_iload_n (pc := 93) dX11_make_93 rfl ?_
      refine g_bipush (pc := 94) dX11_make_94 bp_12 ?_
      refine g_idiv (pc := 96) dX11_make_96 (by decide) rfl ?_
      refine g_imul (pc := 97) dX11_make_97 rfl ?_
      refine g_aload_n (pc := 98) dX11_make_98 rfl ?_
      refine g_gR (pc := 99) dX11_make_99 fR_RX11_68 xc_0 (v := 87) rfl ?_
      refine g_gR (pc := 102) dX11_make_102 fR_RX11_357 xc_87 (v := 88) rfl ?_
      refine g_iload_n (pc := 105) dX11_make_105 rfl ?_
      obtain ⟨g3, h⟩ := x_gd h
      refine g_aaload (pc := 106) dX11_make_106 xc_88 (xin_of g3) (v := (89 + v2.toNatClampNeg)) (xrf_88 _ (xin_lt g3)) ?_
      obtain ⟨u5, e4, h⟩ := x_bind h
      refine g_cV (pc := 107) dX11_make_107 cV_RX11_273 (M_X6_takeOut (Nat.le_refl _) e4) xc_74 (as := [.int v3, .int ((rd u 80 v3.toNatClampNeg) * (v1 / (12 : Int32))), .ref (89 + v2.toNatClampNeg)]) (st := []) rfl rfl (Nat.le_of_ble_eq_true rfl) (Nat.le_trans (Nat.le_of_ble_eq_true rfl) hd) rfl ?_
      refine g_inc (pc := 110) dX11_make_110 (Nat.le_of_ble_eq_true rfl) rfl ic_1 (L' := [some (.ref 0), some (.int v1), some (.int v2), some (.int (v3 + (1 : Int32)))]) rfl ?_
      refine g_goto (tgt := 68) (pc := 113) dX11_make_113 (by decide) ?_
      exact ih v1 v2 (v3 + (1 : Int32)) u5 h
set_option maxRecDepth 100000 in
set_option maxHeartbeats 4000000 in
theorem G_X11_make_0 {sc : Nat × (Nat → Int32)} {d : Nat} (hd : 2 ≤ d) {r : Int32} {u' : xS} (v1 : Int32) (u : xS) (h : f_X11_make v1 u = some (r, u')) : xG sc mX11_make d 0 0 (xR (some (.int r)) (xL0, u') 0 0) 0 0 0 [some (.ref 0), some (.int v1), none, none] [] (xL0, u) := by
  rw [f_X11_make] at h
  refine g_iload_n (pc := 0) dX11_make_0 rfl ?_
  refine g_bipush (pc := 1) dX11_make_1 bp_12 ?_
  refine g_sipush (pc := 3) dX11_make_3 sp_9996 ?_
  refine g_cS (pc := 6) dX11_make_6 cS_RX11_94 (M_X11_lies (Nat.le_refl _) rfl) (as := [.int v1, .int (12 : Int32), .int (9996 : Int32)]) (st := []) rfl rfl (Nat.le_of_ble_eq_true rfl) (Nat.le_trans (Nat.le_of_ble_eq_true rfl) hd) rfl ?_
  refine g_if_eq (tgt := 19) (pc := 9) dX11_make_9 (by decide) (fun c1 => ?_) (fun c1 => ?_)
  · replace h := (if_pos c1).symm.trans h
    refine g_iconst (pc := 19) dX11_make_19 ic_m1 ?_
    cases h
    exact g_iret (pc := 20) dX11_make_20 rfl rfl rfl (Nat.le_refl _) (Nat.le_refl _)
  · replace h := (if_neg c1).symm.trans h
    refine g_iload_n (pc := 12) dX11_make_12 rfl ?_
    refine g_bipush (pc := 13) dX11_make_13 bp_12 ?_
    refine g_irem (pc := 15) dX11_make_15 (by decide) rfl ?_
    refine g_if_eq (tgt := 21) (pc := 16) dX11_make_16 (by decide) (fun c2 => ?_) (fun c2 => ?_)
    · replace h := (if_pos c2).symm.trans h
      refine g_aload_n (pc := 21) dX11_make_21 rfl ?_
      refine g_gR (pc := 22) dX11_make_22 fR_RX11_61 xc_0 (v := 79) rfl ?_
      obtain ⟨x4, e3, h⟩ := x_bind h
      refine g_cV (pc := 25) dX11_make_25 cV_RX11_289 (M_X1_inAll (Nat.le_refl _) e3) xc_79 (as := []) (st := []) rfl rfl (Nat.le_of_ble_eq_true rfl) (Nat.le_trans (Nat.le_of_ble_eq_true rfl) hd) rfl ?_
      refine g_bipush (pc := 28) dX11_make_28 bp_12 ?_
      refine g_icmp_ne (tgt := 56) (pc := 30) dX11_make_30 (by decide) (fun c5 => ?_) (fun c5 => ?_)
      · replace h := (if_neg c5).symm.trans h
        refine g_iconst (pc := 56) dX11_make_56 ic_m1 ?_
        cases h
        exact g_iret (pc := 57) dX11_make_57 rfl rfl rfl (Nat.le_refl _) (Nat.le_refl _)
      · replace h := (if_pos c5).symm.trans h
        refine g_aload_n (pc := 33) dX11_make_33 rfl ?_
        refine g_gR (pc := 34) dX11_make_34 fR_RX11_68 xc_0 (v := 87) rfl ?_
        refine g_gI (pc := 37) dX11_make_37 fI_RX11_351 xc_87 (v := (rd u 87 2)) rfl ?_
        refine g_bipush (pc := 40) dX11_make_40 bp_20 ?_
        refine g_icmp_ge (tgt := 56) (pc := 42) dX11_make_42 (by decide) (fun c6 => ?_) (fun c6 => ?_)
        · replace h := (if_pos c6).symm.trans h
          refine g_iconst (pc := 56) dX11_make_56 ic_m1 ?_
          cases h
          exact g_iret (pc := 57) dX11_make_57 rfl rfl rfl (Nat.le_refl _) (Nat.le_refl _)
        · replace h := (if_neg c6).symm.trans h
          refine g_aload_n (pc := 45) dX11_make_45 rfl ?_
          refine g_iload_n (pc := 46) dX11_make_46 rfl ?_
          refine g_bipush (pc := 47) dX11_make_47 bp_12 ?_
          refine g_idiv (pc := 49) dX11_make_49 (by decide) rfl ?_
          obtain ⟨x8, e7, h⟩ := x_bind h
          refine g_cV (pc := 50) dX11_make_50 cV_RX11_352 (M_X11_hasFor (Nat.le_refl _) e7) xc_0 (as := [.int (v1 / (12 : Int32))]) (st := []) rfl rfl (Nat.le_of_ble_eq_true rfl) (Nat.le_trans (Nat.le_of_ble_eq_true rfl) hd) rfl ?_
          refine g_if_ne (tgt := 58) (pc := 53) dX11_make_53 (by decide) (fun c9 => ?_) (fun c9 => ?_)
          · replace h := (if_neg c9).symm.trans h
            refine g_aload_n (pc := 58) dX11_make_58 rfl ?_
            refine g_gR (pc := 59) dX11_make_59 fR_RX11_68 xc_0 (v := 87) rfl ?_
            obtain ⟨⟨x11, u12⟩, e10, h⟩ := x_bind h
            dsimp only at h
            refine g_cV (pc := 62) dX11_make_62 cV_RX11_355 (M_X2_add (Nat.le_refl _) e10) xc_87 (as := []) (st := []) rfl rfl (Nat.le_of_ble_eq_true rfl) (Nat.le_trans (Nat.le_of_ble_eq_true rfl) hd) rfl ?_
            refine g_istore_n (pc := 65) dX11_make_65 (Nat.le_of_ble_eq_true rfl) (L' := [some (.ref 0), some (.int v1), some (.int x11), none]) rfl ?_
            refine g_iconst (pc := 66) dX11_make_66 ic_0 ?_
            refine g_istore_n (pc := 67) dX11_make_67 (Nat.le_of_ble_eq_true rfl) (L' := [some (.ref 0), some (.int v1), some (.int x11), some (.int (0 : Int32))]) rfl ?_
            exact G_X11_make_68 hd xN v1 x11 (0 : Int32) u12 h
          · replace h := (if_pos c9).symm.trans h
            refine g_iconst (pc := 56) dX11_make_56 ic_m1 ?_
            cases h
            exact g_iret (pc := 57) dX11_make_57 rfl rfl rfl (Nat.le_refl _) (Nat.le_refl _)
    · replace h := (if_neg c2).symm.trans h
      refine g_iconst (pc := 19) dX11_make_19 ic_m1 ?_
      cases h
      exact g_iret (pc := 20) dX11_make_20 rfl rfl rfl (Nat.le_refl _) (Nat.le_refl _)
set_option maxRecDepth 100000 in
set_option maxHeartbeats 4000000 in
theorem M_X11_make {sc : Nat × (Nat → Int32)} {d : Nat} (hd : 2 ≤ d) {r : Int32} {u u' : xS} {a1 : Int32} (h : f_X11_make a1 u = some (r, u')) : xMt sc mX11_make d 0 0 [.ref 0, .int a1] (xL0, u) (some (.int r)) (xL0, u') :=
  xMt.of (by decide +kernel) (Nat.le_of_ble_eq_true rfl) (L := [some (.ref 0), some (.int a1), none, none]) rfl ((G_X11_make_0 hd a1 u h))
set_option maxRecDepth 100000 in
set_option maxHeartbeats 4000000 in
theorem G_X11_met_0 {sc : Nat × (Nat → Int32)} {d : Nat} (hd : 2 ≤ d) {r : Int32} {u : xS} (v1 : Int32) (v2 : Int32) (h : f_X11_met u v1 v2 = some r) : xG sc mX11_met d 0 0 (xR (some (.int r)) (xL0, u) 0 0) 0 0 0 [some (.ref 0), some (.int v1), some (.int v2)] [] (xL0, u) := by
  rw [f_X11_met] at h
  refine g_iload_n (pc := 0) dX11_met_0 rfl ?_
  refine g_cS (pc := 1) dX11_met_1 cS_RX11_138 (M_X11_isSorter (Nat.le_refl _) rfl) (as := [.int v1]) (st := []) rfl rfl (Nat.le_of_ble_eq_true rfl) (Nat.le_trans (Nat.le_of_ble_eq_true rfl) hd) rfl ?_
  refine g_if_eq (tgt := 26) (pc := 4) dX11_met_4 (by decide) (fun c1 => ?_) (fun c1 => ?_)
  · replace h := (if_pos c1).symm.trans h
    refine g_iconst (pc := 26) dX11_met_26 ic_m1 ?_
    cases h
    exact g_iret (pc := 27) dX11_met_27 rfl rfl rfl (Nat.le_refl _) (Nat.le_refl _)
  · replace h := (if_neg c1).symm.trans h
    refine g_iload_n (pc := 7) dX11_met_7 rfl ?_
    refine g_cS (pc := 8) dX11_met_8 cS_RX11_138 (M_X11_isSorter (Nat.le_refl _) rfl) (as := [.int v2]) (st := []) rfl rfl (Nat.le_of_ble_eq_true rfl) (Nat.le_trans (Nat.le_of_ble_eq_true rfl) hd) rfl ?_
    refine g_if_eq (tgt := 26) (pc := 11) dX11_met_11 (by decide) (fun c2 => ?_) (fun c2 => ?_)
    · replace h := (if_pos c2).symm.trans h
      refine g_iconst (pc := 26) dX11_met_26 ic_m1 ?_
      cases h
      exact g_iret (pc := 27) dX11_met_27 rfl rfl rfl (Nat.le_refl _) (Nat.le_refl _)
    · replace h := (if_neg c2).symm.trans h
      refine g_aload_n (pc := 14) dX11_met_14 rfl ?_
      refine g_gR (pc := 15) dX11_met_15 fR_RX11_75 xc_0 (v := 113) rfl ?_
      refine g_iload_n (pc := 18) dX11_met_18 rfl ?_
      refine g_iload_n (pc := 19) dX11_met_19 rfl ?_
      obtain ⟨x4, e3, h⟩ := x_bind h
      refine g_cV (pc := 20) dX11_met_20 cV_RX11_260 (M_X3_alike (Nat.le_refl _) e3) xc_113 (as := [.int v1, .int v2]) (st := []) rfl rfl (Nat.le_of_ble_eq_true rfl) (Nat.le_trans (Nat.le_of_ble_eq_true rfl) hd) rfl ?_
      refine g_goto (tgt := 27) (pc := 23) dX11_met_23 (by decide) ?_
      cases h
      exact g_iret (pc := 27) dX11_met_27 rfl rfl rfl (Nat.le_refl _) (Nat.le_refl _)
set_option maxRecDepth 100000 in
set_option maxHeartbeats 4000000 in
theorem M_X11_met {sc : Nat × (Nat → Int32)} {d : Nat} (hd : 2 ≤ d) {r : Int32} {u : xS} {a1 : Int32} {a2 : Int32} (h : f_X11_met u a1 a2 = some r) : xMt sc mX11_met d 0 0 [.ref 0, .int a1, .int a2] (xL0, u) (some (.int r)) (xL0, u) :=
  xMt.of (by decide +kernel) (Nat.le_of_ble_eq_true rfl) (L := [some (.ref 0), some (.int a1), some (.int a2)]) rfl ((G_X11_met_0 hd a1 a2 h))
set_option maxRecDepth 100000 in
set_option maxHeartbeats 4000000 in
theorem G_X1_choose_0 {sc : Nat × (Nat → Int32)} {d : Nat} (hd : 0 ≤ d) {u' : xS} (v1 : Int32) (v2 : Int32) (v3 : Int32) (u : xS) (h : f_X1_choose v1 v2 v3 u = some u') : xG sc mX1_choose d 0 0 (xR none (xL0, u') 0 0) 0 0 0 [some (.ref 79), some (.int v1), some (.int v2), some (.int v3)] [] (xL0, u) := by
  rw [f_X1_choose] at h
  refine g_aload_n (pc := 0) dX1_choose_0 rfl ?_
  refine g_gI (pc := 1) dX1_choose_1 fI_RX1_29 xc_79 (v := (rd u 79 5)) rfl ?_
  refine g_bipush (pc := 4) dX1_choose_4 bp_6 ?_
  refine g_icmp_ge (tgt := 49) (pc := 6) dX1_choose_6 (by decide) (fun c1 => ?_) (fun c1 => ?_)
  · replace h := (if_pos c1).symm.trans h
    cases h
    exact g_ret (pc := 49) dX1_choose_49 rfl rfl rfl (Nat.le_refl _) (Nat.le_refl _)
  · replace h := (if_neg c1).symm.trans h
    refine g_aload_n (pc := 9) dX1_choose_9 rfl ?_
    refine g_gR (pc := 10) dX1_choose_10 fR_RX1_20 xc_79 (v := 82) rfl ?_
    refine g_aload_n (pc := 13) dX1_choose_13 rfl ?_
    refine g_gI (pc := 14) dX1_choose_14 fI_RX1_29 xc_79 (v := (rd u 79 5)) rfl ?_
    refine g_iload_n (pc := 17) dX1_choose_17 rfl ?_
    obtain ⟨g2, h⟩ := x_gd h
    refine g_iastore (pc := 18) dX1_choose_18 xc_82 (xin_of g2) (u' := (wr u 82 (rd u 79 5).toNatClampNeg v1)) rfl ?_
    refine g_aload_n (pc := 19) dX1_choose_19 rfl ?_
    refine g_gR (pc := 20) dX1_choose_20 fR_RX1_23 xc_79 (v := 83) rfl ?_
    refine g_aload_n (pc := 23) dX1_choose_23 rfl ?_
    refine g_gI (pc := 24) dX1_choose_24 fI_RX1_29 xc_79 (v := (rd u 79 5)) rfl ?_
    refine g_iload_n (pc := 27) dX1_choose_27 rfl ?_
    refine g_iastore (pc := 28) dX1_choose_28 xc_83 (xin_of g2) (u' := (wr (wr u 82 (rd u 79 5).toNatClampNeg v1) 83 (rd u 79 5).toNatClampNeg v2)) rfl ?_
    refine g_aload_n (pc := 29) dX1_choose_29 rfl ?_
    refine g_gR (pc := 30) dX1_choose_30 fR_RX1_26 xc_79 (v := 84) rfl ?_
    refine g_aload_n (pc := 33) dX1_choose_33 rfl ?_
    refine g_gI (pc := 34) dX1_choose_34 fI_RX1_29 xc_79 (v := (rd u 79 5)) rfl ?_
    refine g_iload_n (pc := 37) dX1_choose_37 rfl ?_
    refine g_iastore (pc := 38) dX1_choose_38 xc_84 (xin_of g2) (u' := (wr (wr (wr u 82 (rd u 79 5).toNatClampNeg v1) 83 (rd u 79 5).toNatClampNeg v2) 84 (rd u 79 5).toNatClampNeg v3)) rfl ?_
    refine g_aload_n (pc := 39) dX1_choose_39 rfl ?_
    refine g_dup (pc := 40) dX1_choose_40 rfl ?_
    refine g_gI (pc := 41) dX1_choose_41 fI_RX1_29 xc_79 (v := (rd u 79 5)) rfl ?_
    refine g_iconst (pc := 44) dX1_choose_44 ic_1 ?_
    refine g_iadd (pc := 45) dX1_choose_45 rfl ?_
    refine g_pI (pc := 46) dX1_choose_46 pI_RX1_29 xc_79 (u' := (wr (wr (wr (wr u 82 (rd u 79 5).toNatClampNeg v1) 83 (rd u 79 5).toNatClampNeg v2) 84 (rd u 79 5).toNatClampNeg v3) 79 5 ((rd u 79 5) + (1 : Int32)))) rfl ?_
    cases h
    exact g_ret (pc := 49) dX1_choose_49 rfl rfl rfl (Nat.le_refl _) (Nat.le_refl _)
set_option maxRecDepth 100000 in
set_option maxHeartbeats 4000000 in
theorem M_X1_choose {sc : Nat × (Nat → Int32)} {d : Nat} (hd : 0 ≤ d) {u u' : xS} {a1 : Int32} {a2 : Int32} {a3 : Int32} (h : f_X1_choose a1 a2 a3 u = some u') : xMt sc mX1_choose d 0 0 [.ref 79, .int a1, .int a2, .int a3] (xL0, u) none (xL0, u') :=
  xMt.of (by decide +kernel) (Nat.le_of_ble_eq_true rfl) (L := [some (.ref 79), some (.int a1), some (.int a2), some (.int a3)]) rfl ((G_X1_choose_0 hd a1 a2 a3 u h))
set_option maxRecDepth 100000 in
set_option maxHeartbeats 4000000 in
theorem G_X1_settle_0 {sc : Nat × (Nat → Int32)} {d : Nat} (hd : 1 ≤ d) {u' : xS} (u : xS) (h : f_X1_settle u = some u') : xG sc mX1_settle d 0 0 (xR none (xL0, u') 0 0) 0 0 0 [some (.ref 79)] [] (xL0, u) := by
  rw [f_X1_settle] at h
  refine g_aload_n (pc := 0) dX1_settle_0 rfl ?_
  refine g_gR (pc := 1) dX1_settle_1 fR_RX1_36 xc_79 (v := 86) rfl ?_
  refine g_iconst (pc := 4) dX1_settle_4 ic_0 ?_
  refine g_aload_n (pc := 5) dX1_settle_5 rfl ?_
  refine g_gR (pc := 6) dX1_settle_6 fR_RX1_9 xc_79 (v := 80) rfl ?_
  refine g_iconst (pc := 9) dX1_settle_9 ic_0 ?_
  refine g_bipush (pc := 10) dX1_settle_10 bp_16 ?_
  obtain ⟨g1, h⟩ := x_gd h
  refine g_cp (pc := 12) dX1_settle_12 kcp_RX1_45 xc_86 xc_80 (xcok_of g1) (Nat.le_of_ble_eq_true rfl) (Nat.le_trans (Nat.le_of_ble_eq_true rfl) hd) (u' := (xcpy u 86 (0 : Int32).toNatClampNeg 80 (0 : Int32).toNatClampNeg (16 : Int32).toNatClampNeg)) rfl ?_
  cases h
  exact g_ret (pc := 15) dX1_settle_15 rfl rfl rfl (Nat.le_refl _) (Nat.le_refl _)
set_option maxRecDepth 100000 in
set_option maxHeartbeats 4000000 in
theorem M_X1_settle {sc : Nat × (Nat → Int32)} {d : Nat} (hd : 1 ≤ d) {u u' : xS} (h : f_X1_settle u = some u') : xMt sc mX1_settle d 0 0 [.ref 79] (xL0, u) none (xL0, u') :=
  xMt.of (by decide +kernel) (Nat.le_of_ble_eq_true rfl) (L := [some (.ref 79)]) rfl ((G_X1_settle_0 hd u h))
set_option maxRecDepth 100000 in
set_option maxHeartbeats 4000000 in
theorem G_X11_mix_176 {sc : Nat × (Nat → Int32)} {d : Nat} (hd : 5 ≤ d) {r : Int32} {u' : xS} {k102 : Int32 → Int32 → Int32 → Int32 → Int32 → xS → Option (Int32 × xS)} (hk102 : ∀ (v1 : Int32) (v2 : Int32) (v3 : Int32) (v4 : Int32) (v7 : Int32) (u : xS), k102 v1 v2 v3 v4 v7 u = some (r, u') → xG sc mX11_mix d 0 0 (xR (some (.int r)) (xL0, u') 0 0) 0 0 102 [some (.ref 0), some (.int v1), some (.int v2), some (.int v3), some (.int v4), none, none, some (.int v7), none] [] (xL0, u)) (v1 : Int32) (v2 : Int32) (v3 : Int32) (v4 : Int32) (v7 : Int32) (u : xS) (h : f_X11_mix_176 k102 v1 v2 v3 v4 v7 u = some (r, u')) : xG sc mX11_mix d 0 0 (xR (some (.int r)) (xL0, u') 0 0) 0 0 176 [some (.ref 0), some (.int v1), some (.int v2), some (.int v3), some (.int v4), none, none, some (.int v7), none] [] (xL0, u) := by
  rw [f_X11_mix_176] at h
  refine g_inc (pc := 176) dX11_mix_176 (Nat.le_of_ble_eq_true rfl) rfl ic_1 (L' := [some (.ref 0), some (.int v1), some (.int v2), some (.int v3), some (.int v4), none, none, some (.int (v7 + (1 : Int32))), none]) rfl ?_
  refine g_goto (tgt := 102) (pc := 179) dX11_mix_179 (by decide) ?_
  exact hk102 v1 v2 v3 v4 (v7 + (1 : Int32)) u h
set_option maxRecDepth 100000 in
set_option maxHeartbeats 4000000 in
theorem G_X11_mix_152 {sc : Nat × (Nat → Int32)} {d : Nat} (hd : 5 ≤ d) {r : Int32} {u' : xS} {k102 : Int32 → Int32 → Int32 → Int32 → Int32 → xS → Option (Int32 × xS)} (hk102 : ∀ (v1 : Int32) (v2 : Int32) (v3 : Int32) (v4 : Int32) (v7 : Int32) (u : xS), k102 v1 v2 v3 v4 v7 u = some (r, u') → xG sc mX11_mix d 0 0 (xR (some (.int r)) (xL0, u') 0 0) 0 0 102 [some (.ref 0), some (.int v1), some (.int v2), some (.int v3), some (.int v4), none, none, some (.int v7), none] [] (xL0, u)) (v1 : Int32) (v2 : Int32) (v3 : Int32) (v4 : Int32) (v7 : Int32) (s0 : Int32) (u : xS) (h : f_X11_mix_152 k102 v1 v2 v3 v4 v7 s0 u = some (r, u')) : xG sc mX11_mix d 0 0 (xR (some (.int r)) (xL0, u') 0 0) 0 0 152 [some (.ref 0), some (.int v1), some (.int v2), some (.int v3), some (.int v4), none, none, some (.int v7), none] [.int s0] (xL0, u) := by
  rw [f_X11_mix_152] at h
  refine g_istore (pc := 152) dX11_mix_152 (Nat.le_of_ble_eq_true rfl) (L' := [some (.ref 0), some (.int v1), some (.int v2), some (.int v3), some (.int v4), none, none, some (.int v7), some (.int s0)]) rfl ?_
  refine g_aload_n (pc := 154) dX11_mix_154 rfl ?_
  refine g_gR (pc := 155) dX11_mix_155 fR_RX11_61 xc_0 (v := 79) rfl ?_
  refine g_iload (pc := 158) dX11_mix_158 rfl ?_
  refine g_aload_n (pc := 160) dX11_mix_160 rfl ?_
  refine g_gR (pc := 161) dX11_mix_161 fR_RX11_12 xc_0 (v := 1) rfl ?_
  refine g_iload (pc := 164) dX11_mix_164 rfl ?_
  refine g_iload (pc := 166) dX11_mix_166 rfl ?_
  obtain ⟨x2, e1, h⟩ := x_bind h
  refine g_cV (pc := 168) dX11_mix_168 cV_RX11_119 (M_X8_priceIn (Nat.le_refl _) e1) xc_1 (as := [.int v7, .int v4]) (st := [.int v7, .ref 79]) rfl rfl (Nat.le_of_ble_eq_true rfl) (Nat.le_trans (Nat.le_of_ble_eq_true rfl) hd) rfl ?_
  refine g_iload (pc := 171) dX11_mix_171 rfl ?_
  obtain ⟨u4, e3, h⟩ := x_bind h
  refine g_cV (pc := 173) dX11_mix_173 cV_RX11_323 (M_X1_choose (Nat.le_refl _) e3) xc_79 (as := [.int v7, .int x2, .int s0]) (st := []) rfl rfl (Nat.le_of_ble_eq_true rfl) (Nat.le_trans (Nat.le_of_ble_eq_true rfl) hd) rfl ?_
  refine g_L (L' := [some (.ref 0), some (.int v1), some (.int v2), some (.int v3), some (.int v4), none, none, some (.int v7), none]) ⟨rfl, ⟨rfl, ⟨rfl, ⟨rfl, ⟨rfl, ⟨rfl, trivial⟩⟩⟩⟩⟩⟩ ?_
  exact G_X11_mix_176 hd hk102 v1 v2 v3 v4 v7 u4 h
set_option maxRecDepth 100000 in
set_option maxHeartbeats 4000000 in
theorem G_X11_mix_102 {sc : Nat × (Nat → Int32)} {d : Nat} (hd : 5 ≤ d) {r : Int32} {u' : xS} : ∀ (n : Nat) (v1 : Int32) (v2 : Int32) (v3 : Int32) (v4 : Int32) (v7 : Int32) (u : xS), f_X11_mix_102 n v1 v2 v3 v4 v7 u = some (r, u') → xG sc mX11_mix d 0 0 (xR (some (.int r)) (xL0, u') 0 0) 0 0 102 [some (.ref 0), some (.int v1), some (.int v2), some (.int v3), some (.int v4), none, none, some (.int v7), none] [] (xL0, u) := by
  intro n
  induction n with
  | zero =>
    intro v1 v2 v3 v4 v7 u h
    rw [f_X11_mix_102] at h
    cases h
  | succ n ih =>
    intro v1 v2 v3 v4 v7 u h
    rw [f_X11_mix_102] at h
    refine g_iload (pc := 102) dX11_mix_102 rfl ?_
    refine g_aload_n (pc := 104) dX11_mix_104 rfl ?_
    refine g_gR (pc := 105) dX11_mix_105 fR_RX11_12 xc_0 (v := 1) rfl ?_
    refine g_gI (pc := 108) dX11_mix_108 fI_RX11_102 xc_1 (v := (rd u 1 2)) rfl ?_
    refine g_icmp_ge (tgt := 182) (pc := 111) dX11_mix_111 (by decide) (fun c1 => ?_) (fun c1 => ?_)
    · replace h := (if_pos c1).symm.trans h
      refine g_aload_n (pc := 182) dX11_mix_182 rfl ?_
      refine g_iload_n (pc := 183) dX11_mix_183 rfl ?_
      obtain ⟨⟨x3, u4⟩, e2, h⟩ := x_bind h
      dsimp only at h
      refine g_cV (pc := 184) dX11_mix_184 cV_RX11_326 (M_X11_cheapest (Nat.le_refl _) e2) xc_0 (as := [.int v1]) (st := []) rfl rfl (Nat.le_of_ble_eq_true rfl) (Nat.le_trans (Nat.le_of_ble_eq_true rfl) hd) rfl ?_
      refine g_istore (pc := 187) dX11_mix_187 (Nat.le_of_ble_eq_true rfl) (L' := [some (.ref 0), some (.int v1), some (.int v2), some (.int v3), some (.int v4), none, none, some (.int x3), none]) rfl ?_
      refine g_iload (pc := 189) dX11_mix_189 rfl ?_
      refine g_if_lt (tgt := 201) (pc := 191) dX11_mix_191 (by decide) (fun c5 => ?_) (fun c5 => ?_)
      · replace h := (if_pos c5).symm.trans h
        refine g_iload (pc := 201) dX11_mix_201 rfl ?_
        cases h
        exact g_iret (pc := 203) dX11_mix_203 rfl rfl rfl (Nat.le_refl _) (Nat.le_refl _)
      · replace h := (if_neg c5).symm.trans h
        refine g_aload_n (pc := 194) dX11_mix_194 rfl ?_
        refine g_gR (pc := 195) dX11_mix_195 fR_RX11_61 xc_0 (v := 79) rfl ?_
        obtain ⟨u7, e6, h⟩ := x_bind h
        refine g_cV (pc := 198) dX11_mix_198 cV_RX11_329 (M_X1_settle (Nat.le_refl _) e6) xc_79 (as := []) (st := []) rfl rfl (Nat.le_of_ble_eq_true rfl) (Nat.le_trans (Nat.le_of_ble_eq_true rfl) hd) rfl ?_
        refine g_iload (pc := 201) dX11_mix_201 rfl ?_
        cases h
        exact g_iret (pc := 203) dX11_mix_203 rfl rfl rfl (Nat.le_refl _) (Nat.le_refl _)
    · replace h := (if_neg c1).symm.trans h
      refine g_iload_n (pc := 114) dX11_mix_114 rfl ?_
      refine g_iload (pc := 115) dX11_mix_115 rfl ?_
      refine g_ishr (pc := 117) dX11_mix_117 rfl ?_
      refine g_iconst (pc := 118) dX11_mix_118 ic_1 ?_
      refine g_iand (pc := 119) dX11_mix_119 rfl ?_
      refine g_iconst (pc := 120) dX11_mix_120 ic_1 ?_
      refine g_icmp_ne (tgt := 176) (pc := 121) dX11_mix_121 (by decide) (fun c9 => ?_) (fun c9 => ?_)
      · replace h := (if_neg c9).symm.trans h
        exact G_X11_mix_176 hd ih v1 v2 v3 v4 v7 u h
      · replace h := (if_pos c9).symm.trans h
        refine g_iload_n (pc := 124) dX11_mix_124 rfl ?_
        refine g_if_ne (tgt := 133) (pc := 125) dX11_mix_125 (by decide) (fun c10 => ?_) (fun c10 => ?_)
        · replace h := (if_neg c10).symm.trans h
          refine g_bipush (pc := 133) dX11_mix_133 bp_12 ?_
          refine g_aload_n (pc := 135) dX11_mix_135 rfl ?_
          refine g_gR (pc := 136) dX11_mix_136 fR_RX11_54 xc_0 (v := 74) rfl ?_
          refine g_iload (pc := 139) dX11_mix_139 rfl ?_
          obtain ⟨x12, e11, h⟩ := x_bind h
          refine g_cV (pc := 141) dX11_mix_141 cV_RX11_263 (M_X6_ofSort (Nat.le_refl _) e11) xc_74 (as := [.int v7]) (st := [.int (12 : Int32)]) rfl rfl (Nat.le_of_ble_eq_true rfl) (Nat.le_trans (Nat.le_of_ble_eq_true rfl) hd) rfl ?_
          refine g_iload_n (pc := 144) dX11_mix_144 rfl ?_
          refine g_bipush (pc := 145) dX11_mix_145 bp_12 ?_
          refine g_idiv (pc := 147) dX11_mix_147 (by decide) rfl ?_
          obtain ⟨g13, h⟩ := x_gd h
          refine g_idiv (pc := 148) dX11_mix_148 (xnz_of g13) rfl ?_
          refine g_min (pc := 149) dX11_mix_149 mK_RX11_227 (Nat.le_of_ble_eq_true rfl) (Nat.le_trans (Nat.le_of_ble_eq_true rfl) hd) (Nat.le_refl _) (Nat.le_refl _) ?_
          exact G_X11_mix_152 hd ih v1 v2 v3 v4 v7 (imin (12 : Int32) (x12 / (v3 / (12 : Int32)))) u h
        · replace h := (if_pos c10).symm.trans h
          refine g_bipush (pc := 128) dX11_mix_128 bp_12 ?_
          refine g_goto (tgt := 152) (pc := 130) dX11_mix_130 (by decide) ?_
          exact G_X11_mix_152 hd ih v1 v2 v3 v4 v7 (12 : Int32) u h
set_option maxRecDepth 100000 in
set_option maxHeartbeats 4000000 in
theorem G_X11_mix_58 {sc : Nat × (Nat → Int32)} {d : Nat} (hd : 5 ≤ d) {r : Int32} {u' : xS} (v1 : Int32) (v2 : Int32) (v3 : Int32) (v4 : Int32) (v5 : Int32) (s0 : Int32) (u : xS) (h : f_X11_mix_58 v1 v2 v3 v4 v5 s0 u = some (r, u')) : xG sc mX11_mix d 0 0 (xR (some (.int r)) (xL0, u') 0 0) 0 0 58 [some (.ref 0), some (.int v1), some (.int v2), some (.int v3), some (.int v4), some (.int v5), none, none, none] [.int s0] (xL0, u) := by
  rw [f_X11_mix_58] at h
  refine g_istore (pc := 58) dX11_mix_58 (Nat.le_of_ble_eq_true rfl) (L' := [some (.ref 0), some (.int v1), some (.int v2), some (.int v3), some (.int v4), some (.int v5), some (.int s0), none, none]) rfl ?_
  refine g_aload_n (pc := 60) dX11_mix_60 rfl ?_
  refine g_gR (pc := 61) dX11_mix_61 fR_RX11_47 xc_0 (v := 58) rfl ?_
  refine g_iload_n (pc := 64) dX11_mix_64 rfl ?_
  refine g_cV (pc := 65) dX11_mix_65 cV_RX11_293 (M_X10_hasRecipe (Nat.le_refl _) rfl) xc_58 (as := [.int v1]) (st := []) rfl rfl (Nat.le_of_ble_eq_true rfl) (Nat.le_trans (Nat.le_of_ble_eq_true rfl) hd) rfl ?_
  refine g_if_eq (tgt := 89) (pc := 68) dX11_mix_68 (by decide) (fun c1 => ?_) (fun c1 => ?_)
  · replace h := (if_pos c1).symm.trans h
    refine g_iconst (pc := 89) dX11_mix_89 ic_m1 ?_
    cases h
    exact g_iret (pc := 90) dX11_mix_90 rfl rfl rfl (Nat.le_refl _) (Nat.le_refl _)
  · replace h := (if_neg c1).symm.trans h
    refine g_iload (pc := 71) dX11_mix_71 rfl ?_
    refine g_if_eq (tgt := 89) (pc := 73) dX11_mix_73 (by decide) (fun c2 => ?_) (fun c2 => ?_)
    · replace h := (if_pos c2).symm.trans h
      refine g_iconst (pc := 89) dX11_mix_89 ic_m1 ?_
      cases h
      exact g_iret (pc := 90) dX11_mix_90 rfl rfl rfl (Nat.le_refl _) (Nat.le_refl _)
    · replace h := (if_neg c2).symm.trans h
      refine g_iload (pc := 76) dX11_mix_76 rfl ?_
      refine g_if_eq (tgt := 89) (pc := 78) dX11_mix_78 (by decide) (fun c3 => ?_) (fun c3 => ?_)
      · replace h := (if_pos c3).symm.trans h
        refine g_iconst (pc := 89) dX11_mix_89 ic_m1 ?_
        cases h
        exact g_iret (pc := 90) dX11_mix_90 rfl rfl rfl (Nat.le_refl _) (Nat.le_refl _)
      · replace h := (if_neg c3).symm.trans h
        refine g_iload (pc := 81) dX11_mix_81 rfl ?_
        refine g_cS (pc := 83) dX11_mix_83 cS_RX11_109 (M_X11_isDay (Nat.le_refl _) rfl) (as := [.int v4]) (st := []) rfl rfl (Nat.le_of_ble_eq_true rfl) (Nat.le_trans (Nat.le_of_ble_eq_true rfl) hd) rfl ?_
        refine g_if_ne (tgt := 91) (pc := 86) dX11_mix_86 (by decide) (fun c4 => ?_) (fun c4 => ?_)
        · replace h := (if_neg c4).symm.trans h
          refine g_aload_n (pc := 91) dX11_mix_91 rfl ?_
          refine g_gR (pc := 92) dX11_mix_92 fR_RX11_61 xc_0 (v := 79) rfl ?_
          refine g_iconst (pc := 95) dX11_mix_95 ic_0 ?_
          refine g_pI (pc := 96) dX11_mix_96 pI_RX11_320 xc_79 (u' := (wr u 79 5 (0 : Int32))) rfl ?_
          refine g_iconst (pc := 99) dX11_mix_99 ic_0 ?_
          refine g_istore (pc := 100) dX11_mix_100 (Nat.le_of_ble_eq_true rfl) (L' := [some (.ref 0), some (.int v1), some (.int v2), some (.int v3), some (.int v4), some (.int v5), some (.int s0), some (.int (0 : Int32)), none]) rfl ?_
          refine g_L (L' := [some (.ref 0), some (.int v1), some (.int v2), some (.int v3), some (.int v4), none, none, some (.int (0 : Int32)), none]) ⟨rfl, ⟨rfl, ⟨rfl, ⟨rfl, ⟨rfl, ⟨rfl, trivial⟩⟩⟩⟩⟩⟩ ?_
          exact G_X11_mix_102 hd xN v1 v2 v3 v4 (0 : Int32) (wr u 79 5 (0 : Int32)) h
        · replace h := (if_pos c4).symm.trans h
          refine g_iconst (pc := 89) dX11_mix_89 ic_m1 ?_
          cases h
          exact g_iret (pc := 90) dX11_mix_90 rfl rfl rfl (Nat.le_refl _) (Nat.le_refl _)
set_option maxRecDepth 100000 in
set_option maxHeartbeats 4000000 in
theorem G_X11_mix_57 {sc : Nat × (Nat → Int32)} {d : Nat} (hd : 5 ≤ d) {r : Int32} {u' : xS} (v1 : Int32) (v2 : Int32) (v3 : Int32) (v4 : Int32) (v5 : Int32) (u : xS) (h : f_X11_mix_57 v1 v2 v3 v4 v5 u = some (r, u')) : xG sc mX11_mix d 0 0 (xR (some (.int r)) (xL0, u') 0 0) 0 0 57 [some (.ref 0), some (.int v1), some (.int v2), some (.int v3), some (.int v4), some (.int v5), none, none, none] [] (xL0, u) := by
  rw [f_X11_mix_57] at h
  refine g_iconst (pc := 57) dX11_mix_57 ic_0 ?_
  exact G_X11_mix_58 hd v1 v2 v3 v4 v5 (0 : Int32) u h
set_option maxRecDepth 100000 in
set_option maxHeartbeats 4000000 in
theorem G_X11_mix_33 {sc : Nat × (Nat → Int32)} {d : Nat} (hd : 5 ≤ d) {r : Int32} {u' : xS} (v1 : Int32) (v2 : Int32) (v3 : Int32) (v4 : Int32) (s0 : Int32) (u : xS) (h : f_X11_mix_33 v1 v2 v3 v4 s0 u = some (r, u')) : xG sc mX11_mix d 0 0 (xR (some (.int r)) (xL0, u') 0 0) 0 0 33 [some (.ref 0), some (.int v1), some (.int v2), some (.int v3), some (.int v4), none, none, none, none] [.int s0] (xL0, u) := by
  rw [f_X11_mix_33] at h
  refine g_istore (pc := 33) dX11_mix_33 (Nat.le_of_ble_eq_true rfl) (L' := [some (.ref 0), some (.int v1), some (.int v2), some (.int v3), some (.int v4), some (.int s0), none, none, none]) rfl ?_
  refine g_iload_n (pc := 35) dX11_mix_35 rfl ?_
  refine g_iconst (pc := 36) dX11_mix_36 ic_0 ?_
  refine g_sipush (pc := 37) dX11_mix_37 sp_9996 ?_
  refine g_cS (pc := 40) dX11_mix_40 cS_RX11_94 (M_X11_lies (Nat.le_refl _) rfl) (as := [.int v3, .int (0 : Int32), .int (9996 : Int32)]) (st := []) rfl rfl (Nat.le_of_ble_eq_true rfl) (Nat.le_trans (Nat.le_of_ble_eq_true rfl) hd) rfl ?_
  refine g_if_eq (tgt := 57) (pc := 43) dX11_mix_43 (by decide) (fun c1 => ?_) (fun c1 => ?_)
  · replace h := (if_pos c1).symm.trans h
    exact G_X11_mix_57 hd v1 v2 v3 v4 s0 u h
  · replace h := (if_neg c1).symm.trans h
    refine g_iload_n (pc := 46) dX11_mix_46 rfl ?_
    refine g_bipush (pc := 47) dX11_mix_47 bp_12 ?_
    refine g_irem (pc := 49) dX11_mix_49 (by decide) rfl ?_
    refine g_if_ne (tgt := 57) (pc := 50) dX11_mix_50 (by decide) (fun c2 => ?_) (fun c2 => ?_)
    · replace h := (if_neg c2).symm.trans h
      exact G_X11_mix_57 hd v1 v2 v3 v4 s0 u h
    · replace h := (if_pos c2).symm.trans h
      refine g_iconst (pc := 53) dX11_mix_53 ic_1 ?_
      refine g_goto (tgt := 58) (pc := 54) dX11_mix_54 (by decide) ?_
      exact G_X11_mix_58 hd v1 v2 v3 v4 s0 (1 : Int32) u h
set_option maxRecDepth 100000 in
set_option maxHeartbeats 4000000 in
theorem G_X11_mix_32 {sc : Nat × (Nat → Int32)} {d : Nat} (hd : 5 ≤ d) {r : Int32} {u' : xS} (v1 : Int32) (v2 : Int32) (v3 : Int32) (v4 : Int32) (u : xS) (h : f_X11_mix_32 v1 v2 v3 v4 u = some (r, u')) : xG sc mX11_mix d 0 0 (xR (some (.int r)) (xL0, u') 0 0) 0 0 32 [some (.ref 0), some (.int v1), some (.int v2), some (.int v3), some (.int v4), none, none, none, none] [] (xL0, u) := by
  rw [f_X11_mix_32] at h
  refine g_iconst (pc := 32) dX11_mix_32 ic_0 ?_
  exact G_X11_mix_33 hd v1 v2 v3 v4 (0 : Int32) u h
set_option maxRecDepth 100000 in
set_option maxHeartbeats 4000000 in
theorem G_X11_mix_0 {sc : Nat × (Nat → Int32)} {d : Nat} (hd : 5 ≤ d) {r : Int32} {u' : xS} (v1 : Int32) (v2 : Int32) (v3 : Int32) (v4 : Int32) (u : xS) (h : f_X11_mix v1 v2 v3 v4 u = some (r, u')) : xG sc mX11_mix d 0 0 (xR (some (.int r)) (xL0, u') 0 0) 0 0 0 [some (.ref 0), some (.int v1), some (.int v2), some (.int v3), some (.int v4), none, none, none, none] [] (xL0, u) := by
  rw [f_X11_mix] at h
  refine g_iload_n (pc := 0) dX11_mix_0 rfl ?_
  refine g_iconst (pc := 1) dX11_mix_1 ic_1 ?_
  refine g_iconst (pc := 2) dX11_mix_2 ic_1 ?_
  refine g_aload_n (pc := 3) dX11_mix_3 rfl ?_
  refine g_gR (pc := 4) dX11_mix_4 fR_RX11_12 xc_0 (v := 1) rfl ?_
  refine g_gI (pc := 7) dX11_mix_7 fI_RX11_102 xc_1 (v := (rd u 1 2)) rfl ?_
  refine g_ishl (pc := 10) dX11_mix_10 rfl ?_
  refine g_iconst (pc := 11) dX11_mix_11 ic_1 ?_
  refine g_isub (pc := 12) dX11_mix_12 rfl ?_
  refine g_cS (pc := 13) dX11_mix_13 cS_RX11_94 (M_X11_lies (Nat.le_refl _) rfl) (as := [.int v2, .int (1 : Int32), .int (((1 : Int32) <<< ((rd u 1 2) &&& 31)) - (1 : Int32))]) (st := []) rfl rfl (Nat.le_of_ble_eq_true rfl) (Nat.le_trans (Nat.le_of_ble_eq_true rfl) hd) rfl ?_
  refine g_if_eq (tgt := 32) (pc := 16) dX11_mix_16 (by decide) (fun c1 => ?_) (fun c1 => ?_)
  · replace h := (if_pos c1).symm.trans h
    exact G_X11_mix_32 hd v1 v2 v3 v4 u h
  · replace h := (if_neg c1).symm.trans h
    refine g_iload_n (pc := 19) dX11_mix_19 rfl ?_
    refine g_cS (pc := 20) dX11_mix_20 cS_RX11_315 (M_J6_bitCount_0f7a4 (Nat.le_refl _) rfl) (as := [.int v2]) (st := []) rfl rfl (Nat.le_of_ble_eq_true rfl) (Nat.le_trans (Nat.le_of_ble_eq_true rfl) hd) rfl ?_
    refine g_bipush (pc := 23) dX11_mix_23 bp_6 ?_
    refine g_icmp_gt (tgt := 32) (pc := 25) dX11_mix_25 (by decide) (fun c2 => ?_) (fun c2 => ?_)
    · replace h := (if_pos c2).symm.trans h
      exact G_X11_mix_32 hd v1 v2 v3 v4 u h
    · replace h := (if_neg c2).symm.trans h
      refine g_iconst (pc := 28) dX11_mix_28 ic_1 ?_
      refine g_goto (tgt := 33) (pc := 29) dX11_mix_29 (by decide) ?_
      exact G_X11_mix_33 hd v1 v2 v3 v4 (1 : Int32) u h
set_option maxRecDepth 100000 in
set_option maxHeartbeats 4000000 in
theorem M_X11_mix {sc : Nat × (Nat → Int32)} {d : Nat} (hd : 5 ≤ d) {r : Int32} {u u' : xS} {a1 : Int32} {a2 : Int32} {a3 : Int32} {a4 : Int32} (h : f_X11_mix a1 a2 a3 a4 u = some (r, u')) : xMt sc mX11_mix d 0 0 [.ref 0, .int a1, .int a2, .int a3, .int a4] (xL0, u) (some (.int r)) (xL0, u') :=
  xMt.of (by decide +kernel) (Nat.le_of_ble_eq_true rfl) (L := [some (.ref 0), some (.int a1), some (.int a2), some (.int a3), some (.int a4), none, none, none, none]) rfl ((G_X11_mix_0 hd a1 a2 a3 a4 u h))
set_option maxRecDepth 100000 in
set_option maxHeartbeats 4000000 in
theorem G_X6_eat_49 {sc : Nat × (Nat → Int32)} {d : Nat} (hd : 1 ≤ d) {r : Int32} {u' : xS} {k5 : Int32 → Nat → Int32 → Int32 → xS → Option (Int32 × xS)} (hk5 : ∀ (v1 : Int32) (v2 : Nat) (v3 : Int32) (v4 : Int32) (u : xS), k5 v1 v2 v3 v4 u = some (r, u') → xG sc mX6_eat d 0 0 (xR (some (.int r)) (xL0, u') 0 0) 0 0 5 [some (.ref 74), some (.int v1), some (.ref v2), some (.int v3), some (.int v4)] [] (xL0, u)) (v1 : Int32) (v2 : Nat) (v3 : Int32) (v4 : Int32) (u : xS) (h : f_X6_eat_49 k5 v1 v2 v3 v4 u = some (r, u')) : xG sc mX6_eat d 0 0 (xR (some (.int r)) (xL0, u') 0 0) 0 0 49 [some (.ref 74), some (.int v1), some (.ref v2), some (.int v3), some (.int v4)] [] (xL0, u) := by
  rw [f_X6_eat_49] at h
  refine g_inc (pc := 49) dX6_eat_49 (Nat.le_of_ble_eq_true rfl) rfl ic_1 (L' := [some (.ref 74), some (.int v1), some (.ref v2), some (.int v3), some (.int (v4 + (1 : Int32)))]) rfl ?_
  refine g_goto (tgt := 5) (pc := 52) dX6_eat_52 (by decide) ?_
  exact hk5 v1 v2 v3 (v4 + (1 : Int32)) u h
set_option maxRecDepth 100000 in
set_option maxHeartbeats 4000000 in
theorem G_X6_eat_5 {sc : Nat × (Nat → Int32)} {d : Nat} (hd : 1 ≤ d) {r : Int32} {u' : xS} : ∀ (n : Nat) (v1 : Int32) (v2 : Nat) (v3 : Int32) (v4 : Int32) (u : xS), f_X6_eat_5 n v1 v2 v3 v4 u = some (r, u') → xG sc mX6_eat d 0 0 (xR (some (.int r)) (xL0, u') 0 0) 0 0 5 [some (.ref 74), some (.int v1), some (.ref v2), some (.int v3), some (.int v4)] [] (xL0, u) := by
  intro n
  induction n with
  | zero =>
    intro v1 v2 v3 v4 u h
    rw [f_X6_eat_5] at h
    cases h
  | succ n ih =>
    intro v1 v2 v3 v4 u h
    rw [f_X6_eat_5] at h
    refine g_iload (pc := 5) dX6_eat_5 rfl ?_
    refine g_aload_n (pc := 7) dX6_eat_7 rfl ?_
    refine g_gI (pc := 8) dX6_eat_8 fI_RX6_24 xc_74 (v := (rd u 74 4)) rfl ?_
    refine g_icmp_ge (tgt := 55) (pc := 11) dX6_eat_11 (by decide) (fun c1 => ?_) (fun c1 => ?_)
    · replace h := (if_pos c1).symm.trans h
      refine g_iload_n (pc := 55) dX6_eat_55 rfl ?_
      cases h
      exact g_iret (pc := 56) dX6_eat_56 rfl rfl rfl (Nat.le_refl _) (Nat.le_refl _)
    · replace h := (if_neg c1).symm.trans h
      refine g_aload_n (pc := 14) dX6_eat_14 rfl ?_
      refine g_gR (pc := 15) dX6_eat_15 fR_RX6_15 xc_74 (v := 76) rfl ?_
      refine g_iload (pc := 18) dX6_eat_18 rfl ?_
      obtain ⟨g2, h⟩ := x_gd h
      refine g_iaload (pc := 20) dX6_eat_20 xc_76 (xin_of g2) (v := (rd u 76 v4.toNatClampNeg)) rfl ?_
      refine g_iload_n (pc := 21) dX6_eat_21 rfl ?_
      refine g_icmp_ne (tgt := 49) (pc := 22) dX6_eat_22 (by decide) (fun c3 => ?_) (fun c3 => ?_)
      · replace h := (if_neg c3).symm.trans h
        exact G_X6_eat_49 hd ih v1 v2 v3 v4 u h
      · replace h := (if_pos c3).symm.trans h
        refine g_iload_n (pc := 25) dX6_eat_25 rfl ?_
        refine g_aload_n (pc := 26) dX6_eat_26 rfl ?_
        refine g_gR (pc := 27) dX6_eat_27 fR_RX6_18 xc_74 (v := 77) rfl ?_
        refine g_iload (pc := 30) dX6_eat_30 rfl ?_
        refine g_iaload (pc := 32) dX6_eat_32 xc_77 (xin_of g2) (v := (rd u 77 v4.toNatClampNeg)) rfl ?_
        refine g_iadd (pc := 33) dX6_eat_33 rfl ?_
        refine g_istore_n (pc := 34) dX6_eat_34 (Nat.le_of_ble_eq_true rfl) (L' := [some (.ref 74), some (.int v1), some (.ref v2), some (.int (v3 + (rd u 77 v4.toNatClampNeg))), some (.int v4)]) rfl ?_
        refine g_aload_n (pc := 35) dX6_eat_35 rfl ?_
        refine g_iload (pc := 36) dX6_eat_36 rfl ?_
        refine g_aload_n (pc := 38) dX6_eat_38 rfl ?_
        refine g_gR (pc := 39) dX6_eat_39 fR_RX6_18 xc_74 (v := 77) rfl ?_
        refine g_iload (pc := 42) dX6_eat_42 rfl ?_
        refine g_iaload (pc := 44) dX6_eat_44 xc_77 (xin_of g2) (v := (rd u 77 v4.toNatClampNeg)) rfl ?_
        refine g_aload_n (pc := 45) dX6_eat_45 rfl ?_
        obtain ⟨u5, e4, h⟩ := x_bind h
        refine g_cV (pc := 46) dX6_eat_46 cV_RX6_34 (M_X6_lessen (Nat.le_refl _) e4) xc_74 (as := [.int v4, .int (rd u 77 v4.toNatClampNeg), .ref v2]) (st := []) rfl rfl (Nat.le_of_ble_eq_true rfl) (Nat.le_trans (Nat.le_of_ble_eq_true rfl) hd) rfl ?_
        exact G_X6_eat_49 hd ih v1 v2 (v3 + (rd u 77 v4.toNatClampNeg)) v4 u5 h
set_option maxRecDepth 100000 in
set_option maxHeartbeats 4000000 in
theorem G_X6_eat_0 {sc : Nat × (Nat → Int32)} {d : Nat} (hd : 1 ≤ d) {r : Int32} {u' : xS} (v1 : Int32) (v2 : Nat) (u : xS) (h : f_X6_eat v1 v2 u = some (r, u')) : xG sc mX6_eat d 0 0 (xR (some (.int r)) (xL0, u') 0 0) 0 0 0 [some (.ref 74), some (.int v1), some (.ref v2), none, none] [] (xL0, u) := by
  rw [f_X6_eat] at h
  refine g_iconst (pc := 0) dX6_eat_0 ic_0 ?_
  refine g_istore_n (pc := 1) dX6_eat_1 (Nat.le_of_ble_eq_true rfl) (L' := [some (.ref 74), some (.int v1), some (.ref v2), some (.int (0 : Int32)), none]) rfl ?_
  refine g_iconst (pc := 2) dX6_eat_2 ic_0 ?_
  refine g_istore (pc := 3) dX6_eat_3 (Nat.le_of_ble_eq_true rfl) (L' := [some (.ref 74), some (.int v1), some (.ref v2), some (.int (0 : Int32)), some (.int (0 : Int32))]) rfl ?_
  exact G_X6_eat_5 hd xN v1 v2 (0 : Int32) (0 : Int32) u h
set_option maxRecDepth 100000 in
set_option maxHeartbeats 4000000 in
theorem M_X6_eat {sc : Nat × (Nat → Int32)} {d : Nat} (hd : 1 ≤ d) {r : Int32} {u u' : xS} {a1 : Int32} {a2 : Nat} (h : f_X6_eat a1 a2 u = some (r, u')) : xMt sc mX6_eat d 0 0 [.ref 74, .int a1, .ref a2] (xL0, u) (some (.int r)) (xL0, u') :=
  xMt.of (by decide +kernel) (Nat.le_of_ble_eq_true rfl) (L := [some (.ref 74), some (.int a1), some (.ref a2), none, none]) rfl ((G_X6_eat_0 hd a1 a2 u h))
set_option maxRecDepth 100000 in
set_option maxHeartbeats 4000000 in
theorem G_X11_moth_0 {sc : Nat × (Nat → Int32)} {d : Nat} (hd : 2 ≤ d) {r : Int32} {u' : xS} (v1 : Int32) (u : xS) (h : f_X11_moth v1 u = some (r, u')) : xG sc mX11_moth d 0 0 (xR (some (.int r)) (xL0, u') 0 0) 0 0 0 [some (.ref 0), some (.int v1)] [] (xL0, u) := by
  rw [f_X11_moth] at h
  refine g_aload_n (pc := 0) dX11_moth_0 rfl ?_
  refine g_gR (pc := 1) dX11_moth_1 fR_RX11_19 xc_0 (v := 13) rfl ?_
  refine g_iload_n (pc := 4) dX11_moth_4 rfl ?_
  refine g_cV (pc := 5) dX11_moth_5 cV_RX11_137 (M_X0_has (Nat.le_refl _) rfl) xc_13 (as := [.int v1]) (st := []) rfl rfl (Nat.le_of_ble_eq_true rfl) (Nat.le_trans (Nat.le_of_ble_eq_true rfl) hd) rfl ?_
  refine g_if_eq (tgt := 29) (pc := 8) dX11_moth_8 (by decide) (fun c1 => ?_) (fun c1 => ?_)
  · replace h := (if_pos c1).symm.trans h
    refine g_iconst (pc := 29) dX11_moth_29 ic_m1 ?_
    cases h
    exact g_iret (pc := 30) dX11_moth_30 rfl rfl rfl (Nat.le_refl _) (Nat.le_refl _)
  · replace h := (if_neg c1).symm.trans h
    refine g_aload_n (pc := 11) dX11_moth_11 rfl ?_
    refine g_gR (pc := 12) dX11_moth_12 fR_RX11_54 xc_0 (v := 74) rfl ?_
    refine g_iload_n (pc := 15) dX11_moth_15 rfl ?_
    refine g_aload_n (pc := 16) dX11_moth_16 rfl ?_
    refine g_gR (pc := 17) dX11_moth_17 fR_RX11_19 xc_0 (v := 13) rfl ?_
    refine g_gR (pc := 20) dX11_moth_20 fR_RX11_176 xc_13 (v := 20) rfl ?_
    obtain ⟨⟨x3, u4⟩, e2, h⟩ := x_bind h
    dsimp only at h
    refine g_cV (pc := 23) dX11_moth_23 cV_RX11_270 (M_X6_eat (Nat.le_refl _) e2) xc_74 (as := [.int v1, .ref 20]) (st := []) rfl rfl (Nat.le_of_ble_eq_true rfl) (Nat.le_trans (Nat.le_of_ble_eq_true rfl) hd) rfl ?_
    refine g_goto (tgt := 30) (pc := 26) dX11_moth_26 (by decide) ?_
    cases h
    exact g_iret (pc := 30) dX11_moth_30 rfl rfl rfl (Nat.le_refl _) (Nat.le_refl _)
set_option maxRecDepth 100000 in
set_option maxHeartbeats 4000000 in
theorem M_X11_moth {sc : Nat × (Nat → Int32)} {d : Nat} (hd : 2 ≤ d) {r : Int32} {u u' : xS} {a1 : Int32} (h : f_X11_moth a1 u = some (r, u')) : xMt sc mX11_moth d 0 0 [.ref 0, .int a1] (xL0, u) (some (.int r)) (xL0, u') :=
  xMt.of (by decide +kernel) (Nat.le_of_ble_eq_true rfl) (L := [some (.ref 0), some (.int a1)]) rfl ((G_X11_moth_0 hd a1 u h))
set_option maxRecDepth 100000 in
set_option maxHeartbeats 4000000 in
theorem G_X6_ofBale_31 {sc : Nat × (Nat → Int32)} {d : Nat} (hd : 0 ≤ d) {r : Int32} {u : xS} {k4 : Int32 → Int32 → Int32 → Option Int32} (hk4 : ∀ (v1 : Int32) (v2 : Int32) (v3 : Int32), k4 v1 v2 v3 = some r → xG sc mX6_ofBale d 0 0 (xR (some (.int r)) (xL0, u) 0 0) 0 0 4 [some (.ref 74), some (.int v1), some (.int v2), some (.int v3)] [] (xL0, u)) (v1 : Int32) (v2 : Int32) (v3 : Int32) (h : f_X6_ofBale_31 k4 u v1 v2 v3 = some r) : xG sc mX6_ofBale d 0 0 (xR (some (.int r)) (xL0, u) 0 0) 0 0 31 [some (.ref 74), some (.int v1), some (.int v2), some (.int v3)] [] (xL0, u) := by
  rw [f_X6_ofBale_31] at h
  refine g_inc (pc := 31) dX6_ofBale_31 (Nat.le_of_ble_eq_true rfl) rfl ic_1 (L' := [some (.ref 74), some (.int v1), some (.int v2), some (.int (v3 + (1 : Int32)))]) rfl ?_
  refine g_goto (tgt := 4) (pc := 34) dX6_ofBale_34 (by decide) ?_
  exact hk4 v1 v2 (v3 + (1 : Int32)) h
set_option maxRecDepth 100000 in
set_option maxHeartbeats 4000000 in
theorem G_X6_ofBale_4 {sc : Nat × (Nat → Int32)} {d : Nat} (hd : 0 ≤ d) {r : Int32} {u : xS} : ∀ (n : Nat) (v1 : Int32) (v2 : Int32) (v3 : Int32), f_X6_ofBale_4 u n v1 v2 v3 = some r → xG sc mX6_ofBale d 0 0 (xR (some (.int r)) (xL0, u) 0 0) 0 0 4 [some (.ref 74), some (.int v1), some (.int v2), some (.int v3)] [] (xL0, u) := by
  intro n
  induction n with
  | zero =>
    intro v1 v2 v3 h
    rw [f_X6_ofBale_4] at h
    cases h
  | succ n ih =>
    intro v1 v2 v3 h
    rw [f_X6_ofBale_4] at h
    refine g_iload_n (pc := 4) dX6_ofBale_4 rfl ?_
    refine g_aload_n (pc := 5) dX6_ofBale_5 rfl ?_
    refine g_gI (pc := 6) dX6_ofBale_6 fI_RX6_24 xc_74 (v := (rd u 74 4)) rfl ?_
    refine g_icmp_ge (tgt := 37) (pc := 9) dX6_ofBale_9 (by decide) (fun c1 => ?_) (fun c1 => ?_)
    · replace h := (if_pos c1).symm.trans h
      refine g_iload_n (pc := 37) dX6_ofBale_37 rfl ?_
      cases h
      exact g_iret (pc := 38) dX6_ofBale_38 rfl rfl rfl (Nat.le_refl _) (Nat.le_refl _)
    · replace h := (if_neg c1).symm.trans h
      refine g_aload_n (pc := 12) dX6_ofBale_12 rfl ?_
      refine g_gR (pc := 13) dX6_ofBale_13 fR_RX6_15 xc_74 (v := 76) rfl ?_
      refine g_iload_n (pc := 16) dX6_ofBale_16 rfl ?_
      obtain ⟨g2, h⟩ := x_gd h
      refine g_iaload (pc := 17) dX6_ofBale_17 xc_76 (xin_of g2) (v := (rd u 76 v3.toNatClampNeg)) rfl ?_
      refine g_iload_n (pc := 18) dX6_ofBale_18 rfl ?_
      refine g_icmp_ne (tgt := 31) (pc := 19) dX6_ofBale_19 (by decide) (fun c3 => ?_) (fun c3 => ?_)
      · replace h := (if_neg c3).symm.trans h
        exact G_X6_ofBale_31 hd ih v1 v2 v3 h
      · replace h := (if_pos c3).symm.trans h
        refine g_iload_n (pc := 22) dX6_ofBale_22 rfl ?_
        refine g_aload_n (pc := 23) dX6_ofBale_23 rfl ?_
        refine g_gR (pc := 24) dX6_ofBale_24 fR_RX6_18 xc_74 (v := 77) rfl ?_
        refine g_iload_n (pc := 27) dX6_ofBale_27 rfl ?_
        refine g_iaload (pc := 28) dX6_ofBale_28 xc_77 (xin_of g2) (v := (rd u 77 v3.toNatClampNeg)) rfl ?_
        refine g_iadd (pc := 29) dX6_ofBale_29 rfl ?_
        refine g_istore_n (pc := 30) dX6_ofBale_30 (Nat.le_of_ble_eq_true rfl) (L' := [some (.ref 74), some (.int v1), some (.int (v2 + (rd u 77 v3.toNatClampNeg))), some (.int v3)]) rfl ?_
        exact G_X6_ofBale_31 hd ih v1 (v2 + (rd u 77 v3.toNatClampNeg)) v3 h
set_option maxRecDepth 100000 in
set_option maxHeartbeats 4000000 in
theorem G_X6_ofBale_0 {sc : Nat × (Nat → Int32)} {d : Nat} (hd : 0 ≤ d) {r : Int32} {u : xS} (v1 : Int32) (h : f_X6_ofBale u v1 = some r) : xG sc mX6_ofBale d 0 0 (xR (some (.int r)) (xL0, u) 0 0) 0 0 0 [some (.ref 74), some (.int v1), none, none] [] (xL0, u) := by
  rw [f_X6_ofBale] at h
  refine g_iconst (pc := 0) dX6_ofBale_0 ic_0 ?_
  refine g_istore_n (pc := 1) dX6_ofBale_1 (Nat.le_of_ble_eq_true rfl) (L' := [some (.ref 74), some (.int v1), some (.int (0 : Int32)), none]) rfl ?_
  refine g_iconst (pc := 2) dX6_ofBale_2 ic_0 ?_
  refine g_istore_n (pc := 3) dX6_ofBale_3 (Nat.le_of_ble_eq_true rfl) (L' := [some (.ref 74), some (.int v1), some (.int (0 : Int32)), some (.int (0 : Int32))]) rfl ?_
  exact G_X6_ofBale_4 hd xN v1 (0 : Int32) (0 : Int32) h
set_option maxRecDepth 100000 in
set_option maxHeartbeats 4000000 in
theorem M_X6_ofBale {sc : Nat × (Nat → Int32)} {d : Nat} (hd : 0 ≤ d) {r : Int32} {u : xS} {a1 : Int32} (h : f_X6_ofBale u a1 = some r) : xMt sc mX6_ofBale d 0 0 [.ref 74, .int a1] (xL0, u) (some (.int r)) (xL0, u) :=
  xMt.of (by decide +kernel) (Nat.le_of_ble_eq_true rfl) (L := [some (.ref 74), some (.int a1), none, none]) rfl ((G_X6_ofBale_0 hd a1 h))
set_option maxRecDepth 100000 in
set_option maxHeartbeats 4000000 in
theorem G_X2_ofBale_4 {sc : Nat × (Nat → Int32)} {d : Nat} (hd : 0 ≤ d) {r : Int32} {u : xS} : ∀ (n : Nat) (v1 : Int32) (v2 : Int32) (v3 : Int32), f_X2_ofBale_4 u n v1 v2 v3 = some r → xG sc mX2_ofBale d 0 0 (xR (some (.int r)) (xL0, u) 0 0) 0 0 4 [some (.ref 87), some (.int v1), some (.int v2), some (.int v3)] [] (xL0, u) := by
  intro n
  induction n with
  | zero =>
    intro v1 v2 v3 h
    rw [f_X2_ofBale_4] at h
    cases h
  | succ n ih =>
    intro v1 v2 v3 h
    rw [f_X2_ofBale_4] at h
    refine g_iload_n (pc := 4) dX2_ofBale_4 rfl ?_
    refine g_aload_n (pc := 5) dX2_ofBale_5 rfl ?_
    refine g_gI (pc := 6) dX2_ofBale_6 fI_RX2_20 xc_87 (v := (rd u 87 2)) rfl ?_
    refine g_icmp_ge (tgt := 29) (pc := 9) dX2_ofBale_9 (by decide) (fun c1 => ?_) (fun c1 => ?_)
    · replace h := (if_pos c1).symm.trans h
      refine g_iload_n (pc := 29) dX2_ofBale_29 rfl ?_
      cases h
      exact g_iret (pc := 30) dX2_ofBale_30 rfl rfl rfl (Nat.le_refl _) (Nat.le_refl _)
    · replace h := (if_neg c1).symm.trans h
      refine g_iload_n (pc := 12) dX2_ofBale_12 rfl ?_
      refine g_aload_n (pc := 13) dX2_ofBale_13 rfl ?_
      refine g_gR (pc := 14) dX2_ofBale_14 fR_RX2_11 xc_87 (v := 88) rfl ?_
      refine g_iload_n (pc := 17) dX2_ofBale_17 rfl ?_
      obtain ⟨g2, h⟩ := x_gd h
      refine g_aaload (pc := 18) dX2_ofBale_18 xc_88 (xin_of g2) (v := (89 + v3.toNatClampNeg)) (xrf_88 _ (xin_lt g2)) ?_
      refine g_iload_n (pc := 19) dX2_ofBale_19 rfl ?_
      obtain ⟨g3, h⟩ := x_gd h
      refine g_iaload (pc := 20) dX2_ofBale_20 (xrow_88 _ (xin_lt g2)) (xin_of g3) (v := (rd u (89 + v3.toNatClampNeg) v1.toNatClampNeg)) rfl ?_
      refine g_iadd (pc := 21) dX2_ofBale_21 rfl ?_
      refine g_istore_n (pc := 22) dX2_ofBale_22 (Nat.le_of_ble_eq_true rfl) (L' := [some (.ref 87), some (.int v1), some (.int (v2 + (rd u (89 + v3.toNatClampNeg) v1.toNatClampNeg))), some (.int v3)]) rfl ?_
      refine g_inc (pc := 23) dX2_ofBale_23 (Nat.le_of_ble_eq_true rfl) rfl ic_1 (L' := [some (.ref 87), some (.int v1), some (.int (v2 + (rd u (89 + v3.toNatClampNeg) v1.toNatClampNeg))), some (.int (v3 + (1 : Int32)))]) rfl ?_
      refine g_goto (tgt := 4) (pc := 26) dX2_ofBale_26 (by decide) ?_
      exact ih v1 (v2 + (rd u (89 + v3.toNatClampNeg) v1.toNatClampNeg)) (v3 + (1 : Int32)) h
set_option maxRecDepth 100000 in
set_option maxHeartbeats 4000000 in
theorem G_X2_ofBale_0 {sc : Nat × (Nat → Int32)} {d : Nat} (hd : 0 ≤ d) {r : Int32} {u : xS} (v1 : Int32) (h : f_X2_ofBale u v1 = some r) : xG sc mX2_ofBale d 0 0 (xR (some (.int r)) (xL0, u) 0 0) 0 0 0 [some (.ref 87), some (.int v1), none, none] [] (xL0, u) := by
  rw [f_X2_ofBale] at h
  refine g_iconst (pc := 0) dX2_ofBale_0 ic_0 ?_
  refine g_istore_n (pc := 1) dX2_ofBale_1 (Nat.le_of_ble_eq_true rfl) (L' := [some (.ref 87), some (.int v1), some (.int (0 : Int32)), none]) rfl ?_
  refine g_iconst (pc := 2) dX2_ofBale_2 ic_0 ?_
  refine g_istore_n (pc := 3) dX2_ofBale_3 (Nat.le_of_ble_eq_true rfl) (L' := [some (.ref 87), some (.int v1), some (.int (0 : Int32)), some (.int (0 : Int32))]) rfl ?_
  exact G_X2_ofBale_4 hd xN v1 (0 : Int32) (0 : Int32) h
set_option maxRecDepth 100000 in
set_option maxHeartbeats 4000000 in
theorem M_X2_ofBale {sc : Nat × (Nat → Int32)} {d : Nat} (hd : 0 ≤ d) {r : Int32} {u : xS} {a1 : Int32} (h : f_X2_ofBale u a1 = some r) : xMt sc mX2_ofBale d 0 0 [.ref 87, .int a1] (xL0, u) (some (.int r)) (xL0, u) :=
  xMt.of (by decide +kernel) (Nat.le_of_ble_eq_true rfl) (L := [some (.ref 87), some (.int a1), none, none]) rfl ((G_X2_ofBale_0 hd a1 h))
set_option maxRecDepth 100000 in
set_option maxHeartbeats 4000000 in
theorem G_X11_of_0 {sc : Nat × (Nat → Int32)} {d : Nat} (hd : 1 ≤ d) {r : Int32} {u : xS} (v1 : Int32) (v2 : Int32) (h : f_X11_of u v1 v2 = some r) : xG sc mX11_of d 0 0 (xR (some (.int r)) (xL0, u) 0 0) 0 0 0 [some (.ref 0), some (.int v1), some (.int v2)] [] (xL0, u) := by
  rw [f_X11_of] at h
  refine g_aload_n (pc := 0) dX11_of_0 rfl ?_
  refine g_gR (pc := 1) dX11_of_1 fR_RX11_19 xc_0 (v := 13) rfl ?_
  refine g_iload_n (pc := 4) dX11_of_4 rfl ?_
  refine g_cV (pc := 5) dX11_of_5 cV_RX11_137 (M_X0_has (Nat.le_refl _) rfl) xc_13 (as := [.int v1]) (st := []) rfl rfl (Nat.le_of_ble_eq_true rfl) (Nat.le_trans (Nat.le_of_ble_eq_true rfl) hd) rfl ?_
  refine g_if_ne (tgt := 13) (pc := 8) dX11_of_8 (by decide) (fun c1 => ?_) (fun c1 => ?_)
  · replace h := (if_neg c1).symm.trans h
    refine g_iload_n (pc := 13) dX11_of_13 rfl ?_
    by_cases c2 : v2 = (0 : Int32)
    · replace h := (if_pos c2).symm.trans h
      refine g_tableIn (tgt := 52) (off := 38) (pc := 14) dX11_of_14 (by rw [c2]; decide) (by rw [c2]; decide) (by rw [c2]; rfl) (by decide) ?_
      refine g_aload_n (pc := 52) dX11_of_52 rfl ?_
      refine g_gR (pc := 53) dX11_of_53 fR_RX11_19 xc_0 (v := 13) rfl ?_
      refine g_gR (pc := 56) dX11_of_56 fR_RX11_144 xc_13 (v := 16) rfl ?_
      refine g_iload_n (pc := 59) dX11_of_59 rfl ?_
      obtain ⟨g3, h⟩ := x_gd h
      refine g_iaload (pc := 60) dX11_of_60 xc_16 (xin_of g3) (v := (rd u 16 v1.toNatClampNeg)) rfl ?_
      cases h
      exact g_iret (pc := 61) dX11_of_61 rfl rfl rfl (Nat.le_refl _) (Nat.le_refl _)
    replace h := (if_neg c2).symm.trans h
    by_cases c4 : v2 = (1 : Int32)
    · replace h := (if_pos c4).symm.trans h
      refine g_tableIn (tgt := 62) (off := 48) (pc := 14) dX11_of_14 (by rw [c4]; decide) (by rw [c4]; decide) (by rw [c4]; rfl) (by decide) ?_
      refine g_aload_n (pc := 62) dX11_of_62 rfl ?_
      refine g_gR (pc := 63) dX11_of_63 fR_RX11_19 xc_0 (v := 13) rfl ?_
      refine g_gR (pc := 66) dX11_of_66 fR_RX11_168 xc_13 (v := 19) rfl ?_
      refine g_iload_n (pc := 69) dX11_of_69 rfl ?_
      obtain ⟨g5, h⟩ := x_gd h
      refine g_iaload (pc := 70) dX11_of_70 xc_19 (xin_of g5) (v := (rd u 19 v1.toNatClampNeg)) rfl ?_
      cases h
      exact g_iret (pc := 71) dX11_of_71 rfl rfl rfl (Nat.le_refl _) (Nat.le_refl _)
    replace h := (if_neg c4).symm.trans h
    by_cases c6 : v2 = (2 : Int32)
    · replace h := (if_pos c6).symm.trans h
      refine g_tableIn (tgt := 72) (off := 58) (pc := 14) dX11_of_14 (by rw [c6]; decide) (by rw [c6]; decide) (by rw [c6]; rfl) (by decide) ?_
      refine g_aload_n (pc := 72) dX11_of_72 rfl ?_
      refine g_gR (pc := 73) dX11_of_73 fR_RX11_19 xc_0 (v := 13) rfl ?_
      refine g_gR (pc := 76) dX11_of_76 fR_RX11_151 xc_13 (v := 18) rfl ?_
      refine g_iload_n (pc := 79) dX11_of_79 rfl ?_
      obtain ⟨g7, h⟩ := x_gd h
      refine g_iaload (pc := 80) dX11_of_80 xc_18 (xin_of g7) (v := (rd u 18 v1.toNatClampNeg)) rfl ?_
      cases h
      exact g_iret (pc := 81) dX11_of_81 rfl rfl rfl (Nat.le_refl _) (Nat.le_refl _)
    replace h := (if_neg c6).symm.trans h
    by_cases c8 : v2 = (3 : Int32)
    · replace h := (if_pos c8).symm.trans h
      refine g_tableIn (tgt := 82) (off := 68) (pc := 14) dX11_of_14 (by rw [c8]; decide) (by rw [c8]; decide) (by rw [c8]; rfl) (by decide) ?_
      refine g_aload_n (pc := 82) dX11_of_82 rfl ?_
      refine g_gR (pc := 83) dX11_of_83 fR_RX11_54 xc_0 (v := 74) rfl ?_
      refine g_iload_n (pc := 86) dX11_of_86 rfl ?_
      obtain ⟨x10, e9, h⟩ := x_bind h
      refine g_cV (pc := 87) dX11_of_87 cV_RX11_171 (M_X6_ofBale (Nat.le_refl _) e9) xc_74 (as := [.int v1]) (st := []) rfl rfl (Nat.le_of_ble_eq_true rfl) (Nat.le_trans (Nat.le_of_ble_eq_true rfl) hd) rfl ?_
      cases h
      exact g_iret (pc := 90) dX11_of_90 rfl rfl rfl (Nat.le_refl _) (Nat.le_refl _)
    replace h := (if_neg c8).symm.trans h
    by_cases c11 : v2 = (4 : Int32)
    · replace h := (if_pos c11).symm.trans h
      refine g_tableIn (tgt := 91) (off := 77) (pc := 14) dX11_of_14 (by rw [c11]; decide) (by rw [c11]; decide) (by rw [c11]; rfl) (by decide) ?_
      refine g_aload_n (pc := 91) dX11_of_91 rfl ?_
      refine g_gR (pc := 92) dX11_of_92 fR_RX11_68 xc_0 (v := 87) rfl ?_
      refine g_iload_n (pc := 95) dX11_of_95 rfl ?_
      obtain ⟨x13, e12, h⟩ := x_bind h
      refine g_cV (pc := 96) dX11_of_96 cV_RX11_175 (M_X2_ofBale (Nat.le_refl _) e12) xc_87 (as := [.int v1]) (st := []) rfl rfl (Nat.le_of_ble_eq_true rfl) (Nat.le_trans (Nat.le_of_ble_eq_true rfl) hd) rfl ?_
      cases h
      exact g_iret (pc := 99) dX11_of_99 rfl rfl rfl (Nat.le_refl _) (Nat.le_refl _)
    replace h := (if_neg c11).symm.trans h
    by_cases c14 : v2 = (5 : Int32)
    · replace h := (if_pos c14).symm.trans h
      refine g_tableIn (tgt := 100) (off := 86) (pc := 14) dX11_of_14 (by rw [c14]; decide) (by rw [c14]; decide) (by rw [c14]; rfl) (by decide) ?_
      refine g_aload_n (pc := 100) dX11_of_100 rfl ?_
      refine g_gR (pc := 101) dX11_of_101 fR_RX11_19 xc_0 (v := 13) rfl ?_
      refine g_gR (pc := 104) dX11_of_104 fR_RX11_176 xc_13 (v := 20) rfl ?_
      refine g_iload_n (pc := 107) dX11_of_107 rfl ?_
      obtain ⟨g15, h⟩ := x_gd h
      refine g_iaload (pc := 108) dX11_of_108 xc_20 (xin_of g15) (v := (rd u 20 v1.toNatClampNeg)) rfl ?_
      cases h
      exact g_iret (pc := 109) dX11_of_109 rfl rfl rfl (Nat.le_refl _) (Nat.le_refl _)
    replace h := (if_neg c14).symm.trans h
    have c2i := i32_ne c2 (m := 0) (by decide)
    have c4i := i32_ne c4 (m := 1) (by decide)
    have c6i := i32_ne c6 (m := 2) (by decide)
    have c8i := i32_ne c8 (m := 3) (by decide)
    have c11i := i32_ne c11 (m := 4) (by decide)
    have c14i := i32_ne c14 (m := 5) (by decide)
    refine g_tableOut (tgt := 110) (pc := 14) dX11_of_14 (by omega) (by decide) ?_
    refine g_iconst (pc := 110) dX11_of_110 ic_m1 ?_
    cases h
    exact g_iret (pc := 111) dX11_of_111 rfl rfl rfl (Nat.le_refl _) (Nat.le_refl _)
  · replace h := (if_pos c1).symm.trans h
    refine g_iconst (pc := 11) dX11_of_11 ic_m1 ?_
    cases h
    exact g_iret (pc := 12) dX11_of_12 rfl rfl rfl (Nat.le_refl _) (Nat.le_refl _)
set_option maxRecDepth 100000 in
set_option maxHeartbeats 4000000 in
theorem M_X11_of {sc : Nat × (Nat → Int32)} {d : Nat} (hd : 1 ≤ d) {r : Int32} {u : xS} {a1 : Int32} {a2 : Int32} (h : f_X11_of u a1 a2 = some r) : xMt sc mX11_of d 0 0 [.ref 0, .int a1, .int a2] (xL0, u) (some (.int r)) (xL0, u) :=
  xMt.of (by decide +kernel) (Nat.le_of_ble_eq_true rfl) (L := [some (.ref 0), some (.int a1), some (.int a2)]) rfl ((G_X11_of_0 hd a1 a2 h))
set_option maxRecDepth 100000 in
set_option maxHeartbeats 4000000 in
theorem G_X11_off_0 {sc : Nat × (Nat → Int32)} {d : Nat} (hd : 4 ≤ d) {r : Int32} {u' : xS} (v1 : Int32) (v2 : Int32) (u : xS) (h : f_X11_off v1 v2 u = some (r, u')) : xG sc mX11_off d 0 0 (xR (some (.int r)) (xL0, u') 0 0) 0 0 0 [some (.ref 0), some (.int v1), some (.int v2)] [] (xL0, u) := by
  rw [f_X11_off] at h
  refine g_aload_n (pc := 0) dX11_off_0 rfl ?_
  refine g_gR (pc := 1) dX11_off_1 fR_RX11_19 xc_0 (v := 13) rfl ?_
  refine g_iload_n (pc := 4) dX11_off_4 rfl ?_
  refine g_cV (pc := 5) dX11_off_5 cV_RX11_137 (M_X0_has (Nat.le_refl _) rfl) xc_13 (as := [.int v1]) (st := []) rfl rfl (Nat.le_of_ble_eq_true rfl) (Nat.le_trans (Nat.le_of_ble_eq_true rfl) hd) rfl ?_
  refine g_if_eq (tgt := 29) (pc := 8) dX11_off_8 (by decide) (fun c1 => ?_) (fun c1 => ?_)
  · replace h := (if_pos c1).symm.trans h
    refine g_iconst (pc := 29) dX11_off_29 ic_m1 ?_
    cases h
    exact g_iret (pc := 30) dX11_off_30 rfl rfl rfl (Nat.le_refl _) (Nat.le_refl _)
  · replace h := (if_neg c1).symm.trans h
    refine g_iload_n (pc := 11) dX11_off_11 rfl ?_
    refine g_iconst (pc := 12) dX11_off_12 ic_0 ?_
    refine g_iconst (pc := 13) dX11_off_13 ic_1 ?_
    refine g_cS (pc := 14) dX11_off_14 cS_RX11_94 (M_X11_lies (Nat.le_refl _) rfl) (as := [.int v2, .int (0 : Int32), .int (1 : Int32)]) (st := []) rfl rfl (Nat.le_of_ble_eq_true rfl) (Nat.le_trans (Nat.le_of_ble_eq_true rfl) hd) rfl ?_
    refine g_if_eq (tgt := 29) (pc := 17) dX11_off_17 (by decide) (fun c2 => ?_) (fun c2 => ?_)
    · replace h := (if_pos c2).symm.trans h
      refine g_iconst (pc := 29) dX11_off_29 ic_m1 ?_
      cases h
      exact g_iret (pc := 30) dX11_off_30 rfl rfl rfl (Nat.le_refl _) (Nat.le_refl _)
    · replace h := (if_neg c2).symm.trans h
      refine g_aload_n (pc := 20) dX11_off_20 rfl ?_
      refine g_iload_n (pc := 21) dX11_off_21 rfl ?_
      refine g_iload_n (pc := 22) dX11_off_22 rfl ?_
      obtain ⟨⟨x4, u5⟩, e3, h⟩ := x_bind h
      dsimp only at h
      refine g_cV (pc := 23) dX11_off_23 cV_RX11_185 (M_X11_offOf (Nat.le_refl _) e3) xc_0 (as := [.int v1, .int v2]) (st := []) rfl rfl (Nat.le_of_ble_eq_true rfl) (Nat.le_trans (Nat.le_of_ble_eq_true rfl) hd) rfl ?_
      refine g_goto (tgt := 30) (pc := 26) dX11_off_26 (by decide) ?_
      cases h
      exact g_iret (pc := 30) dX11_off_30 rfl rfl rfl (Nat.le_refl _) (Nat.le_refl _)
set_option maxRecDepth 100000 in
set_option maxHeartbeats 4000000 in
theorem M_X11_off {sc : Nat × (Nat → Int32)} {d : Nat} (hd : 4 ≤ d) {r : Int32} {u u' : xS} {a1 : Int32} {a2 : Int32} (h : f_X11_off a1 a2 u = some (r, u')) : xMt sc mX11_off d 0 0 [.ref 0, .int a1, .int a2] (xL0, u) (some (.int r)) (xL0, u') :=
  xMt.of (by decide +kernel) (Nat.le_of_ble_eq_true rfl) (L := [some (.ref 0), some (.int a1), some (.int a2)]) rfl ((G_X11_off_0 hd a1 a2 u h))
set_option maxRecDepth 100000 in
set_option maxHeartbeats 4000000 in
theorem G_X11_sheetFits_6 {sc : Nat × (Nat → Int32)} {d : Nat} (hd : 1 ≤ d) {r : Int32} {u : xS} : ∀ (n : Nat) (v0 : Int32) (v1 : Int32) (v2 : Int32) (v3 : Int32) (v4 : Int32) (v5 : Int64) (v7 : Int32), f_X11_sheetFits_6 n v0 v1 v2 v3 v4 v5 v7 = some r → xG sc mX11_sheetFits d 0 0 (xR (some (.int r)) (xL0, u) 0 0) 0 0 6 [some (.int v0), some (.int v1), some (.int v2), some (.int v3), some (.int v4), some (.long v5), none, some (.int v7), none] [] (xL0, u) := by
  intro n
  induction n with
  | zero =>
    intro v0 v1 v2 v3 v4 v5 v7 h
    rw [f_X11_sheetFits_6] at h
    cases h
  | succ n ih =>
    intro v0 v1 v2 v3 v4 v5 v7 h
    rw [f_X11_sheetFits_6] at h
    refine g_iload (pc := 6) dX11_sheetFits_6 rfl ?_
    refine g_iload_n (pc := 8) dX11_sheetFits_8 rfl ?_
    refine g_icmp_ge (tgt := 46) (pc := 9) dX11_sheetFits_9 (by decide) (fun c1 => ?_) (fun c1 => ?_)
    · replace h := (if_pos c1).symm.trans h
      refine g_lload (pc := 46) dX11_sheetFits_46 rfl ?_
      refine g_iload_n (pc := 48) dX11_sheetFits_48 rfl ?_
      refine g_i2l (pc := 49) dX11_sheetFits_49 rfl ?_
      refine g_lcmp (pc := 50) dX11_sheetFits_50 rfl ?_
      refine g_if_gt (tgt := 58) (pc := 51) dX11_sheetFits_51 (by decide) (fun c2 => ?_) (fun c2 => ?_)
      · replace h := (if_pos c2).symm.trans h
        refine g_iconst (pc := 58) dX11_sheetFits_58 ic_0 ?_
        cases h
        exact g_zret (pc := 59) dX11_sheetFits_59 rfl (Or.inl rfl) rfl rfl (Nat.le_refl _) (Nat.le_refl _)
      · replace h := (if_neg c2).symm.trans h
        refine g_iconst (pc := 54) dX11_sheetFits_54 ic_1 ?_
        refine g_goto (tgt := 59) (pc := 55) dX11_sheetFits_55 (by decide) ?_
        cases h
        exact g_zret (pc := 59) dX11_sheetFits_59 rfl (Or.inr rfl) rfl rfl (Nat.le_refl _) (Nat.le_refl _)
    · replace h := (if_neg c1).symm.trans h
      refine g_iload_n (pc := 12) dX11_sheetFits_12 rfl ?_
      refine g_iload_n (pc := 13) dX11_sheetFits_13 rfl ?_
      refine g_iload (pc := 14) dX11_sheetFits_14 rfl ?_
      refine g_iload (pc := 16) dX11_sheetFits_16 rfl ?_
      refine g_imul (pc := 18) dX11_sheetFits_18 rfl ?_
      refine g_iadd (pc := 19) dX11_sheetFits_19 rfl ?_
      refine g_cS (pc := 20) dX11_sheetFits_20 cS_RX11_158 (M_X11_entry (Nat.le_refl _) rfl) (as := [.int v1, .int (v3 + (v7 * v4))]) (st := []) rfl rfl (Nat.le_of_ble_eq_true rfl) (Nat.le_trans (Nat.le_of_ble_eq_true rfl) hd) rfl ?_
      refine g_istore (pc := 23) dX11_sheetFits_23 (Nat.le_of_ble_eq_true rfl) (L' := [some (.int v0), some (.int v1), some (.int v2), some (.int v3), some (.int v4), some (.long v5), none, some (.int v7), some (.int (f_X11_entry v1 (v3 + (v7 * v4))))]) rfl ?_
      refine g_iload (pc := 25) dX11_sheetFits_25 rfl ?_
      refine g_if_ge (tgt := 32) (pc := 27) dX11_sheetFits_27 (by decide) (fun c3 => ?_) (fun c3 => ?_)
      · replace h := (if_pos c3).symm.trans h
        refine g_lload (pc := 32) dX11_sheetFits_32 rfl ?_
        refine g_iload (pc := 34) dX11_sheetFits_34 rfl ?_
        refine g_i2l (pc := 36) dX11_sheetFits_36 rfl ?_
        refine g_ladd (pc := 37) dX11_sheetFits_37 rfl ?_
        refine g_lstore (pc := 38) dX11_sheetFits_38 (Nat.le_of_ble_eq_true rfl) (Nat.le_of_ble_eq_true rfl) (L' := [some (.int v0), some (.int v1), some (.int v2), some (.int v3), some (.int v4), some (.long (v5 + ((f_X11_entry v1 (v3 + (v7 * v4))).toInt64))), none, some (.int v7), some (.int (f_X11_entry v1 (v3 + (v7 * v4))))]) rfl ?_
        refine g_inc (pc := 40) dX11_sheetFits_40 (Nat.le_of_ble_eq_true rfl) rfl ic_1 (L' := [some (.int v0), some (.int v1), some (.int v2), some (.int v3), some (.int v4), some (.long (v5 + ((f_X11_entry v1 (v3 + (v7 * v4))).toInt64))), none, some (.int (v7 + (1 : Int32))), some (.int (f_X11_entry v1 (v3 + (v7 * v4))))]) rfl ?_
        refine g_goto (tgt := 6) (pc := 43) dX11_sheetFits_43 (by decide) ?_
        refine g_L (L' := [some (.int v0), some (.int v1), some (.int v2), some (.int v3), some (.int v4), some (.long (v5 + ((f_X11_entry v1 (v3 + (v7 * v4))).toInt64))), none, some (.int (v7 + (1 : Int32))), none]) ⟨rfl, ⟨rfl, ⟨rfl, ⟨rfl, ⟨rfl, ⟨rfl, ⟨rfl, trivial⟩⟩⟩⟩⟩⟩⟩ ?_
        exact ih v0 v1 v2 v3 v4 (v5 + ((f_X11_entry v1 (v3 + (v7 * v4))).toInt64)) (v7 + (1 : Int32)) h
      · replace h := (if_neg c3).symm.trans h
        refine g_iconst (pc := 30) dX11_sheetFits_30 ic_0 ?_
        cases h
        exact g_zret (pc := 31) dX11_sheetFits_31 rfl (Or.inl rfl) rfl rfl (Nat.le_refl _) (Nat.le_refl _)
set_option maxRecDepth 100000 in
set_option maxHeartbeats 4000000 in
theorem G_X11_sheetFits_0 {sc : Nat × (Nat → Int32)} {d : Nat} (hd : 1 ≤ d) {r : Int32} {u : xS} (v0 : Int32) (v1 : Int32) (v2 : Int32) (v3 : Int32) (v4 : Int32) (h : f_X11_sheetFits v0 v1 v2 v3 v4 = some r) : xG sc mX11_sheetFits d 0 0 (xR (some (.int r)) (xL0, u) 0 0) 0 0 0 [some (.int v0), some (.int v1), some (.int v2), some (.int v3), some (.int v4), none, none, none, none] [] (xL0, u) := by
  rw [f_X11_sheetFits] at h
  refine g_lconst (v := (0 : Int64)) (pc := 0) dX11_sheetFits_0 rfl ?_
  refine g_lstore (pc := 1) dX11_sheetFits_1 (Nat.le_of_ble_eq_true rfl) (Nat.le_of_ble_eq_true rfl) (L' := [some (.int v0), some (.int v1), some (.int v2), some (.int v3), some (.int v4), some (.long (0 : Int64)), none, none, none]) rfl ?_
  refine g_iconst (pc := 3) dX11_sheetFits_3 ic_0 ?_
  refine g_istore (pc := 4) dX11_sheetFits_4 (Nat.le_of_ble_eq_true rfl) (L' := [some (.int v0), some (.int v1), some (.int v2), some (.int v3), some (.int v4), some (.long (0 : Int64)), none, some (.int (0 : Int32)), none]) rfl ?_
  exact G_X11_sheetFits_6 hd xN v0 v1 v2 v3 v4 (0 : Int64) (0 : Int32) h
set_option maxRecDepth 100000 in
set_option maxHeartbeats 4000000 in
theorem M_X11_sheetFits {sc : Nat × (Nat → Int32)} {d : Nat} (hd : 1 ≤ d) {r : Int32} {u : xS} {a0 : Int32} {a1 : Int32} {a2 : Int32} {a3 : Int32} {a4 : Int32} (h : f_X11_sheetFits a0 a1 a2 a3 a4 = some r) : xMt sc mX11_sheetFits d 0 0 [.int a0, .int a1, .int a2, .int a3, .int a4] (xL0, u) (some (.int r)) (xL0, u) :=
  xMt.of (by decide +kernel) (Nat.le_of_ble_eq_true rfl) (L := [some (.int a0), some (.int a1), some (.int a2), some (.int a3), some (.int a4), none, none, none, none]) rfl ((G_X11_sheetFits_0 hd a0 a1 a2 a3 a4 h))
set_option maxRecDepth 100000 in
set_option maxHeartbeats 4000000 in
theorem G_X6_add_0 {sc : Nat × (Nat → Int32)} {d : Nat} (hd : 0 ≤ d) {u' : xS} (v1 : Int32) (v2 : Int32) (v3 : Int32) (u : xS) (h : f_X6_add v1 v2 v3 u = some u') : xG sc mX6_add d 0 0 (xR none (xL0, u') 0 0) 0 0 0 [some (.ref 74), some (.int v1), some (.int v2), some (.int v3)] [] (xL0, u) := by
  rw [f_X6_add] at h
  refine g_aload_n (pc := 0) dX6_add_0 rfl ?_
  refine g_gI (pc := 1) dX6_add_1 fI_RX6_24 xc_74 (v := (rd u 74 4)) rfl ?_
  refine g_sipush (pc := 4) dX6_add_4 sp_384 ?_
  refine g_icmp_ge (tgt := 60) (pc := 7) dX6_add_7 (by decide) (fun c1 => ?_) (fun c1 => ?_)
  · replace h := (if_pos c1).symm.trans h
    cases h
    exact g_ret (pc := 60) dX6_add_60 rfl rfl rfl (Nat.le_refl _) (Nat.le_refl _)
  · replace h := (if_neg c1).symm.trans h
    refine g_aload_n (pc := 10) dX6_add_10 rfl ?_
    refine g_gR (pc := 11) dX6_add_11 fR_RX6_11 xc_74 (v := 75) rfl ?_
    refine g_aload_n (pc := 14) dX6_add_14 rfl ?_
    refine g_gI (pc := 15) dX6_add_15 fI_RX6_24 xc_74 (v := (rd u 74 4)) rfl ?_
    refine g_iload_n (pc := 18) dX6_add_18 rfl ?_
    obtain ⟨g2, h⟩ := x_gd h
    refine g_iastore (pc := 19) dX6_add_19 xc_75 (xin_of g2) (u' := (wr u 75 (rd u 74 4).toNatClampNeg v1)) rfl ?_
    refine g_aload_n (pc := 20) dX6_add_20 rfl ?_
    refine g_gR (pc := 21) dX6_add_21 fR_RX6_15 xc_74 (v := 76) rfl ?_
    refine g_aload_n (pc := 24) dX6_add_24 rfl ?_
    refine g_gI (pc := 25) dX6_add_25 fI_RX6_24 xc_74 (v := (rd u 74 4)) rfl ?_
    refine g_iload_n (pc := 28) dX6_add_28 rfl ?_
    refine g_iastore (pc := 29) dX6_add_29 xc_76 (xin_of g2) (u' := (wr (wr u 75 (rd u 74 4).toNatClampNeg v1) 76 (rd u 74 4).toNatClampNeg v2)) rfl ?_
    refine g_aload_n (pc := 30) dX6_add_30 rfl ?_
    refine g_gR (pc := 31) dX6_add_31 fR_RX6_18 xc_74 (v := 77) rfl ?_
    refine g_aload_n (pc := 34) dX6_add_34 rfl ?_
    refine g_gI (pc := 35) dX6_add_35 fI_RX6_24 xc_74 (v := (rd u 74 4)) rfl ?_
    refine g_iload_n (pc := 38) dX6_add_38 rfl ?_
    refine g_iastore (pc := 39) dX6_add_39 xc_77 (xin_of g2) (u' := (wr (wr (wr u 75 (rd u 74 4).toNatClampNeg v1) 76 (rd u 74 4).toNatClampNeg v2) 77 (rd u 74 4).toNatClampNeg v3)) rfl ?_
    refine g_aload_n (pc := 40) dX6_add_40 rfl ?_
    refine g_gR (pc := 41) dX6_add_41 fR_RX6_21 xc_74 (v := 78) rfl ?_
    refine g_iload_n (pc := 44) dX6_add_44 rfl ?_
    refine g_dup2 (pc := 45) dX6_add_45 rfl rfl ?_
    obtain ⟨g3, h⟩ := x_gd h
    refine g_iaload (pc := 46) dX6_add_46 xc_78 (xin_of g3) (v := (rd u 78 v1.toNatClampNeg)) rfl ?_
    refine g_iload_n (pc := 47) dX6_add_47 rfl ?_
    refine g_iadd (pc := 48) dX6_add_48 rfl ?_
    refine g_iastore (pc := 49) dX6_add_49 xc_78 (xin_of g3) (u' := (wr (wr (wr (wr u 75 (rd u 74 4).toNatClampNeg v1) 76 (rd u 74 4).toNatClampNeg v2) 77 (rd u 74 4).toNatClampNeg v3) 78 v1.toNatClampNeg ((rd u 78 v1.toNatClampNeg) + v3))) rfl ?_
    refine g_aload_n (pc := 50) dX6_add_50 rfl ?_
    refine g_dup (pc := 51) dX6_add_51 rfl ?_
    refine g_gI (pc := 52) dX6_add_52 fI_RX6_24 xc_74 (v := (rd u 74 4)) rfl ?_
    refine g_iconst (pc := 55) dX6_add_55 ic_1 ?_
    refine g_iadd (pc := 56) dX6_add_56 rfl ?_
    refine g_pI (pc := 57) dX6_add_57 pI_RX6_24 xc_74 (u' := (wr (wr (wr (wr (wr u 75 (rd u 74 4).toNatClampNeg v1) 76 (rd u 74 4).toNatClampNeg v2) 77 (rd u 74 4).toNatClampNeg v3) 78 v1.toNatClampNeg ((rd u 78 v1.toNatClampNeg) + v3)) 74 4 ((rd u 74 4) + (1 : Int32)))) rfl ?_
    cases h
    exact g_ret (pc := 60) dX6_add_60 rfl rfl rfl (Nat.le_refl _) (Nat.le_refl _)
set_option maxRecDepth 100000 in
set_option maxHeartbeats 4000000 in
theorem M_X6_add {sc : Nat × (Nat → Int32)} {d : Nat} (hd : 0 ≤ d) {u u' : xS} {a1 : Int32} {a2 : Int32} {a3 : Int32} (h : f_X6_add a1 a2 a3 u = some u') : xMt sc mX6_add d 0 0 [.ref 74, .int a1, .int a2, .int a3] (xL0, u) none (xL0, u') :=
  xMt.of (by decide +kernel) (Nat.le_of_ble_eq_true rfl) (L := [some (.ref 74), some (.int a1), some (.int a2), some (.int a3)]) rfl ((G_X6_add_0 hd a1 a2 a3 u h))
set_option maxRecDepth 100000 in
set_option maxHeartbeats 4000000 in
theorem G_X11_unload_85 {sc : Nat × (Nat → Int32)} {d : Nat} (hd : 1 ≤ d) {r : Int32} {u' : xS} (v1 : Int32) (v6 : Int32) (u : xS) (h : f_X11_unload_85 v1 v6 u = some (r, u')) : xG sc mX11_unload d 0 0 (xR (some (.int r)) (xL0, u') 0 0) 0 0 85 [some (.ref 0), some (.int v1), none, none, none, none, some (.int v6), none, none] [] (xL0, u) := by
  rw [f_X11_unload_85] at h
  refine g_aload_n (pc := 85) dX11_unload_85 rfl ?_
  refine g_gR (pc := 86) dX11_unload_86 fR_RX11_19 xc_0 (v := 13) rfl ?_
  refine g_gR (pc := 89) dX11_unload_89 fR_RX11_168 xc_13 (v := 19) rfl ?_
  refine g_iload_n (pc := 92) dX11_unload_92 rfl ?_
  refine g_iload (pc := 93) dX11_unload_93 rfl ?_
  obtain ⟨g1, h⟩ := x_gd h
  refine g_iastore (pc := 95) dX11_unload_95 xc_19 (xin_of g1) (u' := (wr u 19 v1.toNatClampNeg v6)) rfl ?_
  refine g_iload (pc := 96) dX11_unload_96 rfl ?_
  cases h
  exact g_iret (pc := 98) dX11_unload_98 rfl rfl rfl (Nat.le_refl _) (Nat.le_refl _)
set_option maxRecDepth 100000 in
set_option maxHeartbeats 4000000 in
theorem G_X11_unload_79 {sc : Nat × (Nat → Int32)} {d : Nat} (hd : 1 ≤ d) {r : Int32} {u' : xS} {k14 : Int32 → Int32 → Int32 → Int32 → Int32 → Int32 → Int32 → xS → Option (Int32 × xS)} (hk14 : ∀ (v1 : Int32) (v2 : Int32) (v3 : Int32) (v4 : Int32) (v5 : Int32) (v6 : Int32) (v7 : Int32) (u : xS), k14 v1 v2 v3 v4 v5 v6 v7 u = some (r, u') → xG sc mX11_unload d 0 0 (xR (some (.int r)) (xL0, u') 0 0) 0 0 14 [some (.ref 0), some (.int v1), some (.int v2), some (.int v3), some (.int v4), some (.int v5), some (.int v6), some (.int v7), none] [] (xL0, u)) (v1 : Int32) (v2 : Int32) (v3 : Int32) (v4 : Int32) (v5 : Int32) (v6 : Int32) (v7 : Int32) (u : xS) (h : f_X11_unload_79 k14 v1 v2 v3 v4 v5 v6 v7 u = some (r, u')) : xG sc mX11_unload d 0 0 (xR (some (.int r)) (xL0, u') 0 0) 0 0 79 [some (.ref 0), some (.int v1), some (.int v2), some (.int v3), some (.int v4), some (.int v5), some (.int v6), some (.int v7), none] [] (xL0, u) := by
  rw [f_X11_unload_79] at h
  refine g_inc (pc := 79) dX11_unload_79 (Nat.le_of_ble_eq_true rfl) rfl ic_1 (L' := [some (.ref 0), some (.int v1), some (.int v2), some (.int v3), some (.int v4), some (.int v5), some (.int v6), some (.int (v7 + (1 : Int32))), none]) rfl ?_
  refine g_goto (tgt := 14) (pc := 82) dX11_unload_82 (by decide) ?_
  exact hk14 v1 v2 v3 v4 v5 v6 (v7 + (1 : Int32)) u h
set_option maxRecDepth 100000 in
set_option maxHeartbeats 4000000 in
theorem G_X11_unload_14 {sc : Nat × (Nat → Int32)} {d : Nat} (hd : 1 ≤ d) {r : Int32} {u' : xS} : ∀ (n : Nat) (v1 : Int32) (v2 : Int32) (v3 : Int32) (v4 : Int32) (v5 : Int32) (v6 : Int32) (v7 : Int32) (u : xS), f_X11_unload_14 n v1 v2 v3 v4 v5 v6 v7 u = some (r, u') → xG sc mX11_unload d 0 0 (xR (some (.int r)) (xL0, u') 0 0) 0 0 14 [some (.ref 0), some (.int v1), some (.int v2), some (.int v3), some (.int v4), some (.int v5), some (.int v6), some (.int v7), none] [] (xL0, u) := by
  intro n
  induction n with
  | zero =>
    intro v1 v2 v3 v4 v5 v6 v7 u h
    rw [f_X11_unload_14] at h
    cases h
  | succ n ih =>
    intro v1 v2 v3 v4 v5 v6 v7 u h
    rw [f_X11_unload_14] at h
    refine g_iload (pc := 14) dX11_unload_14 rfl ?_
    refine g_iload_n (pc := 16) dX11_unload_16 rfl ?_
    refine g_icmp_ge (tgt := 85) (pc := 17) dX11_unload_17 (by decide) (fun c1 => ?_) (fun c1 => ?_)
    · replace h := (if_pos c1).symm.trans h
      refine g_L (L' := [some (.ref 0), some (.int v1), none, none, none, none, some (.int v6), none, none]) ⟨rfl, ⟨rfl, ⟨rfl, trivial⟩⟩⟩ ?_
      exact G_X11_unload_85 hd v1 v6 u h
    · replace h := (if_neg c1).symm.trans h
      refine g_iload (pc := 20) dX11_unload_20 rfl ?_
      refine g_bipush (pc := 22) dX11_unload_22 bp_16 ?_
      refine g_icmp_ge (tgt := 85) (pc := 24) dX11_unload_24 (by decide) (fun c2 => ?_) (fun c2 => ?_)
      · replace h := (if_pos c2).symm.trans h
        refine g_L (L' := [some (.ref 0), some (.int v1), none, none, none, none, some (.int v6), none, none]) ⟨rfl, ⟨rfl, ⟨rfl, trivial⟩⟩⟩ ?_
        exact G_X11_unload_85 hd v1 v6 u h
      · replace h := (if_neg c2).symm.trans h
        refine g_iload_n (pc := 27) dX11_unload_27 rfl ?_
        refine g_iload (pc := 28) dX11_unload_28 rfl ?_
        refine g_iload (pc := 30) dX11_unload_30 rfl ?_
        refine g_iload (pc := 32) dX11_unload_32 rfl ?_
        refine g_imul (pc := 34) dX11_unload_34 rfl ?_
        refine g_iadd (pc := 35) dX11_unload_35 rfl ?_
        refine g_cS (pc := 36) dX11_unload_36 cS_RX11_158 (M_X11_entry (Nat.le_refl _) rfl) (as := [.int v2, .int (v4 + (v7 * v5))]) (st := []) rfl rfl (Nat.le_of_ble_eq_true rfl) (Nat.le_trans (Nat.le_of_ble_eq_true rfl) hd) rfl ?_
        refine g_istore (pc := 39) dX11_unload_39 (Nat.le_of_ble_eq_true rfl) (L' := [some (.ref 0), some (.int v1), some (.int v2), some (.int v3), some (.int v4), some (.int v5), some (.int v6), some (.int v7), some (.int (f_X11_entry v2 (v4 + (v7 * v5))))]) rfl ?_
        refine g_aload_n (pc := 41) dX11_unload_41 rfl ?_
        refine g_gR (pc := 42) dX11_unload_42 fR_RX11_19 xc_0 (v := 13) rfl ?_
        refine g_gR (pc := 45) dX11_unload_45 fR_RX11_161 xc_13 (v := 21) rfl ?_
        refine g_iload_n (pc := 48) dX11_unload_48 rfl ?_
        obtain ⟨g3, h⟩ := x_gd h
        refine g_aaload (pc := 49) dX11_unload_49 xc_21 (xin_of g3) (v := (22 + v1.toNatClampNeg)) (xrf_21 _ (xin_lt g3)) ?_
        refine g_iload (pc := 50) dX11_unload_50 rfl ?_
        refine g_iload (pc := 52) dX11_unload_52 rfl ?_
        obtain ⟨g4, h⟩ := x_gd h
        refine g_iastore (pc := 54) dX11_unload_54 (xrow_21 _ (xin_lt g3)) (xin_of g4) (u' := (wr u (22 + v1.toNatClampNeg) v7.toNatClampNeg (f_X11_entry v2 (v4 + (v7 * v5))))) rfl ?_
        refine g_iload (pc := 55) dX11_unload_55 rfl ?_
        refine g_iload (pc := 57) dX11_unload_57 rfl ?_
        refine g_isub (pc := 59) dX11_unload_59 rfl ?_
        refine g_istore (pc := 60) dX11_unload_60 (Nat.le_of_ble_eq_true rfl) (L' := [some (.ref 0), some (.int v1), some (.int v2), some (.int v3), some (.int v4), some (.int v5), some (.int (v6 - (f_X11_entry v2 (v4 + (v7 * v5))))), some (.int v7), some (.int (f_X11_entry v2 (v4 + (v7 * v5))))]) rfl ?_
        refine g_iload (pc := 62) dX11_unload_62 rfl ?_
        refine g_if_le (tgt := 79) (pc := 64) dX11_unload_64 (by decide) (fun c5 => ?_) (fun c5 => ?_)
        · replace h := (if_pos c5).symm.trans h
          refine g_L (L' := [some (.ref 0), some (.int v1), some (.int v2), some (.int v3), some (.int v4), some (.int v5), some (.int (v6 - (f_X11_entry v2 (v4 + (v7 * v5))))), some (.int v7), none]) ⟨rfl, ⟨rfl, ⟨rfl, ⟨rfl, ⟨rfl, ⟨rfl, ⟨rfl, ⟨rfl, trivial⟩⟩⟩⟩⟩⟩⟩⟩ ?_
          exact G_X11_unload_79 hd ih v1 v2 v3 v4 v5 (v6 - (f_X11_entry v2 (v4 + (v7 * v5)))) v7 (wr u (22 + v1.toNatClampNeg) v7.toNatClampNeg (f_X11_entry v2 (v4 + (v7 * v5)))) h
        · replace h := (if_neg c5).symm.trans h
          refine g_aload_n (pc := 67) dX11_unload_67 rfl ?_
          refine g_gR (pc := 68) dX11_unload_68 fR_RX11_54 xc_0 (v := 74) rfl ?_
          refine g_iload (pc := 71) dX11_unload_71 rfl ?_
          refine g_iload_n (pc := 73) dX11_unload_73 rfl ?_
          refine g_iload (pc := 74) dX11_unload_74 rfl ?_
          obtain ⟨u7, e6, h⟩ := x_bind h
          refine g_cV (pc := 76) dX11_unload_76 cV_RX11_165 (M_X6_add (Nat.le_refl _) e6) xc_74 (as := [.int v7, .int v1, .int (f_X11_entry v2 (v4 + (v7 * v5)))]) (st := []) rfl rfl (Nat.le_of_ble_eq_true rfl) (Nat.le_trans (Nat.le_of_ble_eq_true rfl) hd) rfl ?_
          refine g_L (L' := [some (.ref 0), some (.int v1), some (.int v2), some (.int v3), some (.int v4), some (.int v5), some (.int (v6 - (f_X11_entry v2 (v4 + (v7 * v5))))), some (.int v7), none]) ⟨rfl, ⟨rfl, ⟨rfl, ⟨rfl, ⟨rfl, ⟨rfl, ⟨rfl, ⟨rfl, trivial⟩⟩⟩⟩⟩⟩⟩⟩ ?_
          exact G_X11_unload_79 hd ih v1 v2 v3 v4 v5 (v6 - (f_X11_entry v2 (v4 + (v7 * v5)))) v7 u7 h
set_option maxRecDepth 100000 in
set_option maxHeartbeats 4000000 in
theorem G_X11_unload_0 {sc : Nat × (Nat → Int32)} {d : Nat} (hd : 1 ≤ d) {r : Int32} {u' : xS} (v1 : Int32) (v2 : Int32) (v3 : Int32) (v4 : Int32) (v5 : Int32) (u : xS) (h : f_X11_unload v1 v2 v3 v4 v5 u = some (r, u')) : xG sc mX11_unload d 0 0 (xR (some (.int r)) (xL0, u') 0 0) 0 0 0 [some (.ref 0), some (.int v1), some (.int v2), some (.int v3), some (.int v4), some (.int v5), none, none, none] [] (xL0, u) := by
  rw [f_X11_unload] at h
  refine g_aload_n (pc := 0) dX11_unload_0 rfl ?_
  refine g_gR (pc := 1) dX11_unload_1 fR_RX11_19 xc_0 (v := 13) rfl ?_
  refine g_gR (pc := 4) dX11_unload_4 fR_RX11_144 xc_13 (v := 16) rfl ?_
  refine g_iload_n (pc := 7) dX11_unload_7 rfl ?_
  obtain ⟨g1, h⟩ := x_gd h
  refine g_iaload (pc := 8) dX11_unload_8 xc_16 (xin_of g1) (v := (rd u 16 v1.toNatClampNeg)) rfl ?_
  refine g_istore (pc := 9) dX11_unload_9 (Nat.le_of_ble_eq_true rfl) (L' := [some (.ref 0), some (.int v1), some (.int v2), some (.int v3), some (.int v4), some (.int v5), some (.int (rd u 16 v1.toNatClampNeg)), none, none]) rfl ?_
  refine g_iconst (pc := 11) dX11_unload_11 ic_0 ?_
  refine g_istore (pc := 12) dX11_unload_12 (Nat.le_of_ble_eq_true rfl) (L' := [some (.ref 0), some (.int v1), some (.int v2), some (.int v3), some (.int v4), some (.int v5), some (.int (rd u 16 v1.toNatClampNeg)), some (.int (0 : Int32)), none]) rfl ?_
  exact G_X11_unload_14 hd xN v1 v2 v3 v4 v5 (rd u 16 v1.toNatClampNeg) (0 : Int32) u h
set_option maxRecDepth 100000 in
set_option maxHeartbeats 4000000 in
theorem M_X11_unload {sc : Nat × (Nat → Int32)} {d : Nat} (hd : 1 ≤ d) {r : Int32} {u u' : xS} {a1 : Int32} {a2 : Int32} {a3 : Int32} {a4 : Int32} {a5 : Int32} (h : f_X11_unload a1 a2 a3 a4 a5 u = some (r, u')) : xMt sc mX11_unload d 0 0 [.ref 0, .int a1, .int a2, .int a3, .int a4, .int a5] (xL0, u) (some (.int r)) (xL0, u') :=
  xMt.of (by decide +kernel) (Nat.le_of_ble_eq_true rfl) (L := [some (.ref 0), some (.int a1), some (.int a2), some (.int a3), some (.int a4), some (.int a5), none, none, none]) rfl ((G_X11_unload_0 hd a1 a2 a3 a4 a5 u h))
set_option maxRecDepth 100000 in
set_option maxHeartbeats 4000000 in
theorem G_X11_open_0 {sc : Nat × (Nat → Int32)} {d : Nat} (hd : 2 ≤ d) {r : Int32} {u' : xS} (v1 : Int32) (v2 : Int32) (v3 : Int32) (v4 : Int32) (v5 : Int32) (v6 : Int32) (u : xS) (h : f_X11_open v1 v2 v3 v4 v5 v6 u = some (r, u')) : xG sc mX11_open d 0 0 (xR (some (.int r)) (xL0, u') 0 0) 0 0 0 [some (.ref 0), some (.int v1), some (.int v2), some (.int v3), some (.int v4), some (.int v5), some (.int v6)] [] (xL0, u) := by
  rw [f_X11_open] at h
  refine g_aload_n (pc := 0) dX11_open_0 rfl ?_
  refine g_gR (pc := 1) dX11_open_1 fR_RX11_19 xc_0 (v := 13) rfl ?_
  refine g_iload_n (pc := 4) dX11_open_4 rfl ?_
  refine g_cV (pc := 5) dX11_open_5 cV_RX11_137 (M_X0_has (Nat.le_refl _) rfl) xc_13 (as := [.int v1]) (st := []) rfl rfl (Nat.le_of_ble_eq_true rfl) (Nat.le_trans (Nat.le_of_ble_eq_true rfl) hd) rfl ?_
  refine g_if_eq (tgt := 27) (pc := 8) dX11_open_8 (by decide) (fun c1 => ?_) (fun c1 => ?_)
  · replace h := (if_pos c1).symm.trans h
    refine g_iconst (pc := 27) dX11_open_27 ic_m1 ?_
    cases h
    exact g_iret (pc := 28) dX11_open_28 rfl rfl rfl (Nat.le_refl _) (Nat.le_refl _)
  · replace h := (if_neg c1).symm.trans h
    refine g_iload_n (pc := 11) dX11_open_11 rfl ?_
    refine g_cS (pc := 12) dX11_open_12 cS_RX11_138 (M_X11_isSorter (Nat.le_refl _) rfl) (as := [.int v2]) (st := []) rfl rfl (Nat.le_of_ble_eq_true rfl) (Nat.le_trans (Nat.le_of_ble_eq_true rfl) hd) rfl ?_
    refine g_if_eq (tgt := 27) (pc := 15) dX11_open_15 (by decide) (fun c2 => ?_) (fun c2 => ?_)
    · replace h := (if_pos c2).symm.trans h
      refine g_iconst (pc := 27) dX11_open_27 ic_m1 ?_
      cases h
      exact g_iret (pc := 28) dX11_open_28 rfl rfl rfl (Nat.le_refl _) (Nat.le_refl _)
    · replace h := (if_neg c2).symm.trans h
      refine g_iload_n (pc := 18) dX11_open_18 rfl ?_
      refine g_iconst (pc := 19) dX11_open_19 ic_0 ?_
      refine g_iconst (pc := 20) dX11_open_20 ic_3 ?_
      refine g_cS (pc := 21) dX11_open_21 cS_RX11_94 (M_X11_lies (Nat.le_refl _) rfl) (as := [.int v3, .int (0 : Int32), .int (3 : Int32)]) (st := []) rfl rfl (Nat.le_of_ble_eq_true rfl) (Nat.le_trans (Nat.le_of_ble_eq_true rfl) hd) rfl ?_
      refine g_if_ne (tgt := 29) (pc := 24) dX11_open_24 (by decide) (fun c3 => ?_) (fun c3 => ?_)
      · replace h := (if_neg c3).symm.trans h
        refine g_aload_n (pc := 29) dX11_open_29 rfl ?_
        refine g_gR (pc := 30) dX11_open_30 fR_RX11_19 xc_0 (v := 13) rfl ?_
        refine g_iload_n (pc := 33) dX11_open_33 rfl ?_
        obtain ⟨x5, e4, h⟩ := x_bind h
        refine g_cV (pc := 34) dX11_open_34 cV_RX11_141 (M_X0_isSorted (Nat.le_refl _) e4) xc_13 (as := [.int v1]) (st := []) rfl rfl (Nat.le_of_ble_eq_true rfl) (Nat.le_trans (Nat.le_of_ble_eq_true rfl) hd) rfl ?_
        refine g_if_ne (tgt := 52) (pc := 37) dX11_open_37 (by decide) (fun c6 => ?_) (fun c6 => ?_)
        · replace h := (if_neg c6).symm.trans h
          refine g_iconst (pc := 52) dX11_open_52 ic_m1 ?_
          cases h
          exact g_iret (pc := 53) dX11_open_53 rfl rfl rfl (Nat.le_refl _) (Nat.le_refl _)
        · replace h := (if_pos c6).symm.trans h
          refine g_iload (pc := 40) dX11_open_40 rfl ?_
          refine g_aload_n (pc := 42) dX11_open_42 rfl ?_
          refine g_gR (pc := 43) dX11_open_43 fR_RX11_12 xc_0 (v := 1) rfl ?_
          refine g_gI (pc := 46) dX11_open_46 fI_RX11_102 xc_1 (v := (rd u 1 2)) rfl ?_
          refine g_icmp_le (tgt := 54) (pc := 49) dX11_open_49 (by decide) (fun c7 => ?_) (fun c7 => ?_)
          · replace h := (if_pos c7).symm.trans h
            refine g_iload_n (pc := 54) dX11_open_54 rfl ?_
            refine g_iconst (pc := 55) dX11_open_55 ic_3 ?_
            refine g_icmp_ne (tgt := 62) (pc := 56) dX11_open_56 (by decide) (fun c8 => ?_) (fun c8 => ?_)
            · replace h := (if_neg c8).symm.trans h
              refine g_iload (pc := 62) dX11_open_62 rfl ?_
              refine g_if_ge (tgt := 70) (pc := 64) dX11_open_64 (by decide) (fun c9 => ?_) (fun c9 => ?_)
              · replace h := (if_pos c9).symm.trans h
                refine g_aload_n (pc := 70) dX11_open_70 rfl ?_
                refine g_gR (pc := 71) dX11_open_71 fR_RX11_19 xc_0 (v := 13) rfl ?_
                refine g_gR (pc := 74) dX11_open_74 fR_RX11_144 xc_13 (v := 16) rfl ?_
                refine g_iload_n (pc := 77) dX11_open_77 rfl ?_
                obtain ⟨g10, h⟩ := x_gd h
                refine g_iaload (pc := 78) dX11_open_78 xc_16 (xin_of g10) (v := (rd u 16 v1.toNatClampNeg)) rfl ?_
                refine g_iload_n (pc := 79) dX11_open_79 rfl ?_
                refine g_iload (pc := 80) dX11_open_80 rfl ?_
                refine g_iload (pc := 82) dX11_open_82 rfl ?_
                refine g_iload (pc := 84) dX11_open_84 rfl ?_
                obtain ⟨x12, e11, h⟩ := x_bind h
                refine g_cS (pc := 86) dX11_open_86 cS_RX11_147 (M_X11_sheetFits (Nat.le_refl _) e11) (as := [.int (rd u 16 v1.toNatClampNeg), .int v3, .int v4, .int v5, .int v6]) (st := []) rfl rfl (Nat.le_of_ble_eq_true rfl) (Nat.le_trans (Nat.le_of_ble_eq_true rfl) hd) rfl ?_
                refine g_if_ne (tgt := 95) (pc := 89) dX11_open_89 (by decide) (fun c13 => ?_) (fun c13 => ?_)
                · replace h := (if_neg c13).symm.trans h
                  refine g_aload_n (pc := 95) dX11_open_95 rfl ?_
                  refine g_gR (pc := 96) dX11_open_96 fR_RX11_19 xc_0 (v := 13) rfl ?_
                  refine g_gR (pc := 99) dX11_open_99 fR_RX11_151 xc_13 (v := 18) rfl ?_
                  refine g_iload_n (pc := 102) dX11_open_102 rfl ?_
                  refine g_iload_n (pc := 103) dX11_open_103 rfl ?_
                  refine g_iastore (pc := 104) dX11_open_104 xc_18 (xin_of g10) (u' := (wr u 18 v1.toNatClampNeg v2)) rfl ?_
                  refine g_aload_n (pc := 105) dX11_open_105 rfl ?_
                  refine g_iload_n (pc := 106) dX11_open_106 rfl ?_
                  refine g_iload_n (pc := 107) dX11_open_107 rfl ?_
                  refine g_iload (pc := 108) dX11_open_108 rfl ?_
                  refine g_iload (pc := 110) dX11_open_110 rfl ?_
                  refine g_iload (pc := 112) dX11_open_112 rfl ?_
                  obtain ⟨⟨x15, u16⟩, e14, h⟩ := x_bind h
                  dsimp only at h
                  refine g_cV (pc := 114) dX11_open_114 cV_RX11_154 (M_X11_unload (Nat.le_refl _) e14) xc_0 (as := [.int v1, .int v3, .int v4, .int v5, .int v6]) (st := []) rfl rfl (Nat.le_of_ble_eq_true rfl) (Nat.le_trans (Nat.le_of_ble_eq_true rfl) hd) rfl ?_
                  cases h
                  exact g_iret (pc := 117) dX11_open_117 rfl rfl rfl (Nat.le_refl _) (Nat.le_refl _)
                · replace h := (if_pos c13).symm.trans h
                  refine g_bipush (pc := 92) dX11_open_92 bp_m4 ?_
                  cases h
                  exact g_iret (pc := 94) dX11_open_94 rfl rfl rfl (Nat.le_refl _) (Nat.le_refl _)
              · replace h := (if_neg c9).symm.trans h
                refine g_bipush (pc := 67) dX11_open_67 bp_m2 ?_
                cases h
                exact g_iret (pc := 69) dX11_open_69 rfl rfl rfl (Nat.le_refl _) (Nat.le_refl _)
            · replace h := (if_pos c8).symm.trans h
              refine g_bipush (pc := 59) dX11_open_59 bp_m3 ?_
              cases h
              exact g_iret (pc := 61) dX11_open_61 rfl rfl rfl (Nat.le_refl _) (Nat.le_refl _)
          · replace h := (if_neg c7).symm.trans h
            refine g_iconst (pc := 52) dX11_open_52 ic_m1 ?_
            cases h
            exact g_iret (pc := 53) dX11_open_53 rfl rfl rfl (Nat.le_refl _) (Nat.le_refl _)
      · replace h := (if_pos c3).symm.trans h
        refine g_iconst (pc := 27) dX11_open_27 ic_m1 ?_
        cases h
        exact g_iret (pc := 28) dX11_open_28 rfl rfl rfl (Nat.le_refl _) (Nat.le_refl _)
set_option maxRecDepth 100000 in
set_option maxHeartbeats 4000000 in
theorem M_X11_open {sc : Nat × (Nat → Int32)} {d : Nat} (hd : 2 ≤ d) {r : Int32} {u u' : xS} {a1 : Int32} {a2 : Int32} {a3 : Int32} {a4 : Int32} {a5 : Int32} {a6 : Int32} (h : f_X11_open a1 a2 a3 a4 a5 a6 u = some (r, u')) : xMt sc mX11_open d 0 0 [.ref 0, .int a1, .int a2, .int a3, .int a4, .int a5, .int a6] (xL0, u) (some (.int r)) (xL0, u') :=
  xMt.of (by decide +kernel) (Nat.le_of_ble_eq_true rfl) (L := [some (.ref 0), some (.int a1), some (.int a2), some (.int a3), some (.int a4), some (.int a5), some (.int a6)]) rfl ((G_X11_open_0 hd a1 a2 a3 a4 a5 a6 u h))
set_option maxRecDepth 100000 in
set_option maxHeartbeats 4000000 in
theorem G_X4_addPack_0 {sc : Nat × (Nat → Int32)} {d : Nat} (hd : 0 ≤ d) {r : Int32} {u' : xS} (v1 : Int32) (v2 : Int32) (v3 : Int32) (v4 : Int32) (u : xS) (h : f_X4_addPack v1 v2 v3 v4 u = some (r, u')) : xG sc mX4_addPack d 0 0 (xR (some (.int r)) (xL0, u') 0 0) 0 0 0 [some (.ref 121), some (.int v1), some (.int v2), some (.int v3), some (.int v4)] [] (xL0, u) := by
  rw [f_X4_addPack] at h
  refine g_aload_n (pc := 0) dX4_addPack_0 rfl ?_
  refine g_gI (pc := 1) dX4_addPack_1 fI_RX4_32 xc_121 (v := (rd u 121 6)) rfl ?_
  refine g_bipush (pc := 4) dX4_addPack_4 bp_8 ?_
  refine g_icmp_lt (tgt := 11) (pc := 6) dX4_addPack_6 (by decide) (fun c1 => ?_) (fun c1 => ?_)
  · replace h := (if_pos c1).symm.trans h
    refine g_aload_n (pc := 11) dX4_addPack_11 rfl ?_
    refine g_gR (pc := 12) dX4_addPack_12 fR_RX4_20 xc_121 (v := 128) rfl ?_
    refine g_aload_n (pc := 15) dX4_addPack_15 rfl ?_
    refine g_gI (pc := 16) dX4_addPack_16 fI_RX4_32 xc_121 (v := (rd u 121 6)) rfl ?_
    refine g_iload_n (pc := 19) dX4_addPack_19 rfl ?_
    obtain ⟨g2, h⟩ := x_gd h
    refine g_iastore (pc := 20) dX4_addPack_20 xc_128 (xin_of g2) (u' := (wr u 128 (rd u 121 6).toNatClampNeg v1)) rfl ?_
    refine g_aload_n (pc := 21) dX4_addPack_21 rfl ?_
    refine g_gR (pc := 22) dX4_addPack_22 fR_RX4_23 xc_121 (v := 129) rfl ?_
    refine g_aload_n (pc := 25) dX4_addPack_25 rfl ?_
    refine g_gI (pc := 26) dX4_addPack_26 fI_RX4_32 xc_121 (v := (rd u 121 6)) rfl ?_
    refine g_iload_n (pc := 29) dX4_addPack_29 rfl ?_
    refine g_iastore (pc := 30) dX4_addPack_30 xc_129 (xin_of g2) (u' := (wr (wr u 128 (rd u 121 6).toNatClampNeg v1) 129 (rd u 121 6).toNatClampNeg v2)) rfl ?_
    refine g_aload_n (pc := 31) dX4_addPack_31 rfl ?_
    refine g_gR (pc := 32) dX4_addPack_32 fR_RX4_26 xc_121 (v := 130) rfl ?_
    refine g_aload_n (pc := 35) dX4_addPack_35 rfl ?_
    refine g_gI (pc := 36) dX4_addPack_36 fI_RX4_32 xc_121 (v := (rd u 121 6)) rfl ?_
    refine g_iload_n (pc := 39) dX4_addPack_39 rfl ?_
    refine g_iastore (pc := 40) dX4_addPack_40 xc_130 (xin_of g2) (u' := (wr (wr (wr u 128 (rd u 121 6).toNatClampNeg v1) 129 (rd u 121 6).toNatClampNeg v2) 130 (rd u 121 6).toNatClampNeg v3)) rfl ?_
    refine g_aload_n (pc := 41) dX4_addPack_41 rfl ?_
    refine g_gR (pc := 42) dX4_addPack_42 fR_RX4_29 xc_121 (v := 131) rfl ?_
    refine g_aload_n (pc := 45) dX4_addPack_45 rfl ?_
    refine g_gI (pc := 46) dX4_addPack_46 fI_RX4_32 xc_121 (v := (rd u 121 6)) rfl ?_
    refine g_iload (pc := 49) dX4_addPack_49 rfl ?_
    refine g_iastore (pc := 51) dX4_addPack_51 xc_131 (xin_of g2) (u' := (wr (wr (wr (wr u 128 (rd u 121 6).toNatClampNeg v1) 129 (rd u 121 6).toNatClampNeg v2) 130 (rd u 121 6).toNatClampNeg v3) 131 (rd u 121 6).toNatClampNeg v4)) rfl ?_
    refine g_aload_n (pc := 52) dX4_addPack_52 rfl ?_
    refine g_dup (pc := 53) dX4_addPack_53 rfl ?_
    refine g_gI (pc := 54) dX4_addPack_54 fI_RX4_32 xc_121 (v := (rd u 121 6)) rfl ?_
    refine g_dup_x1 (pc := 57) dX4_addPack_57 rfl rfl ?_
    refine g_iconst (pc := 58) dX4_addPack_58 ic_1 ?_
    refine g_iadd (pc := 59) dX4_addPack_59 rfl ?_
    refine g_pI (pc := 60) dX4_addPack_60 pI_RX4_32 xc_121 (u' := (wr (wr (wr (wr (wr u 128 (rd u 121 6).toNatClampNeg v1) 129 (rd u 121 6).toNatClampNeg v2) 130 (rd u 121 6).toNatClampNeg v3) 131 (rd u 121 6).toNatClampNeg v4) 121 6 ((rd u 121 6) + (1 : Int32)))) rfl ?_
    cases h
    exact g_iret (pc := 63) dX4_addPack_63 rfl rfl rfl (Nat.le_refl _) (Nat.le_refl _)
  · replace h := (if_neg c1).symm.trans h
    refine g_iconst (pc := 9) dX4_addPack_9 ic_m1 ?_
    cases h
    exact g_iret (pc := 10) dX4_addPack_10 rfl rfl rfl (Nat.le_refl _) (Nat.le_refl _)
set_option maxRecDepth 100000 in
set_option maxHeartbeats 4000000 in
theorem M_X4_addPack {sc : Nat × (Nat → Int32)} {d : Nat} (hd : 0 ≤ d) {r : Int32} {u u' : xS} {a1 : Int32} {a2 : Int32} {a3 : Int32} {a4 : Int32} (h : f_X4_addPack a1 a2 a3 a4 u = some (r, u')) : xMt sc mX4_addPack d 0 0 [.ref 121, .int a1, .int a2, .int a3, .int a4] (xL0, u) (some (.int r)) (xL0, u') :=
  xMt.of (by decide +kernel) (Nat.le_of_ble_eq_true rfl) (L := [some (.ref 121), some (.int a1), some (.int a2), some (.int a3), some (.int a4)]) rfl ((G_X4_addPack_0 hd a1 a2 a3 a4 u h))
set_option maxRecDepth 100000 in
set_option maxHeartbeats 4000000 in
theorem G_X11_pack_162 {sc : Nat × (Nat → Int32)} {d : Nat} (hd : 2 ≤ d) {r : Int32} {u' : xS} (v4 : Int32) (s1 : Int32) (s2 : Int32) (s3 : Int32) (u : xS) (h : f_X11_pack_162 v4 s1 s2 s3 u = some (r, u')) : xG sc mX11_pack d 0 0 (xR (some (.int r)) (xL0, u') 0 0) 0 0 162 [none, none, none, none, some (.int v4), none] [.int s3, .int s2, .int s1, .ref 121] (xL0, u) := by
  rw [f_X11_pack_162] at h
  refine g_iload (pc := 162) dX11_pack_162 rfl ?_
  obtain ⟨⟨x2, u3⟩, e1, h⟩ := x_bind h
  dsimp only at h
  refine g_cV (pc := 164) dX11_pack_164 cV_RX11_394 (M_X4_addPack (Nat.le_refl _) e1) xc_121 (as := [.int s1, .int s2, .int s3, .int v4]) (st := []) rfl rfl (Nat.le_of_ble_eq_true rfl) (Nat.le_trans (Nat.le_of_ble_eq_true rfl) hd) rfl ?_
  cases h
  exact g_iret (pc := 167) dX11_pack_167 rfl rfl rfl (Nat.le_refl _) (Nat.le_refl _)
set_option maxRecDepth 100000 in
set_option maxHeartbeats 4000000 in
theorem G_X11_pack_146 {sc : Nat × (Nat → Int32)} {d : Nat} (hd : 2 ≤ d) {r : Int32} {u' : xS} (v1 : Int32) (v2 : Int32) (v3 : Int32) (v4 : Int32) (u : xS) (h : f_X11_pack_146 v1 v2 v3 v4 u = some (r, u')) : xG sc mX11_pack d 0 0 (xR (some (.int r)) (xL0, u') 0 0) 0 0 146 [some (.ref 0), some (.int v1), some (.int v2), some (.int v3), some (.int v4), none] [] (xL0, u) := by
  rw [f_X11_pack_146] at h
  refine g_aload_n (pc := 146) dX11_pack_146 rfl ?_
  refine g_gR (pc := 147) dX11_pack_147 fR_RX11_82 xc_0 (v := 121) rfl ?_
  refine g_iload_n (pc := 150) dX11_pack_150 rfl ?_
  refine g_iload_n (pc := 151) dX11_pack_151 rfl ?_
  refine g_iload (pc := 152) dX11_pack_152 rfl ?_
  refine g_if_ne (tgt := 161) (pc := 154) dX11_pack_154 (by decide) (fun c1 => ?_) (fun c1 => ?_)
  · replace h := (if_neg c1).symm.trans h
    refine g_iload_n (pc := 161) dX11_pack_161 rfl ?_
    refine g_L (L' := [none, none, none, none, some (.int v4), none]) ⟨rfl, trivial⟩ ?_
    exact G_X11_pack_162 hd v4 v1 v2 v3 u h
  · replace h := (if_pos c1).symm.trans h
    refine g_iload_n (pc := 157) dX11_pack_157 rfl ?_
    refine g_goto (tgt := 162) (pc := 158) dX11_pack_158 (by decide) ?_
    refine g_L (L' := [none, none, none, none, some (.int v4), none]) ⟨rfl, trivial⟩ ?_
    exact G_X11_pack_162 hd v4 v1 v2 v1 u h
set_option maxRecDepth 100000 in
set_option maxHeartbeats 4000000 in
theorem G_X11_pack_87 {sc : Nat × (Nat → Int32)} {d : Nat} (hd : 2 ≤ d) {r : Int32} {u' : xS} (v1 : Int32) (v2 : Int32) (v3 : Int32) (v4 : Int32) (s0 : Int32) (u : xS) (h : f_X11_pack_87 v1 v2 v3 v4 s0 u = some (r, u')) : xG sc mX11_pack d 0 0 (xR (some (.int r)) (xL0, u') 0 0) 0 0 87 [some (.ref 0), some (.int v1), some (.int v2), some (.int v3), some (.int v4), none] [.int s0] (xL0, u) := by
  rw [f_X11_pack_87] at h
  refine g_istore (pc := 87) dX11_pack_87 (Nat.le_of_ble_eq_true rfl) (L' := [some (.ref 0), some (.int v1), some (.int v2), some (.int v3), some (.int v4), some (.int s0)]) rfl ?_
  refine g_iload (pc := 89) dX11_pack_89 rfl ?_
  refine g_if_eq (tgt := 106) (pc := 91) dX11_pack_91 (by decide) (fun c1 => ?_) (fun c1 => ?_)
  · replace h := (if_pos c1).symm.trans h
    refine g_iconst (pc := 106) dX11_pack_106 ic_m1 ?_
    cases h
    exact g_iret (pc := 107) dX11_pack_107 rfl rfl rfl (Nat.le_refl _) (Nat.le_refl _)
  · replace h := (if_neg c1).symm.trans h
    refine g_aload_n (pc := 94) dX11_pack_94 rfl ?_
    refine g_gR (pc := 95) dX11_pack_95 fR_RX11_82 xc_0 (v := 121) rfl ?_
    refine g_gI (pc := 98) dX11_pack_98 fI_RX11_391 xc_121 (v := (rd u 121 6)) rfl ?_
    refine g_bipush (pc := 101) dX11_pack_101 bp_8 ?_
    refine g_icmp_lt (tgt := 108) (pc := 103) dX11_pack_103 (by decide) (fun c2 => ?_) (fun c2 => ?_)
    · replace h := (if_pos c2).symm.trans h
      refine g_aload_n (pc := 108) dX11_pack_108 rfl ?_
      refine g_gR (pc := 109) dX11_pack_109 fR_RX11_54 xc_0 (v := 74) rfl ?_
      refine g_iload_n (pc := 112) dX11_pack_112 rfl ?_
      refine g_iload_n (pc := 113) dX11_pack_113 rfl ?_
      refine g_aload_n (pc := 114) dX11_pack_114 rfl ?_
      refine g_gR (pc := 115) dX11_pack_115 fR_RX11_19 xc_0 (v := 13) rfl ?_
      refine g_gR (pc := 118) dX11_pack_118 fR_RX11_176 xc_13 (v := 20) rfl ?_
      obtain ⟨u4, e3, h⟩ := x_bind h
      refine g_cV (pc := 121) dX11_pack_121 cV_RX11_273 (M_X6_takeOut (Nat.le_refl _) e3) xc_74 (as := [.int v1, .int v2, .ref 20]) (st := []) rfl rfl (Nat.le_of_ble_eq_true rfl) (Nat.le_trans (Nat.le_of_ble_eq_true rfl) hd) rfl ?_
      refine g_iload (pc := 124) dX11_pack_124 rfl ?_
      refine g_if_le (tgt := 146) (pc := 126) dX11_pack_126 (by decide) (fun c5 => ?_) (fun c5 => ?_)
      · replace h := (if_pos c5).symm.trans h
        refine g_L (L' := [some (.ref 0), some (.int v1), some (.int v2), some (.int v3), some (.int v4), none]) ⟨rfl, ⟨rfl, ⟨rfl, ⟨rfl, ⟨rfl, trivial⟩⟩⟩⟩⟩ ?_
        exact G_X11_pack_146 hd v1 v2 v3 v4 u4 h
      · replace h := (if_neg c5).symm.trans h
        refine g_aload_n (pc := 129) dX11_pack_129 rfl ?_
        refine g_gR (pc := 130) dX11_pack_130 fR_RX11_54 xc_0 (v := 74) rfl ?_
        refine g_iload_n (pc := 133) dX11_pack_133 rfl ?_
        refine g_iload (pc := 134) dX11_pack_134 rfl ?_
        refine g_aload_n (pc := 136) dX11_pack_136 rfl ?_
        refine g_gR (pc := 137) dX11_pack_137 fR_RX11_19 xc_0 (v := 13) rfl ?_
        refine g_gR (pc := 140) dX11_pack_140 fR_RX11_176 xc_13 (v := 20) rfl ?_
        obtain ⟨u7, e6, h⟩ := x_bind h
        refine g_cV (pc := 143) dX11_pack_143 cV_RX11_273 (M_X6_takeOut (Nat.le_refl _) e6) xc_74 (as := [.int v3, .int v4, .ref 20]) (st := []) rfl rfl (Nat.le_of_ble_eq_true rfl) (Nat.le_trans (Nat.le_of_ble_eq_true rfl) hd) rfl ?_
        refine g_L (L' := [some (.ref 0), some (.int v1), some (.int v2), some (.int v3), some (.int v4), none]) ⟨rfl, ⟨rfl, ⟨rfl, ⟨rfl, ⟨rfl, trivial⟩⟩⟩⟩⟩ ?_
        exact G_X11_pack_146 hd v1 v2 v3 v4 u7 h
    · replace h := (if_neg c2).symm.trans h
      refine g_iconst (pc := 106) dX11_pack_106 ic_m1 ?_
      cases h
      exact g_iret (pc := 107) dX11_pack_107 rfl rfl rfl (Nat.le_refl _) (Nat.le_refl _)
set_option maxRecDepth 100000 in
set_option maxHeartbeats 4000000 in
theorem G_X11_pack_82 {sc : Nat × (Nat → Int32)} {d : Nat} (hd : 2 ≤ d) {r : Int32} {u' : xS} (v1 : Int32) (v2 : Int32) (v3 : Int32) (v4 : Int32) (u : xS) (h : f_X11_pack_82 v1 v2 v3 v4 u = some (r, u')) : xG sc mX11_pack d 0 0 (xR (some (.int r)) (xL0, u') 0 0) 0 0 82 [some (.ref 0), some (.int v1), some (.int v2), some (.int v3), some (.int v4), none] [] (xL0, u) := by
  rw [f_X11_pack_82] at h
  refine g_iconst (pc := 82) dX11_pack_82 ic_1 ?_
  refine g_goto (tgt := 87) (pc := 83) dX11_pack_83 (by decide) ?_
  exact G_X11_pack_87 hd v1 v2 v3 v4 (1 : Int32) u h
set_option maxRecDepth 100000 in
set_option maxHeartbeats 4000000 in
theorem G_X11_pack_86 {sc : Nat × (Nat → Int32)} {d : Nat} (hd : 2 ≤ d) {r : Int32} {u' : xS} (v1 : Int32) (v2 : Int32) (v3 : Int32) (v4 : Int32) (u : xS) (h : f_X11_pack_86 v1 v2 v3 v4 u = some (r, u')) : xG sc mX11_pack d 0 0 (xR (some (.int r)) (xL0, u') 0 0) 0 0 86 [some (.ref 0), some (.int v1), some (.int v2), some (.int v3), some (.int v4), none] [] (xL0, u) := by
  rw [f_X11_pack_86] at h
  refine g_iconst (pc := 86) dX11_pack_86 ic_0 ?_
  exact G_X11_pack_87 hd v1 v2 v3 v4 (0 : Int32) u h
set_option maxRecDepth 100000 in
set_option maxHeartbeats 4000000 in
theorem G_X11_pack_0 {sc : Nat × (Nat → Int32)} {d : Nat} (hd : 2 ≤ d) {r : Int32} {u' : xS} (v1 : Int32) (v2 : Int32) (v3 : Int32) (v4 : Int32) (u : xS) (h : f_X11_pack v1 v2 v3 v4 u = some (r, u')) : xG sc mX11_pack d 0 0 (xR (some (.int r)) (xL0, u') 0 0) 0 0 0 [some (.ref 0), some (.int v1), some (.int v2), some (.int v3), some (.int v4), none] [] (xL0, u) := by
  rw [f_X11_pack] at h
  refine g_aload_n (pc := 0) dX11_pack_0 rfl ?_
  refine g_gR (pc := 1) dX11_pack_1 fR_RX11_12 xc_0 (v := 1) rfl ?_
  refine g_iload_n (pc := 4) dX11_pack_4 rfl ?_
  refine g_cV (pc := 5) dX11_pack_5 cV_RX11_98 (M_X8_has (Nat.le_refl _) rfl) xc_1 (as := [.int v1]) (st := []) rfl rfl (Nat.le_of_ble_eq_true rfl) (Nat.le_trans (Nat.le_of_ble_eq_true rfl) hd) rfl ?_
  refine g_if_eq (tgt := 46) (pc := 8) dX11_pack_8 (by decide) (fun c1 => ?_) (fun c1 => ?_)
  · replace h := (if_pos c1).symm.trans h
    refine g_iconst (pc := 46) dX11_pack_46 ic_m1 ?_
    cases h
    exact g_iret (pc := 47) dX11_pack_47 rfl rfl rfl (Nat.le_refl _) (Nat.le_refl _)
  · replace h := (if_neg c1).symm.trans h
    refine g_iload_n (pc := 11) dX11_pack_11 rfl ?_
    refine g_iconst (pc := 12) dX11_pack_12 ic_1 ?_
    refine g_sipush (pc := 13) dX11_pack_13 sp_9999 ?_
    refine g_cS (pc := 16) dX11_pack_16 cS_RX11_94 (M_X11_lies (Nat.le_refl _) rfl) (as := [.int v2, .int (1 : Int32), .int (9999 : Int32)]) (st := []) rfl rfl (Nat.le_of_ble_eq_true rfl) (Nat.le_trans (Nat.le_of_ble_eq_true rfl) hd) rfl ?_
    refine g_if_eq (tgt := 46) (pc := 19) dX11_pack_19 (by decide) (fun c2 => ?_) (fun c2 => ?_)
    · replace h := (if_pos c2).symm.trans h
      refine g_iconst (pc := 46) dX11_pack_46 ic_m1 ?_
      cases h
      exact g_iret (pc := 47) dX11_pack_47 rfl rfl rfl (Nat.le_refl _) (Nat.le_refl _)
    · replace h := (if_neg c2).symm.trans h
      refine g_iload (pc := 22) dX11_pack_22 rfl ?_
      refine g_iconst (pc := 24) dX11_pack_24 ic_0 ?_
      refine g_sipush (pc := 25) dX11_pack_25 sp_9999 ?_
      refine g_cS (pc := 28) dX11_pack_28 cS_RX11_94 (M_X11_lies (Nat.le_refl _) rfl) (as := [.int v4, .int (0 : Int32), .int (9999 : Int32)]) (st := []) rfl rfl (Nat.le_of_ble_eq_true rfl) (Nat.le_trans (Nat.le_of_ble_eq_true rfl) hd) rfl ?_
      refine g_if_eq (tgt := 46) (pc := 31) dX11_pack_31 (by decide) (fun c3 => ?_) (fun c3 => ?_)
      · replace h := (if_pos c3).symm.trans h
        refine g_iconst (pc := 46) dX11_pack_46 ic_m1 ?_
        cases h
        exact g_iret (pc := 47) dX11_pack_47 rfl rfl rfl (Nat.le_refl _) (Nat.le_refl _)
      · replace h := (if_neg c3).symm.trans h
        refine g_aload_n (pc := 34) dX11_pack_34 rfl ?_
        refine g_gR (pc := 35) dX11_pack_35 fR_RX11_54 xc_0 (v := 74) rfl ?_
        refine g_iload_n (pc := 38) dX11_pack_38 rfl ?_
        obtain ⟨x5, e4, h⟩ := x_bind h
        refine g_cV (pc := 39) dX11_pack_39 cV_RX11_263 (M_X6_ofSort (Nat.le_refl _) e4) xc_74 (as := [.int v1]) (st := []) rfl rfl (Nat.le_of_ble_eq_true rfl) (Nat.le_trans (Nat.le_of_ble_eq_true rfl) hd) rfl ?_
        refine g_iload_n (pc := 42) dX11_pack_42 rfl ?_
        refine g_icmp_ge (tgt := 48) (pc := 43) dX11_pack_43 (by decide) (fun c6 => ?_) (fun c6 => ?_)
        · replace h := (if_pos c6).symm.trans h
          refine g_iload (pc := 48) dX11_pack_48 rfl ?_
          refine g_if_eq (tgt := 82) (pc := 50) dX11_pack_50 (by decide) (fun c7 => ?_) (fun c7 => ?_)
          · replace h := (if_pos c7).symm.trans h
            exact G_X11_pack_82 hd v1 v2 v3 v4 u h
          · replace h := (if_neg c7).symm.trans h
            refine g_aload_n (pc := 53) dX11_pack_53 rfl ?_
            refine g_gR (pc := 54) dX11_pack_54 fR_RX11_12 xc_0 (v := 1) rfl ?_
            refine g_iload_n (pc := 57) dX11_pack_57 rfl ?_
            refine g_cV (pc := 58) dX11_pack_58 cV_RX11_98 (M_X8_has (Nat.le_refl _) rfl) xc_1 (as := [.int v3]) (st := []) rfl rfl (Nat.le_of_ble_eq_true rfl) (Nat.le_trans (Nat.le_of_ble_eq_true rfl) hd) rfl ?_
            refine g_if_eq (tgt := 86) (pc := 61) dX11_pack_61 (by decide) (fun c8 => ?_) (fun c8 => ?_)
            · replace h := (if_pos c8).symm.trans h
              exact G_X11_pack_86 hd v1 v2 v3 v4 u h
            · replace h := (if_neg c8).symm.trans h
              refine g_iload_n (pc := 64) dX11_pack_64 rfl ?_
              refine g_iload_n (pc := 65) dX11_pack_65 rfl ?_
              refine g_icmp_eq (tgt := 86) (pc := 66) dX11_pack_66 (by decide) (fun c9 => ?_) (fun c9 => ?_)
              · replace h := (if_pos c9).symm.trans h
                exact G_X11_pack_86 hd v1 v2 v3 v4 u h
              · replace h := (if_neg c9).symm.trans h
                refine g_aload_n (pc := 69) dX11_pack_69 rfl ?_
                refine g_gR (pc := 70) dX11_pack_70 fR_RX11_54 xc_0 (v := 74) rfl ?_
                refine g_iload_n (pc := 73) dX11_pack_73 rfl ?_
                obtain ⟨x11, e10, h⟩ := x_bind h
                refine g_cV (pc := 74) dX11_pack_74 cV_RX11_263 (M_X6_ofSort (Nat.le_refl _) e10) xc_74 (as := [.int v3]) (st := []) rfl rfl (Nat.le_of_ble_eq_true rfl) (Nat.le_trans (Nat.le_of_ble_eq_true rfl) hd) rfl ?_
                refine g_iload (pc := 77) dX11_pack_77 rfl ?_
                refine g_icmp_lt (tgt := 86) (pc := 79) dX11_pack_79 (by decide) (fun c12 => ?_) (fun c12 => ?_)
                · replace h := (if_pos c12).symm.trans h
                  exact G_X11_pack_86 hd v1 v2 v3 v4 u h
                · replace h := (if_neg c12).symm.trans h
                  exact G_X11_pack_82 hd v1 v2 v3 v4 u h
        · replace h := (if_neg c6).symm.trans h
          refine g_iconst (pc := 46) dX11_pack_46 ic_m1 ?_
          cases h
          exact g_iret (pc := 47) dX11_pack_47 rfl rfl rfl (Nat.le_refl _) (Nat.le_refl _)
set_option maxRecDepth 100000 in
set_option maxHeartbeats 4000000 in
theorem M_X11_pack {sc : Nat × (Nat → Int32)} {d : Nat} (hd : 2 ≤ d) {r : Int32} {u u' : xS} {a1 : Int32} {a2 : Int32} {a3 : Int32} {a4 : Int32} (h : f_X11_pack a1 a2 a3 a4 u = some (r, u')) : xMt sc mX11_pack d 0 0 [.ref 0, .int a1, .int a2, .int a3, .int a4] (xL0, u) (some (.int r)) (xL0, u') :=
  xMt.of (by decide +kernel) (Nat.le_of_ble_eq_true rfl) (L := [some (.ref 0), some (.int a1), some (.int a2), some (.int a3), some (.int a4), none]) rfl ((G_X11_pack_0 hd a1 a2 a3 a4 u h))
set_option maxRecDepth 100000 in
set_option maxHeartbeats 4000000 in
theorem G_X11_part_0 {sc : Nat × (Nat → Int32)} {d : Nat} (hd : 1 ≤ d) {r : Int32} {u' : xS} (v1 : Int32) (v2 : Int32) (u : xS) (h : f_X11_part v1 v2 u = some (r, u')) : xG sc mX11_part d 0 0 (xR (some (.int r)) (xL0, u') 0 0) 0 0 0 [some (.ref 0), some (.int v1), some (.int v2)] [] (xL0, u) := by
  rw [f_X11_part] at h
  refine g_aload_n (pc := 0) dX11_part_0 rfl ?_
  refine g_gR (pc := 1) dX11_part_1 fR_RX11_12 xc_0 (v := 1) rfl ?_
  refine g_iload_n (pc := 4) dX11_part_4 rfl ?_
  refine g_cV (pc := 5) dX11_part_5 cV_RX11_98 (M_X8_has (Nat.le_refl _) rfl) xc_1 (as := [.int v1]) (st := []) rfl rfl (Nat.le_of_ble_eq_true rfl) (Nat.le_trans (Nat.le_of_ble_eq_true rfl) hd) rfl ?_
  refine g_if_eq (tgt := 21) (pc := 8) dX11_part_8 (by decide) (fun c1 => ?_) (fun c1 => ?_)
  · replace h := (if_pos c1).symm.trans h
    refine g_iconst (pc := 21) dX11_part_21 ic_m1 ?_
    cases h
    exact g_iret (pc := 22) dX11_part_22 rfl rfl rfl (Nat.le_refl _) (Nat.le_refl _)
  · replace h := (if_neg c1).symm.trans h
    refine g_iload_n (pc := 11) dX11_part_11 rfl ?_
    refine g_iconst (pc := 12) dX11_part_12 ic_0 ?_
    refine g_bipush (pc := 13) dX11_part_13 bp_12 ?_
    refine g_cS (pc := 15) dX11_part_15 cS_RX11_94 (M_X11_lies (Nat.le_refl _) rfl) (as := [.int v2, .int (0 : Int32), .int (12 : Int32)]) (st := []) rfl rfl (Nat.le_of_ble_eq_true rfl) (Nat.le_trans (Nat.le_of_ble_eq_true rfl) hd) rfl ?_
    refine g_if_ne (tgt := 23) (pc := 18) dX11_part_18 (by decide) (fun c2 => ?_) (fun c2 => ?_)
    · replace h := (if_neg c2).symm.trans h
      refine g_aload_n (pc := 23) dX11_part_23 rfl ?_
      refine g_gR (pc := 24) dX11_part_24 fR_RX11_61 xc_0 (v := 79) rfl ?_
      refine g_gR (pc := 27) dX11_part_27 fR_RX11_286 xc_79 (v := 80) rfl ?_
      refine g_iload_n (pc := 30) dX11_part_30 rfl ?_
      refine g_iload_n (pc := 31) dX11_part_31 rfl ?_
      obtain ⟨g3, h⟩ := x_gd h
      refine g_iastore (pc := 32) dX11_part_32 xc_80 (xin_of g3) (u' := (wr u 80 v1.toNatClampNeg v2)) rfl ?_
      refine g_aload_n (pc := 33) dX11_part_33 rfl ?_
      refine g_gR (pc := 34) dX11_part_34 fR_RX11_61 xc_0 (v := 79) rfl ?_
      obtain ⟨x5, e4, h⟩ := x_bind h
      refine g_cV (pc := 37) dX11_part_37 cV_RX11_289 (M_X1_inAll (Nat.le_refl _) e4) xc_79 (as := []) (st := []) rfl rfl (Nat.le_of_ble_eq_true rfl) (Nat.le_trans (Nat.le_of_ble_eq_true rfl) hd) rfl ?_
      cases h
      exact g_iret (pc := 40) dX11_part_40 rfl rfl rfl (Nat.le_refl _) (Nat.le_refl _)
    · replace h := (if_pos c2).symm.trans h
      refine g_iconst (pc := 21) dX11_part_21 ic_m1 ?_
      cases h
      exact g_iret (pc := 22) dX11_part_22 rfl rfl rfl (Nat.le_refl _) (Nat.le_refl _)
set_option maxRecDepth 100000 in
set_option maxHeartbeats 4000000 in
theorem M_X11_part {sc : Nat × (Nat → Int32)} {d : Nat} (hd : 1 ≤ d) {r : Int32} {u u' : xS} {a1 : Int32} {a2 : Int32} (h : f_X11_part a1 a2 u = some (r, u')) : xMt sc mX11_part d 0 0 [.ref 0, .int a1, .int a2] (xL0, u) (some (.int r)) (xL0, u') :=
  xMt.of (by decide +kernel) (Nat.le_of_ble_eq_true rfl) (L := [some (.ref 0), some (.int a1), some (.int a2)]) rfl ((G_X11_part_0 hd a1 a2 u h))
