set_option maxRecDepth 100000 in
set_option maxHeartbeats 4000000 in
theorem G_X12_bale_0 {sc : Nat × (Nat → Int32)} {d : Nat} (hd : 1 ≤ d) {r : Int32} {u' : xS} (v1 : Int32) (v2 : Int32) (v3 : Int32) (v4 : Int32) (u : xS) (h : f_X12_bale v1 v2 v3 v4 u = some (r, u')) : xG sc mX12_bale d 0 0 (xR (some (.int r)) (xL0, u') 0 0) 0 0 0 [some (.ref 135), some (.int v1), some (.int v2), some (.int v3), some (.int v4)] [] (xL0, u) := by
  rw [f_X12_bale] at h
  refine g_aload_n (pc := 0) dX12_bale_0 rfl ?_
  refine g_iconst (pc := 1) dX12_bale_1 ic_0 ?_
  refine g_pI (pc := 2) dX12_bale_2 pI_RX12_150 xc_135 (u' := (wr u 135 0 (0 : Int32))) rfl ?_
  refine g_iload_n (pc := 5) dX12_bale_5 rfl ?_
  refine g_i2l (pc := 6) dX12_bale_6 rfl ?_
  refine g_lconst (v := (0 : Int64)) (pc := 7) dX12_bale_7 rfl ?_
  refine g_ldc2 (pc := 8) dX12_bale_8 kl_RX12_197 ?_
  refine g_cS (pc := 11) dX12_bale_11 cS_RX12_156 (M_X12_in (Nat.le_refl _) rfl) (as := [.long ((v1).toInt64), .long (0 : Int64), .long (3 : Int64)]) (st := []) rfl rfl (Nat.le_of_ble_eq_true rfl) (Nat.le_trans (Nat.le_of_ble_eq_true rfl) hd) rfl ?_
  refine g_if_eq (tgt := 63) (pc := 14) dX12_bale_14 (by decide) (fun c1 => ?_) (fun c1 => ?_)
  · replace h := (if_pos c1).symm.trans h
    refine g_iconst (pc := 63) dX12_bale_63 ic_m1 ?_
    obtain ⟨h1, h2⟩ := x_inj2 h
    subst h1
    subst h2
    exact g_iret (pc := 64) dX12_bale_64 rfl rfl rfl (Nat.le_refl _) (Nat.le_refl _)
  · replace h := (if_neg c1).symm.trans h
    refine g_iload_n (pc := 17) dX12_bale_17 rfl ?_
    refine g_i2l (pc := 18) dX12_bale_18 rfl ?_
    refine g_lconst (v := (0 : Int64)) (pc := 19) dX12_bale_19 rfl ?_
    refine g_ldc2 (pc := 20) dX12_bale_20 kl_RX12_199 ?_
    refine g_cS (pc := 23) dX12_bale_23 cS_RX12_156 (M_X12_in (Nat.le_refl _) rfl) (as := [.long ((v2).toInt64), .long (0 : Int64), .long (7 : Int64)]) (st := []) rfl rfl (Nat.le_of_ble_eq_true rfl) (Nat.le_trans (Nat.le_of_ble_eq_true rfl) hd) rfl ?_
    refine g_if_eq (tgt := 63) (pc := 26) dX12_bale_26 (by decide) (fun c2 => ?_) (fun c2 => ?_)
    · replace h := (if_pos c2).symm.trans h
      refine g_iconst (pc := 63) dX12_bale_63 ic_m1 ?_
      obtain ⟨h1, h2⟩ := x_inj2 h
      subst h1
      subst h2
      exact g_iret (pc := 64) dX12_bale_64 rfl rfl rfl (Nat.le_refl _) (Nat.le_refl _)
    · replace h := (if_neg c2).symm.trans h
      refine g_iload_n (pc := 29) dX12_bale_29 rfl ?_
      refine g_i2l (pc := 30) dX12_bale_30 rfl ?_
      refine g_lconst (v := (1 : Int64)) (pc := 31) dX12_bale_31 rfl ?_
      refine g_ldc2 (pc := 32) dX12_bale_32 kl_RX12_201 ?_
      refine g_cS (pc := 35) dX12_bale_35 cS_RX12_156 (M_X12_in (Nat.le_refl _) rfl) (as := [.long ((v3).toInt64), .long (1 : Int64), .long (9999 : Int64)]) (st := []) rfl rfl (Nat.le_of_ble_eq_true rfl) (Nat.le_trans (Nat.le_of_ble_eq_true rfl) hd) rfl ?_
      refine g_if_eq (tgt := 63) (pc := 38) dX12_bale_38 (by decide) (fun c3 => ?_) (fun c3 => ?_)
      · replace h := (if_pos c3).symm.trans h
        refine g_iconst (pc := 63) dX12_bale_63 ic_m1 ?_
        obtain ⟨h1, h2⟩ := x_inj2 h
        subst h1
        subst h2
        exact g_iret (pc := 64) dX12_bale_64 rfl rfl rfl (Nat.le_refl _) (Nat.le_refl _)
      · replace h := (if_neg c3).symm.trans h
        refine g_iload (pc := 41) dX12_bale_41 rfl ?_
        refine g_i2l (pc := 43) dX12_bale_43 rfl ?_
        refine g_lconst (v := (0 : Int64)) (pc := 44) dX12_bale_44 rfl ?_
        refine g_ldc2 (pc := 45) dX12_bale_45 kl_RX12_173 ?_
        refine g_cS (pc := 48) dX12_bale_48 cS_RX12_156 (M_X12_in (Nat.le_refl _) rfl) (as := [.long ((v4).toInt64), .long (0 : Int64), .long (999 : Int64)]) (st := []) rfl rfl (Nat.le_of_ble_eq_true rfl) (Nat.le_trans (Nat.le_of_ble_eq_true rfl) hd) rfl ?_
        refine g_if_eq (tgt := 63) (pc := 51) dX12_bale_51 (by decide) (fun c4 => ?_) (fun c4 => ?_)
        · replace h := (if_pos c4).symm.trans h
          refine g_iconst (pc := 63) dX12_bale_63 ic_m1 ?_
          obtain ⟨h1, h2⟩ := x_inj2 h
          subst h1
          subst h2
          exact g_iret (pc := 64) dX12_bale_64 rfl rfl rfl (Nat.le_refl _) (Nat.le_refl _)
        · replace h := (if_neg c4).symm.trans h
          refine g_aload_n (pc := 54) dX12_bale_54 rfl ?_
          refine g_gI (pc := 55) dX12_bale_55 fI_RX12_194 xc_135 (v := (rd u 135 7)) rfl ?_
          refine g_bipush (pc := 58) dX12_bale_58 bp_24 ?_
          refine g_icmp_ne (tgt := 65) (pc := 60) dX12_bale_60 (by decide) (fun c5 => ?_) (fun c5 => ?_)
          · replace h := (if_neg c5).symm.trans h
            refine g_aload_n (pc := 65) dX12_bale_65 rfl ?_
            refine g_gR (pc := 66) dX12_bale_66 fR_RX12_22 xc_135 (v := 140) rfl ?_
            refine g_aload_n (pc := 69) dX12_bale_69 rfl ?_
            refine g_gI (pc := 70) dX12_bale_70 fI_RX12_194 xc_135 (v := (rd u 135 7)) rfl ?_
            refine g_iload_n (pc := 73) dX12_bale_73 rfl ?_
            obtain ⟨g6, h⟩ := x_gd h
            refine g_iastore (pc := 74) dX12_bale_74 xc_140 (xin_of g6) (u' := (wr (wr u 135 0 (0 : Int32)) 140 (rd u 135 7).toNatClampNeg v1)) rfl ?_
            refine g_aload_n (pc := 75) dX12_bale_75 rfl ?_
            refine g_gR (pc := 76) dX12_bale_76 fR_RX12_25 xc_135 (v := 141) rfl ?_
            refine g_aload_n (pc := 79) dX12_bale_79 rfl ?_
            refine g_gI (pc := 80) dX12_bale_80 fI_RX12_194 xc_135 (v := (rd u 135 7)) rfl ?_
            refine g_iload_n (pc := 83) dX12_bale_83 rfl ?_
            refine g_iastore (pc := 84) dX12_bale_84 xc_141 (xin_of g6) (u' := (wr (wr (wr u 135 0 (0 : Int32)) 140 (rd u 135 7).toNatClampNeg v1) 141 (rd u 135 7).toNatClampNeg v2)) rfl ?_
            refine g_aload_n (pc := 85) dX12_bale_85 rfl ?_
            refine g_gR (pc := 86) dX12_bale_86 fR_RX12_28 xc_135 (v := 142) rfl ?_
            refine g_aload_n (pc := 89) dX12_bale_89 rfl ?_
            refine g_gI (pc := 90) dX12_bale_90 fI_RX12_194 xc_135 (v := (rd u 135 7)) rfl ?_
            refine g_iload_n (pc := 93) dX12_bale_93 rfl ?_
            refine g_iastore (pc := 94) dX12_bale_94 xc_142 (xin_of g6) (u' := (wr (wr (wr (wr u 135 0 (0 : Int32)) 140 (rd u 135 7).toNatClampNeg v1) 141 (rd u 135 7).toNatClampNeg v2) 142 (rd u 135 7).toNatClampNeg v3)) rfl ?_
            refine g_aload_n (pc := 95) dX12_bale_95 rfl ?_
            refine g_gR (pc := 96) dX12_bale_96 fR_RX12_31 xc_135 (v := 143) rfl ?_
            refine g_aload_n (pc := 99) dX12_bale_99 rfl ?_
            refine g_gI (pc := 100) dX12_bale_100 fI_RX12_194 xc_135 (v := (rd u 135 7)) rfl ?_
            refine g_iload (pc := 103) dX12_bale_103 rfl ?_
            refine g_iastore (pc := 105) dX12_bale_105 xc_143 (xin_of g6) (u' := (wr (wr (wr (wr (wr u 135 0 (0 : Int32)) 140 (rd u 135 7).toNatClampNeg v1) 141 (rd u 135 7).toNatClampNeg v2) 142 (rd u 135 7).toNatClampNeg v3) 143 (rd u 135 7).toNatClampNeg v4)) rfl ?_
            refine g_aload_n (pc := 106) dX12_bale_106 rfl ?_
            refine g_gR (pc := 107) dX12_bale_107 fR_RX12_34 xc_135 (v := 144) rfl ?_
            refine g_aload_n (pc := 110) dX12_bale_110 rfl ?_
            refine g_gI (pc := 111) dX12_bale_111 fI_RX12_194 xc_135 (v := (rd u 135 7)) rfl ?_
            refine g_iconst (pc := 114) dX12_bale_114 ic_m1 ?_
            refine g_iastore (pc := 115) dX12_bale_115 xc_144 (xin_of g6) (u' := (wr (wr (wr (wr (wr (wr u 135 0 (0 : Int32)) 140 (rd u 135 7).toNatClampNeg v1) 141 (rd u 135 7).toNatClampNeg v2) 142 (rd u 135 7).toNatClampNeg v3) 143 (rd u 135 7).toNatClampNeg v4) 144 (rd u 135 7).toNatClampNeg (-1 : Int32))) rfl ?_
            refine g_aload_n (pc := 116) dX12_bale_116 rfl ?_
            refine g_dup (pc := 117) dX12_bale_117 rfl ?_
            refine g_gI (pc := 118) dX12_bale_118 fI_RX12_194 xc_135 (v := (rd u 135 7)) rfl ?_
            refine g_iconst (pc := 121) dX12_bale_121 ic_1 ?_
            refine g_iadd (pc := 122) dX12_bale_122 rfl ?_
            refine g_pI (pc := 123) dX12_bale_123 pI_RX12_194 xc_135 (u' := (wr (wr (wr (wr (wr (wr (wr u 135 0 (0 : Int32)) 140 (rd u 135 7).toNatClampNeg v1) 141 (rd u 135 7).toNatClampNeg v2) 142 (rd u 135 7).toNatClampNeg v3) 143 (rd u 135 7).toNatClampNeg v4) 144 (rd u 135 7).toNatClampNeg (-1 : Int32)) 135 7 ((rd u 135 7) + (1 : Int32)))) rfl ?_
            refine g_aload_n (pc := 126) dX12_bale_126 rfl ?_
            refine g_gI (pc := 127) dX12_bale_127 fI_RX12_194 xc_135 (v := ((rd u 135 7) + (1 : Int32))) rfl ?_
            refine g_iconst (pc := 130) dX12_bale_130 ic_1 ?_
            refine g_isub (pc := 131) dX12_bale_131 rfl ?_
            obtain ⟨h1, h2⟩ := x_inj2 h
            subst h1
            subst h2
            exact g_iret (pc := 132) dX12_bale_132 rfl rfl rfl (Nat.le_refl _) (Nat.le_refl _)
          · replace h := (if_pos c5).symm.trans h
            refine g_iconst (pc := 63) dX12_bale_63 ic_m1 ?_
            obtain ⟨h1, h2⟩ := x_inj2 h
            subst h1
            subst h2
            exact g_iret (pc := 64) dX12_bale_64 rfl rfl rfl (Nat.le_refl _) (Nat.le_refl _)
set_option maxRecDepth 100000 in
set_option maxHeartbeats 4000000 in
theorem M_X12_bale {sc : Nat × (Nat → Int32)} {d : Nat} (hd : 1 ≤ d) {r : Int32} {u u' : xS} {a1 : Int32} {a2 : Int32} {a3 : Int32} {a4 : Int32} (h : f_X12_bale a1 a2 a3 a4 u = some (r, u')) : xMt sc mX12_bale d 0 0 [.ref 135, .int a1, .int a2, .int a3, .int a4] (xL0, u) (some (.int r)) (xL0, u') :=
  xMt.of (by decide +kernel) (by decide +kernel) (Nat.le_of_ble_eq_true rfl) (L := [some (.ref 135), some (.int a1), some (.int a2), some (.int a3), some (.int a4)]) rfl ((G_X12_bale_0 hd a1 a2 a3 a4 u h))
set_option maxRecDepth 100000 in
set_option maxHeartbeats 4000000 in
theorem G_X12_blended_4 {sc : Nat × (Nat → Int32)} {d : Nat} (hd : 0 ≤ d) {r : Int32} {u : xS} : ∀ (n : Nat) (v1 : Int32) (v2 : Int32) (v3 : Int32), f_X12_blended_4 u n v1 v2 v3 = some r → xG sc mX12_blended d 0 0 (xR (some (.int r)) (xL0, u) 0 0) 0 0 4 [some (.ref 135), some (.int v1), some (.int v2), some (.int v3)] [] (xL0, u) := by
  intro n
  induction n with
  | zero =>
    intro v1 v2 v3 h
    rw [f_X12_blended_4] at h
    cases h
  | succ n ih =>
    intro v1 v2 v3 h
    rw [f_X12_blended_4] at h
    refine g_iload_n (pc := 4) dX12_blended_4 rfl ?_
    refine g_aload_n (pc := 5) dX12_blended_5 rfl ?_
    refine g_gI (pc := 6) dX12_blended_6 fI_RX12_153 xc_135 (v := (rd u 135 1)) rfl ?_
    refine g_icmp_ge (tgt := 39) (pc := 9) dX12_blended_9 (by decide) (fun c1 => ?_) (fun c1 => ?_)
    · replace h := (if_pos c1).symm.trans h
      refine g_iload_n (pc := 39) dX12_blended_39 rfl ?_
      refine g_bipush (pc := 40) dX12_blended_40 bp_12 ?_
      refine g_idiv (pc := 42) dX12_blended_42 (by decide) rfl ?_
      replace h := Option.some.inj h
      subst h
      exact g_iret (pc := 43) dX12_blended_43 rfl rfl rfl (Nat.le_refl _) (Nat.le_refl _)
    · replace h := (if_neg c1).symm.trans h
      refine g_iload_n (pc := 12) dX12_blended_12 rfl ?_
      refine g_aload_n (pc := 13) dX12_blended_13 rfl ?_
      refine g_gR (pc := 14) dX12_blended_14 fR_RX12_87 xc_135 (v := 160) rfl ?_
      refine g_iload_n (pc := 17) dX12_blended_17 rfl ?_
      obtain ⟨g2, h⟩ := x_gd h
      refine g_iaload (pc := 18) dX12_blended_18 xc_160 (xin_of g2) (v := (rd u 160 v3.toNatClampNeg)) rfl ?_
      refine g_aload_n (pc := 19) dX12_blended_19 rfl ?_
      refine g_gR (pc := 20) dX12_blended_20 fR_RX12_9 xc_135 (v := 136) rfl ?_
      refine g_bipush (pc := 23) dX12_blended_23 bp_7 ?_
      refine g_iload_n (pc := 25) dX12_blended_25 rfl ?_
      refine g_imul (pc := 26) dX12_blended_26 rfl ?_
      refine g_iload_n (pc := 27) dX12_blended_27 rfl ?_
      refine g_iadd (pc := 28) dX12_blended_28 rfl ?_
      obtain ⟨g3, h⟩ := x_gd h
      refine g_iaload (pc := 29) dX12_blended_29 xc_136 (xin_of g3) (v := (rd u 136 (((7 : Int32) * v3) + v1).toNatClampNeg)) rfl ?_
      refine g_imul (pc := 30) dX12_blended_30 rfl ?_
      refine g_iadd (pc := 31) dX12_blended_31 rfl ?_
      refine g_istore_n (pc := 32) dX12_blended_32 (Nat.le_of_ble_eq_true rfl) (L' := [some (.ref 135), some (.int v1), some (.int (v2 + ((rd u 160 v3.toNatClampNeg) * (rd u 136 (((7 : Int32) * v3) + v1).toNatClampNeg)))), some (.int v3)]) rfl ?_
      refine g_inc (pc := 33) dX12_blended_33 (Nat.le_of_ble_eq_true rfl) rfl ic_1 (L' := [some (.ref 135), some (.int v1), some (.int (v2 + ((rd u 160 v3.toNatClampNeg) * (rd u 136 (((7 : Int32) * v3) + v1).toNatClampNeg)))), some (.int (v3 + (1 : Int32)))]) rfl ?_
      refine g_goto (tgt := 4) (pc := 36) dX12_blended_36 (by decide) ?_
      exact ih v1 (v2 + ((rd u 160 v3.toNatClampNeg) * (rd u 136 (((7 : Int32) * v3) + v1).toNatClampNeg))) (v3 + (1 : Int32)) h
set_option maxRecDepth 100000 in
set_option maxHeartbeats 4000000 in
theorem G_X12_blended_0 {sc : Nat × (Nat → Int32)} {d : Nat} (hd : 0 ≤ d) {r : Int32} {u : xS} (v1 : Int32) (h : f_X12_blended u v1 = some r) : xG sc mX12_blended d 0 0 (xR (some (.int r)) (xL0, u) 0 0) 0 0 0 [some (.ref 135), some (.int v1), none, none] [] (xL0, u) := by
  rw [f_X12_blended] at h
  refine g_iconst (pc := 0) dX12_blended_0 ic_0 ?_
  refine g_istore_n (pc := 1) dX12_blended_1 (Nat.le_of_ble_eq_true rfl) (L' := [some (.ref 135), some (.int v1), some (.int (0 : Int32)), none]) rfl ?_
  refine g_iconst (pc := 2) dX12_blended_2 ic_0 ?_
  refine g_istore_n (pc := 3) dX12_blended_3 (Nat.le_of_ble_eq_true rfl) (L' := [some (.ref 135), some (.int v1), some (.int (0 : Int32)), some (.int (0 : Int32))]) rfl ?_
  exact G_X12_blended_4 hd xN v1 (0 : Int32) (0 : Int32) h
set_option maxRecDepth 100000 in
set_option maxHeartbeats 4000000 in
theorem M_X12_blended {sc : Nat × (Nat → Int32)} {d : Nat} (hd : 0 ≤ d) {r : Int32} {u : xS} {a1 : Int32} (h : f_X12_blended u a1 = some r) : xMt sc mX12_blended d 0 0 [.ref 135, .int a1] (xL0, u) (some (.int r)) (xL0, u) :=
  xMt.of (by decide +kernel) (by decide +kernel) (Nat.le_of_ble_eq_true rfl) (L := [some (.ref 135), some (.int a1), none, none]) rfl ((G_X12_blended_0 hd a1 h))
theorem zb_X12_isSorter (v0 : Int32) : f_X12_isSorter v0 = 0 ∨ f_X12_isSorter v0 = 1 := by
  unfold f_X12_isSorter
  repeat' first | exact Or.inl rfl | exact Or.inr rfl | exact zb_X12_in _ _ _ | apply x_ite
set_option maxRecDepth 100000 in
set_option maxHeartbeats 4000000 in
theorem G_X12_isSorter_0 {sc : Nat × (Nat → Int32)} {d : Nat} (hd : 1 ≤ d) {r : Int32} {u : xS} (v0 : Int32) (h : f_X12_isSorter v0 = r) : xG sc mX12_isSorter d 0 0 (xR (some (.int r)) (xL0, u) 0 0) 0 0 0 [some (.int v0)] [] (xL0, u) := by
  rw [f_X12_isSorter] at h
  refine g_iload_n (pc := 0) dX12_isSorter_0 rfl ?_
  refine g_i2l (pc := 1) dX12_isSorter_1 rfl ?_
  refine g_lconst (v := (0 : Int64)) (pc := 2) dX12_isSorter_2 rfl ?_
  refine g_ldc2 (pc := 3) dX12_isSorter_3 kl_RX12_203 ?_
  refine g_cS (pc := 6) dX12_isSorter_6 cS_RX12_156 (M_X12_in (Nat.le_refl _) rfl) (as := [.long ((v0).toInt64), .long (0 : Int64), .long (5 : Int64)]) (st := []) rfl rfl (Nat.le_of_ble_eq_true rfl) (Nat.le_trans (Nat.le_of_ble_eq_true rfl) hd) rfl ?_
  subst h
  exact g_zret (pc := 9) dX12_isSorter_9 rfl (zb_X12_in _ _ _) rfl rfl (Nat.le_refl _) (Nat.le_refl _)
set_option maxRecDepth 100000 in
set_option maxHeartbeats 4000000 in
theorem M_X12_isSorter {sc : Nat × (Nat → Int32)} {d : Nat} (hd : 1 ≤ d) {r : Int32} {u : xS} {a0 : Int32} (h : f_X12_isSorter a0 = r) : xMt sc mX12_isSorter d 0 0 [.int a0] (xL0, u) (some (.int r)) (xL0, u) :=
  xMt.of (by decide +kernel) (by decide +kernel) (Nat.le_of_ble_eq_true rfl) (L := [some (.int a0)]) rfl ((G_X12_isSorter_0 hd a0 h))
set_option maxRecDepth 100000 in
set_option maxHeartbeats 4000000 in
theorem G_X12_called_164 {sc : Nat × (Nat → Int32)} {d : Nat} (hd : 2 ≤ d) {r : Int32} {u' : xS} {k30 : Int32 → Int32 → Int32 → Int32 → Int32 → xS → Option (Int32 × xS)} (hk30 : ∀ (v1 : Int32) (v2 : Int32) (v3 : Int32) (v4 : Int32) (v5 : Int32) (u : xS), k30 v1 v2 v3 v4 v5 u = some (r, u') → xG sc mX12_called d 0 0 (xR (some (.int r)) (xL0, u') 0 0) 0 0 30 [some (.ref 135), some (.int v1), some (.int v2), some (.int v3), some (.int v4), some (.int v5), none, none] [] (xL0, u)) (v1 : Int32) (v2 : Int32) (v3 : Int32) (v4 : Int32) (v5 : Int32) (u : xS) (h : f_X12_called_164 k30 v1 v2 v3 v4 v5 u = some (r, u')) : xG sc mX12_called d 0 0 (xR (some (.int r)) (xL0, u') 0 0) 0 0 164 [some (.ref 135), some (.int v1), some (.int v2), some (.int v3), some (.int v4), some (.int v5), none, none] [] (xL0, u) := by
  rw [f_X12_called_164] at h
  refine g_inc (pc := 164) dX12_called_164 (Nat.le_of_ble_eq_true rfl) rfl ic_1 (L' := [some (.ref 135), some (.int v1), some (.int v2), some (.int v3), some (.int v4), some (.int (v5 + (1 : Int32))), none, none]) rfl ?_
  refine g_goto (tgt := 30) (pc := 167) dX12_called_167 (by decide) ?_
  exact hk30 v1 v2 v3 v4 (v5 + (1 : Int32)) u h
set_option maxRecDepth 100000 in
set_option maxHeartbeats 4000000 in
theorem G_X12_called_137 {sc : Nat × (Nat → Int32)} {d : Nat} (hd : 2 ≤ d) {r : Int32} {u' : xS} {k45 : Int32 → Int32 → Int32 → Int32 → Int32 → Int32 → Int32 → xS → Option (Int32 × xS)} (hk45 : ∀ (v1 : Int32) (v2 : Int32) (v3 : Int32) (v4 : Int32) (v5 : Int32) (v6 : Int32) (v7 : Int32) (u : xS), k45 v1 v2 v3 v4 v5 v6 v7 u = some (r, u') → xG sc mX12_called d 0 0 (xR (some (.int r)) (xL0, u') 0 0) 0 0 45 [some (.ref 135), some (.int v1), some (.int v2), some (.int v3), some (.int v4), some (.int v5), some (.int v6), some (.int v7)] [] (xL0, u)) {k30 : Int32 → Int32 → Int32 → Int32 → Int32 → xS → Option (Int32 × xS)} (hk30 : ∀ (v1 : Int32) (v2 : Int32) (v3 : Int32) (v4 : Int32) (v5 : Int32) (u : xS), k30 v1 v2 v3 v4 v5 u = some (r, u') → xG sc mX12_called d 0 0 (xR (some (.int r)) (xL0, u') 0 0) 0 0 30 [some (.ref 135), some (.int v1), some (.int v2), some (.int v3), some (.int v4), some (.int v5), none, none] [] (xL0, u)) (v1 : Int32) (v2 : Int32) (v3 : Int32) (v4 : Int32) (v5 : Int32) (v7 : Int32) (s0 : Int32) (s1 : Int32) (s2 : Int32) (u : xS) (h : f_X12_called_137 k45 k30 v1 v2 v3 v4 v5 v7 s0 s1 s2 u = some (r, u')) : xG sc mX12_called d 0 0 (xR (some (.int r)) (xL0, u') 0 0) 0 0 137 [some (.ref 135), some (.int v1), some (.int v2), some (.int v3), some (.int v4), some (.int v5), none, some (.int v7)] [.int s2, .int s1, .int s0] (xL0, u) := by
  rw [f_X12_called_137] at h
  refine g_cS (pc := 137) dX12_called_137 cS_RX12_190 (M_X12_truth (Nat.le_refl _) rfl) (as := [.int s2]) (st := [.int s1, .int s0]) rfl rfl (Nat.le_of_ble_eq_true rfl) (Nat.le_trans (Nat.le_of_ble_eq_true rfl) hd) rfl ?_
  refine g_iadd (pc := 140) dX12_called_140 rfl ?_
  refine g_iadd (pc := 141) dX12_called_141 rfl ?_
  refine g_istore (pc := 142) dX12_called_142 (Nat.le_of_ble_eq_true rfl) (L' := [some (.ref 135), some (.int v1), some (.int v2), some (.int v3), some (.int v4), some (.int v5), some (.int (s0 + (s1 + (f_X12_truth s2)))), some (.int v7)]) rfl ?_
  refine g_inc (pc := 144) dX12_called_144 (Nat.le_of_ble_eq_true rfl) rfl ic_1 (L' := [some (.ref 135), some (.int v1), some (.int v2), some (.int v3), some (.int v4), some (.int v5), some (.int (s0 + (s1 + (f_X12_truth s2)))), some (.int (v7 + (1 : Int32)))]) rfl ?_
  refine g_goto (tgt := 45) (pc := 147) dX12_called_147 (by decide) ?_
  exact hk45 v1 v2 v3 v4 v5 (s0 + (s1 + (f_X12_truth s2))) (v7 + (1 : Int32)) u h
set_option maxRecDepth 100000 in
set_option maxHeartbeats 4000000 in
theorem G_X12_called_136 {sc : Nat × (Nat → Int32)} {d : Nat} (hd : 2 ≤ d) {r : Int32} {u' : xS} {k45 : Int32 → Int32 → Int32 → Int32 → Int32 → Int32 → Int32 → xS → Option (Int32 × xS)} (hk45 : ∀ (v1 : Int32) (v2 : Int32) (v3 : Int32) (v4 : Int32) (v5 : Int32) (v6 : Int32) (v7 : Int32) (u : xS), k45 v1 v2 v3 v4 v5 v6 v7 u = some (r, u') → xG sc mX12_called d 0 0 (xR (some (.int r)) (xL0, u') 0 0) 0 0 45 [some (.ref 135), some (.int v1), some (.int v2), some (.int v3), some (.int v4), some (.int v5), some (.int v6), some (.int v7)] [] (xL0, u)) {k30 : Int32 → Int32 → Int32 → Int32 → Int32 → xS → Option (Int32 × xS)} (hk30 : ∀ (v1 : Int32) (v2 : Int32) (v3 : Int32) (v4 : Int32) (v5 : Int32) (u : xS), k30 v1 v2 v3 v4 v5 u = some (r, u') → xG sc mX12_called d 0 0 (xR (some (.int r)) (xL0, u') 0 0) 0 0 30 [some (.ref 135), some (.int v1), some (.int v2), some (.int v3), some (.int v4), some (.int v5), none, none] [] (xL0, u)) (v1 : Int32) (v2 : Int32) (v3 : Int32) (v4 : Int32) (v5 : Int32) (v7 : Int32) (s0 : Int32) (s1 : Int32) (u : xS) (h : f_X12_called_136 k45 k30 v1 v2 v3 v4 v5 v7 s0 s1 u = some (r, u')) : xG sc mX12_called d 0 0 (xR (some (.int r)) (xL0, u') 0 0) 0 0 136 [some (.ref 135), some (.int v1), some (.int v2), some (.int v3), some (.int v4), some (.int v5), none, some (.int v7)] [.int s1, .int s0] (xL0, u) := by
  rw [f_X12_called_136] at h
  refine g_iconst (pc := 136) dX12_called_136 ic_0 ?_
  exact G_X12_called_137 hd hk45 hk30 v1 v2 v3 v4 v5 v7 s0 s1 (0 : Int32) u h
set_option maxRecDepth 100000 in
set_option maxHeartbeats 4000000 in
theorem G_X12_called_95 {sc : Nat × (Nat → Int32)} {d : Nat} (hd : 2 ≤ d) {r : Int32} {u' : xS} {k45 : Int32 → Int32 → Int32 → Int32 → Int32 → Int32 → Int32 → xS → Option (Int32 × xS)} (hk45 : ∀ (v1 : Int32) (v2 : Int32) (v3 : Int32) (v4 : Int32) (v5 : Int32) (v6 : Int32) (v7 : Int32) (u : xS), k45 v1 v2 v3 v4 v5 v6 v7 u = some (r, u') → xG sc mX12_called d 0 0 (xR (some (.int r)) (xL0, u') 0 0) 0 0 45 [some (.ref 135), some (.int v1), some (.int v2), some (.int v3), some (.int v4), some (.int v5), some (.int v6), some (.int v7)] [] (xL0, u)) {k30 : Int32 → Int32 → Int32 → Int32 → Int32 → xS → Option (Int32 × xS)} (hk30 : ∀ (v1 : Int32) (v2 : Int32) (v3 : Int32) (v4 : Int32) (v5 : Int32) (u : xS), k30 v1 v2 v3 v4 v5 u = some (r, u') → xG sc mX12_called d 0 0 (xR (some (.int r)) (xL0, u') 0 0) 0 0 30 [some (.ref 135), some (.int v1), some (.int v2), some (.int v3), some (.int v4), some (.int v5), none, none] [] (xL0, u)) (v1 : Int32) (v2 : Int32) (v3 : Int32) (v4 : Int32) (v5 : Int32) (v7 : Int32) (s0 : Int32) (s1 : Int32) (u : xS) (h : f_X12_called_95 k45 k30 v1 v2 v3 v4 v5 v7 s0 s1 u = some (r, u')) : xG sc mX12_called d 0 0 (xR (some (.int r)) (xL0, u') 0 0) 0 0 95 [some (.ref 135), some (.int v1), some (.int v2), some (.int v3), some (.int v4), some (.int v5), none, some (.int v7)] [.int s1, .int s0] (xL0, u) := by
  rw [f_X12_called_95] at h
  refine g_cS (pc := 95) dX12_called_95 cS_RX12_190 (M_X12_truth (Nat.le_refl _) rfl) (as := [.int s1]) (st := [.int s0]) rfl rfl (Nat.le_of_ble_eq_true rfl) (Nat.le_trans (Nat.le_of_ble_eq_true rfl) hd) rfl ?_
  refine g_aload_n (pc := 98) dX12_called_98 rfl ?_
  refine g_gR (pc := 99) dX12_called_99 fR_RX12_111 xc_135 (v := 168) rfl ?_
  refine g_iload (pc := 102) dX12_called_102 rfl ?_
  obtain ⟨g1, h⟩ := x_gd h
  refine g_iaload (pc := 104) dX12_called_104 xc_168 (xin_of g1) (v := (rd u 168 v7.toNatClampNeg)) rfl ?_
  refine g_iload_n (pc := 105) dX12_called_105 rfl ?_
  refine g_icmp_ne (tgt := 136) (pc := 106) dX12_called_106 (by decide) (fun c2 => ?_) (fun c2 => ?_)
  · replace h := (if_neg c2).symm.trans h
    exact G_X12_called_136 hd hk45 hk30 v1 v2 v3 v4 v5 v7 s0 (f_X12_truth s1) u h
  · replace h := (if_pos c2).symm.trans h
    refine g_aload_n (pc := 109) dX12_called_109 rfl ?_
    refine g_gR (pc := 110) dX12_called_110 fR_RX12_117 xc_135 (v := 170) rfl ?_
    refine g_iload (pc := 113) dX12_called_113 rfl ?_
    refine g_iaload (pc := 115) dX12_called_115 xc_170 (xin_of g1) (v := (rd u 170 v7.toNatClampNeg)) rfl ?_
    refine g_iload_n (pc := 116) dX12_called_116 rfl ?_
    refine g_icmp_ne (tgt := 136) (pc := 117) dX12_called_117 (by decide) (fun c3 => ?_) (fun c3 => ?_)
    · replace h := (if_neg c3).symm.trans h
      exact G_X12_called_136 hd hk45 hk30 v1 v2 v3 v4 v5 v7 s0 (f_X12_truth s1) u h
    · replace h := (if_pos c3).symm.trans h
      refine g_aload_n (pc := 120) dX12_called_120 rfl ?_
      refine g_gR (pc := 121) dX12_called_121 fR_RX12_114 xc_135 (v := 169) rfl ?_
      refine g_iload (pc := 124) dX12_called_124 rfl ?_
      refine g_iaload (pc := 126) dX12_called_126 xc_169 (xin_of g1) (v := (rd u 169 v7.toNatClampNeg)) rfl ?_
      refine g_iload (pc := 127) dX12_called_127 rfl ?_
      refine g_icmp_ne (tgt := 136) (pc := 129) dX12_called_129 (by decide) (fun c4 => ?_) (fun c4 => ?_)
      · replace h := (if_neg c4).symm.trans h
        exact G_X12_called_136 hd hk45 hk30 v1 v2 v3 v4 v5 v7 s0 (f_X12_truth s1) u h
      · replace h := (if_pos c4).symm.trans h
        refine g_iconst (pc := 132) dX12_called_132 ic_1 ?_
        refine g_goto (tgt := 137) (pc := 133) dX12_called_133 (by decide) ?_
        exact G_X12_called_137 hd hk45 hk30 v1 v2 v3 v4 v5 v7 s0 (f_X12_truth s1) (1 : Int32) u h
set_option maxRecDepth 100000 in
set_option maxHeartbeats 4000000 in
theorem G_X12_called_94 {sc : Nat × (Nat → Int32)} {d : Nat} (hd : 2 ≤ d) {r : Int32} {u' : xS} {k45 : Int32 → Int32 → Int32 → Int32 → Int32 → Int32 → Int32 → xS → Option (Int32 × xS)} (hk45 : ∀ (v1 : Int32) (v2 : Int32) (v3 : Int32) (v4 : Int32) (v5 : Int32) (v6 : Int32) (v7 : Int32) (u : xS), k45 v1 v2 v3 v4 v5 v6 v7 u = some (r, u') → xG sc mX12_called d 0 0 (xR (some (.int r)) (xL0, u') 0 0) 0 0 45 [some (.ref 135), some (.int v1), some (.int v2), some (.int v3), some (.int v4), some (.int v5), some (.int v6), some (.int v7)] [] (xL0, u)) {k30 : Int32 → Int32 → Int32 → Int32 → Int32 → xS → Option (Int32 × xS)} (hk30 : ∀ (v1 : Int32) (v2 : Int32) (v3 : Int32) (v4 : Int32) (v5 : Int32) (u : xS), k30 v1 v2 v3 v4 v5 u = some (r, u') → xG sc mX12_called d 0 0 (xR (some (.int r)) (xL0, u') 0 0) 0 0 30 [some (.ref 135), some (.int v1), some (.int v2), some (.int v3), some (.int v4), some (.int v5), none, none] [] (xL0, u)) (v1 : Int32) (v2 : Int32) (v3 : Int32) (v4 : Int32) (v5 : Int32) (v7 : Int32) (s0 : Int32) (u : xS) (h : f_X12_called_94 k45 k30 v1 v2 v3 v4 v5 v7 s0 u = some (r, u')) : xG sc mX12_called d 0 0 (xR (some (.int r)) (xL0, u') 0 0) 0 0 94 [some (.ref 135), some (.int v1), some (.int v2), some (.int v3), some (.int v4), some (.int v5), none, some (.int v7)] [.int s0] (xL0, u) := by
  rw [f_X12_called_94] at h
  refine g_iconst (pc := 94) dX12_called_94 ic_0 ?_
  exact G_X12_called_95 hd hk45 hk30 v1 v2 v3 v4 v5 v7 s0 (0 : Int32) u h
set_option maxRecDepth 100000 in
set_option maxHeartbeats 4000000 in
theorem G_X12_called_45 {sc : Nat × (Nat → Int32)} {d : Nat} (hd : 2 ≤ d) {r : Int32} {u' : xS} {k30 : Int32 → Int32 → Int32 → Int32 → Int32 → xS → Option (Int32 × xS)} (hk30 : ∀ (v1 : Int32) (v2 : Int32) (v3 : Int32) (v4 : Int32) (v5 : Int32) (u : xS), k30 v1 v2 v3 v4 v5 u = some (r, u') → xG sc mX12_called d 0 0 (xR (some (.int r)) (xL0, u') 0 0) 0 0 30 [some (.ref 135), some (.int v1), some (.int v2), some (.int v3), some (.int v4), some (.int v5), none, none] [] (xL0, u)) : ∀ (n : Nat) (v1 : Int32) (v2 : Int32) (v3 : Int32) (v4 : Int32) (v5 : Int32) (v6 : Int32) (v7 : Int32) (u : xS), f_X12_called_45 k30 n v1 v2 v3 v4 v5 v6 v7 u = some (r, u') → xG sc mX12_called d 0 0 (xR (some (.int r)) (xL0, u') 0 0) 0 0 45 [some (.ref 135), some (.int v1), some (.int v2), some (.int v3), some (.int v4), some (.int v5), some (.int v6), some (.int v7)] [] (xL0, u) := by
  intro n
  induction n with
  | zero =>
    intro v1 v2 v3 v4 v5 v6 v7 u h
    rw [f_X12_called_45] at h
    cases h
  | succ n ih =>
    intro v1 v2 v3 v4 v5 v6 v7 u h
    rw [f_X12_called_45] at h
    refine g_iload (pc := 45) dX12_called_45 rfl ?_
    refine g_aload_n (pc := 47) dX12_called_47 rfl ?_
    refine g_gI (pc := 48) dX12_called_48 fI_RX12_409 xc_135 (v := (rd u 135 46)) rfl ?_
    refine g_icmp_ge (tgt := 150) (pc := 51) dX12_called_51 (by decide) (fun c1 => ?_) (fun c1 => ?_)
    · replace h := (if_pos c1).symm.trans h
      refine g_iload (pc := 150) dX12_called_150 rfl ?_
      refine g_iload (pc := 152) dX12_called_152 rfl ?_
      refine g_icmp_le (tgt := 164) (pc := 154) dX12_called_154 (by decide) (fun c2 => ?_) (fun c2 => ?_)
      · replace h := (if_pos c2).symm.trans h
        refine g_L (L' := [some (.ref 135), some (.int v1), some (.int v2), some (.int v3), some (.int v4), some (.int v5), none, none]) ⟨rfl, ⟨rfl, ⟨rfl, ⟨rfl, ⟨rfl, ⟨rfl, trivial⟩⟩⟩⟩⟩⟩ ?_
        exact G_X12_called_164 hd hk30 v1 v2 v3 v4 v5 u h
      · replace h := (if_neg c2).symm.trans h
        refine g_iload (pc := 157) dX12_called_157 rfl ?_
        refine g_istore_n (pc := 159) dX12_called_159 (Nat.le_of_ble_eq_true rfl) (L' := [some (.ref 135), some (.int v1), some (.int v2), some (.int v5), some (.int v4), some (.int v5), some (.int v6), some (.int v7)]) rfl ?_
        refine g_iload (pc := 160) dX12_called_160 rfl ?_
        refine g_istore (pc := 162) dX12_called_162 (Nat.le_of_ble_eq_true rfl) (L' := [some (.ref 135), some (.int v1), some (.int v2), some (.int v5), some (.int v6), some (.int v5), some (.int v6), some (.int v7)]) rfl ?_
        refine g_L (L' := [some (.ref 135), some (.int v1), some (.int v2), some (.int v5), some (.int v6), some (.int v5), none, none]) ⟨rfl, ⟨rfl, ⟨rfl, ⟨rfl, ⟨rfl, ⟨rfl, trivial⟩⟩⟩⟩⟩⟩ ?_
        exact G_X12_called_164 hd hk30 v1 v2 v5 v6 v5 u h
    · replace h := (if_neg c1).symm.trans h
      refine g_iload (pc := 54) dX12_called_54 rfl ?_
      refine g_aload_n (pc := 56) dX12_called_56 rfl ?_
      refine g_gR (pc := 57) dX12_called_57 fR_RX12_108 xc_135 (v := 167) rfl ?_
      refine g_iload (pc := 60) dX12_called_60 rfl ?_
      obtain ⟨g3, h⟩ := x_gd h
      refine g_iaload (pc := 62) dX12_called_62 xc_167 (xin_of g3) (v := (rd u 167 v7.toNatClampNeg)) rfl ?_
      refine g_iload_n (pc := 63) dX12_called_63 rfl ?_
      refine g_icmp_ne (tgt := 94) (pc := 64) dX12_called_64 (by decide) (fun c4 => ?_) (fun c4 => ?_)
      · replace h := (if_neg c4).symm.trans h
        refine g_L (L' := [some (.ref 135), some (.int v1), some (.int v2), some (.int v3), some (.int v4), some (.int v5), none, some (.int v7)]) ⟨rfl, ⟨rfl, ⟨rfl, ⟨rfl, ⟨rfl, ⟨rfl, ⟨rfl, trivial⟩⟩⟩⟩⟩⟩⟩ ?_
        exact G_X12_called_94 hd ih hk30 v1 v2 v3 v4 v5 v7 v6 u h
      · replace h := (if_pos c4).symm.trans h
        refine g_aload_n (pc := 67) dX12_called_67 rfl ?_
        refine g_gR (pc := 68) dX12_called_68 fR_RX12_114 xc_135 (v := 169) rfl ?_
        refine g_iload (pc := 71) dX12_called_71 rfl ?_
        refine g_iaload (pc := 73) dX12_called_73 xc_169 (xin_of g3) (v := (rd u 169 v7.toNatClampNeg)) rfl ?_
        refine g_iload_n (pc := 74) dX12_called_74 rfl ?_
        refine g_icmp_ne (tgt := 94) (pc := 75) dX12_called_75 (by decide) (fun c5 => ?_) (fun c5 => ?_)
        · replace h := (if_neg c5).symm.trans h
          refine g_L (L' := [some (.ref 135), some (.int v1), some (.int v2), some (.int v3), some (.int v4), some (.int v5), none, some (.int v7)]) ⟨rfl, ⟨rfl, ⟨rfl, ⟨rfl, ⟨rfl, ⟨rfl, ⟨rfl, trivial⟩⟩⟩⟩⟩⟩⟩ ?_
          exact G_X12_called_94 hd ih hk30 v1 v2 v3 v4 v5 v7 v6 u h
        · replace h := (if_pos c5).symm.trans h
          refine g_aload_n (pc := 78) dX12_called_78 rfl ?_
          refine g_gR (pc := 79) dX12_called_79 fR_RX12_117 xc_135 (v := 170) rfl ?_
          refine g_iload (pc := 82) dX12_called_82 rfl ?_
          refine g_iaload (pc := 84) dX12_called_84 xc_170 (xin_of g3) (v := (rd u 170 v7.toNatClampNeg)) rfl ?_
          refine g_iload (pc := 85) dX12_called_85 rfl ?_
          refine g_icmp_ne (tgt := 94) (pc := 87) dX12_called_87 (by decide) (fun c6 => ?_) (fun c6 => ?_)
          · replace h := (if_neg c6).symm.trans h
            refine g_L (L' := [some (.ref 135), some (.int v1), some (.int v2), some (.int v3), some (.int v4), some (.int v5), none, some (.int v7)]) ⟨rfl, ⟨rfl, ⟨rfl, ⟨rfl, ⟨rfl, ⟨rfl, ⟨rfl, trivial⟩⟩⟩⟩⟩⟩⟩ ?_
            exact G_X12_called_94 hd ih hk30 v1 v2 v3 v4 v5 v7 v6 u h
          · replace h := (if_pos c6).symm.trans h
            refine g_iconst (pc := 90) dX12_called_90 ic_1 ?_
            refine g_goto (tgt := 95) (pc := 91) dX12_called_91 (by decide) ?_
            refine g_L (L' := [some (.ref 135), some (.int v1), some (.int v2), some (.int v3), some (.int v4), some (.int v5), none, some (.int v7)]) ⟨rfl, ⟨rfl, ⟨rfl, ⟨rfl, ⟨rfl, ⟨rfl, ⟨rfl, trivial⟩⟩⟩⟩⟩⟩⟩ ?_
            exact G_X12_called_95 hd ih hk30 v1 v2 v3 v4 v5 v7 v6 (1 : Int32) u h
set_option maxRecDepth 100000 in
set_option maxHeartbeats 4000000 in
theorem G_X12_called_30 {sc : Nat × (Nat → Int32)} {d : Nat} (hd : 2 ≤ d) {r : Int32} {u' : xS} : ∀ (n : Nat) (v1 : Int32) (v2 : Int32) (v3 : Int32) (v4 : Int32) (v5 : Int32) (u : xS), f_X12_called_30 n v1 v2 v3 v4 v5 u = some (r, u') → xG sc mX12_called d 0 0 (xR (some (.int r)) (xL0, u') 0 0) 0 0 30 [some (.ref 135), some (.int v1), some (.int v2), some (.int v3), some (.int v4), some (.int v5), none, none] [] (xL0, u) := by
  intro n
  induction n with
  | zero =>
    intro v1 v2 v3 v4 v5 u h
    rw [f_X12_called_30] at h
    cases h
  | succ n ih =>
    intro v1 v2 v3 v4 v5 u h
    rw [f_X12_called_30] at h
    refine g_iload (pc := 30) dX12_called_30 rfl ?_
    refine g_aload_n (pc := 32) dX12_called_32 rfl ?_
    refine g_gI (pc := 33) dX12_called_33 fI_RX12_153 xc_135 (v := (rd u 135 1)) rfl ?_
    refine g_icmp_ge (tgt := 170) (pc := 36) dX12_called_36 (by decide) (fun c1 => ?_) (fun c1 => ?_)
    · replace h := (if_pos c1).symm.trans h
      refine g_iload_n (pc := 170) dX12_called_170 rfl ?_
      obtain ⟨h1, h2⟩ := x_inj2 h
      subst h1
      subst h2
      exact g_iret (pc := 171) dX12_called_171 rfl rfl rfl (Nat.le_refl _) (Nat.le_refl _)
    · replace h := (if_neg c1).symm.trans h
      refine g_iconst (pc := 39) dX12_called_39 ic_0 ?_
      refine g_istore (pc := 40) dX12_called_40 (Nat.le_of_ble_eq_true rfl) (L' := [some (.ref 135), some (.int v1), some (.int v2), some (.int v3), some (.int v4), some (.int v5), some (.int (0 : Int32)), none]) rfl ?_
      refine g_iconst (pc := 42) dX12_called_42 ic_0 ?_
      refine g_istore (pc := 43) dX12_called_43 (Nat.le_of_ble_eq_true rfl) (L' := [some (.ref 135), some (.int v1), some (.int v2), some (.int v3), some (.int v4), some (.int v5), some (.int (0 : Int32)), some (.int (0 : Int32))]) rfl ?_
      exact G_X12_called_45 hd ih xN v1 v2 v3 v4 v5 (0 : Int32) (0 : Int32) u h
set_option maxRecDepth 100000 in
set_option maxHeartbeats 4000000 in
theorem G_X12_called_0 {sc : Nat × (Nat → Int32)} {d : Nat} (hd : 2 ≤ d) {r : Int32} {u' : xS} (v1 : Int32) (v2 : Int32) (u : xS) (h : f_X12_called v1 v2 u = some (r, u')) : xG sc mX12_called d 0 0 (xR (some (.int r)) (xL0, u') 0 0) 0 0 0 [some (.ref 135), some (.int v1), some (.int v2), none, none, none, none, none] [] (xL0, u) := by
  rw [f_X12_called] at h
  refine g_aload_n (pc := 0) dX12_called_0 rfl ?_
  refine g_iconst (pc := 1) dX12_called_1 ic_0 ?_
  refine g_pI (pc := 2) dX12_called_2 pI_RX12_150 xc_135 (u' := (wr u 135 0 (0 : Int32))) rfl ?_
  refine g_iload_n (pc := 5) dX12_called_5 rfl ?_
  refine g_cS (pc := 6) dX12_called_6 cS_RX12_208 (M_X12_isSorter (Nat.le_refl _) rfl) (as := [.int v1]) (st := []) rfl rfl (Nat.le_of_ble_eq_true rfl) (Nat.le_trans (Nat.le_of_ble_eq_true rfl) hd) rfl ?_
  refine g_if_eq (tgt := 20) (pc := 9) dX12_called_9 (by decide) (fun c1 => ?_) (fun c1 => ?_)
  · replace h := (if_pos c1).symm.trans h
    refine g_iconst (pc := 20) dX12_called_20 ic_m1 ?_
    obtain ⟨h1, h2⟩ := x_inj2 h
    subst h1
    subst h2
    exact g_iret (pc := 21) dX12_called_21 rfl rfl rfl (Nat.le_refl _) (Nat.le_refl _)
  · replace h := (if_neg c1).symm.trans h
    refine g_aload_n (pc := 12) dX12_called_12 rfl ?_
    refine g_iload_n (pc := 13) dX12_called_13 rfl ?_
    refine g_cV (pc := 14) dX12_called_14 cV_RX12_166 (M_X12_isSort (Nat.le_refl _) rfl) xc_135 (as := [.int v2]) (st := []) rfl rfl (Nat.le_of_ble_eq_true rfl) (Nat.le_trans (Nat.le_of_ble_eq_true rfl) hd) rfl ?_
    refine g_if_ne (tgt := 22) (pc := 17) dX12_called_17 (by decide) (fun c2 => ?_) (fun c2 => ?_)
    · replace h := (if_neg c2).symm.trans h
      refine g_iconst (pc := 22) dX12_called_22 ic_m1 ?_
      refine g_istore_n (pc := 23) dX12_called_23 (Nat.le_of_ble_eq_true rfl) (L' := [some (.ref 135), some (.int v1), some (.int v2), some (.int (-1 : Int32)), none, none, none, none]) rfl ?_
      refine g_iconst (pc := 24) dX12_called_24 ic_0 ?_
      refine g_istore (pc := 25) dX12_called_25 (Nat.le_of_ble_eq_true rfl) (L' := [some (.ref 135), some (.int v1), some (.int v2), some (.int (-1 : Int32)), some (.int (0 : Int32)), none, none, none]) rfl ?_
      refine g_iconst (pc := 27) dX12_called_27 ic_0 ?_
      refine g_istore (pc := 28) dX12_called_28 (Nat.le_of_ble_eq_true rfl) (L' := [some (.ref 135), some (.int v1), some (.int v2), some (.int (-1 : Int32)), some (.int (0 : Int32)), some (.int (0 : Int32)), none, none]) rfl ?_
      exact G_X12_called_30 hd xN v1 v2 (-1 : Int32) (0 : Int32) (0 : Int32) (wr u 135 0 (0 : Int32)) h
    · replace h := (if_pos c2).symm.trans h
      refine g_iconst (pc := 20) dX12_called_20 ic_m1 ?_
      obtain ⟨h1, h2⟩ := x_inj2 h
      subst h1
      subst h2
      exact g_iret (pc := 21) dX12_called_21 rfl rfl rfl (Nat.le_refl _) (Nat.le_refl _)
set_option maxRecDepth 100000 in
set_option maxHeartbeats 4000000 in
theorem M_X12_called {sc : Nat × (Nat → Int32)} {d : Nat} (hd : 2 ≤ d) {r : Int32} {u u' : xS} {a1 : Int32} {a2 : Int32} (h : f_X12_called a1 a2 u = some (r, u')) : xMt sc mX12_called d 0 0 [.ref 135, .int a1, .int a2] (xL0, u) (some (.int r)) (xL0, u') :=
  xMt.of (by decide +kernel) (by decide +kernel) (Nat.le_of_ble_eq_true rfl) (L := [some (.ref 135), some (.int a1), some (.int a2), none, none, none, none, none]) rfl ((G_X12_called_0 hd a1 a2 u h))
set_option maxRecDepth 100000 in
set_option maxHeartbeats 4000000 in
theorem G_X12_partsInAll_4 {sc : Nat × (Nat → Int32)} {d : Nat} (hd : 0 ≤ d) {r : Int32} {u : xS} : ∀ (n : Nat) (v1 : Int32) (v2 : Int32), f_X12_partsInAll_4 u n v1 v2 = some r → xG sc mX12_partsInAll d 0 0 (xR (some (.int r)) (xL0, u) 0 0) 0 0 4 [some (.ref 135), some (.int v1), some (.int v2)] [] (xL0, u) := by
  intro n
  induction n with
  | zero =>
    intro v1 v2 h
    rw [f_X12_partsInAll_4] at h
    cases h
  | succ n ih =>
    intro v1 v2 h
    rw [f_X12_partsInAll_4] at h
    refine g_iload_n (pc := 4) dX12_partsInAll_4 rfl ?_
    refine g_aload_n (pc := 5) dX12_partsInAll_5 rfl ?_
    refine g_gI (pc := 6) dX12_partsInAll_6 fI_RX12_153 xc_135 (v := (rd u 135 1)) rfl ?_
    refine g_icmp_ge (tgt := 27) (pc := 9) dX12_partsInAll_9 (by decide) (fun c1 => ?_) (fun c1 => ?_)
    · replace h := (if_pos c1).symm.trans h
      refine g_iload_n (pc := 27) dX12_partsInAll_27 rfl ?_
      replace h := Option.some.inj h
      subst h
      exact g_iret (pc := 28) dX12_partsInAll_28 rfl rfl rfl (Nat.le_refl _) (Nat.le_refl _)
    · replace h := (if_neg c1).symm.trans h
      refine g_iload_n (pc := 12) dX12_partsInAll_12 rfl ?_
      refine g_aload_n (pc := 13) dX12_partsInAll_13 rfl ?_
      refine g_gR (pc := 14) dX12_partsInAll_14 fR_RX12_87 xc_135 (v := 160) rfl ?_
      refine g_iload_n (pc := 17) dX12_partsInAll_17 rfl ?_
      obtain ⟨g2, h⟩ := x_gd h
      refine g_iaload (pc := 18) dX12_partsInAll_18 xc_160 (xin_of g2) (v := (rd u 160 v2.toNatClampNeg)) rfl ?_
      refine g_iadd (pc := 19) dX12_partsInAll_19 rfl ?_
      refine g_istore_n (pc := 20) dX12_partsInAll_20 (Nat.le_of_ble_eq_true rfl) (L' := [some (.ref 135), some (.int (v1 + (rd u 160 v2.toNatClampNeg))), some (.int v2)]) rfl ?_
      refine g_inc (pc := 21) dX12_partsInAll_21 (Nat.le_of_ble_eq_true rfl) rfl ic_1 (L' := [some (.ref 135), some (.int (v1 + (rd u 160 v2.toNatClampNeg))), some (.int (v2 + (1 : Int32)))]) rfl ?_
      refine g_goto (tgt := 4) (pc := 24) dX12_partsInAll_24 (by decide) ?_
      exact ih (v1 + (rd u 160 v2.toNatClampNeg)) (v2 + (1 : Int32)) h
set_option maxRecDepth 100000 in
set_option maxHeartbeats 4000000 in
theorem G_X12_partsInAll_0 {sc : Nat × (Nat → Int32)} {d : Nat} (hd : 0 ≤ d) {r : Int32} {u : xS} (h : f_X12_partsInAll u = some r) : xG sc mX12_partsInAll d 0 0 (xR (some (.int r)) (xL0, u) 0 0) 0 0 0 [some (.ref 135), none, none] [] (xL0, u) := by
  rw [f_X12_partsInAll] at h
  refine g_iconst (pc := 0) dX12_partsInAll_0 ic_0 ?_
  refine g_istore_n (pc := 1) dX12_partsInAll_1 (Nat.le_of_ble_eq_true rfl) (L' := [some (.ref 135), some (.int (0 : Int32)), none]) rfl ?_
  refine g_iconst (pc := 2) dX12_partsInAll_2 ic_0 ?_
  refine g_istore_n (pc := 3) dX12_partsInAll_3 (Nat.le_of_ble_eq_true rfl) (L' := [some (.ref 135), some (.int (0 : Int32)), some (.int (0 : Int32))]) rfl ?_
  exact G_X12_partsInAll_4 hd xN (0 : Int32) (0 : Int32) h
set_option maxRecDepth 100000 in
set_option maxHeartbeats 4000000 in
theorem M_X12_partsInAll {sc : Nat × (Nat → Int32)} {d : Nat} (hd : 0 ≤ d) {r : Int32} {u : xS} (h : f_X12_partsInAll u = some r) : xMt sc mX12_partsInAll d 0 0 [.ref 135] (xL0, u) (some (.int r)) (xL0, u) :=
  xMt.of (by decide +kernel) (by decide +kernel) (Nat.le_of_ble_eq_true rfl) (L := [some (.ref 135), none, none]) rfl ((G_X12_partsInAll_0 hd h))
set_option maxRecDepth 100000 in
set_option maxHeartbeats 4000000 in
theorem G_X12_costOf_4 {sc : Nat × (Nat → Int32)} {d : Nat} (hd : 1 ≤ d) {r : Int32} {u : xS} : ∀ (n : Nat) (v1 : Int32) (v2 : Int32) (v3 : Int32), f_X12_costOf_4 u n v1 v2 v3 = some r → xG sc mX12_costOf d 0 0 (xR (some (.int r)) (xL0, u) 0 0) 0 0 4 [some (.ref 135), some (.int v1), some (.int v2), some (.int v3)] [] (xL0, u) := by
  intro n
  induction n with
  | zero =>
    intro v1 v2 v3 h
    rw [f_X12_costOf_4] at h
    cases h
  | succ n ih =>
    intro v1 v2 v3 h
    rw [f_X12_costOf_4] at h
    refine g_iload_n (pc := 4) dX12_costOf_4 rfl ?_
    refine g_aload_n (pc := 5) dX12_costOf_5 rfl ?_
    refine g_gI (pc := 6) dX12_costOf_6 fI_RX12_153 xc_135 (v := (rd u 135 1)) rfl ?_
    refine g_icmp_ge (tgt := 34) (pc := 9) dX12_costOf_9 (by decide) (fun c1 => ?_) (fun c1 => ?_)
    · replace h := (if_pos c1).symm.trans h
      refine g_iload_n (pc := 34) dX12_costOf_34 rfl ?_
      replace h := Option.some.inj h
      subst h
      exact g_iret (pc := 35) dX12_costOf_35 rfl rfl rfl (Nat.le_refl _) (Nat.le_refl _)
    · replace h := (if_neg c1).symm.trans h
      refine g_iload_n (pc := 12) dX12_costOf_12 rfl ?_
      refine g_aload_n (pc := 13) dX12_costOf_13 rfl ?_
      refine g_gR (pc := 14) dX12_costOf_14 fR_RX12_87 xc_135 (v := 160) rfl ?_
      refine g_iload_n (pc := 17) dX12_costOf_17 rfl ?_
      obtain ⟨g2, h⟩ := x_gd h
      refine g_iaload (pc := 18) dX12_costOf_18 xc_160 (xin_of g2) (v := (rd u 160 v3.toNatClampNeg)) rfl ?_
      refine g_aload_n (pc := 19) dX12_costOf_19 rfl ?_
      refine g_iload_n (pc := 20) dX12_costOf_20 rfl ?_
      refine g_iload_n (pc := 21) dX12_costOf_21 rfl ?_
      obtain ⟨x4, e3, h⟩ := x_bind h
      refine g_cV (pc := 22) dX12_costOf_22 cV_RX12_178 (M_X12_priceOf (Nat.le_refl _) e3) xc_135 (as := [.int v3, .int v1]) (st := [.int (rd u 160 v3.toNatClampNeg), .int v2]) rfl rfl (Nat.le_of_ble_eq_true rfl) (Nat.le_trans (Nat.le_of_ble_eq_true rfl) hd) rfl ?_
      refine g_imul (pc := 25) dX12_costOf_25 rfl ?_
      refine g_iadd (pc := 26) dX12_costOf_26 rfl ?_
      refine g_istore_n (pc := 27) dX12_costOf_27 (Nat.le_of_ble_eq_true rfl) (L' := [some (.ref 135), some (.int v1), some (.int (v2 + ((rd u 160 v3.toNatClampNeg) * x4))), some (.int v3)]) rfl ?_
      refine g_inc (pc := 28) dX12_costOf_28 (Nat.le_of_ble_eq_true rfl) rfl ic_1 (L' := [some (.ref 135), some (.int v1), some (.int (v2 + ((rd u 160 v3.toNatClampNeg) * x4))), some (.int (v3 + (1 : Int32)))]) rfl ?_
      refine g_goto (tgt := 4) (pc := 31) dX12_costOf_31 (by decide) ?_
      exact ih v1 (v2 + ((rd u 160 v3.toNatClampNeg) * x4)) (v3 + (1 : Int32)) h
set_option maxRecDepth 100000 in
set_option maxHeartbeats 4000000 in
theorem G_X12_costOf_0 {sc : Nat × (Nat → Int32)} {d : Nat} (hd : 1 ≤ d) {r : Int32} {u : xS} (v1 : Int32) (h : f_X12_costOf u v1 = some r) : xG sc mX12_costOf d 0 0 (xR (some (.int r)) (xL0, u) 0 0) 0 0 0 [some (.ref 135), some (.int v1), none, none] [] (xL0, u) := by
  rw [f_X12_costOf] at h
  refine g_iconst (pc := 0) dX12_costOf_0 ic_0 ?_
  refine g_istore_n (pc := 1) dX12_costOf_1 (Nat.le_of_ble_eq_true rfl) (L' := [some (.ref 135), some (.int v1), some (.int (0 : Int32)), none]) rfl ?_
  refine g_iconst (pc := 2) dX12_costOf_2 ic_0 ?_
  refine g_istore_n (pc := 3) dX12_costOf_3 (Nat.le_of_ble_eq_true rfl) (L' := [some (.ref 135), some (.int v1), some (.int (0 : Int32)), some (.int (0 : Int32))]) rfl ?_
  exact G_X12_costOf_4 hd xN v1 (0 : Int32) (0 : Int32) h
set_option maxRecDepth 100000 in
set_option maxHeartbeats 4000000 in
theorem M_X12_costOf {sc : Nat × (Nat → Int32)} {d : Nat} (hd : 1 ≤ d) {r : Int32} {u : xS} {a1 : Int32} (h : f_X12_costOf u a1 = some r) : xMt sc mX12_costOf d 0 0 [.ref 135, .int a1] (xL0, u) (some (.int r)) (xL0, u) :=
  xMt.of (by decide +kernel) (by decide +kernel) (Nat.le_of_ble_eq_true rfl) (L := [some (.ref 135), some (.int a1), none, none]) rfl ((G_X12_costOf_0 hd a1 h))
set_option maxRecDepth 100000 in
set_option maxHeartbeats 4000000 in
theorem G_X12_cost_0 {sc : Nat × (Nat → Int32)} {d : Nat} (hd : 2 ≤ d) {r : Int32} {u' : xS} (v1 : Int32) (u : xS) (h : f_X12_cost v1 u = some (r, u')) : xG sc mX12_cost d 0 0 (xR (some (.int r)) (xL0, u') 0 0) 0 0 0 [some (.ref 135), some (.int v1)] [] (xL0, u) := by
  rw [f_X12_cost] at h
  refine g_aload_n (pc := 0) dX12_cost_0 rfl ?_
  refine g_iconst (pc := 1) dX12_cost_1 ic_0 ?_
  refine g_pI (pc := 2) dX12_cost_2 pI_RX12_150 xc_135 (u' := (wr u 135 0 (0 : Int32))) rfl ?_
  refine g_iload_n (pc := 5) dX12_cost_5 rfl ?_
  refine g_cS (pc := 6) dX12_cost_6 cS_RX12_170 (M_X12_isWeek (Nat.le_refl _) rfl) (as := [.int v1]) (st := []) rfl rfl (Nat.le_of_ble_eq_true rfl) (Nat.le_trans (Nat.le_of_ble_eq_true rfl) hd) rfl ?_
  refine g_if_eq (tgt := 29) (pc := 9) dX12_cost_9 (by decide) (fun c1 => ?_) (fun c1 => ?_)
  · replace h := (if_pos c1).symm.trans h
    refine g_iconst (pc := 29) dX12_cost_29 ic_m1 ?_
    obtain ⟨h1, h2⟩ := x_inj2 h
    subst h1
    subst h2
    exact g_iret (pc := 30) dX12_cost_30 rfl rfl rfl (Nat.le_refl _) (Nat.le_refl _)
  · replace h := (if_neg c1).symm.trans h
    refine g_aload_n (pc := 12) dX12_cost_12 rfl ?_
    obtain ⟨x3, e2, h⟩ := x_bind h
    refine g_cV (pc := 13) dX12_cost_13 cV_RX12_356 (M_X12_partsInAll (Nat.le_refl _) e2) xc_135 (as := []) (st := []) rfl rfl (Nat.le_of_ble_eq_true rfl) (Nat.le_trans (Nat.le_of_ble_eq_true rfl) hd) rfl ?_
    refine g_bipush (pc := 16) dX12_cost_16 bp_12 ?_
    refine g_icmp_ne (tgt := 29) (pc := 18) dX12_cost_18 (by decide) (fun c4 => ?_) (fun c4 => ?_)
    · replace h := (if_neg c4).symm.trans h
      refine g_iconst (pc := 29) dX12_cost_29 ic_m1 ?_
      obtain ⟨h1, h2⟩ := x_inj2 h
      subst h1
      subst h2
      exact g_iret (pc := 30) dX12_cost_30 rfl rfl rfl (Nat.le_refl _) (Nat.le_refl _)
    · replace h := (if_pos c4).symm.trans h
      refine g_aload_n (pc := 21) dX12_cost_21 rfl ?_
      refine g_iload_n (pc := 22) dX12_cost_22 rfl ?_
      obtain ⟨x6, e5, h⟩ := x_bind h
      refine g_cV (pc := 23) dX12_cost_23 cV_RX12_368 (M_X12_costOf (Nat.le_refl _) e5) xc_135 (as := [.int v1]) (st := []) rfl rfl (Nat.le_of_ble_eq_true rfl) (Nat.le_trans (Nat.le_of_ble_eq_true rfl) hd) rfl ?_
      refine g_goto (tgt := 30) (pc := 26) dX12_cost_26 (by decide) ?_
      obtain ⟨h1, h2⟩ := x_inj2 h
      subst h1
      subst h2
      exact g_iret (pc := 30) dX12_cost_30 rfl rfl rfl (Nat.le_refl _) (Nat.le_refl _)
set_option maxRecDepth 100000 in
set_option maxHeartbeats 4000000 in
theorem M_X12_cost {sc : Nat × (Nat → Int32)} {d : Nat} (hd : 2 ≤ d) {r : Int32} {u u' : xS} {a1 : Int32} (h : f_X12_cost a1 u = some (r, u')) : xMt sc mX12_cost d 0 0 [.ref 135, .int a1] (xL0, u) (some (.int r)) (xL0, u') :=
  xMt.of (by decide +kernel) (by decide +kernel) (Nat.le_of_ble_eq_true rfl) (L := [some (.ref 135), some (.int a1)]) rfl ((G_X12_cost_0 hd a1 u h))
set_option maxRecDepth 100000 in
set_option maxHeartbeats 4000000 in
theorem G_X12_lots_28 {sc : Nat × (Nat → Int32)} {d : Nat} (hd : 1 ≤ d) {r : Int32} {u : xS} {k4 : Int32 → Int32 → Option Int32} (hk4 : ∀ (v1 : Int32) (v2 : Int32), k4 v1 v2 = some r → xG sc mX12_lots d 0 0 (xR (some (.int r)) (xL0, u) 0 0) 0 0 4 [some (.ref 135), some (.int v1), some (.int v2)] [] (xL0, u)) (v2 : Int32) (s0 : Int32) (s1 : Int32) (h : f_X12_lots_28 k4 u v2 s0 s1 = some r) : xG sc mX12_lots d 0 0 (xR (some (.int r)) (xL0, u) 0 0) 0 0 28 [some (.ref 135), none, some (.int v2)] [.int s1, .int s0] (xL0, u) := by
  rw [f_X12_lots_28] at h
  refine g_cS (pc := 28) dX12_lots_28 cS_RX12_190 (M_X12_truth (Nat.le_refl _) rfl) (as := [.int s1]) (st := [.int s0]) rfl rfl (Nat.le_of_ble_eq_true rfl) (Nat.le_trans (Nat.le_of_ble_eq_true rfl) hd) rfl ?_
  refine g_iadd (pc := 31) dX12_lots_31 rfl ?_
  refine g_istore_n (pc := 32) dX12_lots_32 (Nat.le_of_ble_eq_true rfl) (L' := [some (.ref 135), some (.int (s0 + (f_X12_truth s1))), some (.int v2)]) rfl ?_
  refine g_inc (pc := 33) dX12_lots_33 (Nat.le_of_ble_eq_true rfl) rfl ic_1 (L' := [some (.ref 135), some (.int (s0 + (f_X12_truth s1))), some (.int (v2 + (1 : Int32)))]) rfl ?_
  refine g_goto (tgt := 4) (pc := 36) dX12_lots_36 (by decide) ?_
  exact hk4 (s0 + (f_X12_truth s1)) (v2 + (1 : Int32)) h
set_option maxRecDepth 100000 in
set_option maxHeartbeats 4000000 in
theorem G_X12_lots_4 {sc : Nat × (Nat → Int32)} {d : Nat} (hd : 1 ≤ d) {r : Int32} {u : xS} : ∀ (n : Nat) (v1 : Int32) (v2 : Int32), f_X12_lots_4 u n v1 v2 = some r → xG sc mX12_lots d 0 0 (xR (some (.int r)) (xL0, u) 0 0) 0 0 4 [some (.ref 135), some (.int v1), some (.int v2)] [] (xL0, u) := by
  intro n
  induction n with
  | zero =>
    intro v1 v2 h
    rw [f_X12_lots_4] at h
    cases h
  | succ n ih =>
    intro v1 v2 h
    rw [f_X12_lots_4] at h
    refine g_iload_n (pc := 4) dX12_lots_4 rfl ?_
    refine g_aload_n (pc := 5) dX12_lots_5 rfl ?_
    refine g_gR (pc := 6) dX12_lots_6 fR_RX12_43 xc_135 (v := 147) rfl ?_
    refine g_alen (pc := 9) dX12_lots_9 xc_147 (by decide) (v := (384 : Int32)) (by decide) ?_
    refine g_icmp_ge (tgt := 39) (pc := 10) dX12_lots_10 (by decide) (fun c1 => ?_) (fun c1 => ?_)
    · replace h := (if_pos c1).symm.trans h
      refine g_iload_n (pc := 39) dX12_lots_39 rfl ?_
      replace h := Option.some.inj h
      subst h
      exact g_iret (pc := 40) dX12_lots_40 rfl rfl rfl (Nat.le_refl _) (Nat.le_refl _)
    · replace h := (if_neg c1).symm.trans h
      refine g_iload_n (pc := 13) dX12_lots_13 rfl ?_
      refine g_aload_n (pc := 14) dX12_lots_14 rfl ?_
      refine g_gR (pc := 15) dX12_lots_15 fR_RX12_43 xc_135 (v := 147) rfl ?_
      refine g_iload_n (pc := 18) dX12_lots_18 rfl ?_
      obtain ⟨g2, h⟩ := x_gd h
      refine g_iaload (pc := 19) dX12_lots_19 xc_147 (xin_of g2) (v := (rd u 147 v2.toNatClampNeg)) rfl ?_
      refine g_if_le (tgt := 27) (pc := 20) dX12_lots_20 (by decide) (fun c3 => ?_) (fun c3 => ?_)
      · replace h := (if_pos c3).symm.trans h
        refine g_iconst (pc := 27) dX12_lots_27 ic_0 ?_
        refine g_L (L' := [some (.ref 135), none, some (.int v2)]) ⟨rfl, ⟨rfl, trivial⟩⟩ ?_
        exact G_X12_lots_28 hd ih v2 v1 (0 : Int32) h
      · replace h := (if_neg c3).symm.trans h
        refine g_iconst (pc := 23) dX12_lots_23 ic_1 ?_
        refine g_goto (tgt := 28) (pc := 24) dX12_lots_24 (by decide) ?_
        refine g_L (L' := [some (.ref 135), none, some (.int v2)]) ⟨rfl, ⟨rfl, trivial⟩⟩ ?_
        exact G_X12_lots_28 hd ih v2 v1 (1 : Int32) h
set_option maxRecDepth 100000 in
set_option maxHeartbeats 4000000 in
theorem G_X12_lots_0 {sc : Nat × (Nat → Int32)} {d : Nat} (hd : 1 ≤ d) {r : Int32} {u : xS} (h : f_X12_lots u = some r) : xG sc mX12_lots d 0 0 (xR (some (.int r)) (xL0, u) 0 0) 0 0 0 [some (.ref 135), none, none] [] (xL0, u) := by
  rw [f_X12_lots] at h
  refine g_iconst (pc := 0) dX12_lots_0 ic_0 ?_
  refine g_istore_n (pc := 1) dX12_lots_1 (Nat.le_of_ble_eq_true rfl) (L' := [some (.ref 135), some (.int (0 : Int32)), none]) rfl ?_
  refine g_iconst (pc := 2) dX12_lots_2 ic_0 ?_
  refine g_istore_n (pc := 3) dX12_lots_3 (Nat.le_of_ble_eq_true rfl) (L' := [some (.ref 135), some (.int (0 : Int32)), some (.int (0 : Int32))]) rfl ?_
  exact G_X12_lots_4 hd xN (0 : Int32) (0 : Int32) h
set_option maxRecDepth 100000 in
set_option maxHeartbeats 4000000 in
theorem M_X12_lots {sc : Nat × (Nat → Int32)} {d : Nat} (hd : 1 ≤ d) {r : Int32} {u : xS} (h : f_X12_lots u = some r) : xMt sc mX12_lots d 0 0 [.ref 135] (xL0, u) (some (.int r)) (xL0, u) :=
  xMt.of (by decide +kernel) (by decide +kernel) (Nat.le_of_ble_eq_true rfl) (L := [some (.ref 135), none, none]) rfl ((G_X12_lots_0 hd h))
