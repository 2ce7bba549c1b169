set_option maxRecDepth 100000 in
set_option maxHeartbeats 4000000 in
theorem G_X11_unload_85 {sc : Nat × (Nat → Int32)} {d : Nat} (hd : 1 ≤ d) {r : Int32} {u' : xS} (v1 : Int32) (v6 : Int32) (u : xS) (h : f_X11_unload_85 v1 v6 u = some (r, u')) : xG sc mX11_unload d 0 0 (xR (some (.int r)) (xL0, u') 0 0) 0 0 85 [some (.ref 0), some (.int v1), none, none, none, none, some (.int v6), none, none] [] (xL0, u) := by
  rw [f_X11_unload_85] at h
  refine g_aload_n (pc := 85) dX11_unload_85 rfl ?_
  refine g_gR (pc := 86) dX11_unload_86 fR_RX11_19 xc_0 (v := 13) rfl ?_
  refine g_gR (pc := 89) dX11_unload_89 fR_RX11_168 xc_13 (v := 19) rfl ?_
  refine g_iload_n (pc := 92) dX11_unload_92 rfl ?_
  refine g_iload (pc := 93) dX11_unload_93 rfl ?_
  obtain ⟨g1, h⟩ := x_gd h
  refine g_iastore (pc := 95) dX11_unload_95 xc_19 (xin_of g1) (u' := (wr u 19 v1.toNatClampNeg v6)) rfl ?_
  refine g_iload (pc := 96) dX11_unload_96 rfl ?_
  obtain ⟨h1, h2⟩ := x_inj2 h
  subst h1
  subst h2
  exact g_iret (pc := 98) dX11_unload_98 rfl rfl rfl (Nat.le_refl _) (Nat.le_refl _)
set_option maxRecDepth 100000 in
set_option maxHeartbeats 4000000 in
theorem G_X11_unload_79 {sc : Nat × (Nat → Int32)} {d : Nat} (hd : 1 ≤ d) {r : Int32} {u' : xS} {k14 : Int32 → Int32 → Int32 → Int32 → Int32 → Int32 → Int32 → xS → Option (Int32 × xS)} (hk14 : ∀ (v1 : Int32) (v2 : Int32) (v3 : Int32) (v4 : Int32) (v5 : Int32) (v6 : Int32) (v7 : Int32) (u : xS), k14 v1 v2 v3 v4 v5 v6 v7 u = some (r, u') → xG sc mX11_unload d 0 0 (xR (some (.int r)) (xL0, u') 0 0) 0 0 14 [some (.ref 0), some (.int v1), some (.int v2), some (.int v3), some (.int v4), some (.int v5), some (.int v6), some (.int v7), none] [] (xL0, u)) (v1 : Int32) (v2 : Int32) (v3 : Int32) (v4 : Int32) (v5 : Int32) (v6 : Int32) (v7 : Int32) (u : xS) (h : f_X11_unload_79 k14 v1 v2 v3 v4 v5 v6 v7 u = some (r, u')) : xG sc mX11_unload d 0 0 (xR (some (.int r)) (xL0, u') 0 0) 0 0 79 [some (.ref 0), some (.int v1), some (.int v2), some (.int v3), some (.int v4), some (.int v5), some (.int v6), some (.int v7), none] [] (xL0, u) := by
  rw [f_X11_unload_79] at h
  refine g_inc (pc := 79) dX11_unload_79 (Nat.le_of_ble_eq_true rfl) rfl ic_1 (L' := [some (.ref 0), some (.int v1), some (.int v2), some (.int v3), some (.int v4), some (.int v5), some (.int v6), some (.int (v7 + (1 : Int32))), none]) rfl ?_
  refine g_goto (tgt := 14) (pc := 82) dX11_unload_82 (by decide) ?_
  exact hk14 v1 v2 v3 v4 v5 v6 (v7 + (1 : Int32)) u h
set_option maxRecDepth 100000 in
set_option maxHeartbeats 4000000 in
theorem G_X11_unload_14 {sc : Nat × (Nat → Int32)} {d : Nat} (hd : 1 ≤ d) {r : Int32} {u' : xS} : ∀ (n : Nat) (v1 : Int32) (v2 : Int32) (v3 : Int32) (v4 : Int32) (v5 : Int32) (v6 : Int32) (v7 : Int32) (u : xS), f_X11_unload_14 n v1 v2 v3 v4 v5 v6 v7 u = some (r, u') → xG sc mX11_unload d 0 0 (xR (some (.int r)) (xL0, u') 0 0) 0 0 14 [some (.ref 0), some (.int v1), some (.int v2), some (.int v3), some (.int v4), some (.int v5), some (.int v6), some (.int v7), none] [] (xL0, u) := by
  intro n
  induction n with
  | zero =>
    intro v1 v2 v3 v4 v5 v6 v7 u h
    rw [f_X11_unload_14] at h
    cases h
  | succ n ih =>
    intro v1 v2 v3 v4 v5 v6 v7 u h
    rw [f_X11_unload_14] at h
    refine g_iload (pc := 14) dX11_unload_14 rfl ?_
    refine g_iload_n (pc := 16) dX11_unload_16 rfl ?_
    refine g_icmp_ge (tgt := 85) (pc := 17) dX11_unload_17 (by decide) (fun c1 => ?_) (fun c1 => ?_)
    · replace h := (if_pos c1).symm.trans h
      refine g_L (L' := [some (.ref 0), some (.int v1), none, none, none, none, some (.int v6), none, none]) ⟨rfl, ⟨rfl, ⟨rfl, trivial⟩⟩⟩ ?_
      exact G_X11_unload_85 hd v1 v6 u h
    · replace h := (if_neg c1).symm.trans h
      refine g_iload (pc := 20) dX11_unload_20 rfl ?_
      refine g_bipush (pc := 22) dX11_unload_22 bp_16 ?_
      refine g_icmp_ge (tgt := 85) (pc := 24) dX11_unload_24 (by decide) (fun c2 => ?_) (fun c2 => ?_)
      · replace h := (if_pos c2).symm.trans h
        refine g_L (L' := [some (.ref 0), some (.int v1), none, none, none, none, some (.int v6), none, none]) ⟨rfl, ⟨rfl, ⟨rfl, trivial⟩⟩⟩ ?_
        exact G_X11_unload_85 hd v1 v6 u h
      · replace h := (if_neg c2).symm.trans h
        refine g_iload_n (pc := 27) dX11_unload_27 rfl ?_
        refine g_iload (pc := 28) dX11_unload_28 rfl ?_
        refine g_iload (pc := 30) dX11_unload_30 rfl ?_
        refine g_iload (pc := 32) dX11_unload_32 rfl ?_
        refine g_imul (pc := 34) dX11_unload_34 rfl ?_
        refine g_iadd (pc := 35) dX11_unload_35 rfl ?_
        refine g_cS (pc := 36) dX11_unload_36 cS_RX11_158 (M_X11_entry (Nat.le_refl _) rfl) (as := [.int v2, .int (v4 + (v7 * v5))]) (st := []) rfl rfl (Nat.le_of_ble_eq_true rfl) (Nat.le_trans (Nat.le_of_ble_eq_true rfl) hd) rfl ?_
        refine g_istore (pc := 39) dX11_unload_39 (Nat.le_of_ble_eq_true rfl) (L' := [some (.ref 0), some (.int v1), some (.int v2), some (.int v3), some (.int v4), some (.int v5), some (.int v6), some (.int v7), some (.int (f_X11_entry v2 (v4 + (v7 * v5))))]) rfl ?_
        refine g_aload_n (pc := 41) dX11_unload_41 rfl ?_
        refine g_gR (pc := 42) dX11_unload_42 fR_RX11_19 xc_0 (v := 13) rfl ?_
        refine g_gR (pc := 45) dX11_unload_45 fR_RX11_161 xc_13 (v := 21) rfl ?_
        refine g_iload_n (pc := 48) dX11_unload_48 rfl ?_
        obtain ⟨g3, h⟩ := x_gd h
        refine g_aaload (pc := 49) dX11_unload_49 xc_21 (xin_of g3) (v := (22 + v1.toNatClampNeg)) (xrf_21 _ (xin_lt g3)) ?_
        refine g_iload (pc := 50) dX11_unload_50 rfl ?_
        refine g_iload (pc := 52) dX11_unload_52 rfl ?_
        obtain ⟨g4, h⟩ := x_gd h
        refine g_iastore (pc := 54) dX11_unload_54 (xrow_21 _ (xin_lt g3)) (xin_of g4) (u' := (wr u (22 + v1.toNatClampNeg) v7.toNatClampNeg (f_X11_entry v2 (v4 + (v7 * v5))))) rfl ?_
        refine g_iload (pc := 55) dX11_unload_55 rfl ?_
        refine g_iload (pc := 57) dX11_unload_57 rfl ?_
        refine g_isub (pc := 59) dX11_unload_59 rfl ?_
        refine g_istore (pc := 60) dX11_unload_60 (Nat.le_of_ble_eq_true rfl) (L' := [some (.ref 0), some (.int v1), some (.int v2), some (.int v3), some (.int v4), some (.int v5), some (.int (v6 - (f_X11_entry v2 (v4 + (v7 * v5))))), some (.int v7), some (.int (f_X11_entry v2 (v4 + (v7 * v5))))]) rfl ?_
        refine g_iload (pc := 62) dX11_unload_62 rfl ?_
        refine g_if_le (tgt := 79) (pc := 64) dX11_unload_64 (by decide) (fun c5 => ?_) (fun c5 => ?_)
        · replace h := (if_pos c5).symm.trans h
          refine g_L (L' := [some (.ref 0), some (.int v1), some (.int v2), some (.int v3), some (.int v4), some (.int v5), some (.int (v6 - (f_X11_entry v2 (v4 + (v7 * v5))))), some (.int v7), none]) ⟨rfl, ⟨rfl, ⟨rfl, ⟨rfl, ⟨rfl, ⟨rfl, ⟨rfl, ⟨rfl, trivial⟩⟩⟩⟩⟩⟩⟩⟩ ?_
          exact G_X11_unload_79 hd ih v1 v2 v3 v4 v5 (v6 - (f_X11_entry v2 (v4 + (v7 * v5)))) v7 (wr u (22 + v1.toNatClampNeg) v7.toNatClampNeg (f_X11_entry v2 (v4 + (v7 * v5)))) h
        · replace h := (if_neg c5).symm.trans h
          refine g_aload_n (pc := 67) dX11_unload_67 rfl ?_
          refine g_gR (pc := 68) dX11_unload_68 fR_RX11_54 xc_0 (v := 74) rfl ?_
          refine g_iload (pc := 71) dX11_unload_71 rfl ?_
          refine g_iload_n (pc := 73) dX11_unload_73 rfl ?_
          refine g_iload (pc := 74) dX11_unload_74 rfl ?_
          obtain ⟨u7, e6, h⟩ := x_bind h
          refine g_cV (pc := 76) dX11_unload_76 cV_RX11_165 (M_X6_add (Nat.le_refl _) e6) xc_74 (as := [.int v7, .int v1, .int (f_X11_entry v2 (v4 + (v7 * v5)))]) (st := []) rfl rfl (Nat.le_of_ble_eq_true rfl) (Nat.le_trans (Nat.le_of_ble_eq_true rfl) hd) rfl ?_
          refine g_L (L' := [some (.ref 0), some (.int v1), some (.int v2), some (.int v3), some (.int v4), some (.int v5), some (.int (v6 - (f_X11_entry v2 (v4 + (v7 * v5))))), some (.int v7), none]) ⟨rfl, ⟨rfl, ⟨rfl, ⟨rfl, ⟨rfl, ⟨rfl, ⟨rfl, ⟨rfl, trivial⟩⟩⟩⟩⟩⟩⟩⟩ ?_
          exact G_X11_unload_79 hd ih v1 v2 v3 v4 v5 (v6 - (f_X11_entry v2 (v4 + (v7 * v5)))) v7 u7 h
set_option maxRecDepth 100000 in
set_option maxHeartbeats 4000000 in
theorem G_X11_unload_0 {sc : Nat × (Nat → Int32)} {d : Nat} (hd : 1 ≤ d) {r : Int32} {u' : xS} (v1 : Int32) (v2 : Int32) (v3 : Int32) (v4 : Int32) (v5 : Int32) (u : xS) (h : f_X11_unload v1 v2 v3 v4 v5 u = some (r, u')) : xG sc mX11_unload d 0 0 (xR (some (.int r)) (xL0, u') 0 0) 0 0 0 [some (.ref 0), some (.int v1), some (.int v2), some (.int v3), some (.int v4), some (.int v5), none, none, none] [] (xL0, u) := by
  rw [f_X11_unload] at h
  refine g_aload_n (pc := 0) dX11_unload_0 rfl ?_
  refine g_gR (pc := 1) dX11_unload_1 fR_RX11_19 xc_0 (v := 13) rfl ?_
  refine g_gR (pc := 4) dX11_unload_4 fR_RX11_144 xc_13 (v := 16) rfl ?_
  refine g_iload_n (pc := 7) dX11_unload_7 rfl ?_
  obtain ⟨g1, h⟩ := x_gd h
  refine g_iaload (pc := 8) dX11_unload_8 xc_16 (xin_of g1) (v := (rd u 16 v1.toNatClampNeg)) rfl ?_
  refine g_istore (pc := 9) dX11_unload_9 (Nat.le_of_ble_eq_true rfl) (L' := [some (.ref 0), some (.int v1), some (.int v2), some (.int v3), some (.int v4), some (.int v5), some (.int (rd u 16 v1.toNatClampNeg)), none, none]) rfl ?_
  refine g_iconst (pc := 11) dX11_unload_11 ic_0 ?_
  refine g_istore (pc := 12) dX11_unload_12 (Nat.le_of_ble_eq_true rfl) (L' := [some (.ref 0), some (.int v1), some (.int v2), some (.int v3), some (.int v4), some (.int v5), some (.int (rd u 16 v1.toNatClampNeg)), some (.int (0 : Int32)), none]) rfl ?_
  exact G_X11_unload_14 hd xN v1 v2 v3 v4 v5 (rd u 16 v1.toNatClampNeg) (0 : Int32) u h
set_option maxRecDepth 100000 in
set_option maxHeartbeats 4000000 in
theorem M_X11_unload {sc : Nat × (Nat → Int32)} {d : Nat} (hd : 1 ≤ d) {r : Int32} {u u' : xS} {a1 : Int32} {a2 : Int32} {a3 : Int32} {a4 : Int32} {a5 : Int32} (h : f_X11_unload a1 a2 a3 a4 a5 u = some (r, u')) : xMt sc mX11_unload d 0 0 [.ref 0, .int a1, .int a2, .int a3, .int a4, .int a5] (xL0, u) (some (.int r)) (xL0, u') :=
  xMt.of (by decide +kernel) (by decide +kernel) (Nat.le_of_ble_eq_true rfl) (L := [some (.ref 0), some (.int a1), some (.int a2), some (.int a3), some (.int a4), some (.int a5), none, none, none]) rfl ((G_X11_unload_0 hd a1 a2 a3 a4 a5 u h))
set_option maxRecDepth 100000 in
set_option maxHeartbeats 4000000 in
theorem G_X11_open_0 {sc : Nat × (Nat → Int32)} {d : Nat} (hd : 2 ≤ d) {r : Int32} {u' : xS} (v1 : Int32) (v2 : Int32) (v3 : Int32) (v4 : Int32) (v5 : Int32) (v6 : Int32) (u : xS) (h : f_X11_open v1 v2 v3 v4 v5 v6 u = some (r, u')) : xG sc mX11_open d 0 0 (xR (some (.int r)) (xL0, u') 0 0) 0 0 0 [some (.ref 0), some (.int v1), some (.int v2), some (.int v3), some (.int v4), some (.int v5), some (.int v6)] [] (xL0, u) := by
  rw [f_X11_open] at h
  refine g_aload_n (pc := 0) dX11_open_0 rfl ?_
  refine g_gR (pc := 1) dX11_open_1 fR_RX11_19 xc_0 (v := 13) rfl ?_
  refine g_iload_n (pc := 4) dX11_open_4 rfl ?_
  refine g_cV (pc := 5) dX11_open_5 cV_RX11_137 (M_X0_has (Nat.le_refl _) rfl) xc_13 (as := [.int v1]) (st := []) rfl rfl (Nat.le_of_ble_eq_true rfl) (Nat.le_trans (Nat.le_of_ble_eq_true rfl) hd) rfl ?_
  refine g_if_eq (tgt := 27) (pc := 8) dX11_open_8 (by decide) (fun c1 => ?_) (fun c1 => ?_)
  · replace h := (if_pos c1).symm.trans h
    refine g_iconst (pc := 27) dX11_open_27 ic_m1 ?_
    obtain ⟨h1, h2⟩ := x_inj2 h
    subst h1
    subst h2
    exact g_iret (pc := 28) dX11_open_28 rfl rfl rfl (Nat.le_refl _) (Nat.le_refl _)
  · replace h := (if_neg c1).symm.trans h
    refine g_iload_n (pc := 11) dX11_open_11 rfl ?_
    refine g_cS (pc := 12) dX11_open_12 cS_RX11_138 (M_X11_isSorter (Nat.le_refl _) rfl) (as := [.int v2]) (st := []) rfl rfl (Nat.le_of_ble_eq_true rfl) (Nat.le_trans (Nat.le_of_ble_eq_true rfl) hd) rfl ?_
    refine g_if_eq (tgt := 27) (pc := 15) dX11_open_15 (by decide) (fun c2 => ?_) (fun c2 => ?_)
    · replace h := (if_pos c2).symm.trans h
      refine g_iconst (pc := 27) dX11_open_27 ic_m1 ?_
      obtain ⟨h1, h2⟩ := x_inj2 h
      subst h1
      subst h2
      exact g_iret (pc := 28) dX11_open_28 rfl rfl rfl (Nat.le_refl _) (Nat.le_refl _)
    · replace h := (if_neg c2).symm.trans h
      refine g_iload_n (pc := 18) dX11_open_18 rfl ?_
      refine g_iconst (pc := 19) dX11_open_19 ic_0 ?_
      refine g_iconst (pc := 20) dX11_open_20 ic_3 ?_
      refine g_cS (pc := 21) dX11_open_21 cS_RX11_94 (M_X11_lies (Nat.le_refl _) rfl) (as := [.int v3, .int (0 : Int32), .int (3 : Int32)]) (st := []) rfl rfl (Nat.le_of_ble_eq_true rfl) (Nat.le_trans (Nat.le_of_ble_eq_true rfl) hd) rfl ?_
      refine g_if_ne (tgt := 29) (pc := 24) dX11_open_24 (by decide) (fun c3 => ?_) (fun c3 => ?_)
      · replace h := (if_neg c3).symm.trans h
        refine g_aload_n (pc := 29) dX11_open_29 rfl ?_
        refine g_gR (pc := 30) dX11_open_30 fR_RX11_19 xc_0 (v := 13) rfl ?_
        refine g_iload_n (pc := 33) dX11_open_33 rfl ?_
        obtain ⟨x5, e4, h⟩ := x_bind h
        refine g_cV (pc := 34) dX11_open_34 cV_RX11_141 (M_X0_isSorted (Nat.le_refl _) e4) xc_13 (as := [.int v1]) (st := []) rfl rfl (Nat.le_of_ble_eq_true rfl) (Nat.le_trans (Nat.le_of_ble_eq_true rfl) hd) rfl ?_
        refine g_if_ne (tgt := 52) (pc := 37) dX11_open_37 (by decide) (fun c6 => ?_) (fun c6 => ?_)
        · replace h := (if_neg c6).symm.trans h
          refine g_iconst (pc := 52) dX11_open_52 ic_m1 ?_
          obtain ⟨h1, h2⟩ := x_inj2 h
          subst h1
          subst h2
          exact g_iret (pc := 53) dX11_open_53 rfl rfl rfl (Nat.le_refl _) (Nat.le_refl _)
        · replace h := (if_pos c6).symm.trans h
          refine g_iload (pc := 40) dX11_open_40 rfl ?_
          refine g_aload_n (pc := 42) dX11_open_42 rfl ?_
          refine g_gR (pc := 43) dX11_open_43 fR_RX11_12 xc_0 (v := 1) rfl ?_
          refine g_gI (pc := 46) dX11_open_46 fI_RX11_102 xc_1 (v := (rd u 1 2)) rfl ?_
          refine g_icmp_le (tgt := 54) (pc := 49) dX11_open_49 (by decide) (fun c7 => ?_) (fun c7 => ?_)
          · replace h := (if_pos c7).symm.trans h
            refine g_iload_n (pc := 54) dX11_open_54 rfl ?_
            refine g_iconst (pc := 55) dX11_open_55 ic_3 ?_
            refine g_icmp_ne (tgt := 62) (pc := 56) dX11_open_56 (by decide) (fun c8 => ?_) (fun c8 => ?_)
            · replace h := (if_neg c8).symm.trans h
              refine g_iload (pc := 62) dX11_open_62 rfl ?_
              refine g_if_ge (tgt := 70) (pc := 64) dX11_open_64 (by decide) (fun c9 => ?_) (fun c9 => ?_)
              · replace h := (if_pos c9).symm.trans h
                refine g_aload_n (pc := 70) dX11_open_70 rfl ?_
                refine g_gR (pc := 71) dX11_open_71 fR_RX11_19 xc_0 (v := 13) rfl ?_
                refine g_gR (pc := 74) dX11_open_74 fR_RX11_144 xc_13 (v := 16) rfl ?_
                refine g_iload_n (pc := 77) dX11_open_77 rfl ?_
                obtain ⟨g10, h⟩ := x_gd h
                refine g_iaload (pc := 78) dX11_open_78 xc_16 (xin_of g10) (v := (rd u 16 v1.toNatClampNeg)) rfl ?_
                refine g_iload_n (pc := 79) dX11_open_79 rfl ?_
                refine g_iload (pc := 80) dX11_open_80 rfl ?_
                refine g_iload (pc := 82) dX11_open_82 rfl ?_
                refine g_iload (pc := 84) dX11_open_84 rfl ?_
                obtain ⟨x12, e11, h⟩ := x_bind h
                refine g_cS (pc := 86) dX11_open_86 cS_RX11_147 (M_X11_sheetFits (Nat.le_refl _) e11) (as := [.int (rd u 16 v1.toNatClampNeg), .int v3, .int v4, .int v5, .int v6]) (st := []) rfl rfl (Nat.le_of_ble_eq_true rfl) (Nat.le_trans (Nat.le_of_ble_eq_true rfl) hd) rfl ?_
                refine g_if_ne (tgt := 95) (pc := 89) dX11_open_89 (by decide) (fun c13 => ?_) (fun c13 => ?_)
                · replace h := (if_neg c13).symm.trans h
                  refine g_aload_n (pc := 95) dX11_open_95 rfl ?_
                  refine g_gR (pc := 96) dX11_open_96 fR_RX11_19 xc_0 (v := 13) rfl ?_
                  refine g_gR (pc := 99) dX11_open_99 fR_RX11_151 xc_13 (v := 18) rfl ?_
                  refine g_iload_n (pc := 102) dX11_open_102 rfl ?_
                  refine g_iload_n (pc := 103) dX11_open_103 rfl ?_
                  refine g_iastore (pc := 104) dX11_open_104 xc_18 (xin_of g10) (u' := (wr u 18 v1.toNatClampNeg v2)) rfl ?_
                  refine g_aload_n (pc := 105) dX11_open_105 rfl ?_
                  refine g_iload_n (pc := 106) dX11_open_106 rfl ?_
                  refine g_iload_n (pc := 107) dX11_open_107 rfl ?_
                  refine g_iload (pc := 108) dX11_open_108 rfl ?_
                  refine g_iload (pc := 110) dX11_open_110 rfl ?_
                  refine g_iload (pc := 112) dX11_open_112 rfl ?_
                  obtain ⟨⟨x15, u16⟩, e14, h⟩ := x_bind h
                  dsimp only at h
                  refine g_cV (pc := 114) dX11_open_114 cV_RX11_154 (M_X11_unload (Nat.le_refl _) e14) xc_0 (as := [.int v1, .int v3, .int v4, .int v5, .int v6]) (st := []) rfl rfl (Nat.le_of_ble_eq_true rfl) (Nat.le_trans (Nat.le_of_ble_eq_true rfl) hd) rfl ?_
                  obtain ⟨h1, h2⟩ := x_inj2 h
                  subst h1
                  subst h2
                  exact g_iret (pc := 117) dX11_open_117 rfl rfl rfl (Nat.le_refl _) (Nat.le_refl _)
                · replace h := (if_pos c13).symm.trans h
                  refine g_bipush (pc := 92) dX11_open_92 bp_m4 ?_
                  obtain ⟨h1, h2⟩ := x_inj2 h
                  subst h1
                  subst h2
                  exact g_iret (pc := 94) dX11_open_94 rfl rfl rfl (Nat.le_refl _) (Nat.le_refl _)
              · replace h := (if_neg c9).symm.trans h
                refine g_bipush (pc := 67) dX11_open_67 bp_m2 ?_
                obtain ⟨h1, h2⟩ := x_inj2 h
                subst h1
                subst h2
                exact g_iret (pc := 69) dX11_open_69 rfl rfl rfl (Nat.le_refl _) (Nat.le_refl _)
            · replace h := (if_pos c8).symm.trans h
              refine g_bipush (pc := 59) dX11_open_59 bp_m3 ?_
              obtain ⟨h1, h2⟩ := x_inj2 h
              subst h1
              subst h2
              exact g_iret (pc := 61) dX11_open_61 rfl rfl rfl (Nat.le_refl _) (Nat.le_refl _)
          · replace h := (if_neg c7).symm.trans h
            refine g_iconst (pc := 52) dX11_open_52 ic_m1 ?_
            obtain ⟨h1, h2⟩ := x_inj2 h
            subst h1
            subst h2
            exact g_iret (pc := 53) dX11_open_53 rfl rfl rfl (Nat.le_refl _) (Nat.le_refl _)
      · replace h := (if_pos c3).symm.trans h
        refine g_iconst (pc := 27) dX11_open_27 ic_m1 ?_
        obtain ⟨h1, h2⟩ := x_inj2 h
        subst h1
        subst h2
        exact g_iret (pc := 28) dX11_open_28 rfl rfl rfl (Nat.le_refl _) (Nat.le_refl _)
set_option maxRecDepth 100000 in
set_option maxHeartbeats 4000000 in
theorem M_X11_open {sc : Nat × (Nat → Int32)} {d : Nat} (hd : 2 ≤ d) {r : Int32} {u u' : xS} {a1 : Int32} {a2 : Int32} {a3 : Int32} {a4 : Int32} {a5 : Int32} {a6 : Int32} (h : f_X11_open a1 a2 a3 a4 a5 a6 u = some (r, u')) : xMt sc mX11_open d 0 0 [.ref 0, .int a1, .int a2, .int a3, .int a4, .int a5, .int a6] (xL0, u) (some (.int r)) (xL0, u') :=
  xMt.of (by decide +kernel) (by decide +kernel) (Nat.le_of_ble_eq_true rfl) (L := [some (.ref 0), some (.int a1), some (.int a2), some (.int a3), some (.int a4), some (.int a5), some (.int a6)]) rfl ((G_X11_open_0 hd a1 a2 a3 a4 a5 a6 u h))
set_option maxRecDepth 100000 in
set_option maxHeartbeats 4000000 in
theorem G_X4_addPack_0 {sc : Nat × (Nat → Int32)} {d : Nat} (hd : 0 ≤ d) {r : Int32} {u' : xS} (v1 : Int32) (v2 : Int32) (v3 : Int32) (v4 : Int32) (u : xS) (h : f_X4_addPack v1 v2 v3 v4 u = some (r, u')) : xG sc mX4_addPack d 0 0 (xR (some (.int r)) (xL0, u') 0 0) 0 0 0 [some (.ref 121), some (.int v1), some (.int v2), some (.int v3), some (.int v4)] [] (xL0, u) := by
  rw [f_X4_addPack] at h
  refine g_aload_n (pc := 0) dX4_addPack_0 rfl ?_
  refine g_gI (pc := 1) dX4_addPack_1 fI_RX4_32 xc_121 (v := (rd u 121 6)) rfl ?_
  refine g_bipush (pc := 4) dX4_addPack_4 bp_8 ?_
  refine g_icmp_lt (tgt := 11) (pc := 6) dX4_addPack_6 (by decide) (fun c1 => ?_) (fun c1 => ?_)
  · replace h := (if_pos c1).symm.trans h
    refine g_aload_n (pc := 11) dX4_addPack_11 rfl ?_
    refine g_gR (pc := 12) dX4_addPack_12 fR_RX4_20 xc_121 (v := 128) rfl ?_
    refine g_aload_n (pc := 15) dX4_addPack_15 rfl ?_
    refine g_gI (pc := 16) dX4_addPack_16 fI_RX4_32 xc_121 (v := (rd u 121 6)) rfl ?_
    refine g_iload_n (pc := 19) dX4_addPack_19 rfl ?_
    obtain ⟨g2, h⟩ := x_gd h
    refine g_iastore (pc := 20) dX4_addPack_20 xc_128 (xin_of g2) (u' := (wr u 128 (rd u 121 6).toNatClampNeg v1)) rfl ?_
    refine g_aload_n (pc := 21) dX4_addPack_21 rfl ?_
    refine g_gR (pc := 22) dX4_addPack_22 fR_RX4_23 xc_121 (v := 129) rfl ?_
    refine g_aload_n (pc := 25) dX4_addPack_25 rfl ?_
    refine g_gI (pc := 26) dX4_addPack_26 fI_RX4_32 xc_121 (v := (rd u 121 6)) rfl ?_
    refine g_iload_n (pc := 29) dX4_addPack_29 rfl ?_
    refine g_iastore (pc := 30) dX4_addPack_30 xc_129 (xin_of g2) (u' := (wr (wr u 128 (rd u 121 6).toNatClampNeg v1) 129 (rd u 121 6).toNatClampNeg v2)) rfl ?_
    refine g_aload_n (pc := 31) dX4_addPack_31 rfl ?_
    refine g_gR (pc := 32) dX4_addPack_32 fR_RX4_26 xc_121 (v := 130) rfl ?_
    refine g_aload_n (pc := 35) dX4_addPack_35 rfl ?_
    refine g_gI (pc := 36) dX4_addPack_36 fI_RX4_32 xc_121 (v := (rd u 121 6)) rfl ?_
    refine g_iload_n (pc := 39) dX4_addPack_39 rfl ?_
    refine g_iastore (pc := 40) dX4_addPack_40 xc_130 (xin_of g2) (u' := (wr (wr (wr u 128 (rd u 121 6).toNatClampNeg v1) 129 (rd u 121 6).toNatClampNeg v2) 130 (rd u 121 6).toNatClampNeg v3)) rfl ?_
    refine g_aload_n (pc := 41) dX4_addPack_41 rfl ?_
    refine g_gR (pc := 42) dX4_addPack_42 fR_RX4_29 xc_121 (v := 131) rfl ?_
    refine g_aload_n (pc := 45) dX4_addPack_45 rfl ?_
    refine g_gI (pc := 46) dX4_addPack_46 fI_RX4_32 xc_121 (v := (rd u 121 6)) rfl ?_
    refine g_iload (pc := 49) dX4_addPack_49 rfl ?_
    refine g_iastore (pc := 51) dX4_addPack_51 xc_131 (xin_of g2) (u' := (wr (wr (wr (wr u 128 (rd u 121 6).toNatClampNeg v1) 129 (rd u 121 6).toNatClampNeg v2) 130 (rd u 121 6).toNatClampNeg v3) 131 (rd u 121 6).toNatClampNeg v4)) rfl ?_
    refine g_aload_n (pc := 52) dX4_addPack_52 rfl ?_
    refine g_dup (pc := 53) dX4_addPack_53 rfl ?_
    refine g_gI (pc := 54) dX4_addPack_54 fI_RX4_32 xc_121 (v := (rd u 121 6)) rfl ?_
    refine g_dup_x1 (pc := 57) dX4_addPack_57 rfl rfl ?_
    refine g_iconst (pc := 58) dX4_addPack_58 ic_1 ?_
    refine g_iadd (pc := 59) dX4_addPack_59 rfl ?_
    refine g_pI (pc := 60) dX4_addPack_60 pI_RX4_32 xc_121 (u' := (wr (wr (wr (wr (wr u 128 (rd u 121 6).toNatClampNeg v1) 129 (rd u 121 6).toNatClampNeg v2) 130 (rd u 121 6).toNatClampNeg v3) 131 (rd u 121 6).toNatClampNeg v4) 121 6 ((rd u 121 6) + (1 : Int32)))) rfl ?_
    obtain ⟨h1, h2⟩ := x_inj2 h
    subst h1
    subst h2
    exact g_iret (pc := 63) dX4_addPack_63 rfl rfl rfl (Nat.le_refl _) (Nat.le_refl _)
  · replace h := (if_neg c1).symm.trans h
    refine g_iconst (pc := 9) dX4_addPack_9 ic_m1 ?_
    obtain ⟨h1, h2⟩ := x_inj2 h
    subst h1
    subst h2
    exact g_iret (pc := 10) dX4_addPack_10 rfl rfl rfl (Nat.le_refl _) (Nat.le_refl _)
set_option maxRecDepth 100000 in
set_option maxHeartbeats 4000000 in
theorem M_X4_addPack {sc : Nat × (Nat → Int32)} {d : Nat} (hd : 0 ≤ d) {r : Int32} {u u' : xS} {a1 : Int32} {a2 : Int32} {a3 : Int32} {a4 : Int32} (h : f_X4_addPack a1 a2 a3 a4 u = some (r, u')) : xMt sc mX4_addPack d 0 0 [.ref 121, .int a1, .int a2, .int a3, .int a4] (xL0, u) (some (.int r)) (xL0, u') :=
  xMt.of (by decide +kernel) (by decide +kernel) (Nat.le_of_ble_eq_true rfl) (L := [some (.ref 121), some (.int a1), some (.int a2), some (.int a3), some (.int a4)]) rfl ((G_X4_addPack_0 hd a1 a2 a3 a4 u h))
set_option maxRecDepth 100000 in
set_option maxHeartbeats 4000000 in
theorem G_X11_pack_162 {sc : Nat × (Nat → Int32)} {d : Nat} (hd : 2 ≤ d) {r : Int32} {u' : xS} (v4 : Int32) (s1 : Int32) (s2 : Int32) (s3 : Int32) (u : xS) (h : f_X11_pack_162 v4 s1 s2 s3 u = some (r, u')) : xG sc mX11_pack d 0 0 (xR (some (.int r)) (xL0, u') 0 0) 0 0 162 [none, none, none, none, some (.int v4), none] [.int s3, .int s2, .int s1, .ref 121] (xL0, u) := by
  rw [f_X11_pack_162] at h
  refine g_iload (pc := 162) dX11_pack_162 rfl ?_
  obtain ⟨⟨x2, u3⟩, e1, h⟩ := x_bind h
  dsimp only at h
  refine g_cV (pc := 164) dX11_pack_164 cV_RX11_394 (M_X4_addPack (Nat.le_refl _) e1) xc_121 (as := [.int s1, .int s2, .int s3, .int v4]) (st := []) rfl rfl (Nat.le_of_ble_eq_true rfl) (Nat.le_trans (Nat.le_of_ble_eq_true rfl) hd) rfl ?_
  obtain ⟨h1, h2⟩ := x_inj2 h
  subst h1
  subst h2
  exact g_iret (pc := 167) dX11_pack_167 rfl rfl rfl (Nat.le_refl _) (Nat.le_refl _)
set_option maxRecDepth 100000 in
set_option maxHeartbeats 4000000 in
theorem G_X11_pack_146 {sc : Nat × (Nat → Int32)} {d : Nat} (hd : 2 ≤ d) {r : Int32} {u' : xS} (v1 : Int32) (v2 : Int32) (v3 : Int32) (v4 : Int32) (u : xS) (h : f_X11_pack_146 v1 v2 v3 v4 u = some (r, u')) : xG sc mX11_pack d 0 0 (xR (some (.int r)) (xL0, u') 0 0) 0 0 146 [some (.ref 0), some (.int v1), some (.int v2), some (.int v3), some (.int v4), none] [] (xL0, u) := by
  rw [f_X11_pack_146] at h
  refine g_aload_n (pc := 146) dX11_pack_146 rfl ?_
  refine g_gR (pc := 147) dX11_pack_147 fR_RX11_82 xc_0 (v := 121) rfl ?_
  refine g_iload_n (pc := 150) dX11_pack_150 rfl ?_
  refine g_iload_n (pc := 151) dX11_pack_151 rfl ?_
  refine g_iload (pc := 152) dX11_pack_152 rfl ?_
  refine g_if_ne (tgt := 161) (pc := 154) dX11_pack_154 (by decide) (fun c1 => ?_) (fun c1 => ?_)
  · replace h := (if_neg c1).symm.trans h
    refine g_iload_n (pc := 161) dX11_pack_161 rfl ?_
    refine g_L (L' := [none, none, none, none, some (.int v4), none]) ⟨rfl, trivial⟩ ?_
    exact G_X11_pack_162 hd v4 v1 v2 v3 u h
  · replace h := (if_pos c1).symm.trans h
    refine g_iload_n (pc := 157) dX11_pack_157 rfl ?_
    refine g_goto (tgt := 162) (pc := 158) dX11_pack_158 (by decide) ?_
    refine g_L (L' := [none, none, none, none, some (.int v4), none]) ⟨rfl, trivial⟩ ?_
    exact G_X11_pack_162 hd v4 v1 v2 v1 u h
set_option maxRecDepth 100000 in
set_option maxHeartbeats 4000000 in
theorem G_X11_pack_87 {sc : Nat × (Nat → Int32)} {d : Nat} (hd : 2 ≤ d) {r : Int32} {u' : xS} (v1 : Int32) (v2 : Int32) (v3 : Int32) (v4 : Int32) (s0 : Int32) (u : xS) (h : f_X11_pack_87 v1 v2 v3 v4 s0 u = some (r, u')) : xG sc mX11_pack d 0 0 (xR (some (.int r)) (xL0, u') 0 0) 0 0 87 [some (.ref 0), some (.int v1), some (.int v2), some (.int v3), some (.int v4), none] [.int s0] (xL0, u) := by
  rw [f_X11_pack_87] at h
  refine g_istore (pc := 87) dX11_pack_87 (Nat.le_of_ble_eq_true rfl) (L' := [some (.ref 0), some (.int v1), some (.int v2), some (.int v3), some (.int v4), some (.int s0)]) rfl ?_
  refine g_iload (pc := 89) dX11_pack_89 rfl ?_
  refine g_if_eq (tgt := 106) (pc := 91) dX11_pack_91 (by decide) (fun c1 => ?_) (fun c1 => ?_)
  · replace h := (if_pos c1).symm.trans h
    refine g_iconst (pc := 106) dX11_pack_106 ic_m1 ?_
    obtain ⟨h1, h2⟩ := x_inj2 h
    subst h1
    subst h2
    exact g_iret (pc := 107) dX11_pack_107 rfl rfl rfl (Nat.le_refl _) (Nat.le_refl _)
  · replace h := (if_neg c1).symm.trans h
    refine g_aload_n (pc := 94) dX11_pack_94 rfl ?_
    refine g_gR (pc := 95) dX11_pack_95 fR_RX11_82 xc_0 (v := 121) rfl ?_
    refine g_gI (pc := 98) dX11_pack_98 fI_RX11_391 xc_121 (v := (rd u 121 6)) rfl ?_
    refine g_bipush (pc := 101) dX11_pack_101 bp_8 ?_
    refine g_icmp_lt (tgt := 108) (pc := 103) dX11_pack_103 (by decide) (fun c2 => ?_) (fun c2 => ?_)
    · replace h := (if_pos c2).symm.trans h
      refine g_aload_n (pc := 108) dX11_pack_108 rfl ?_
      refine g_gR (pc := 109) dX11_pack_109 fR_RX11_54 xc_0 (v := 74) rfl ?_
      refine g_iload_n (pc := 112) dX11_pack_112 rfl ?_
      refine g_iload_n (pc := 113) dX11_pack_113 rfl ?_
      refine g_aload_n (pc := 114) dX11_pack_114 rfl ?_
      refine g_gR (pc := 115) dX11_pack_115 fR_RX11_19 xc_0 (v := 13) rfl ?_
      refine g_gR (pc := 118) dX11_pack_118 fR_RX11_176 xc_13 (v := 20) rfl ?_
      obtain ⟨u4, e3, h⟩ := x_bind h
      refine g_cV (pc := 121) dX11_pack_121 cV_RX11_273 (M_X6_takeOut (Nat.le_refl _) e3) xc_74 (as := [.int v1, .int v2, .ref 20]) (st := []) rfl rfl (Nat.le_of_ble_eq_true rfl) (Nat.le_trans (Nat.le_of_ble_eq_true rfl) hd) rfl ?_
      refine g_iload (pc := 124) dX11_pack_124 rfl ?_
      refine g_if_le (tgt := 146) (pc := 126) dX11_pack_126 (by decide) (fun c5 => ?_) (fun c5 => ?_)
      · replace h := (if_pos c5).symm.trans h
        refine g_L (L' := [some (.ref 0), some (.int v1), some (.int v2), some (.int v3), some (.int v4), none]) ⟨rfl, ⟨rfl, ⟨rfl, ⟨rfl, ⟨rfl, trivial⟩⟩⟩⟩⟩ ?_
        exact G_X11_pack_146 hd v1 v2 v3 v4 u4 h
      · replace h := (if_neg c5).symm.trans h
        refine g_aload_n (pc := 129) dX11_pack_129 rfl ?_
        refine g_gR (pc := 130) dX11_pack_130 fR_RX11_54 xc_0 (v := 74) rfl ?_
        refine g_iload_n (pc := 133) dX11_pack_133 rfl ?_
        refine g_iload (pc := 134) dX11_pack_134 rfl ?_
        refine g_aload_n (pc := 136) dX11_pack_136 rfl ?_
        refine g_gR (pc := 137) dX11_pack_137 fR_RX11_19 xc_0 (v := 13) rfl ?_
        refine g_gR (pc := 140) dX11_pack_140 fR_RX11_176 xc_13 (v := 20) rfl ?_
        obtain ⟨u7, e6, h⟩ := x_bind h
        refine g_cV (pc := 143) dX11_pack_143 cV_RX11_273 (M_X6_takeOut (Nat.le_refl _) e6) xc_74 (as := [.int v3, .int v4, .ref 20]) (st := []) rfl rfl (Nat.le_of_ble_eq_true rfl) (Nat.le_trans (Nat.le_of_ble_eq_true rfl) hd) rfl ?_
        refine g_L (L' := [some (.ref 0), some (.int v1), some (.int v2), some (.int v3), some (.int v4), none]) ⟨rfl, ⟨rfl, ⟨rfl, ⟨rfl, ⟨rfl, trivial⟩⟩⟩⟩⟩ ?_
        exact G_X11_pack_146 hd v1 v2 v3 v4 u7 h
    · replace h := (if_neg c2).symm.trans h
      refine g_iconst (pc := 106) dX11_pack_106 ic_m1 ?_
      obtain ⟨h1, h2⟩ := x_inj2 h
      subst h1
      subst h2
      exact g_iret (pc := 107) dX11_pack_107 rfl rfl rfl (Nat.le_refl _) (Nat.le_refl _)
set_option maxRecDepth 100000 in
set_option maxHeartbeats 4000000 in
theorem G_X11_pack_82 {sc : Nat × (Nat → Int32)} {d : Nat} (hd : 2 ≤ d) {r : Int32} {u' : xS} (v1 : Int32) (v2 : Int32) (v3 : Int32) (v4 : Int32) (u : xS) (h : f_X11_pack_82 v1 v2 v3 v4 u = some (r, u')) : xG sc mX11_pack d 0 0 (xR (some (.int r)) (xL0, u') 0 0) 0 0 82 [some (.ref 0), some (.int v1), some (.int v2), some (.int v3), some (.int v4), none] [] (xL0, u) := by
  rw [f_X11_pack_82] at h
  refine g_iconst (pc := 82) dX11_pack_82 ic_1 ?_
  refine g_goto (tgt := 87) (pc := 83) dX11_pack_83 (by decide) ?_
  exact G_X11_pack_87 hd v1 v2 v3 v4 (1 : Int32) u h
set_option maxRecDepth 100000 in
set_option maxHeartbeats 4000000 in
theorem G_X11_pack_86 {sc : Nat × (Nat → Int32)} {d : Nat} (hd : 2 ≤ d) {r : Int32} {u' : xS} (v1 : Int32) (v2 : Int32) (v3 : Int32) (v4 : Int32) (u : xS) (h : f_X11_pack_86 v1 v2 v3 v4 u = some (r, u')) : xG sc mX11_pack d 0 0 (xR (some (.int r)) (xL0, u') 0 0) 0 0 86 [some (.ref 0), some (.int v1), some (.int v2), some (.int v3), some (.int v4), none] [] (xL0, u) := by
  rw [f_X11_pack_86] at h
  refine g_iconst (pc := 86) dX11_pack_86 ic_0 ?_
  exact G_X11_pack_87 hd v1 v2 v3 v4 (0 : Int32) u h
set_option maxRecDepth 100000 in
set_option maxHeartbeats 4000000 in
theorem G_X11_pack_0 {sc : Nat × (Nat → Int32)} {d : Nat} (hd : 2 ≤ d) {r : Int32} {u' : xS} (v1 : Int32) (v2 : Int32) (v3 : Int32) (v4 : Int32) (u : xS) (h : f_X11_pack v1 v2 v3 v4 u = some (r, u')) : xG sc mX11_pack d 0 0 (xR (some (.int r)) (xL0, u') 0 0) 0 0 0 [some (.ref 0), some (.int v1), some (.int v2), some (.int v3), some (.int v4), none] [] (xL0, u) := by
  rw [f_X11_pack] at h
  refine g_aload_n (pc := 0) dX11_pack_0 rfl ?_
  refine g_gR (pc := 1) dX11_pack_1 fR_RX11_12 xc_0 (v := 1) rfl ?_
  refine g_iload_n (pc := 4) dX11_pack_4 rfl ?_
  refine g_cV (pc := 5) dX11_pack_5 cV_RX11_98 (M_X8_has (Nat.le_refl _) rfl) xc_1 (as := [.int v1]) (st := []) rfl rfl (Nat.le_of_ble_eq_true rfl) (Nat.le_trans (Nat.le_of_ble_eq_true rfl) hd) rfl ?_
  refine g_if_eq (tgt := 46) (pc := 8) dX11_pack_8 (by decide) (fun c1 => ?_) (fun c1 => ?_)
  · replace h := (if_pos c1).symm.trans h
    refine g_iconst (pc := 46) dX11_pack_46 ic_m1 ?_
    obtain ⟨h1, h2⟩ := x_inj2 h
    subst h1
    subst h2
    exact g_iret (pc := 47) dX11_pack_47 rfl rfl rfl (Nat.le_refl _) (Nat.le_refl _)
  · replace h := (if_neg c1).symm.trans h
    refine g_iload_n (pc := 11) dX11_pack_11 rfl ?_
    refine g_iconst (pc := 12) dX11_pack_12 ic_1 ?_
    refine g_sipush (pc := 13) dX11_pack_13 sp_9999 ?_
    refine g_cS (pc := 16) dX11_pack_16 cS_RX11_94 (M_X11_lies (Nat.le_refl _) rfl) (as := [.int v2, .int (1 : Int32), .int (9999 : Int32)]) (st := []) rfl rfl (Nat.le_of_ble_eq_true rfl) (Nat.le_trans (Nat.le_of_ble_eq_true rfl) hd) rfl ?_
    refine g_if_eq (tgt := 46) (pc := 19) dX11_pack_19 (by decide) (fun c2 => ?_) (fun c2 => ?_)
    · replace h := (if_pos c2).symm.trans h
      refine g_iconst (pc := 46) dX11_pack_46 ic_m1 ?_
      obtain ⟨h1, h2⟩ := x_inj2 h
      subst h1
      subst h2
      exact g_iret (pc := 47) dX11_pack_47 rfl rfl rfl (Nat.le_refl _) (Nat.le_refl _)
    · replace h := (if_neg c2).symm.trans h
      refine g_iload (pc := 22) dX11_pack_22 rfl ?_
      refine g_iconst (pc := 24) dX11_pack_24 ic_0 ?_
      refine g_sipush (pc := 25) dX11_pack_25 sp_9999 ?_
      refine g_cS (pc := 28) dX11_pack_28 cS_RX11_94 (M_X11_lies (Nat.le_refl _) rfl) (as := [.int v4, .int (0 : Int32), .int (9999 : Int32)]) (st := []) rfl rfl (Nat.le_of_ble_eq_true rfl) (Nat.le_trans (Nat.le_of_ble_eq_true rfl) hd) rfl ?_
      refine g_if_eq (tgt := 46) (pc := 31) dX11_pack_31 (by decide) (fun c3 => ?_) (fun c3 => ?_)
      · replace h := (if_pos c3).symm.trans h
        refine g_iconst (pc := 46) dX11_pack_46 ic_m1 ?_
        obtain ⟨h1, h2⟩ := x_inj2 h
        subst h1
        subst h2
        exact g_iret (pc := 47) dX11_pack_47 rfl rfl rfl (Nat.le_refl _) (Nat.le_refl _)
      · replace h := (if_neg c3).symm.trans h
        refine g_aload_n (pc := 34) dX11_pack_34 rfl ?_
        refine g_gR (pc := 35) dX11_pack_35 fR_RX11_54 xc_0 (v := 74) rfl ?_
        refine g_iload_n (pc := 38) dX11_pack_38 rfl ?_
        obtain ⟨x5, e4, h⟩ := x_bind h
        refine g_cV (pc := 39) dX11_pack_39 cV_RX11_263 (M_X6_ofSort (Nat.le_refl _) e4) xc_74 (as := [.int v1]) (st := []) rfl rfl (Nat.le_of_ble_eq_true rfl) (Nat.le_trans (Nat.le_of_ble_eq_true rfl) hd) rfl ?_
        refine g_iload_n (pc := 42) dX11_pack_42 rfl ?_
        refine g_icmp_ge (tgt := 48) (pc := 43) dX11_pack_43 (by decide) (fun c6 => ?_) (fun c6 => ?_)
        · replace h := (if_pos c6).symm.trans h
          refine g_iload (pc := 48) dX11_pack_48 rfl ?_
          refine g_if_eq (tgt := 82) (pc := 50) dX11_pack_50 (by decide) (fun c7 => ?_) (fun c7 => ?_)
          · replace h := (if_pos c7).symm.trans h
            exact G_X11_pack_82 hd v1 v2 v3 v4 u h
          · replace h := (if_neg c7).symm.trans h
            refine g_aload_n (pc := 53) dX11_pack_53 rfl ?_
            refine g_gR (pc := 54) dX11_pack_54 fR_RX11_12 xc_0 (v := 1) rfl ?_
            refine g_iload_n (pc := 57) dX11_pack_57 rfl ?_
            refine g_cV (pc := 58) dX11_pack_58 cV_RX11_98 (M_X8_has (Nat.le_refl _) rfl) xc_1 (as := [.int v3]) (st := []) rfl rfl (Nat.le_of_ble_eq_true rfl) (Nat.le_trans (Nat.le_of_ble_eq_true rfl) hd) rfl ?_
            refine g_if_eq (tgt := 86) (pc := 61) dX11_pack_61 (by decide) (fun c8 => ?_) (fun c8 => ?_)
            · replace h := (if_pos c8).symm.trans h
              exact G_X11_pack_86 hd v1 v2 v3 v4 u h
            · replace h := (if_neg c8).symm.trans h
              refine g_iload_n (pc := 64) dX11_pack_64 rfl ?_
              refine g_iload_n (pc := 65) dX11_pack_65 rfl ?_
              refine g_icmp_eq (tgt := 86) (pc := 66) dX11_pack_66 (by decide) (fun c9 => ?_) (fun c9 => ?_)
              · replace h := (if_pos c9).symm.trans h
                exact G_X11_pack_86 hd v1 v2 v3 v4 u h
              · replace h := (if_neg c9).symm.trans h
                refine g_aload_n (pc := 69) dX11_pack_69 rfl ?_
                refine g_gR (pc := 70) dX11_pack_70 fR_RX11_54 xc_0 (v := 74) rfl ?_
                refine g_iload_n (pc := 73) dX11_pack_73 rfl ?_
                obtain ⟨x11, e10, h⟩ := x_bind h
                refine g_cV (pc := 74) dX11_pack_74 cV_RX11_263 (M_X6_ofSort (Nat.le_refl _) e10) xc_74 (as := [.int v3]) (st := []) rfl rfl (Nat.le_of_ble_eq_true rfl) (Nat.le_trans (Nat.le_of_ble_eq_true rfl) hd) rfl ?_
                refine g_iload (pc := 77) dX11_pack_77 rfl ?_
                refine g_icmp_lt (tgt := 86) (pc := 79) dX11_pack_79 (by decide) (fun c12 => ?_) (fun c12 => ?_)
                · replace h := (if_pos c12).symm.trans h
                  exact G_X11_pack_86 hd v1 v2 v3 v4 u h
                · replace h := (if_neg c12).symm.trans h
                  exact G_X11_pack_82 hd v1 v2 v3 v4 u h
        · replace h := (if_neg c6).symm.trans h
          refine g_iconst (pc := 46) dX11_pack_46 ic_m1 ?_
          obtain ⟨h1, h2⟩ := x_inj2 h
          subst h1
          subst h2
          exact g_iret (pc := 47) dX11_pack_47 rfl rfl rfl (Nat.le_refl _) (Nat.le_refl _)
set_option maxRecDepth 100000 in
set_option maxHeartbeats 4000000 in
theorem M_X11_pack {sc : Nat × (Nat → Int32)} {d : Nat} (hd : 2 ≤ d) {r : Int32} {u u' : xS} {a1 : Int32} {a2 : Int32} {a3 : Int32} {a4 : Int32} (h : f_X11_pack a1 a2 a3 a4 u = some (r, u')) : xMt sc mX11_pack d 0 0 [.ref 0, .int a1, .int a2, .int a3, .int a4] (xL0, u) (some (.int r)) (xL0, u') :=
  xMt.of (by decide +kernel) (by decide +kernel) (Nat.le_of_ble_eq_true rfl) (L := [some (.ref 0), some (.int a1), some (.int a2), some (.int a3), some (.int a4), none]) rfl ((G_X11_pack_0 hd a1 a2 a3 a4 u h))
set_option maxRecDepth 100000 in
set_option maxHeartbeats 4000000 in
theorem G_X11_part_0 {sc : Nat × (Nat → Int32)} {d : Nat} (hd : 1 ≤ d) {r : Int32} {u' : xS} (v1 : Int32) (v2 : Int32) (u : xS) (h : f_X11_part v1 v2 u = some (r, u')) : xG sc mX11_part d 0 0 (xR (some (.int r)) (xL0, u') 0 0) 0 0 0 [some (.ref 0), some (.int v1), some (.int v2)] [] (xL0, u) := by
  rw [f_X11_part] at h
  refine g_aload_n (pc := 0) dX11_part_0 rfl ?_
  refine g_gR (pc := 1) dX11_part_1 fR_RX11_12 xc_0 (v := 1) rfl ?_
  refine g_iload_n (pc := 4) dX11_part_4 rfl ?_
  refine g_cV (pc := 5) dX11_part_5 cV_RX11_98 (M_X8_has (Nat.le_refl _) rfl) xc_1 (as := [.int v1]) (st := []) rfl rfl (Nat.le_of_ble_eq_true rfl) (Nat.le_trans (Nat.le_of_ble_eq_true rfl) hd) rfl ?_
  refine g_if_eq (tgt := 21) (pc := 8) dX11_part_8 (by decide) (fun c1 => ?_) (fun c1 => ?_)
  · replace h := (if_pos c1).symm.trans h
    refine g_iconst (pc := 21) dX11_part_21 ic_m1 ?_
    obtain ⟨h1, h2⟩ := x_inj2 h
    subst h1
    subst h2
    exact g_iret (pc := 22) dX11_part_22 rfl rfl rfl (Nat.le_refl _) (Nat.le_refl _)
  · replace h := (if_neg c1).symm.trans h
    refine g_iload_n (pc := 11) dX11_part_11 rfl ?_
    refine g_iconst (pc := 12) dX11_part_12 ic_0 ?_
    refine g_bipush (pc := 13) dX11_part_13 bp_12 ?_
    refine g_cS (pc := 15) dX11_part_15 cS_RX11_94 (M_X11_lies (Nat.le_refl _) rfl) (as := [.int v2, .int (0 : Int32), .int (12 : Int32)]) (st := []) rfl rfl (Nat.le_of_ble_eq_true rfl) (Nat.le_trans (Nat.le_of_ble_eq_true rfl) hd) rfl ?_
    refine g_if_ne (tgt := 23) (pc := 18) dX11_part_18 (by decide) (fun c2 => ?_) (fun c2 => ?_)
    · replace h := (if_neg c2).symm.trans h
      refine g_aload_n (pc := 23) dX11_part_23 rfl ?_
      refine g_gR (pc := 24) dX11_part_24 fR_RX11_61 xc_0 (v := 79) rfl ?_
      refine g_gR (pc := 27) dX11_part_27 fR_RX11_286 xc_79 (v := 80) rfl ?_
      refine g_iload_n (pc := 30) dX11_part_30 rfl ?_
      refine g_iload_n (pc := 31) dX11_part_31 rfl ?_
      obtain ⟨g3, h⟩ := x_gd h
      refine g_iastore (pc := 32) dX11_part_32 xc_80 (xin_of g3) (u' := (wr u 80 v1.toNatClampNeg v2)) rfl ?_
      refine g_aload_n (pc := 33) dX11_part_33 rfl ?_
      refine g_gR (pc := 34) dX11_part_34 fR_RX11_61 xc_0 (v := 79) rfl ?_
      obtain ⟨x5, e4, h⟩ := x_bind h
      refine g_cV (pc := 37) dX11_part_37 cV_RX11_289 (M_X1_inAll (Nat.le_refl _) e4) xc_79 (as := []) (st := []) rfl rfl (Nat.le_of_ble_eq_true rfl) (Nat.le_trans (Nat.le_of_ble_eq_true rfl) hd) rfl ?_
      obtain ⟨h1, h2⟩ := x_inj2 h
      subst h1
      subst h2
      exact g_iret (pc := 40) dX11_part_40 rfl rfl rfl (Nat.le_refl _) (Nat.le_refl _)
    · replace h := (if_pos c2).symm.trans h
      refine g_iconst (pc := 21) dX11_part_21 ic_m1 ?_
      obtain ⟨h1, h2⟩ := x_inj2 h
      subst h1
      subst h2
      exact g_iret (pc := 22) dX11_part_22 rfl rfl rfl (Nat.le_refl _) (Nat.le_refl _)
set_option maxRecDepth 100000 in
set_option maxHeartbeats 4000000 in
theorem M_X11_part {sc : Nat × (Nat → Int32)} {d : Nat} (hd : 1 ≤ d) {r : Int32} {u u' : xS} {a1 : Int32} {a2 : Int32} (h : f_X11_part a1 a2 u = some (r, u')) : xMt sc mX11_part d 0 0 [.ref 0, .int a1, .int a2] (xL0, u) (some (.int r)) (xL0, u') :=
  xMt.of (by decide +kernel) (by decide +kernel) (Nat.le_of_ble_eq_true rfl) (L := [some (.ref 0), some (.int a1), some (.int a2)]) rfl ((G_X11_part_0 hd a1 a2 u h))
set_option maxRecDepth 100000 in
set_option maxHeartbeats 4000000 in
theorem G_X11_pay_160 {sc : Nat × (Nat → Int32)} {d : Nat} (hd : 3 ≤ d) {r : Int32} {u' : xS} (s1 : Int32) (s2 : Int32) (u : xS) (h : f_X11_pay_160 s1 s2 u = some (r, u')) : xG sc mX11_pay d 0 0 (xR (some (.int r)) (xL0, u') 0 0) 0 0 160 [some (.ref 0), none, none, none, none, none] [.int s2, .int s1, .ref 58] (xL0, u) := by
  rw [f_X11_pay_160] at h
  obtain ⟨u2, e1, h⟩ := x_bind h
  refine g_cV (pc := 160) dX11_pay_160 cV_RX11_211 (M_X10_tell (Nat.le_refl _) e1) xc_58 (as := [.int s1, .int s2]) (st := []) rfl rfl (Nat.le_of_ble_eq_true rfl) (Nat.le_trans (Nat.le_of_ble_eq_true rfl) hd) rfl ?_
  refine g_aload_n (pc := 163) dX11_pay_163 rfl ?_
  refine g_gR (pc := 164) dX11_pay_164 fR_RX11_47 xc_0 (v := 58) rfl ?_
  refine g_bipush (pc := 167) dX11_pay_167 bp_10 ?_
  obtain ⟨⟨x4, u5⟩, e3, h⟩ := x_bind h
  dsimp only at h
  refine g_cV (pc := 169) dX11_pay_169 cV_RX11_224 (M_X10_valueOf (Nat.le_refl _) e3) xc_58 (as := [.int (10 : Int32)]) (st := []) rfl rfl (Nat.le_of_ble_eq_true rfl) (Nat.le_trans (Nat.le_of_ble_eq_true rfl) hd) rfl ?_
  obtain ⟨h1, h2⟩ := x_inj2 h
  subst h1
  subst h2
  exact g_iret (pc := 172) dX11_pay_172 rfl rfl rfl (Nat.le_refl _) (Nat.le_refl _)
set_option maxRecDepth 100000 in
set_option maxHeartbeats 4000000 in
theorem G_X11_pay_85 {sc : Nat × (Nat → Int32)} {d : Nat} (hd : 3 ≤ d) {r : Int32} {u' : xS} {k19 : Int32 → Int32 → Int32 → Int32 → Int32 → xS → Option (Int32 × xS)} (hk19 : ∀ (v1 : Int32) (v2 : Int32) (v3 : Int32) (v4 : Int32) (v5 : Int32) (u : xS), k19 v1 v2 v3 v4 v5 u = some (r, u') → xG sc mX11_pay d 0 0 (xR (some (.int r)) (xL0, u') 0 0) 0 0 19 [some (.ref 0), some (.int v1), some (.int v2), some (.int v3), some (.int v4), some (.int v5)] [] (xL0, u)) (v1 : Int32) (v2 : Int32) (v3 : Int32) (v4 : Int32) (v5 : Int32) (u : xS) (h : f_X11_pay_85 k19 v1 v2 v3 v4 v5 u = some (r, u')) : xG sc mX11_pay d 0 0 (xR (some (.int r)) (xL0, u') 0 0) 0 0 85 [some (.ref 0), some (.int v1), some (.int v2), some (.int v3), some (.int v4), some (.int v5)] [] (xL0, u) := by
  rw [f_X11_pay_85] at h
  refine g_inc (pc := 85) dX11_pay_85 (Nat.le_of_ble_eq_true rfl) rfl ic_1 (L' := [some (.ref 0), some (.int v1), some (.int v2), some (.int v3), some (.int v4), some (.int (v5 + (1 : Int32)))]) rfl ?_
  refine g_goto (tgt := 19) (pc := 88) dX11_pay_88 (by decide) ?_
  exact hk19 v1 v2 v3 v4 (v5 + (1 : Int32)) u h
set_option maxRecDepth 100000 in
set_option maxHeartbeats 4000000 in
theorem G_X11_pay_19 {sc : Nat × (Nat → Int32)} {d : Nat} (hd : 3 ≤ d) {r : Int32} {u' : xS} : ∀ (n : Nat) (v1 : Int32) (v2 : Int32) (v3 : Int32) (v4 : Int32) (v5 : Int32) (u : xS), f_X11_pay_19 n v1 v2 v3 v4 v5 u = some (r, u') → xG sc mX11_pay d 0 0 (xR (some (.int r)) (xL0, u') 0 0) 0 0 19 [some (.ref 0), some (.int v1), some (.int v2), some (.int v3), some (.int v4), some (.int v5)] [] (xL0, u) := by
  intro n
  induction n with
  | zero =>
    intro v1 v2 v3 v4 v5 u h
    rw [f_X11_pay_19] at h
    cases h
  | succ n ih =>
    intro v1 v2 v3 v4 v5 u h
    rw [f_X11_pay_19] at h
    refine g_iload (pc := 19) dX11_pay_19 rfl ?_
    refine g_aload_n (pc := 21) dX11_pay_21 rfl ?_
    refine g_gR (pc := 22) dX11_pay_22 fR_RX11_19 xc_0 (v := 13) rfl ?_
    refine g_gI (pc := 25) dX11_pay_25 fI_RX11_133 xc_13 (v := (rd u 13 8)) rfl ?_
    refine g_icmp_ge (tgt := 91) (pc := 28) dX11_pay_28 (by decide) (fun c1 => ?_) (fun c1 => ?_)
    · replace h := (if_pos c1).symm.trans h
      refine g_aload_n (pc := 91) dX11_pay_91 rfl ?_
      refine g_gR (pc := 92) dX11_pay_92 fR_RX11_75 xc_0 (v := 113) rfl ?_
      refine g_iload_n (pc := 95) dX11_pay_95 rfl ?_
      refine g_iconst (pc := 96) dX11_pay_96 ic_m1 ?_
      obtain ⟨x3, e2, h⟩ := x_bind h
      refine g_cV (pc := 97) dX11_pay_97 cV_RX11_260 (M_X3_alike (Nat.le_refl _) e2) xc_113 (as := [.int v1, .int (-1 : Int32)]) (st := []) rfl rfl (Nat.le_of_ble_eq_true rfl) (Nat.le_trans (Nat.le_of_ble_eq_true rfl) hd) rfl ?_
      refine g_istore (pc := 100) dX11_pay_100 (Nat.le_of_ble_eq_true rfl) (L' := [some (.ref 0), some (.int v1), some (.int v2), some (.int v3), some (.int v4), some (.int x3)]) rfl ?_
      refine g_aload_n (pc := 102) dX11_pay_102 rfl ?_
      refine g_gR (pc := 103) dX11_pay_103 fR_RX11_47 xc_0 (v := 58) rfl ?_
      obtain ⟨u5, e4, h⟩ := x_bind h
      refine g_cV (pc := 106) dX11_pay_106 cV_RX11_205 (M_X10_clearLetters (Nat.le_refl _) e4) xc_58 (as := []) (st := []) rfl rfl (Nat.le_of_ble_eq_true rfl) (Nat.le_trans (Nat.le_of_ble_eq_true rfl) hd) rfl ?_
      refine g_aload_n (pc := 109) dX11_pay_109 rfl ?_
      refine g_gR (pc := 110) dX11_pay_110 fR_RX11_47 xc_0 (v := 58) rfl ?_
      refine g_bipush (pc := 113) dX11_pay_113 bp_112 ?_
      refine g_iload_n (pc := 115) dX11_pay_115 rfl ?_
      obtain ⟨u7, e6, h⟩ := x_bind h
      refine g_cV (pc := 116) dX11_pay_116 cV_RX11_211 (M_X10_tell (Nat.le_refl _) e6) xc_58 (as := [.int (112 : Int32), .int v2]) (st := []) rfl rfl (Nat.le_of_ble_eq_true rfl) (Nat.le_trans (Nat.le_of_ble_eq_true rfl) hd) rfl ?_
      refine g_aload_n (pc := 119) dX11_pay_119 rfl ?_
      refine g_gR (pc := 120) dX11_pay_120 fR_RX11_47 xc_0 (v := 58) rfl ?_
      refine g_bipush (pc := 123) dX11_pay_123 bp_122 ?_
      refine g_iload_n (pc := 125) dX11_pay_125 rfl ?_
      obtain ⟨u9, e8, h⟩ := x_bind h
      refine g_cV (pc := 126) dX11_pay_126 cV_RX11_211 (M_X10_tell (Nat.le_refl _) e8) xc_58 (as := [.int (122 : Int32), .int v3]) (st := []) rfl rfl (Nat.le_of_ble_eq_true rfl) (Nat.le_trans (Nat.le_of_ble_eq_true rfl) hd) rfl ?_
      refine g_aload_n (pc := 129) dX11_pay_129 rfl ?_
      refine g_gR (pc := 130) dX11_pay_130 fR_RX11_47 xc_0 (v := 58) rfl ?_
      refine g_bipush (pc := 133) dX11_pay_133 bp_110 ?_
      refine g_iload (pc := 135) dX11_pay_135 rfl ?_
      obtain ⟨u11, e10, h⟩ := x_bind h
      refine g_cV (pc := 137) dX11_pay_137 cV_RX11_211 (M_X10_tell (Nat.le_refl _) e10) xc_58 (as := [.int (110 : Int32), .int v4]) (st := []) rfl rfl (Nat.le_of_ble_eq_true rfl) (Nat.le_trans (Nat.le_of_ble_eq_true rfl) hd) rfl ?_
      refine g_aload_n (pc := 140) dX11_pay_140 rfl ?_
      refine g_gR (pc := 141) dX11_pay_141 fR_RX11_47 xc_0 (v := 58) rfl ?_
      refine g_bipush (pc := 144) dX11_pay_144 bp_101 ?_
      refine g_iload (pc := 146) dX11_pay_146 rfl ?_
      refine g_iconst (pc := 148) dX11_pay_148 ic_m1 ?_
      refine g_icmp_ne (tgt := 158) (pc := 149) dX11_pay_149 (by decide) (fun c12 => ?_) (fun c12 => ?_)
      · replace h := (if_neg c12).symm.trans h
        refine g_iload (pc := 158) dX11_pay_158 rfl ?_
        refine g_L (L' := [some (.ref 0), none, none, none, none, none]) ⟨rfl, trivial⟩ ?_
        exact G_X11_pay_160 hd (101 : Int32) x3 u11 h
      · replace h := (if_pos c12).symm.trans h
        refine g_sipush (pc := 152) dX11_pay_152 sp_1000 ?_
        refine g_goto (tgt := 160) (pc := 155) dX11_pay_155 (by decide) ?_
        refine g_L (L' := [some (.ref 0), none, none, none, none, none]) ⟨rfl, trivial⟩ ?_
        exact G_X11_pay_160 hd (101 : Int32) (1000 : Int32) u11 h
    · replace h := (if_neg c1).symm.trans h
      refine g_aload_n (pc := 31) dX11_pay_31 rfl ?_
      refine g_gR (pc := 32) dX11_pay_32 fR_RX11_19 xc_0 (v := 13) rfl ?_
      refine g_gR (pc := 35) dX11_pay_35 fR_RX11_151 xc_13 (v := 18) rfl ?_
      refine g_iload (pc := 38) dX11_pay_38 rfl ?_
      obtain ⟨g13, h⟩ := x_gd h
      refine g_iaload (pc := 40) dX11_pay_40 xc_18 (xin_of g13) (v := (rd u 18 v5.toNatClampNeg)) rfl ?_
      refine g_iload_n (pc := 41) dX11_pay_41 rfl ?_
      refine g_icmp_ne (tgt := 85) (pc := 42) dX11_pay_42 (by decide) (fun c14 => ?_) (fun c14 => ?_)
      · replace h := (if_neg c14).symm.trans h
        exact G_X11_pay_85 hd ih v1 v2 v3 v4 v5 u h
      · replace h := (if_pos c14).symm.trans h
        refine g_iload_n (pc := 45) dX11_pay_45 rfl ?_
        refine g_aload_n (pc := 46) dX11_pay_46 rfl ?_
        refine g_gR (pc := 47) dX11_pay_47 fR_RX11_19 xc_0 (v := 13) rfl ?_
        refine g_gR (pc := 50) dX11_pay_50 fR_RX11_144 xc_13 (v := 16) rfl ?_
        refine g_iload (pc := 53) dX11_pay_53 rfl ?_
        refine g_iaload (pc := 55) dX11_pay_55 xc_16 (xin_of g13) (v := (rd u 16 v5.toNatClampNeg)) rfl ?_
        refine g_aload_n (pc := 56) dX11_pay_56 rfl ?_
        refine g_gR (pc := 57) dX11_pay_57 fR_RX11_19 xc_0 (v := 13) rfl ?_
        refine g_gR (pc := 60) dX11_pay_60 fR_RX11_168 xc_13 (v := 19) rfl ?_
        refine g_iload (pc := 63) dX11_pay_63 rfl ?_
        refine g_iaload (pc := 65) dX11_pay_65 xc_19 (xin_of g13) (v := (rd u 19 v5.toNatClampNeg)) rfl ?_
        refine g_isub (pc := 66) dX11_pay_66 rfl ?_
        refine g_iadd (pc := 67) dX11_pay_67 rfl ?_
        refine g_istore_n (pc := 68) dX11_pay_68 (Nat.le_of_ble_eq_true rfl) (L' := [some (.ref 0), some (.int v1), some (.int (v2 + ((rd u 16 v5.toNatClampNeg) - (rd u 19 v5.toNatClampNeg)))), some (.int v3), some (.int v4), some (.int v5)]) rfl ?_
        refine g_iload_n (pc := 69) dX11_pay_69 rfl ?_
        refine g_aload_n (pc := 70) dX11_pay_70 rfl ?_
        refine g_gR (pc := 71) dX11_pay_71 fR_RX11_19 xc_0 (v := 13) rfl ?_
        refine g_gR (pc := 74) dX11_pay_74 fR_RX11_168 xc_13 (v := 19) rfl ?_
        refine g_iload (pc := 77) dX11_pay_77 rfl ?_
        refine g_iaload (pc := 79) dX11_pay_79 xc_19 (xin_of g13) (v := (rd u 19 v5.toNatClampNeg)) rfl ?_
        refine g_iadd (pc := 80) dX11_pay_80 rfl ?_
        refine g_istore_n (pc := 81) dX11_pay_81 (Nat.le_of_ble_eq_true rfl) (L' := [some (.ref 0), some (.int v1), some (.int (v2 + ((rd u 16 v5.toNatClampNeg) - (rd u 19 v5.toNatClampNeg)))), some (.int (v3 + (rd u 19 v5.toNatClampNeg))), some (.int v4), some (.int v5)]) rfl ?_
        refine g_inc (pc := 82) dX11_pay_82 (Nat.le_of_ble_eq_true rfl) rfl ic_1 (L' := [some (.ref 0), some (.int v1), some (.int (v2 + ((rd u 16 v5.toNatClampNeg) - (rd u 19 v5.toNatClampNeg)))), some (.int (v3 + (rd u 19 v5.toNatClampNeg))), some (.int (v4 + (1 : Int32))), some (.int v5)]) rfl ?_
        exact G_X11_pay_85 hd ih v1 (v2 + ((rd u 16 v5.toNatClampNeg) - (rd u 19 v5.toNatClampNeg))) (v3 + (rd u 19 v5.toNatClampNeg)) (v4 + (1 : Int32)) v5 u h
set_option maxRecDepth 100000 in
set_option maxHeartbeats 4000000 in
theorem G_X11_pay_0 {sc : Nat × (Nat → Int32)} {d : Nat} (hd : 3 ≤ d) {r : Int32} {u' : xS} (v1 : Int32) (u : xS) (h : f_X11_pay v1 u = some (r, u')) : xG sc mX11_pay d 0 0 (xR (some (.int r)) (xL0, u') 0 0) 0 0 0 [some (.ref 0), some (.int v1), none, none, none, none] [] (xL0, u) := by
  rw [f_X11_pay] at h
  refine g_iload_n (pc := 0) dX11_pay_0 rfl ?_
  refine g_cS (pc := 1) dX11_pay_1 cS_RX11_138 (M_X11_isSorter (Nat.le_refl _) rfl) (as := [.int v1]) (st := []) rfl rfl (Nat.le_of_ble_eq_true rfl) (Nat.le_trans (Nat.le_of_ble_eq_true rfl) hd) rfl ?_
  refine g_if_ne (tgt := 9) (pc := 4) dX11_pay_4 (by decide) (fun c1 => ?_) (fun c1 => ?_)
  · replace h := (if_neg c1).symm.trans h
    refine g_iconst (pc := 9) dX11_pay_9 ic_0 ?_
    refine g_istore_n (pc := 10) dX11_pay_10 (Nat.le_of_ble_eq_true rfl) (L' := [some (.ref 0), some (.int v1), some (.int (0 : Int32)), none, none, none]) rfl ?_
    refine g_iconst (pc := 11) dX11_pay_11 ic_0 ?_
    refine g_istore_n (pc := 12) dX11_pay_12 (Nat.le_of_ble_eq_true rfl) (L' := [some (.ref 0), some (.int v1), some (.int (0 : Int32)), some (.int (0 : Int32)), none, none]) rfl ?_
    refine g_iconst (pc := 13) dX11_pay_13 ic_0 ?_
    refine g_istore (pc := 14) dX11_pay_14 (Nat.le_of_ble_eq_true rfl) (L' := [some (.ref 0), some (.int v1), some (.int (0 : Int32)), some (.int (0 : Int32)), some (.int (0 : Int32)), none]) rfl ?_
    refine g_iconst (pc := 16) dX11_pay_16 ic_0 ?_
    refine g_istore (pc := 17) dX11_pay_17 (Nat.le_of_ble_eq_true rfl) (L' := [some (.ref 0), some (.int v1), some (.int (0 : Int32)), some (.int (0 : Int32)), some (.int (0 : Int32)), some (.int (0 : Int32))]) rfl ?_
    exact G_X11_pay_19 hd xN v1 (0 : Int32) (0 : Int32) (0 : Int32) (0 : Int32) u h
  · replace h := (if_pos c1).symm.trans h
    refine g_iconst (pc := 7) dX11_pay_7 ic_m1 ?_
    obtain ⟨h1, h2⟩ := x_inj2 h
    subst h1
    subst h2
    exact g_iret (pc := 8) dX11_pay_8 rfl rfl rfl (Nat.le_refl _) (Nat.le_refl _)
set_option maxRecDepth 100000 in
set_option maxHeartbeats 4000000 in
theorem M_X11_pay {sc : Nat × (Nat → Int32)} {d : Nat} (hd : 3 ≤ d) {r : Int32} {u u' : xS} {a1 : Int32} (h : f_X11_pay a1 u = some (r, u')) : xMt sc mX11_pay d 0 0 [.ref 0, .int a1] (xL0, u) (some (.int r)) (xL0, u') :=
  xMt.of (by decide +kernel) (by decide +kernel) (Nat.le_of_ble_eq_true rfl) (L := [some (.ref 0), some (.int a1), none, none, none, none]) rfl ((G_X11_pay_0 hd a1 u h))
set_option maxRecDepth 100000 in
set_option maxHeartbeats 4000000 in
theorem G_X8_addPrice_0 {sc : Nat × (Nat → Int32)} {d : Nat} (hd : 0 ≤ d) {r : Int32} {u' : xS} (v1 : Int32) (v2 : Int32) (v3 : Int32) (u : xS) (h : f_X8_addPrice v1 v2 v3 u = some (r, u')) : xG sc mX8_addPrice d 0 0 (xR (some (.int r)) (xL0, u') 0 0) 0 0 0 [some (.ref 1), some (.int v1), some (.int v2), some (.int v3)] [] (xL0, u) := by
  rw [f_X8_addPrice] at h
  refine g_aload_n (pc := 0) dX8_addPrice_0 rfl ?_
  refine g_gI (pc := 1) dX8_addPrice_1 fI_RX8_33 xc_1 (v := (rd u 1 6)) rfl ?_
  refine g_bipush (pc := 4) dX8_addPrice_4 bp_60 ?_
  refine g_icmp_lt (tgt := 11) (pc := 6) dX8_addPrice_6 (by decide) (fun c1 => ?_) (fun c1 => ?_)
  · replace h := (if_pos c1).symm.trans h
    refine g_aload_n (pc := 11) dX8_addPrice_11 rfl ?_
    refine g_gR (pc := 12) dX8_addPrice_12 fR_RX8_24 xc_1 (v := 10) rfl ?_
    refine g_aload_n (pc := 15) dX8_addPrice_15 rfl ?_
    refine g_gI (pc := 16) dX8_addPrice_16 fI_RX8_33 xc_1 (v := (rd u 1 6)) rfl ?_
    refine g_iload_n (pc := 19) dX8_addPrice_19 rfl ?_
    obtain ⟨g2, h⟩ := x_gd h
    refine g_iastore (pc := 20) dX8_addPrice_20 xc_10 (xin_of g2) (u' := (wr u 10 (rd u 1 6).toNatClampNeg v1)) rfl ?_
    refine g_aload_n (pc := 21) dX8_addPrice_21 rfl ?_
    refine g_gR (pc := 22) dX8_addPrice_22 fR_RX8_27 xc_1 (v := 11) rfl ?_
    refine g_aload_n (pc := 25) dX8_addPrice_25 rfl ?_
    refine g_gI (pc := 26) dX8_addPrice_26 fI_RX8_33 xc_1 (v := (rd u 1 6)) rfl ?_
    refine g_iload_n (pc := 29) dX8_addPrice_29 rfl ?_
    refine g_iastore (pc := 30) dX8_addPrice_30 xc_11 (xin_of g2) (u' := (wr (wr u 10 (rd u 1 6).toNatClampNeg v1) 11 (rd u 1 6).toNatClampNeg v2)) rfl ?_
    refine g_aload_n (pc := 31) dX8_addPrice_31 rfl ?_
    refine g_gR (pc := 32) dX8_addPrice_32 fR_RX8_30 xc_1 (v := 12) rfl ?_
    refine g_aload_n (pc := 35) dX8_addPrice_35 rfl ?_
    refine g_gI (pc := 36) dX8_addPrice_36 fI_RX8_33 xc_1 (v := (rd u 1 6)) rfl ?_
    refine g_iload_n (pc := 39) dX8_addPrice_39 rfl ?_
    refine g_iastore (pc := 40) dX8_addPrice_40 xc_12 (xin_of g2) (u' := (wr (wr (wr u 10 (rd u 1 6).toNatClampNeg v1) 11 (rd u 1 6).toNatClampNeg v2) 12 (rd u 1 6).toNatClampNeg v3)) rfl ?_
    refine g_aload_n (pc := 41) dX8_addPrice_41 rfl ?_
    refine g_dup (pc := 42) dX8_addPrice_42 rfl ?_
    refine g_gI (pc := 43) dX8_addPrice_43 fI_RX8_33 xc_1 (v := (rd u 1 6)) rfl ?_
    refine g_iconst (pc := 46) dX8_addPrice_46 ic_1 ?_
    refine g_iadd (pc := 47) dX8_addPrice_47 rfl ?_
    refine g_pI (pc := 48) dX8_addPrice_48 pI_RX8_33 xc_1 (u' := (wr (wr (wr (wr u 10 (rd u 1 6).toNatClampNeg v1) 11 (rd u 1 6).toNatClampNeg v2) 12 (rd u 1 6).toNatClampNeg v3) 1 6 ((rd u 1 6) + (1 : Int32)))) rfl ?_
    refine g_aload_n (pc := 51) dX8_addPrice_51 rfl ?_
    refine g_gI (pc := 52) dX8_addPrice_52 fI_RX8_33 xc_1 (v := ((rd u 1 6) + (1 : Int32))) rfl ?_
    obtain ⟨h1, h2⟩ := x_inj2 h
    subst h1
    subst h2
    exact g_iret (pc := 55) dX8_addPrice_55 rfl rfl rfl (Nat.le_refl _) (Nat.le_refl _)
  · replace h := (if_neg c1).symm.trans h
    refine g_iconst (pc := 9) dX8_addPrice_9 ic_m1 ?_
    obtain ⟨h1, h2⟩ := x_inj2 h
    subst h1
    subst h2
    exact g_iret (pc := 10) dX8_addPrice_10 rfl rfl rfl (Nat.le_refl _) (Nat.le_refl _)
set_option maxRecDepth 100000 in
set_option maxHeartbeats 4000000 in
theorem M_X8_addPrice {sc : Nat × (Nat → Int32)} {d : Nat} (hd : 0 ≤ d) {r : Int32} {u u' : xS} {a1 : Int32} {a2 : Int32} {a3 : Int32} (h : f_X8_addPrice a1 a2 a3 u = some (r, u')) : xMt sc mX8_addPrice d 0 0 [.ref 1, .int a1, .int a2, .int a3] (xL0, u) (some (.int r)) (xL0, u') :=
  xMt.of (by decide +kernel) (by decide +kernel) (Nat.le_of_ble_eq_true rfl) (L := [some (.ref 1), some (.int a1), some (.int a2), some (.int a3)]) rfl ((G_X8_addPrice_0 hd a1 a2 a3 u h))
