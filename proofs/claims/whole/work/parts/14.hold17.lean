set_option maxRecDepth 100000 in
set_option maxHeartbeats 4000000 in
theorem G_X3_mostOften_124 {sc : Nat × (Nat → Int32)} {d : Nat} (hd : 1 ≤ d) {r : Int32} {u' : xS} {k93 : Int32 → Int32 → Int32 → xS → Option (Int32 × xS)} (hk93 : ∀ (v3 : Int32) (v4 : Int32) (v5 : Int32) (u : xS), k93 v3 v4 v5 u = some (r, u') → xG sc mX3_mostOften d 0 0 (xR (some (.int r)) (xL0, u') 0 0) 0 0 93 [some (.ref 113), none, none, some (.int v3), some (.int v4), some (.int v5)] [] (xL0, u)) (v3 : Int32) (v4 : Int32) (v5 : Int32) (u : xS) (h : f_X3_mostOften_124 k93 v3 v4 v5 u = some (r, u')) : xG sc mX3_mostOften d 0 0 (xR (some (.int r)) (xL0, u') 0 0) 0 0 124 [some (.ref 113), none, none, some (.int v3), some (.int v4), some (.int v5)] [] (xL0, u) := by
  rw [f_X3_mostOften_124] at h
  refine g_inc (pc := 124) dX3_mostOften_124 (Nat.le_of_ble_eq_true rfl) rfl ic_1 (L' := [some (.ref 113), none, none, some (.int v3), some (.int v4), some (.int (v5 + (1 : Int32)))]) rfl ?_
  refine g_goto (tgt := 93) (pc := 127) dX3_mostOften_127 (by decide) ?_
  exact hk93 v3 v4 (v5 + (1 : Int32)) u h
set_option maxRecDepth 100000 in
set_option maxHeartbeats 4000000 in
theorem G_X3_mostOften_93 {sc : Nat × (Nat → Int32)} {d : Nat} (hd : 1 ≤ d) {r : Int32} {u' : xS} : ∀ (n : Nat) (v3 : Int32) (v4 : Int32) (v5 : Int32) (u : xS), f_X3_mostOften_93 n v3 v4 v5 u = some (r, u') → xG sc mX3_mostOften d 0 0 (xR (some (.int r)) (xL0, u') 0 0) 0 0 93 [some (.ref 113), none, none, some (.int v3), some (.int v4), some (.int v5)] [] (xL0, u) := by
  intro n
  induction n with
  | zero =>
    intro v3 v4 v5 u h
    rw [f_X3_mostOften_93] at h
    cases h
  | succ n ih =>
    intro v3 v4 v5 u h
    rw [f_X3_mostOften_93] at h
    refine g_iload (pc := 93) dX3_mostOften_93 rfl ?_
    refine g_bipush (pc := 95) dX3_mostOften_95 bp_16 ?_
    refine g_icmp_ge (tgt := 130) (pc := 97) dX3_mostOften_97 (by decide) (fun c1 => ?_) (fun c1 => ?_)
    · replace h := (if_pos c1).symm.trans h
      refine g_iload_n (pc := 130) dX3_mostOften_130 rfl ?_
      obtain ⟨h1, h2⟩ := x_inj2 h
      subst h1
      subst h2
      exact g_iret (pc := 131) dX3_mostOften_131 rfl rfl rfl (Nat.le_refl _) (Nat.le_refl _)
    · replace h := (if_neg c1).symm.trans h
      refine g_aload_n (pc := 100) dX3_mostOften_100 rfl ?_
      refine g_gR (pc := 101) dX3_mostOften_101 fR_RX3_19 xc_113 (v := 120) rfl ?_
      refine g_iload (pc := 104) dX3_mostOften_104 rfl ?_
      obtain ⟨g2, h⟩ := x_gd h
      refine g_iaload (pc := 106) dX3_mostOften_106 xc_120 (xin_of g2) (v := (rd u 120 v5.toNatClampNeg)) rfl ?_
      refine g_iload (pc := 107) dX3_mostOften_107 rfl ?_
      refine g_icmp_le (tgt := 124) (pc := 109) dX3_mostOften_109 (by decide) (fun c3 => ?_) (fun c3 => ?_)
      · replace h := (if_pos c3).symm.trans h
        exact G_X3_mostOften_124 hd ih v3 v4 v5 u h
      · replace h := (if_neg c3).symm.trans h
        refine g_aload_n (pc := 112) dX3_mostOften_112 rfl ?_
        refine g_gR (pc := 113) dX3_mostOften_113 fR_RX3_19 xc_113 (v := 120) rfl ?_
        refine g_iload (pc := 116) dX3_mostOften_116 rfl ?_
        refine g_iaload (pc := 118) dX3_mostOften_118 xc_120 (xin_of g2) (v := (rd u 120 v5.toNatClampNeg)) rfl ?_
        refine g_istore (pc := 119) dX3_mostOften_119 (Nat.le_of_ble_eq_true rfl) (L' := [some (.ref 113), none, none, some (.int v3), some (.int (rd u 120 v5.toNatClampNeg)), some (.int v5)]) rfl ?_
        refine g_iload (pc := 121) dX3_mostOften_121 rfl ?_
        refine g_istore_n (pc := 123) dX3_mostOften_123 (Nat.le_of_ble_eq_true rfl) (L' := [some (.ref 113), none, none, some (.int v5), some (.int (rd u 120 v5.toNatClampNeg)), some (.int v5)]) rfl ?_
        exact G_X3_mostOften_124 hd ih v5 (rd u 120 v5.toNatClampNeg) v5 u h
set_option maxRecDepth 100000 in
set_option maxHeartbeats 4000000 in
theorem G_X3_mostOften_73 {sc : Nat × (Nat → Int32)} {d : Nat} (hd : 1 ≤ d) {r : Int32} {u' : xS} {k21 : Int32 → Int32 → Int32 → Int32 → xS → Option (Int32 × xS)} (hk21 : ∀ (v1 : Int32) (v2 : Int32) (v3 : Int32) (v4 : Int32) (u : xS), k21 v1 v2 v3 v4 u = some (r, u') → xG sc mX3_mostOften d 0 0 (xR (some (.int r)) (xL0, u') 0 0) 0 0 21 [some (.ref 113), some (.int v1), some (.int v2), some (.int v3), some (.int v4), none] [] (xL0, u)) {k10 : Int32 → Int32 → Int32 → xS → Option (Int32 × xS)} (hk10 : ∀ (v1 : Int32) (v2 : Int32) (v3 : Int32) (u : xS), k10 v1 v2 v3 u = some (r, u') → xG sc mX3_mostOften d 0 0 (xR (some (.int r)) (xL0, u') 0 0) 0 0 10 [some (.ref 113), some (.int v1), some (.int v2), some (.int v3), none, none] [] (xL0, u)) (v1 : Int32) (v2 : Int32) (v3 : Int32) (v4 : Int32) (u : xS) (h : f_X3_mostOften_73 k21 k10 v1 v2 v3 v4 u = some (r, u')) : xG sc mX3_mostOften d 0 0 (xR (some (.int r)) (xL0, u') 0 0) 0 0 73 [some (.ref 113), some (.int v1), some (.int v2), some (.int v3), some (.int v4), none] [] (xL0, u) := by
  rw [f_X3_mostOften_73] at h
  refine g_inc (pc := 73) dX3_mostOften_73 (Nat.le_of_ble_eq_true rfl) rfl ic_1 (L' := [some (.ref 113), some (.int v1), some (.int v2), some (.int v3), some (.int (v4 + (1 : Int32))), none]) rfl ?_
  refine g_goto (tgt := 21) (pc := 76) dX3_mostOften_76 (by decide) ?_
  exact hk21 v1 v2 v3 (v4 + (1 : Int32)) u h
set_option maxRecDepth 100000 in
set_option maxHeartbeats 4000000 in
theorem G_X3_mostOften_21 {sc : Nat × (Nat → Int32)} {d : Nat} (hd : 1 ≤ d) {r : Int32} {u' : xS} {k10 : Int32 → Int32 → Int32 → xS → Option (Int32 × xS)} (hk10 : ∀ (v1 : Int32) (v2 : Int32) (v3 : Int32) (u : xS), k10 v1 v2 v3 u = some (r, u') → xG sc mX3_mostOften d 0 0 (xR (some (.int r)) (xL0, u') 0 0) 0 0 10 [some (.ref 113), some (.int v1), some (.int v2), some (.int v3), none, none] [] (xL0, u)) : ∀ (n : Nat) (v1 : Int32) (v2 : Int32) (v3 : Int32) (v4 : Int32) (u : xS), f_X3_mostOften_21 k10 n v1 v2 v3 v4 u = some (r, u') → xG sc mX3_mostOften d 0 0 (xR (some (.int r)) (xL0, u') 0 0) 0 0 21 [some (.ref 113), some (.int v1), some (.int v2), some (.int v3), some (.int v4), none] [] (xL0, u) := by
  intro n
  induction n with
  | zero =>
    intro v1 v2 v3 v4 u h
    rw [f_X3_mostOften_21] at h
    cases h
  | succ n ih =>
    intro v1 v2 v3 v4 u h
    rw [f_X3_mostOften_21] at h
    refine g_iload (pc := 21) dX3_mostOften_21 rfl ?_
    refine g_iconst (pc := 23) dX3_mostOften_23 ic_2 ?_
    refine g_icmp_ge (tgt := 79) (pc := 24) dX3_mostOften_24 (by decide) (fun c1 => ?_) (fun c1 => ?_)
    · replace h := (if_pos c1).symm.trans h
      refine g_inc (pc := 79) dX3_mostOften_79 (Nat.le_of_ble_eq_true rfl) rfl ic_1 (L' := [some (.ref 113), some (.int v1), some (.int v2), some (.int (v3 + (1 : Int32))), some (.int v4), none]) rfl ?_
      refine g_goto (tgt := 10) (pc := 82) dX3_mostOften_82 (by decide) ?_
      refine g_L (L' := [some (.ref 113), some (.int v1), some (.int v2), some (.int (v3 + (1 : Int32))), none, none]) ⟨rfl, ⟨rfl, ⟨rfl, ⟨rfl, trivial⟩⟩⟩⟩ ?_
      exact hk10 v1 v2 (v3 + (1 : Int32)) u h
    · replace h := (if_neg c1).symm.trans h
      refine g_aload_n (pc := 27) dX3_mostOften_27 rfl ?_
      refine g_gR (pc := 28) dX3_mostOften_28 fR_RX3_11 xc_113 (v := 114) rfl ?_
      refine g_iload (pc := 31) dX3_mostOften_31 rfl ?_
      obtain ⟨g2, h⟩ := x_gd h
      refine g_aaload (pc := 33) dX3_mostOften_33 xc_114 (xin_of g2) (v := (115 + v4.toNatClampNeg)) (xrf_114 _ (xin_lt g2)) ?_
      refine g_iload_n (pc := 34) dX3_mostOften_34 rfl ?_
      obtain ⟨g3, h⟩ := x_gd h
      refine g_iaload (pc := 35) dX3_mostOften_35 (xrow_114 _ (xin_lt g2)) (xin_of g3) (v := (rd u (115 + v4.toNatClampNeg) v3.toNatClampNeg)) rfl ?_
      refine g_iload_n (pc := 36) dX3_mostOften_36 rfl ?_
      refine g_icmp_ne (tgt := 73) (pc := 37) dX3_mostOften_37 (by decide) (fun c4 => ?_) (fun c4 => ?_)
      · replace h := (if_neg c4).symm.trans h
        exact G_X3_mostOften_73 hd ih hk10 v1 v2 v3 v4 u h
      · replace h := (if_pos c4).symm.trans h
        refine g_aload_n (pc := 40) dX3_mostOften_40 rfl ?_
        refine g_gR (pc := 41) dX3_mostOften_41 fR_RX3_16 xc_113 (v := 117) rfl ?_
        refine g_iload (pc := 44) dX3_mostOften_44 rfl ?_
        refine g_aaload (pc := 46) dX3_mostOften_46 xc_117 (xin_of g2) (v := (118 + v4.toNatClampNeg)) (xrf_117 _ (xin_lt g2)) ?_
        refine g_iload_n (pc := 47) dX3_mostOften_47 rfl ?_
        refine g_iaload (pc := 48) dX3_mostOften_48 (xrow_117 _ (xin_lt g2)) (xin_of g3) (v := (rd u (118 + v4.toNatClampNeg) v3.toNatClampNeg)) rfl ?_
        refine g_iload_n (pc := 49) dX3_mostOften_49 rfl ?_
        refine g_icmp_ne (tgt := 73) (pc := 50) dX3_mostOften_50 (by decide) (fun c5 => ?_) (fun c5 => ?_)
        · replace h := (if_neg c5).symm.trans h
          exact G_X3_mostOften_73 hd ih hk10 v1 v2 v3 v4 u h
        · replace h := (if_pos c5).symm.trans h
          refine g_aload_n (pc := 53) dX3_mostOften_53 rfl ?_
          refine g_gR (pc := 54) dX3_mostOften_54 fR_RX3_19 xc_113 (v := 120) rfl ?_
          refine g_aload_n (pc := 57) dX3_mostOften_57 rfl ?_
          refine g_gR (pc := 58) dX3_mostOften_58 fR_RX3_16 xc_113 (v := 117) rfl ?_
          refine g_iconst (pc := 61) dX3_mostOften_61 ic_1 ?_
          refine g_iload (pc := 62) dX3_mostOften_62 rfl ?_
          refine g_isub (pc := 64) dX3_mostOften_64 rfl ?_
          obtain ⟨g6, h⟩ := x_gd h
          refine g_aaload (pc := 65) dX3_mostOften_65 xc_117 (xin_of g6) (v := (118 + ((1 : Int32) - v4).toNatClampNeg)) (xrf_117 _ (xin_lt g6)) ?_
          refine g_iload_n (pc := 66) dX3_mostOften_66 rfl ?_
          refine g_iaload (pc := 67) dX3_mostOften_67 (xrow_117 _ (xin_lt g6)) (xin_of g3) (v := (rd u (118 + ((1 : Int32) - v4).toNatClampNeg) v3.toNatClampNeg)) rfl ?_
          refine g_dup2 (pc := 68) dX3_mostOften_68 rfl rfl ?_
          obtain ⟨g7, h⟩ := x_gd h
          refine g_iaload (pc := 69) dX3_mostOften_69 xc_120 (xin_of g7) (v := (rd u 120 (rd u (118 + ((1 : Int32) - v4).toNatClampNeg) v3.toNatClampNeg).toNatClampNeg)) rfl ?_
          refine g_iconst (pc := 70) dX3_mostOften_70 ic_1 ?_
          refine g_iadd (pc := 71) dX3_mostOften_71 rfl ?_
          refine g_iastore (pc := 72) dX3_mostOften_72 xc_120 (xin_of g7) (u' := (wr u 120 (rd u (118 + ((1 : Int32) - v4).toNatClampNeg) v3.toNatClampNeg).toNatClampNeg ((rd u 120 (rd u (118 + ((1 : Int32) - v4).toNatClampNeg) v3.toNatClampNeg).toNatClampNeg) + (1 : Int32)))) rfl ?_
          exact G_X3_mostOften_73 hd ih hk10 v1 v2 v3 v4 (wr u 120 (rd u (118 + ((1 : Int32) - v4).toNatClampNeg) v3.toNatClampNeg).toNatClampNeg ((rd u 120 (rd u (118 + ((1 : Int32) - v4).toNatClampNeg) v3.toNatClampNeg).toNatClampNeg) + (1 : Int32))) h
set_option maxRecDepth 100000 in
set_option maxHeartbeats 4000000 in
theorem G_X3_mostOften_10 {sc : Nat × (Nat → Int32)} {d : Nat} (hd : 1 ≤ d) {r : Int32} {u' : xS} : ∀ (n : Nat) (v1 : Int32) (v2 : Int32) (v3 : Int32) (u : xS), f_X3_mostOften_10 n v1 v2 v3 u = some (r, u') → xG sc mX3_mostOften d 0 0 (xR (some (.int r)) (xL0, u') 0 0) 0 0 10 [some (.ref 113), some (.int v1), some (.int v2), some (.int v3), none, none] [] (xL0, u) := by
  intro n
  induction n with
  | zero =>
    intro v1 v2 v3 u h
    rw [f_X3_mostOften_10] at h
    cases h
  | succ n ih =>
    intro v1 v2 v3 u h
    rw [f_X3_mostOften_10] at h
    refine g_iload_n (pc := 10) dX3_mostOften_10 rfl ?_
    refine g_aload_n (pc := 11) dX3_mostOften_11 rfl ?_
    refine g_gI (pc := 12) dX3_mostOften_12 fI_RX3_23 xc_113 (v := (rd u 113 3)) rfl ?_
    refine g_icmp_ge (tgt := 85) (pc := 15) dX3_mostOften_15 (by decide) (fun c1 => ?_) (fun c1 => ?_)
    · replace h := (if_pos c1).symm.trans h
      refine g_iconst (pc := 85) dX3_mostOften_85 ic_m1 ?_
      refine g_istore_n (pc := 86) dX3_mostOften_86 (Nat.le_of_ble_eq_true rfl) (L' := [some (.ref 113), some (.int v1), some (.int v2), some (.int (-1 : Int32)), none, none]) rfl ?_
      refine g_iconst (pc := 87) dX3_mostOften_87 ic_0 ?_
      refine g_istore (pc := 88) dX3_mostOften_88 (Nat.le_of_ble_eq_true rfl) (L' := [some (.ref 113), some (.int v1), some (.int v2), some (.int (-1 : Int32)), some (.int (0 : Int32)), none]) rfl ?_
      refine g_iconst (pc := 90) dX3_mostOften_90 ic_0 ?_
      refine g_istore (pc := 91) dX3_mostOften_91 (Nat.le_of_ble_eq_true rfl) (L' := [some (.ref 113), some (.int v1), some (.int v2), some (.int (-1 : Int32)), some (.int (0 : Int32)), some (.int (0 : Int32))]) rfl ?_
      refine g_L (L' := [some (.ref 113), none, none, some (.int (-1 : Int32)), some (.int (0 : Int32)), some (.int (0 : Int32))]) ⟨rfl, ⟨rfl, ⟨rfl, ⟨rfl, trivial⟩⟩⟩⟩ ?_
      exact G_X3_mostOften_93 hd xN (-1 : Int32) (0 : Int32) (0 : Int32) u h
    · replace h := (if_neg c1).symm.trans h
      refine g_iconst (pc := 18) dX3_mostOften_18 ic_0 ?_
      refine g_istore (pc := 19) dX3_mostOften_19 (Nat.le_of_ble_eq_true rfl) (L' := [some (.ref 113), some (.int v1), some (.int v2), some (.int v3), some (.int (0 : Int32)), none]) rfl ?_
      exact G_X3_mostOften_21 hd ih xN v1 v2 v3 (0 : Int32) u h
set_option maxRecDepth 100000 in
set_option maxHeartbeats 4000000 in
theorem G_X3_mostOften_0 {sc : Nat × (Nat → Int32)} {d : Nat} (hd : 1 ≤ d) {r : Int32} {u' : xS} (v1 : Int32) (v2 : Int32) (u : xS) (h : f_X3_mostOften v1 v2 u = some (r, u')) : xG sc mX3_mostOften d 0 0 (xR (some (.int r)) (xL0, u') 0 0) 0 0 0 [some (.ref 113), some (.int v1), some (.int v2), none, none, none] [] (xL0, u) := by
  rw [f_X3_mostOften] at h
  refine g_aload_n (pc := 0) dX3_mostOften_0 rfl ?_
  refine g_gR (pc := 1) dX3_mostOften_1 fR_RX3_19 xc_113 (v := 120) rfl ?_
  refine g_iconst (pc := 4) dX3_mostOften_4 ic_0 ?_
  obtain ⟨u2, e1, h⟩ := x_bind h
  refine g_cS (pc := 5) dX3_mostOften_5 cS_RX3_35 (M_J7_fill_53178 (Nat.le_refl _) e1) (as := [.ref 120, .int (0 : Int32)]) (st := []) rfl rfl (Nat.le_of_ble_eq_true rfl) (Nat.le_trans (Nat.le_of_ble_eq_true rfl) hd) rfl ?_
  refine g_iconst (pc := 8) dX3_mostOften_8 ic_0 ?_
  refine g_istore_n (pc := 9) dX3_mostOften_9 (Nat.le_of_ble_eq_true rfl) (L' := [some (.ref 113), some (.int v1), some (.int v2), some (.int (0 : Int32)), none, none]) rfl ?_
  exact G_X3_mostOften_10 hd xN v1 v2 (0 : Int32) u2 h
set_option maxRecDepth 100000 in
set_option maxHeartbeats 4000000 in
theorem M_X3_mostOften {sc : Nat × (Nat → Int32)} {d : Nat} (hd : 1 ≤ d) {r : Int32} {u u' : xS} {a1 : Int32} {a2 : Int32} (h : f_X3_mostOften a1 a2 u = some (r, u')) : xMt sc mX3_mostOften d 0 0 [.ref 113, .int a1, .int a2] (xL0, u) (some (.int r)) (xL0, u') :=
  xMt.of (by decide +kernel) (by decide +kernel) (Nat.le_of_ble_eq_true rfl) (L := [some (.ref 113), some (.int a1), some (.int a2), none, none, none]) rfl ((G_X3_mostOften_0 hd a1 a2 u h))
set_option maxRecDepth 100000 in
set_option maxHeartbeats 4000000 in
theorem G_X11_called_0 {sc : Nat × (Nat → Int32)} {d : Nat} (hd : 2 ≤ d) {r : Int32} {u' : xS} (v1 : Int32) (v2 : Int32) (u : xS) (h : f_X11_called v1 v2 u = some (r, u')) : xG sc mX11_called d 0 0 (xR (some (.int r)) (xL0, u') 0 0) 0 0 0 [some (.ref 0), some (.int v1), some (.int v2)] [] (xL0, u) := by
  rw [f_X11_called] at h
  refine g_iload_n (pc := 0) dX11_called_0 rfl ?_
  refine g_cS (pc := 1) dX11_called_1 cS_RX11_138 (M_X11_isSorter (Nat.le_refl _) rfl) (as := [.int v1]) (st := []) rfl rfl (Nat.le_of_ble_eq_true rfl) (Nat.le_trans (Nat.le_of_ble_eq_true rfl) hd) rfl ?_
  refine g_if_eq (tgt := 30) (pc := 4) dX11_called_4 (by decide) (fun c1 => ?_) (fun c1 => ?_)
  · replace h := (if_pos c1).symm.trans h
    refine g_iconst (pc := 30) dX11_called_30 ic_m1 ?_
    obtain ⟨h1, h2⟩ := x_inj2 h
    subst h1
    subst h2
    exact g_iret (pc := 31) dX11_called_31 rfl rfl rfl (Nat.le_refl _) (Nat.le_refl _)
  · replace h := (if_neg c1).symm.trans h
    refine g_aload_n (pc := 7) dX11_called_7 rfl ?_
    refine g_gR (pc := 8) dX11_called_8 fR_RX11_12 xc_0 (v := 1) rfl ?_
    refine g_iload_n (pc := 11) dX11_called_11 rfl ?_
    refine g_cV (pc := 12) dX11_called_12 cV_RX11_98 (M_X8_has (Nat.le_refl _) rfl) xc_1 (as := [.int v2]) (st := []) rfl rfl (Nat.le_of_ble_eq_true rfl) (Nat.le_trans (Nat.le_of_ble_eq_true rfl) hd) rfl ?_
    refine g_if_eq (tgt := 30) (pc := 15) dX11_called_15 (by decide) (fun c2 => ?_) (fun c2 => ?_)
    · replace h := (if_pos c2).symm.trans h
      refine g_iconst (pc := 30) dX11_called_30 ic_m1 ?_
      obtain ⟨h1, h2⟩ := x_inj2 h
      subst h1
      subst h2
      exact g_iret (pc := 31) dX11_called_31 rfl rfl rfl (Nat.le_refl _) (Nat.le_refl _)
    · replace h := (if_neg c2).symm.trans h
      refine g_aload_n (pc := 18) dX11_called_18 rfl ?_
      refine g_gR (pc := 19) dX11_called_19 fR_RX11_75 xc_0 (v := 113) rfl ?_
      refine g_iload_n (pc := 22) dX11_called_22 rfl ?_
      refine g_iload_n (pc := 23) dX11_called_23 rfl ?_
      obtain ⟨⟨x4, u5⟩, e3, h⟩ := x_bind h
      dsimp only at h
      refine g_cV (pc := 24) dX11_called_24 cV_RX11_376 (M_X3_mostOften (Nat.le_refl _) e3) xc_113 (as := [.int v1, .int v2]) (st := []) rfl rfl (Nat.le_of_ble_eq_true rfl) (Nat.le_trans (Nat.le_of_ble_eq_true rfl) hd) rfl ?_
      refine g_goto (tgt := 31) (pc := 27) dX11_called_27 (by decide) ?_
      obtain ⟨h1, h2⟩ := x_inj2 h
      subst h1
      subst h2
      exact g_iret (pc := 31) dX11_called_31 rfl rfl rfl (Nat.le_refl _) (Nat.le_refl _)
set_option maxRecDepth 100000 in
set_option maxHeartbeats 4000000 in
theorem M_X11_called {sc : Nat × (Nat → Int32)} {d : Nat} (hd : 2 ≤ d) {r : Int32} {u u' : xS} {a1 : Int32} {a2 : Int32} (h : f_X11_called a1 a2 u = some (r, u')) : xMt sc mX11_called d 0 0 [.ref 0, .int a1, .int a2] (xL0, u) (some (.int r)) (xL0, u') :=
  xMt.of (by decide +kernel) (by decide +kernel) (Nat.le_of_ble_eq_true rfl) (L := [some (.ref 0), some (.int a1), some (.int a2)]) rfl ((G_X11_called_0 hd a1 a2 u h))
set_option maxRecDepth 100000 in
set_option maxHeartbeats 4000000 in
theorem G_X1_nextTrial_7 {sc : Nat × (Nat → Int32)} {d : Nat} (hd : 0 ≤ d) {r : Int32} {u' : xS} : ∀ (n : Nat) (v1 : Int32) (u : xS), f_X1_nextTrial_7 n v1 u = some (r, u') → xG sc mX1_nextTrial d 0 0 (xR (some (.int r)) (xL0, u') 0 0) 0 0 7 [some (.ref 79), some (.int v1), none] [] (xL0, u) := by
  intro n
  induction n with
  | zero =>
    intro v1 u h
    rw [f_X1_nextTrial_7] at h
    cases h
  | succ n ih =>
    intro v1 u h
    rw [f_X1_nextTrial_7] at h
    refine g_iload_n (pc := 7) dX1_nextTrial_7 rfl ?_
    refine g_if_le (tgt := 83) (pc := 8) dX1_nextTrial_8 (by decide) (fun c1 => ?_) (fun c1 => ?_)
    · replace h := (if_pos c1).symm.trans h
      refine g_iconst (pc := 83) dX1_nextTrial_83 ic_0 ?_
      obtain ⟨h1, h2⟩ := x_inj2 h
      subst h1
      subst h2
      exact g_zret (pc := 84) dX1_nextTrial_84 rfl (Or.inl rfl) rfl rfl (Nat.le_refl _) (Nat.le_refl _)
    · replace h := (if_neg c1).symm.trans h
      refine g_aload_n (pc := 11) dX1_nextTrial_11 rfl ?_
      refine g_gR (pc := 12) dX1_nextTrial_12 fR_RX1_33 xc_79 (v := 85) rfl ?_
      refine g_aload_n (pc := 15) dX1_nextTrial_15 rfl ?_
      refine g_gR (pc := 16) dX1_nextTrial_16 fR_RX1_20 xc_79 (v := 82) rfl ?_
      refine g_iload_n (pc := 19) dX1_nextTrial_19 rfl ?_
      obtain ⟨g2, h⟩ := x_gd h
      refine g_iaload (pc := 20) dX1_nextTrial_20 xc_82 (xin_of g2) (v := (rd u 82 v1.toNatClampNeg)) rfl ?_
      obtain ⟨g3, h⟩ := x_gd h
      refine g_iaload (pc := 21) dX1_nextTrial_21 xc_85 (xin_of g3) (v := (rd u 85 (rd u 82 v1.toNatClampNeg).toNatClampNeg)) rfl ?_
      refine g_istore_n (pc := 22) dX1_nextTrial_22 (Nat.le_of_ble_eq_true rfl) (L' := [some (.ref 79), some (.int v1), some (.int (rd u 85 (rd u 82 v1.toNatClampNeg).toNatClampNeg))]) rfl ?_
      refine g_iload_n (pc := 23) dX1_nextTrial_23 rfl ?_
      refine g_if_le (tgt := 77) (pc := 24) dX1_nextTrial_24 (by decide) (fun c4 => ?_) (fun c4 => ?_)
      · replace h := (if_pos c4).symm.trans h
        refine g_inc (pc := 77) dX1_nextTrial_77 (Nat.le_of_ble_eq_true rfl) rfl ic_m1 (L' := [some (.ref 79), some (.int (v1 + (-1 : Int32))), some (.int (rd u 85 (rd u 82 v1.toNatClampNeg).toNatClampNeg))]) rfl ?_
        refine g_goto (tgt := 7) (pc := 80) dX1_nextTrial_80 (by decide) ?_
        refine g_L (L' := [some (.ref 79), some (.int (v1 + (-1 : Int32))), none]) ⟨rfl, ⟨rfl, trivial⟩⟩ ?_
        exact ih (v1 + (-1 : Int32)) u h
      · replace h := (if_neg c4).symm.trans h
        refine g_aload_n (pc := 27) dX1_nextTrial_27 rfl ?_
        refine g_gR (pc := 28) dX1_nextTrial_28 fR_RX1_33 xc_79 (v := 85) rfl ?_
        refine g_aload_n (pc := 31) dX1_nextTrial_31 rfl ?_
        refine g_gR (pc := 32) dX1_nextTrial_32 fR_RX1_20 xc_79 (v := 82) rfl ?_
        refine g_iload_n (pc := 35) dX1_nextTrial_35 rfl ?_
        refine g_iaload (pc := 36) dX1_nextTrial_36 xc_82 (xin_of g2) (v := (rd u 82 v1.toNatClampNeg)) rfl ?_
        refine g_iconst (pc := 37) dX1_nextTrial_37 ic_0 ?_
        refine g_iastore (pc := 38) dX1_nextTrial_38 xc_85 (xin_of g3) (u' := (wr u 85 (rd u 82 v1.toNatClampNeg).toNatClampNeg (0 : Int32))) rfl ?_
        refine g_aload_n (pc := 39) dX1_nextTrial_39 rfl ?_
        refine g_gR (pc := 40) dX1_nextTrial_40 fR_RX1_33 xc_79 (v := 85) rfl ?_
        refine g_aload_n (pc := 43) dX1_nextTrial_43 rfl ?_
        refine g_gR (pc := 44) dX1_nextTrial_44 fR_RX1_20 xc_79 (v := 82) rfl ?_
        refine g_iload_n (pc := 47) dX1_nextTrial_47 rfl ?_
        refine g_iconst (pc := 48) dX1_nextTrial_48 ic_1 ?_
        refine g_isub (pc := 49) dX1_nextTrial_49 rfl ?_
        obtain ⟨g5, h⟩ := x_gd h
        refine g_iaload (pc := 50) dX1_nextTrial_50 xc_82 (xin_of g5) (v := (rd u 82 (v1 - (1 : Int32)).toNatClampNeg)) rfl ?_
        refine g_dup2 (pc := 51) dX1_nextTrial_51 rfl rfl ?_
        obtain ⟨g6, h⟩ := x_gd h
        refine g_iaload (pc := 52) dX1_nextTrial_52 xc_85 (xin_of g6) (v := (rd (wr u 85 (rd u 82 v1.toNatClampNeg).toNatClampNeg (0 : Int32)) 85 (rd u 82 (v1 - (1 : Int32)).toNatClampNeg).toNatClampNeg)) rfl ?_
        refine g_iconst (pc := 53) dX1_nextTrial_53 ic_1 ?_
        refine g_iadd (pc := 54) dX1_nextTrial_54 rfl ?_
        refine g_iastore (pc := 55) dX1_nextTrial_55 xc_85 (xin_of g6) (u' := (wr (wr u 85 (rd u 82 v1.toNatClampNeg).toNatClampNeg (0 : Int32)) 85 (rd u 82 (v1 - (1 : Int32)).toNatClampNeg).toNatClampNeg ((rd (wr u 85 (rd u 82 v1.toNatClampNeg).toNatClampNeg (0 : Int32)) 85 (rd u 82 (v1 - (1 : Int32)).toNatClampNeg).toNatClampNeg) + (1 : Int32)))) rfl ?_
        refine g_aload_n (pc := 56) dX1_nextTrial_56 rfl ?_
        refine g_gR (pc := 57) dX1_nextTrial_57 fR_RX1_33 xc_79 (v := 85) rfl ?_
        refine g_aload_n (pc := 60) dX1_nextTrial_60 rfl ?_
        refine g_gR (pc := 61) dX1_nextTrial_61 fR_RX1_20 xc_79 (v := 82) rfl ?_
        refine g_aload_n (pc := 64) dX1_nextTrial_64 rfl ?_
        refine g_gI (pc := 65) dX1_nextTrial_65 fI_RX1_29 xc_79 (v := (rd u 79 5)) rfl ?_
        refine g_iconst (pc := 68) dX1_nextTrial_68 ic_1 ?_
        refine g_isub (pc := 69) dX1_nextTrial_69 rfl ?_
        obtain ⟨g7, h⟩ := x_gd h
        refine g_iaload (pc := 70) dX1_nextTrial_70 xc_82 (xin_of g7) (v := (rd u 82 ((rd u 79 5) - (1 : Int32)).toNatClampNeg)) rfl ?_
        refine g_iload_n (pc := 71) dX1_nextTrial_71 rfl ?_
        refine g_iconst (pc := 72) dX1_nextTrial_72 ic_1 ?_
        refine g_isub (pc := 73) dX1_nextTrial_73 rfl ?_
        obtain ⟨g8, h⟩ := x_gd h
        refine g_iastore (pc := 74) dX1_nextTrial_74 xc_85 (xin_of g8) (u' := (wr (wr (wr u 85 (rd u 82 v1.toNatClampNeg).toNatClampNeg (0 : Int32)) 85 (rd u 82 (v1 - (1 : Int32)).toNatClampNeg).toNatClampNeg ((rd (wr u 85 (rd u 82 v1.toNatClampNeg).toNatClampNeg (0 : Int32)) 85 (rd u 82 (v1 - (1 : Int32)).toNatClampNeg).toNatClampNeg) + (1 : Int32))) 85 (rd u 82 ((rd u 79 5) - (1 : Int32)).toNatClampNeg).toNatClampNeg ((rd u 85 (rd u 82 v1.toNatClampNeg).toNatClampNeg) - (1 : Int32)))) rfl ?_
        refine g_iconst (pc := 75) dX1_nextTrial_75 ic_1 ?_
        obtain ⟨h1, h2⟩ := x_inj2 h
        subst h1
        subst h2
        exact g_zret (pc := 76) dX1_nextTrial_76 rfl (Or.inr rfl) rfl rfl (Nat.le_refl _) (Nat.le_refl _)
set_option maxRecDepth 100000 in
set_option maxHeartbeats 4000000 in
theorem G_X1_nextTrial_0 {sc : Nat × (Nat → Int32)} {d : Nat} (hd : 0 ≤ d) {r : Int32} {u' : xS} (u : xS) (h : f_X1_nextTrial u = some (r, u')) : xG sc mX1_nextTrial d 0 0 (xR (some (.int r)) (xL0, u') 0 0) 0 0 0 [some (.ref 79), none, none] [] (xL0, u) := by
  rw [f_X1_nextTrial] at h
  refine g_aload_n (pc := 0) dX1_nextTrial_0 rfl ?_
  refine g_gI (pc := 1) dX1_nextTrial_1 fI_RX1_29 xc_79 (v := (rd u 79 5)) rfl ?_
  refine g_iconst (pc := 4) dX1_nextTrial_4 ic_1 ?_
  refine g_isub (pc := 5) dX1_nextTrial_5 rfl ?_
  refine g_istore_n (pc := 6) dX1_nextTrial_6 (Nat.le_of_ble_eq_true rfl) (L' := [some (.ref 79), some (.int ((rd u 79 5) - (1 : Int32))), none]) rfl ?_
  exact G_X1_nextTrial_7 hd xN ((rd u 79 5) - (1 : Int32)) u h
set_option maxRecDepth 100000 in
set_option maxHeartbeats 4000000 in
theorem M_X1_nextTrial {sc : Nat × (Nat → Int32)} {d : Nat} (hd : 0 ≤ d) {r : Int32} {u u' : xS} (h : f_X1_nextTrial u = some (r, u')) : xMt sc mX1_nextTrial d 0 0 [.ref 79] (xL0, u) (some (.int r)) (xL0, u') :=
  xMt.of (by decide +kernel) (by decide +kernel) (Nat.le_of_ble_eq_true rfl) (L := [some (.ref 79), none, none]) rfl ((G_X1_nextTrial_0 hd u h))
set_option maxRecDepth 100000 in
set_option maxHeartbeats 4000000 in
theorem G_X8_addFeatures_3 {sc : Nat × (Nat → Int32)} {d : Nat} (hd : 0 ≤ d) {u' : xS} : ∀ (n : Nat) (v1 : Int32) (v2 : Int32) (v3 : Nat) (v4 : Int32) (u : xS), f_X8_addFeatures_3 n v1 v2 v3 v4 u = some u' → xG sc mX8_addFeatures d 0 0 (xR none (xL0, u') 0 0) 0 0 3 [some (.ref 1), some (.int v1), some (.int v2), some (.ref v3), some (.int v4)] [] (xL0, u) := by
  intro n
  induction n with
  | zero =>
    intro v1 v2 v3 v4 u h
    rw [f_X8_addFeatures_3] at h
    cases h
  | succ n ih =>
    intro v1 v2 v3 v4 u h
    rw [f_X8_addFeatures_3] at h
    refine g_iload (pc := 3) dX8_addFeatures_3 rfl ?_
    refine g_bipush (pc := 5) dX8_addFeatures_5 bp_6 ?_
    refine g_icmp_ge (tgt := 41) (pc := 7) dX8_addFeatures_7 (by decide) (fun c1 => ?_) (fun c1 => ?_)
    · replace h := (if_pos c1).symm.trans h
      replace h := Option.some.inj h
      subst h
      exact g_ret (pc := 41) dX8_addFeatures_41 rfl rfl rfl (Nat.le_refl _) (Nat.le_refl _)
    · replace h := (if_neg c1).symm.trans h
      refine g_iload (pc := 10) dX8_addFeatures_10 rfl ?_
      refine g_aload_n (pc := 12) dX8_addFeatures_12 rfl ?_
      obtain ⟨g2, h⟩ := x_gd h
      obtain ⟨q3, hq4⟩ := xisI_of g2
      refine g_alen (pc := 13) dX8_addFeatures_13 hq4 (by decide) (v := (Int32.ofNat (xlen v3))) rfl ?_
      refine g_icmp_ge (tgt := 41) (pc := 14) dX8_addFeatures_14 (by decide) (fun c5 => ?_) (fun c5 => ?_)
      · replace h := (if_pos c5).symm.trans h
        replace h := Option.some.inj h
        subst h
        exact g_ret (pc := 41) dX8_addFeatures_41 rfl rfl rfl (Nat.le_refl _) (Nat.le_refl _)
      · replace h := (if_neg c5).symm.trans h
        refine g_aload_n (pc := 17) dX8_addFeatures_17 rfl ?_
        refine g_iload (pc := 18) dX8_addFeatures_18 rfl ?_
        refine g_dup2 (pc := 20) dX8_addFeatures_20 rfl rfl ?_
        obtain ⟨g6, h⟩ := x_gd h
        obtain ⟨g7, h⟩ := x_gd h
        obtain ⟨q8, hq9⟩ := xisI_of g6
        refine g_iaload (pc := 21) dX8_addFeatures_21 hq9 (xin_of g7) (v := (rd u v3 v4.toNatClampNeg)) rfl ?_
        refine g_aload_n (pc := 22) dX8_addFeatures_22 rfl ?_
        refine g_gR (pc := 23) dX8_addFeatures_23 fR_RX8_13 xc_1 (v := 2) rfl ?_
        refine g_iload (pc := 26) dX8_addFeatures_26 rfl ?_
        obtain ⟨g10, h⟩ := x_gd h
        refine g_aaload (pc := 28) dX8_addFeatures_28 xc_2 (xin_of g10) (v := (3 + v4.toNatClampNeg)) (xrf_2 _ (xin_lt g10)) ?_
        refine g_iload_n (pc := 29) dX8_addFeatures_29 rfl ?_
        obtain ⟨g11, h⟩ := x_gd h
        refine g_iaload (pc := 30) dX8_addFeatures_30 (xrow_2 _ (xin_lt g10)) (xin_of g11) (v := (rd u (3 + v4.toNatClampNeg) v1.toNatClampNeg)) rfl ?_
        refine g_iload_n (pc := 31) dX8_addFeatures_31 rfl ?_
        refine g_imul (pc := 32) dX8_addFeatures_32 rfl ?_
        refine g_iadd (pc := 33) dX8_addFeatures_33 rfl ?_
        obtain ⟨g12, h⟩ := x_gd h
        obtain ⟨q13, hq14⟩ := xisI_of g12
        obtain ⟨g15, h⟩ := x_gd h
        refine g_iastore (pc := 34) dX8_addFeatures_34 hq14 (xin_of g15) (u' := (wr u v3 v4.toNatClampNeg ((rd u v3 v4.toNatClampNeg) + ((rd u (3 + v4.toNatClampNeg) v1.toNatClampNeg) * v2)))) rfl ?_
        refine g_inc (pc := 35) dX8_addFeatures_35 (Nat.le_of_ble_eq_true rfl) rfl ic_1 (L' := [some (.ref 1), some (.int v1), some (.int v2), some (.ref v3), some (.int (v4 + (1 : Int32)))]) rfl ?_
        refine g_goto (tgt := 3) (pc := 38) dX8_addFeatures_38 (by decide) ?_
        exact ih v1 v2 v3 (v4 + (1 : Int32)) (wr u v3 v4.toNatClampNeg ((rd u v3 v4.toNatClampNeg) + ((rd u (3 + v4.toNatClampNeg) v1.toNatClampNeg) * v2))) h
set_option maxRecDepth 100000 in
set_option maxHeartbeats 4000000 in
theorem G_X8_addFeatures_0 {sc : Nat × (Nat → Int32)} {d : Nat} (hd : 0 ≤ d) {u' : xS} (v1 : Int32) (v2 : Int32) (v3 : Nat) (u : xS) (h : f_X8_addFeatures v1 v2 v3 u = some u') : xG sc mX8_addFeatures d 0 0 (xR none (xL0, u') 0 0) 0 0 0 [some (.ref 1), some (.int v1), some (.int v2), some (.ref v3), none] [] (xL0, u) := by
  rw [f_X8_addFeatures] at h
  refine g_iconst (pc := 0) dX8_addFeatures_0 ic_0 ?_
  refine g_istore (pc := 1) dX8_addFeatures_1 (Nat.le_of_ble_eq_true rfl) (L' := [some (.ref 1), some (.int v1), some (.int v2), some (.ref v3), some (.int (0 : Int32))]) rfl ?_
  exact G_X8_addFeatures_3 hd xN v1 v2 v3 (0 : Int32) u h
set_option maxRecDepth 100000 in
set_option maxHeartbeats 4000000 in
theorem M_X8_addFeatures {sc : Nat × (Nat → Int32)} {d : Nat} (hd : 0 ≤ d) {u u' : xS} {a1 : Int32} {a2 : Int32} {a3 : Nat} (h : f_X8_addFeatures a1 a2 a3 u = some u') : xMt sc mX8_addFeatures d 0 0 [.ref 1, .int a1, .int a2, .ref a3] (xL0, u) none (xL0, u') :=
  xMt.of (by decide +kernel) (by decide +kernel) (Nat.le_of_ble_eq_true rfl) (L := [some (.ref 1), some (.int a1), some (.int a2), some (.ref a3), none]) rfl ((G_X8_addFeatures_0 hd a1 a2 a3 u h))
set_option maxRecDepth 100000 in
set_option maxHeartbeats 4000000 in
theorem G_X11_tellBlend_81 {sc : Nat × (Nat → Int32)} {d : Nat} (hd : 2 ≤ d) {u' : xS} (v3 : Int32) (v4 : Int32) (u : xS) (h : f_X11_tellBlend_81 v3 v4 u = some u') : xG sc mX11_tellBlend d 0 0 (xR none (xL0, u') 0 0) 0 0 81 [some (.ref 0), none, some (.ref 81), some (.int v3), some (.int v4), none] [] (xL0, u) := by
  rw [f_X11_tellBlend_81] at h
  refine g_aload_n (pc := 81) dX11_tellBlend_81 rfl ?_
  refine g_gR (pc := 82) dX11_tellBlend_82 fR_RX11_47 xc_0 (v := 58) rfl ?_
  obtain ⟨u2, e1, h⟩ := x_bind h
  refine g_cV (pc := 85) dX11_tellBlend_85 cV_RX11_205 (M_X10_clearLetters (Nat.le_refl _) e1) xc_58 (as := []) (st := []) rfl rfl (Nat.le_of_ble_eq_true rfl) (Nat.le_trans (Nat.le_of_ble_eq_true rfl) hd) rfl ?_
  refine g_aload_n (pc := 88) dX11_tellBlend_88 rfl ?_
  refine g_gR (pc := 89) dX11_tellBlend_89 fR_RX11_47 xc_0 (v := 58) rfl ?_
  refine g_bipush (pc := 92) dX11_tellBlend_92 bp_114 ?_
  refine g_aload_n (pc := 94) dX11_tellBlend_94 rfl ?_
  refine g_iconst (pc := 95) dX11_tellBlend_95 ic_0 ?_
  refine g_iaload (pc := 96) dX11_tellBlend_96 xc_81 vin_0_6 (v := (rd u2 81 0)) rfl ?_
  refine g_bipush (pc := 97) dX11_tellBlend_97 bp_12 ?_
  refine g_idiv (pc := 99) dX11_tellBlend_99 (by decide) rfl ?_
  obtain ⟨u4, e3, h⟩ := x_bind h
  refine g_cV (pc := 100) dX11_tellBlend_100 cV_RX11_211 (M_X10_tell (Nat.le_refl _) e3) xc_58 (as := [.int (114 : Int32), .int ((rd u2 81 0) / (12 : Int32))]) (st := []) rfl rfl (Nat.le_of_ble_eq_true rfl) (Nat.le_trans (Nat.le_of_ble_eq_true rfl) hd) rfl ?_
  refine g_aload_n (pc := 103) dX11_tellBlend_103 rfl ?_
  refine g_gR (pc := 104) dX11_tellBlend_104 fR_RX11_47 xc_0 (v := 58) rfl ?_
  refine g_bipush (pc := 107) dX11_tellBlend_107 bp_103 ?_
  refine g_aload_n (pc := 109) dX11_tellBlend_109 rfl ?_
  refine g_iconst (pc := 110) dX11_tellBlend_110 ic_1 ?_
  refine g_iaload (pc := 111) dX11_tellBlend_111 xc_81 vin_1_6 (v := (rd u4 81 1)) rfl ?_
  refine g_bipush (pc := 112) dX11_tellBlend_112 bp_12 ?_
  refine g_idiv (pc := 114) dX11_tellBlend_114 (by decide) rfl ?_
  obtain ⟨u6, e5, h⟩ := x_bind h
  refine g_cV (pc := 115) dX11_tellBlend_115 cV_RX11_211 (M_X10_tell (Nat.le_refl _) e5) xc_58 (as := [.int (103 : Int32), .int ((rd u4 81 1) / (12 : Int32))]) (st := []) rfl rfl (Nat.le_of_ble_eq_true rfl) (Nat.le_trans (Nat.le_of_ble_eq_true rfl) hd) rfl ?_
  refine g_aload_n (pc := 118) dX11_tellBlend_118 rfl ?_
  refine g_gR (pc := 119) dX11_tellBlend_119 fR_RX11_47 xc_0 (v := 58) rfl ?_
  refine g_bipush (pc := 122) dX11_tellBlend_122 bp_98 ?_
  refine g_aload_n (pc := 124) dX11_tellBlend_124 rfl ?_
  refine g_iconst (pc := 125) dX11_tellBlend_125 ic_2 ?_
  refine g_iaload (pc := 126) dX11_tellBlend_126 xc_81 vin_2_6 (v := (rd u6 81 2)) rfl ?_
  refine g_bipush (pc := 127) dX11_tellBlend_127 bp_12 ?_
  refine g_idiv (pc := 129) dX11_tellBlend_129 (by decide) rfl ?_
  obtain ⟨u8, e7, h⟩ := x_bind h
  refine g_cV (pc := 130) dX11_tellBlend_130 cV_RX11_211 (M_X10_tell (Nat.le_refl _) e7) xc_58 (as := [.int (98 : Int32), .int ((rd u6 81 2) / (12 : Int32))]) (st := []) rfl rfl (Nat.le_of_ble_eq_true rfl) (Nat.le_trans (Nat.le_of_ble_eq_true rfl) hd) rfl ?_
  refine g_aload_n (pc := 133) dX11_tellBlend_133 rfl ?_
  refine g_gR (pc := 134) dX11_tellBlend_134 fR_RX11_47 xc_0 (v := 58) rfl ?_
  refine g_bipush (pc := 137) dX11_tellBlend_137 bp_115 ?_
  refine g_aload_n (pc := 139) dX11_tellBlend_139 rfl ?_
  refine g_iconst (pc := 140) dX11_tellBlend_140 ic_3 ?_
  refine g_iaload (pc := 141) dX11_tellBlend_141 xc_81 vin_3_6 (v := (rd u8 81 3)) rfl ?_
  refine g_bipush (pc := 142) dX11_tellBlend_142 bp_12 ?_
  refine g_idiv (pc := 144) dX11_tellBlend_144 (by decide) rfl ?_
  obtain ⟨u10, e9, h⟩ := x_bind h
  refine g_cV (pc := 145) dX11_tellBlend_145 cV_RX11_211 (M_X10_tell (Nat.le_refl _) e9) xc_58 (as := [.int (115 : Int32), .int ((rd u8 81 3) / (12 : Int32))]) (st := []) rfl rfl (Nat.le_of_ble_eq_true rfl) (Nat.le_trans (Nat.le_of_ble_eq_true rfl) hd) rfl ?_
  refine g_aload_n (pc := 148) dX11_tellBlend_148 rfl ?_
  refine g_gR (pc := 149) dX11_tellBlend_149 fR_RX11_47 xc_0 (v := 58) rfl ?_
  refine g_bipush (pc := 152) dX11_tellBlend_152 bp_119 ?_
  refine g_aload_n (pc := 154) dX11_tellBlend_154 rfl ?_
  refine g_iconst (pc := 155) dX11_tellBlend_155 ic_4 ?_
  refine g_iaload (pc := 156) dX11_tellBlend_156 xc_81 vin_4_6 (v := (rd u10 81 4)) rfl ?_
  refine g_bipush (pc := 157) dX11_tellBlend_157 bp_12 ?_
  refine g_idiv (pc := 159) dX11_tellBlend_159 (by decide) rfl ?_
  obtain ⟨u12, e11, h⟩ := x_bind h
  refine g_cV (pc := 160) dX11_tellBlend_160 cV_RX11_211 (M_X10_tell (Nat.le_refl _) e11) xc_58 (as := [.int (119 : Int32), .int ((rd u10 81 4) / (12 : Int32))]) (st := []) rfl rfl (Nat.le_of_ble_eq_true rfl) (Nat.le_trans (Nat.le_of_ble_eq_true rfl) hd) rfl ?_
  refine g_aload_n (pc := 163) dX11_tellBlend_163 rfl ?_
  refine g_gR (pc := 164) dX11_tellBlend_164 fR_RX11_47 xc_0 (v := 58) rfl ?_
  refine g_bipush (pc := 167) dX11_tellBlend_167 bp_118 ?_
  refine g_aload_n (pc := 169) dX11_tellBlend_169 rfl ?_
  refine g_iconst (pc := 170) dX11_tellBlend_170 ic_5 ?_
  refine g_iaload (pc := 171) dX11_tellBlend_171 xc_81 vin_5_6 (v := (rd u12 81 5)) rfl ?_
  refine g_bipush (pc := 172) dX11_tellBlend_172 bp_12 ?_
  refine g_idiv (pc := 174) dX11_tellBlend_174 (by decide) rfl ?_
  obtain ⟨u14, e13, h⟩ := x_bind h
  refine g_cV (pc := 175) dX11_tellBlend_175 cV_RX11_211 (M_X10_tell (Nat.le_refl _) e13) xc_58 (as := [.int (118 : Int32), .int ((rd u12 81 5) / (12 : Int32))]) (st := []) rfl rfl (Nat.le_of_ble_eq_true rfl) (Nat.le_trans (Nat.le_of_ble_eq_true rfl) hd) rfl ?_
  refine g_aload_n (pc := 178) dX11_tellBlend_178 rfl ?_
  refine g_gR (pc := 179) dX11_tellBlend_179 fR_RX11_47 xc_0 (v := 58) rfl ?_
  refine g_bipush (pc := 182) dX11_tellBlend_182 bp_110 ?_
  refine g_iload_n (pc := 184) dX11_tellBlend_184 rfl ?_
  obtain ⟨u16, e15, h⟩ := x_bind h
  refine g_cV (pc := 185) dX11_tellBlend_185 cV_RX11_211 (M_X10_tell (Nat.le_refl _) e15) xc_58 (as := [.int (110 : Int32), .int v3]) (st := []) rfl rfl (Nat.le_of_ble_eq_true rfl) (Nat.le_trans (Nat.le_of_ble_eq_true rfl) hd) rfl ?_
  refine g_aload_n (pc := 188) dX11_tellBlend_188 rfl ?_
  refine g_gR (pc := 189) dX11_tellBlend_189 fR_RX11_47 xc_0 (v := 58) rfl ?_
  refine g_bipush (pc := 192) dX11_tellBlend_192 bp_109 ?_
  refine g_iload (pc := 194) dX11_tellBlend_194 rfl ?_
  obtain ⟨u18, e17, h⟩ := x_bind h
  refine g_cV (pc := 196) dX11_tellBlend_196 cV_RX11_211 (M_X10_tell (Nat.le_refl _) e17) xc_58 (as := [.int (109 : Int32), .int v4]) (st := []) rfl rfl (Nat.le_of_ble_eq_true rfl) (Nat.le_trans (Nat.le_of_ble_eq_true rfl) hd) rfl ?_
  replace h := Option.some.inj h
  subst h
  exact g_ret (pc := 199) dX11_tellBlend_199 rfl rfl rfl (Nat.le_refl _) (Nat.le_refl _)
set_option maxRecDepth 100000 in
set_option maxHeartbeats 4000000 in
theorem G_X11_tellBlend_75 {sc : Nat × (Nat → Int32)} {d : Nat} (hd : 2 ≤ d) {u' : xS} {k21 : Nat → Int32 → Int32 → Int32 → xS → Option xS} (hk21 : ∀ (v1 : Nat) (v3 : Int32) (v4 : Int32) (v5 : Int32) (u : xS), k21 v1 v3 v4 v5 u = some u' → xG sc mX11_tellBlend d 0 0 (xR none (xL0, u') 0 0) 0 0 21 [some (.ref 0), some (.ref v1), some (.ref 81), some (.int v3), some (.int v4), some (.int v5)] [] (xL0, u)) (v1 : Nat) (v3 : Int32) (v4 : Int32) (v5 : Int32) (u : xS) (h : f_X11_tellBlend_75 k21 v1 v3 v4 v5 u = some u') : xG sc mX11_tellBlend d 0 0 (xR none (xL0, u') 0 0) 0 0 75 [some (.ref 0), some (.ref v1), some (.ref 81), some (.int v3), some (.int v4), some (.int v5)] [] (xL0, u) := by
  rw [f_X11_tellBlend_75] at h
  refine g_inc (pc := 75) dX11_tellBlend_75 (Nat.le_of_ble_eq_true rfl) rfl ic_1 (L' := [some (.ref 0), some (.ref v1), some (.ref 81), some (.int v3), some (.int v4), some (.int (v5 + (1 : Int32)))]) rfl ?_
  refine g_goto (tgt := 21) (pc := 78) dX11_tellBlend_78 (by decide) ?_
  exact hk21 v1 v3 v4 (v5 + (1 : Int32)) u h
set_option maxRecDepth 100000 in
set_option maxHeartbeats 4000000 in
theorem G_X11_tellBlend_21 {sc : Nat × (Nat → Int32)} {d : Nat} (hd : 2 ≤ d) {u' : xS} : ∀ (n : Nat) (v1 : Nat) (v3 : Int32) (v4 : Int32) (v5 : Int32) (u : xS), f_X11_tellBlend_21 n v1 v3 v4 v5 u = some u' → xG sc mX11_tellBlend d 0 0 (xR none (xL0, u') 0 0) 0 0 21 [some (.ref 0), some (.ref v1), some (.ref 81), some (.int v3), some (.int v4), some (.int v5)] [] (xL0, u) := by
  intro n
  induction n with
  | zero =>
    intro v1 v3 v4 v5 u h
    rw [f_X11_tellBlend_21] at h
    cases h
  | succ n ih =>
    intro v1 v3 v4 v5 u h
    rw [f_X11_tellBlend_21] at h
    refine g_iload (pc := 21) dX11_tellBlend_21 rfl ?_
    refine g_aload_n (pc := 23) dX11_tellBlend_23 rfl ?_
    refine g_gR (pc := 24) dX11_tellBlend_24 fR_RX11_12 xc_0 (v := 1) rfl ?_
    refine g_gI (pc := 27) dX11_tellBlend_27 fI_RX11_102 xc_1 (v := (rd u 1 2)) rfl ?_
    refine g_icmp_ge (tgt := 81) (pc := 30) dX11_tellBlend_30 (by decide) (fun c1 => ?_) (fun c1 => ?_)
    · replace h := (if_pos c1).symm.trans h
      refine g_L (L' := [some (.ref 0), none, some (.ref 81), some (.int v3), some (.int v4), none]) ⟨rfl, ⟨rfl, ⟨rfl, ⟨rfl, trivial⟩⟩⟩⟩ ?_
      exact G_X11_tellBlend_81 hd v3 v4 u h
    · replace h := (if_neg c1).symm.trans h
      refine g_iload (pc := 33) dX11_tellBlend_33 rfl ?_
      refine g_aload_n (pc := 35) dX11_tellBlend_35 rfl ?_
      obtain ⟨g2, h⟩ := x_gd h
      obtain ⟨q3, hq4⟩ := xisI_of g2
      refine g_alen (pc := 36) dX11_tellBlend_36 hq4 (by decide) (v := (Int32.ofNat (xlen v1))) rfl ?_
      refine g_icmp_ge (tgt := 81) (pc := 37) dX11_tellBlend_37 (by decide) (fun c5 => ?_) (fun c5 => ?_)
      · replace h := (if_pos c5).symm.trans h
        refine g_L (L' := [some (.ref 0), none, some (.ref 81), some (.int v3), some (.int v4), none]) ⟨rfl, ⟨rfl, ⟨rfl, ⟨rfl, trivial⟩⟩⟩⟩ ?_
        exact G_X11_tellBlend_81 hd v3 v4 u h
      · replace h := (if_neg c5).symm.trans h
        refine g_aload_n (pc := 40) dX11_tellBlend_40 rfl ?_
        refine g_iload (pc := 41) dX11_tellBlend_41 rfl ?_
        obtain ⟨g6, h⟩ := x_gd h
        obtain ⟨g7, h⟩ := x_gd h
        obtain ⟨q8, hq9⟩ := xisI_of g6
        refine g_iaload (pc := 43) dX11_tellBlend_43 hq9 (xin_of g7) (v := (rd u v1 v5.toNatClampNeg)) rfl ?_
        refine g_if_le (tgt := 75) (pc := 44) dX11_tellBlend_44 (by decide) (fun c10 => ?_) (fun c10 => ?_)
        · replace h := (if_pos c10).symm.trans h
          exact G_X11_tellBlend_75 hd ih v1 v3 v4 v5 u h
        · replace h := (if_neg c10).symm.trans h
          refine g_inc (pc := 47) dX11_tellBlend_47 (Nat.le_of_ble_eq_true rfl) rfl ic_1 (L' := [some (.ref 0), some (.ref v1), some (.ref 81), some (.int (v3 + (1 : Int32))), some (.int v4), some (.int v5)]) rfl ?_
          refine g_iload (pc := 50) dX11_tellBlend_50 rfl ?_
          refine g_aload_n (pc := 52) dX11_tellBlend_52 rfl ?_
          refine g_iload (pc := 53) dX11_tellBlend_53 rfl ?_
          obtain ⟨g11, h⟩ := x_gd h
          obtain ⟨g12, h⟩ := x_gd h
          obtain ⟨q13, hq14⟩ := xisI_of g11
          refine g_iaload (pc := 55) dX11_tellBlend_55 hq14 (xin_of g12) (v := (rd u v1 v5.toNatClampNeg)) rfl ?_
          refine g_max (pc := 56) dX11_tellBlend_56 mK_RX11_188 (Nat.le_of_ble_eq_true rfl) (Nat.le_trans (Nat.le_of_ble_eq_true rfl) hd) (Nat.zero_le _) (Nat.zero_le _) ?_
          refine g_istore (pc := 59) dX11_tellBlend_59 (Nat.le_of_ble_eq_true rfl) (L' := [some (.ref 0), some (.ref v1), some (.ref 81), some (.int (v3 + (1 : Int32))), some (.int (imax v4 (rd u v1 v5.toNatClampNeg))), some (.int v5)]) rfl ?_
          refine g_aload_n (pc := 61) dX11_tellBlend_61 rfl ?_
          refine g_gR (pc := 62) dX11_tellBlend_62 fR_RX11_12 xc_0 (v := 1) rfl ?_
          refine g_iload (pc := 65) dX11_tellBlend_65 rfl ?_
          refine g_aload_n (pc := 67) dX11_tellBlend_67 rfl ?_
          refine g_iload (pc := 68) dX11_tellBlend_68 rfl ?_
          obtain ⟨g15, h⟩ := x_gd h
          obtain ⟨g16, h⟩ := x_gd h
          obtain ⟨q17, hq18⟩ := xisI_of g15
          refine g_iaload (pc := 70) dX11_tellBlend_70 hq18 (xin_of g16) (v := (rd u v1 v5.toNatClampNeg)) rfl ?_
          refine g_aload_n (pc := 71) dX11_tellBlend_71 rfl ?_
          obtain ⟨u20, e19, h⟩ := x_bind h
          refine g_cV (pc := 72) dX11_tellBlend_72 cV_RX11_312 (M_X8_addFeatures (Nat.le_refl _) e19) xc_1 (as := [.int v5, .int (rd u v1 v5.toNatClampNeg), .ref 81]) (st := []) rfl rfl (Nat.le_of_ble_eq_true rfl) (Nat.le_trans (Nat.le_of_ble_eq_true rfl) hd) rfl ?_
          exact G_X11_tellBlend_75 hd ih v1 (v3 + (1 : Int32)) (imax v4 (rd u v1 v5.toNatClampNeg)) v5 u20 h
set_option maxRecDepth 100000 in
set_option maxHeartbeats 4000000 in
theorem G_X11_tellBlend_0 {sc : Nat × (Nat → Int32)} {d : Nat} (hd : 2 ≤ d) {u' : xS} (v1 : Nat) (u : xS) (h : f_X11_tellBlend v1 u = some u') : xG sc mX11_tellBlend d 0 0 (xR none (xL0, u') 0 0) 0 0 0 [some (.ref 0), some (.ref v1), none, none, none, none] [] (xL0, u) := by
  rw [f_X11_tellBlend] at h
  refine g_aload_n (pc := 0) dX11_tellBlend_0 rfl ?_
  refine g_gR (pc := 1) dX11_tellBlend_1 fR_RX11_61 xc_0 (v := 79) rfl ?_
  refine g_gR (pc := 4) dX11_tellBlend_4 fR_RX11_303 xc_79 (v := 81) rfl ?_
  refine g_astore_n (pc := 7) dX11_tellBlend_7 (Nat.le_of_ble_eq_true rfl) (L' := [some (.ref 0), some (.ref v1), some (.ref 81), none, none, none]) rfl ?_
  refine g_iconst (pc := 8) dX11_tellBlend_8 ic_0 ?_
  refine g_istore_n (pc := 9) dX11_tellBlend_9 (Nat.le_of_ble_eq_true rfl) (L' := [some (.ref 0), some (.ref v1), some (.ref 81), some (.int (0 : Int32)), none, none]) rfl ?_
  refine g_iconst (pc := 10) dX11_tellBlend_10 ic_0 ?_
  refine g_istore (pc := 11) dX11_tellBlend_11 (Nat.le_of_ble_eq_true rfl) (L' := [some (.ref 0), some (.ref v1), some (.ref 81), some (.int (0 : Int32)), some (.int (0 : Int32)), none]) rfl ?_
  refine g_aload_n (pc := 13) dX11_tellBlend_13 rfl ?_
  refine g_iconst (pc := 14) dX11_tellBlend_14 ic_0 ?_
  obtain ⟨u2, e1, h⟩ := x_bind h
  refine g_cS (pc := 15) dX11_tellBlend_15 cS_RX11_306 (M_J7_fill_53178 (Nat.le_refl _) e1) (as := [.ref 81, .int (0 : Int32)]) (st := []) rfl rfl (Nat.le_of_ble_eq_true rfl) (Nat.le_trans (Nat.le_of_ble_eq_true rfl) hd) rfl ?_
  refine g_iconst (pc := 18) dX11_tellBlend_18 ic_0 ?_
  refine g_istore (pc := 19) dX11_tellBlend_19 (Nat.le_of_ble_eq_true rfl) (L' := [some (.ref 0), some (.ref v1), some (.ref 81), some (.int (0 : Int32)), some (.int (0 : Int32)), some (.int (0 : Int32))]) rfl ?_
  exact G_X11_tellBlend_21 hd xN v1 (0 : Int32) (0 : Int32) (0 : Int32) u2 h
set_option maxRecDepth 100000 in
set_option maxHeartbeats 4000000 in
theorem M_X11_tellBlend {sc : Nat × (Nat → Int32)} {d : Nat} (hd : 2 ≤ d) {u u' : xS} {a1 : Nat} (h : f_X11_tellBlend a1 u = some u') : xMt sc mX11_tellBlend d 0 0 [.ref 0, .ref a1] (xL0, u) none (xL0, u') :=
  xMt.of (by decide +kernel) (by decide +kernel) (Nat.le_of_ble_eq_true rfl) (L := [some (.ref 0), some (.ref a1), none, none, none, none]) rfl ((G_X11_tellBlend_0 hd a1 u h))
set_option maxRecDepth 100000 in
set_option maxHeartbeats 4000000 in
theorem G_X11_holdsTrial_0 {sc : Nat × (Nat → Int32)} {d : Nat} (hd : 3 ≤ d) {r : Int32} {u' : xS} (v1 : Int32) (u : xS) (h : f_X11_holdsTrial v1 u = some (r, u')) : xG sc mX11_holdsTrial d 0 0 (xR (some (.int r)) (xL0, u') 0 0) 0 0 0 [some (.ref 0), some (.int v1)] [] (xL0, u) := by
  rw [f_X11_holdsTrial] at h
  refine g_aload_n (pc := 0) dX11_holdsTrial_0 rfl ?_
  refine g_aload_n (pc := 1) dX11_holdsTrial_1 rfl ?_
  refine g_gR (pc := 2) dX11_holdsTrial_2 fR_RX11_61 xc_0 (v := 79) rfl ?_
  refine g_gR (pc := 5) dX11_holdsTrial_5 fR_RX11_348 xc_79 (v := 85) rfl ?_
  obtain ⟨u2, e1, h⟩ := x_bind h
  refine g_cV (pc := 8) dX11_holdsTrial_8 cV_RX11_296 (M_X11_tellBlend (Nat.le_refl _) e1) xc_0 (as := [.ref 85]) (st := []) rfl rfl (Nat.le_of_ble_eq_true rfl) (Nat.le_trans (Nat.le_of_ble_eq_true rfl) hd) rfl ?_
  refine g_aload_n (pc := 11) dX11_holdsTrial_11 rfl ?_
  refine g_gR (pc := 12) dX11_holdsTrial_12 fR_RX11_47 xc_0 (v := 58) rfl ?_
  refine g_iload_n (pc := 15) dX11_holdsTrial_15 rfl ?_
  obtain ⟨⟨x4, u5⟩, e3, h⟩ := x_bind h
  dsimp only at h
  refine g_cV (pc := 16) dX11_holdsTrial_16 cV_RX11_300 (M_X10_firstBroken (Nat.le_refl _) e3) xc_58 (as := [.int v1]) (st := []) rfl rfl (Nat.le_of_ble_eq_true rfl) (Nat.le_trans (Nat.le_of_ble_eq_true rfl) hd) rfl ?_
  refine g_bipush (pc := 19) dX11_holdsTrial_19 bp_m2 ?_
  refine g_icmp_ne (tgt := 28) (pc := 21) dX11_holdsTrial_21 (by decide) (fun c6 => ?_) (fun c6 => ?_)
  · replace h := (if_neg c6).symm.trans h
    refine g_iconst (pc := 28) dX11_holdsTrial_28 ic_0 ?_
    obtain ⟨h1, h2⟩ := x_inj2 h
    subst h1
    subst h2
    exact g_zret (pc := 29) dX11_holdsTrial_29 rfl (Or.inl rfl) rfl rfl (Nat.le_refl _) (Nat.le_refl _)
  · replace h := (if_pos c6).symm.trans h
    refine g_iconst (pc := 24) dX11_holdsTrial_24 ic_1 ?_
    refine g_goto (tgt := 29) (pc := 25) dX11_holdsTrial_25 (by decide) ?_
    obtain ⟨h1, h2⟩ := x_inj2 h
    subst h1
    subst h2
    exact g_zret (pc := 29) dX11_holdsTrial_29 rfl (Or.inr rfl) rfl rfl (Nat.le_refl _) (Nat.le_refl _)
set_option maxRecDepth 100000 in
set_option maxHeartbeats 4000000 in
theorem M_X11_holdsTrial {sc : Nat × (Nat → Int32)} {d : Nat} (hd : 3 ≤ d) {r : Int32} {u u' : xS} {a1 : Int32} (h : f_X11_holdsTrial a1 u = some (r, u')) : xMt sc mX11_holdsTrial d 0 0 [.ref 0, .int a1] (xL0, u) (some (.int r)) (xL0, u') :=
  xMt.of (by decide +kernel) (by decide +kernel) (Nat.le_of_ble_eq_true rfl) (L := [some (.ref 0), some (.int a1)]) rfl ((G_X11_holdsTrial_0 hd a1 u h))
set_option maxRecDepth 100000 in
set_option maxHeartbeats 4000000 in
theorem G_X1_keepTrial_0 {sc : Nat × (Nat → Int32)} {d : Nat} (hd : 1 ≤ d) {u' : xS} (u : xS) (h : f_X1_keepTrial u = some u') : xG sc mX1_keepTrial d 0 0 (xR none (xL0, u') 0 0) 0 0 0 [some (.ref 79)] [] (xL0, u) := by
  rw [f_X1_keepTrial] at h
  refine g_aload_n (pc := 0) dX1_keepTrial_0 rfl ?_
  refine g_gR (pc := 1) dX1_keepTrial_1 fR_RX1_33 xc_79 (v := 85) rfl ?_
  refine g_iconst (pc := 4) dX1_keepTrial_4 ic_0 ?_
  refine g_aload_n (pc := 5) dX1_keepTrial_5 rfl ?_
  refine g_gR (pc := 6) dX1_keepTrial_6 fR_RX1_36 xc_79 (v := 86) rfl ?_
  refine g_iconst (pc := 9) dX1_keepTrial_9 ic_0 ?_
  refine g_bipush (pc := 10) dX1_keepTrial_10 bp_16 ?_
  obtain ⟨g1, h⟩ := x_gd h
  refine g_cp (pc := 12) dX1_keepTrial_12 kcp_RX1_45 xc_85 xc_86 (xcok_of g1) (Nat.le_of_ble_eq_true rfl) (Nat.le_trans (Nat.le_of_ble_eq_true rfl) hd) (u' := (xcpy u 85 (0 : Int32).toNatClampNeg 86 (0 : Int32).toNatClampNeg (16 : Int32).toNatClampNeg)) rfl ?_
  replace h := Option.some.inj h
  subst h
  exact g_ret (pc := 15) dX1_keepTrial_15 rfl rfl rfl (Nat.le_refl _) (Nat.le_refl _)
set_option maxRecDepth 100000 in
set_option maxHeartbeats 4000000 in
theorem M_X1_keepTrial {sc : Nat × (Nat → Int32)} {d : Nat} (hd : 1 ≤ d) {u u' : xS} (h : f_X1_keepTrial u = some u') : xMt sc mX1_keepTrial d 0 0 [.ref 79] (xL0, u) none (xL0, u') :=
  xMt.of (by decide +kernel) (by decide +kernel) (Nat.le_of_ble_eq_true rfl) (L := [some (.ref 79)]) rfl ((G_X1_keepTrial_0 hd u h))
set_option maxRecDepth 100000 in
set_option maxHeartbeats 4000000 in
theorem G_X1_trialPence_4 {sc : Nat × (Nat → Int32)} {d : Nat} (hd : 0 ≤ d) {r : Int32} {u : xS} : ∀ (n : Nat) (v1 : Int32) (v2 : Int32), f_X1_trialPence_4 u n v1 v2 = some r → xG sc mX1_trialPence d 0 0 (xR (some (.int r)) (xL0, u) 0 0) 0 0 4 [some (.ref 79), some (.int v1), some (.int v2), none] [] (xL0, u) := by
  intro n
  induction n with
  | zero =>
    intro v1 v2 h
    rw [f_X1_trialPence_4] at h
    cases h
  | succ n ih =>
    intro v1 v2 h
    rw [f_X1_trialPence_4] at h
    refine g_iload_n (pc := 4) dX1_trialPence_4 rfl ?_
    refine g_aload_n (pc := 5) dX1_trialPence_5 rfl ?_
    refine g_gI (pc := 6) dX1_trialPence_6 fI_RX1_29 xc_79 (v := (rd u 79 5)) rfl ?_
    refine g_icmp_ge (tgt := 53) (pc := 9) dX1_trialPence_9 (by decide) (fun c1 => ?_) (fun c1 => ?_)
    · replace h := (if_pos c1).symm.trans h
      refine g_iload_n (pc := 53) dX1_trialPence_53 rfl ?_
      replace h := Option.some.inj h
      subst h
      exact g_iret (pc := 54) dX1_trialPence_54 rfl rfl rfl (Nat.le_refl _) (Nat.le_refl _)
    · replace h := (if_neg c1).symm.trans h
      refine g_aload_n (pc := 12) dX1_trialPence_12 rfl ?_
      refine g_gR (pc := 13) dX1_trialPence_13 fR_RX1_33 xc_79 (v := 85) rfl ?_
      refine g_aload_n (pc := 16) dX1_trialPence_16 rfl ?_
      refine g_gR (pc := 17) dX1_trialPence_17 fR_RX1_20 xc_79 (v := 82) rfl ?_
      refine g_iload_n (pc := 20) dX1_trialPence_20 rfl ?_
      obtain ⟨g2, h⟩ := x_gd h
      refine g_iaload (pc := 21) dX1_trialPence_21 xc_82 (xin_of g2) (v := (rd u 82 v2.toNatClampNeg)) rfl ?_
      obtain ⟨g3, h⟩ := x_gd h
      refine g_iaload (pc := 22) dX1_trialPence_22 xc_85 (xin_of g3) (v := (rd u 85 (rd u 82 v2.toNatClampNeg).toNatClampNeg)) rfl ?_
      refine g_istore_n (pc := 23) dX1_trialPence_23 (Nat.le_of_ble_eq_true rfl) (L' := [some (.ref 79), some (.int v1), some (.int v2), some (.int (rd u 85 (rd u 82 v2.toNatClampNeg).toNatClampNeg))]) rfl ?_
      refine g_iload_n (pc := 24) dX1_trialPence_24 rfl ?_
      refine g_aload_n (pc := 25) dX1_trialPence_25 rfl ?_
      refine g_gR (pc := 26) dX1_trialPence_26 fR_RX1_26 xc_79 (v := 84) rfl ?_
      refine g_iload_n (pc := 29) dX1_trialPence_29 rfl ?_
      refine g_iaload (pc := 30) dX1_trialPence_30 xc_84 (xin_of g2) (v := (rd u 84 v2.toNatClampNeg)) rfl ?_
      refine g_icmp_le (tgt := 36) (pc := 31) dX1_trialPence_31 (by decide) (fun c4 => ?_) (fun c4 => ?_)
      · replace h := (if_pos c4).symm.trans h
        refine g_iload_n (pc := 36) dX1_trialPence_36 rfl ?_
        refine g_iload_n (pc := 37) dX1_trialPence_37 rfl ?_
        refine g_aload_n (pc := 38) dX1_trialPence_38 rfl ?_
        refine g_gR (pc := 39) dX1_trialPence_39 fR_RX1_23 xc_79 (v := 83) rfl ?_
        refine g_iload_n (pc := 42) dX1_trialPence_42 rfl ?_
        refine g_iaload (pc := 43) dX1_trialPence_43 xc_83 (xin_of g2) (v := (rd u 83 v2.toNatClampNeg)) rfl ?_
        refine g_imul (pc := 44) dX1_trialPence_44 rfl ?_
        refine g_iadd (pc := 45) dX1_trialPence_45 rfl ?_
        refine g_istore_n (pc := 46) dX1_trialPence_46 (Nat.le_of_ble_eq_true rfl) (L' := [some (.ref 79), some (.int (v1 + ((rd u 85 (rd u 82 v2.toNatClampNeg).toNatClampNeg) * (rd u 83 v2.toNatClampNeg)))), some (.int v2), some (.int (rd u 85 (rd u 82 v2.toNatClampNeg).toNatClampNeg))]) rfl ?_
        refine g_inc (pc := 47) dX1_trialPence_47 (Nat.le_of_ble_eq_true rfl) rfl ic_1 (L' := [some (.ref 79), some (.int (v1 + ((rd u 85 (rd u 82 v2.toNatClampNeg).toNatClampNeg) * (rd u 83 v2.toNatClampNeg)))), some (.int (v2 + (1 : Int32))), some (.int (rd u 85 (rd u 82 v2.toNatClampNeg).toNatClampNeg))]) rfl ?_
        refine g_goto (tgt := 4) (pc := 50) dX1_trialPence_50 (by decide) ?_
        refine g_L (L' := [some (.ref 79), some (.int (v1 + ((rd u 85 (rd u 82 v2.toNatClampNeg).toNatClampNeg) * (rd u 83 v2.toNatClampNeg)))), some (.int (v2 + (1 : Int32))), none]) ⟨rfl, ⟨rfl, ⟨rfl, trivial⟩⟩⟩ ?_
        exact ih (v1 + ((rd u 85 (rd u 82 v2.toNatClampNeg).toNatClampNeg) * (rd u 83 v2.toNatClampNeg))) (v2 + (1 : Int32)) h
      · replace h := (if_neg c4).symm.trans h
        refine g_iconst (pc := 34) dX1_trialPence_34 ic_m1 ?_
        replace h := Option.some.inj h
        subst h
        exact g_iret (pc := 35) dX1_trialPence_35 rfl rfl rfl (Nat.le_refl _) (Nat.le_refl _)
set_option maxRecDepth 100000 in
set_option maxHeartbeats 4000000 in
theorem G_X1_trialPence_0 {sc : Nat × (Nat → Int32)} {d : Nat} (hd : 0 ≤ d) {r : Int32} {u : xS} (h : f_X1_trialPence u = some r) : xG sc mX1_trialPence d 0 0 (xR (some (.int r)) (xL0, u) 0 0) 0 0 0 [some (.ref 79), none, none, none] [] (xL0, u) := by
  rw [f_X1_trialPence] at h
  refine g_iconst (pc := 0) dX1_trialPence_0 ic_0 ?_
  refine g_istore_n (pc := 1) dX1_trialPence_1 (Nat.le_of_ble_eq_true rfl) (L' := [some (.ref 79), some (.int (0 : Int32)), none, none]) rfl ?_
  refine g_iconst (pc := 2) dX1_trialPence_2 ic_0 ?_
  refine g_istore_n (pc := 3) dX1_trialPence_3 (Nat.le_of_ble_eq_true rfl) (L' := [some (.ref 79), some (.int (0 : Int32)), some (.int (0 : Int32)), none]) rfl ?_
  exact G_X1_trialPence_4 hd xN (0 : Int32) (0 : Int32) h
set_option maxRecDepth 100000 in
set_option maxHeartbeats 4000000 in
theorem M_X1_trialPence {sc : Nat × (Nat → Int32)} {d : Nat} (hd : 0 ≤ d) {r : Int32} {u : xS} (h : f_X1_trialPence u = some r) : xMt sc mX1_trialPence d 0 0 [.ref 79] (xL0, u) (some (.int r)) (xL0, u) :=
  xMt.of (by decide +kernel) (by decide +kernel) (Nat.le_of_ble_eq_true rfl) (L := [some (.ref 79), none, none, none]) rfl ((G_X1_trialPence_0 hd h))
set_option maxRecDepth 100000 in
set_option maxHeartbeats 4000000 in
theorem G_X1_startTrial_0 {sc : Nat × (Nat → Int32)} {d : Nat} (hd : 1 ≤ d) {r : Int32} {u' : xS} (u : xS) (h : f_X1_startTrial u = some (r, u')) : xG sc mX1_startTrial d 0 0 (xR (some (.int r)) (xL0, u') 0 0) 0 0 0 [some (.ref 79)] [] (xL0, u) := by
  rw [f_X1_startTrial] at h
  refine g_aload_n (pc := 0) dX1_startTrial_0 rfl ?_
  refine g_gR (pc := 1) dX1_startTrial_1 fR_RX1_33 xc_79 (v := 85) rfl ?_
  refine g_iconst (pc := 4) dX1_startTrial_4 ic_0 ?_
  obtain ⟨u2, e1, h⟩ := x_bind h
  refine g_cS (pc := 5) dX1_startTrial_5 cS_RX1_39 (M_J7_fill_53178 (Nat.le_refl _) e1) (as := [.ref 85, .int (0 : Int32)]) (st := []) rfl rfl (Nat.le_of_ble_eq_true rfl) (Nat.le_trans (Nat.le_of_ble_eq_true rfl) hd) rfl ?_
  refine g_aload_n (pc := 8) dX1_startTrial_8 rfl ?_
  refine g_gI (pc := 9) dX1_startTrial_9 fI_RX1_29 xc_79 (v := (rd u2 79 5)) rfl ?_
  refine g_if_ne (tgt := 17) (pc := 12) dX1_startTrial_12 (by decide) (fun c3 => ?_) (fun c3 => ?_)
  · replace h := (if_neg c3).symm.trans h
    refine g_aload_n (pc := 17) dX1_startTrial_17 rfl ?_
    refine g_gR (pc := 18) dX1_startTrial_18 fR_RX1_33 xc_79 (v := 85) rfl ?_
    refine g_aload_n (pc := 21) dX1_startTrial_21 rfl ?_
    refine g_gR (pc := 22) dX1_startTrial_22 fR_RX1_20 xc_79 (v := 82) rfl ?_
    refine g_aload_n (pc := 25) dX1_startTrial_25 rfl ?_
    refine g_gI (pc := 26) dX1_startTrial_26 fI_RX1_29 xc_79 (v := (rd u2 79 5)) rfl ?_
    refine g_iconst (pc := 29) dX1_startTrial_29 ic_1 ?_
    refine g_isub (pc := 30) dX1_startTrial_30 rfl ?_
    obtain ⟨g4, h⟩ := x_gd h
    refine g_iaload (pc := 31) dX1_startTrial_31 xc_82 (xin_of g4) (v := (rd u2 82 ((rd u2 79 5) - (1 : Int32)).toNatClampNeg)) rfl ?_
    refine g_bipush (pc := 32) dX1_startTrial_32 bp_12 ?_
    obtain ⟨g5, h⟩ := x_gd h
    refine g_iastore (pc := 34) dX1_startTrial_34 xc_85 (xin_of g5) (u' := (wr u2 85 (rd u2 82 ((rd u2 79 5) - (1 : Int32)).toNatClampNeg).toNatClampNeg (12 : Int32))) rfl ?_
    refine g_iconst (pc := 35) dX1_startTrial_35 ic_1 ?_
    obtain ⟨h1, h2⟩ := x_inj2 h
    subst h1
    subst h2
    exact g_zret (pc := 36) dX1_startTrial_36 rfl (Or.inr rfl) rfl rfl (Nat.le_refl _) (Nat.le_refl _)
  · replace h := (if_pos c3).symm.trans h
    refine g_iconst (pc := 15) dX1_startTrial_15 ic_0 ?_
    obtain ⟨h1, h2⟩ := x_inj2 h
    subst h1
    subst h2
    exact g_zret (pc := 16) dX1_startTrial_16 rfl (Or.inl rfl) rfl rfl (Nat.le_refl _) (Nat.le_refl _)
set_option maxRecDepth 100000 in
set_option maxHeartbeats 4000000 in
theorem M_X1_startTrial {sc : Nat × (Nat → Int32)} {d : Nat} (hd : 1 ≤ d) {r : Int32} {u u' : xS} (h : f_X1_startTrial u = some (r, u')) : xMt sc mX1_startTrial d 0 0 [.ref 79] (xL0, u) (some (.int r)) (xL0, u') :=
  xMt.of (by decide +kernel) (by decide +kernel) (Nat.le_of_ble_eq_true rfl) (L := [some (.ref 79)]) rfl ((G_X1_startTrial_0 hd u h))
