set_option maxRecDepth 100000 in
set_option maxHeartbeats 4000000 in
theorem G_X11_cheapest_80 {sc : Nat × (Nat → Int32)} {d : Nat} (hd : 4 ≤ d) {r : Int32} {u' : xS} {k14 : Int32 → Int32 → Int32 → Int32 → xS → Option (Int32 × xS)} (hk14 : ∀ (v1 : Int32) (v2 : Int32) (v3 : Int32) (v4 : Int32) (u : xS), k14 v1 v2 v3 v4 u = some (r, u') → xG sc mX11_cheapest d 0 0 (xR (some (.int r)) (xL0, u') 0 0) 0 0 14 [some (.ref 0), some (.int v1), some (.int v2), some (.int v3), some (.int v4), none, none] [] (xL0, u)) (v1 : Int32) (v2 : Int32) (v4 : Int32) (u : xS) (h : f_X11_cheapest_80 k14 v1 v2 v4 u = some (r, u')) : xG sc mX11_cheapest d 0 0 (xR (some (.int r)) (xL0, u') 0 0) 0 0 80 [some (.ref 0), some (.int v1), some (.int v2), none, some (.int v4), none, none] [] (xL0, u) := by
  rw [f_X11_cheapest_80] at h
  refine g_aload_n (pc := 80) dX11_cheapest_80 rfl ?_
  refine g_gR (pc := 81) dX11_cheapest_81 fR_RX11_61 xc_0 (v := 79) rfl ?_
  obtain ⟨⟨x2, u3⟩, e1, h⟩ := x_bind h
  dsimp only at h
  refine g_cV (pc := 84) dX11_cheapest_84 cV_RX11_345 (M_X1_nextTrial (Nat.le_refl _) e1) xc_79 (as := []) (st := []) rfl rfl (Nat.le_of_ble_eq_true rfl) (Nat.le_trans (Nat.le_of_ble_eq_true rfl) hd) rfl ?_
  refine g_istore_n (pc := 87) dX11_cheapest_87 (Nat.le_of_ble_eq_true rfl) (L' := [some (.ref 0), some (.int v1), some (.int v2), some (.int x2), some (.int v4), none, none]) rfl ?_
  refine g_inc (pc := 88) dX11_cheapest_88 (Nat.le_of_ble_eq_true rfl) rfl ic_1 (L' := [some (.ref 0), some (.int v1), some (.int v2), some (.int x2), some (.int (v4 + (1 : Int32))), none, none]) rfl ?_
  refine g_goto (tgt := 14) (pc := 91) dX11_cheapest_91 (by decide) ?_
  exact hk14 v1 v2 x2 (v4 + (1 : Int32)) u3 h
set_option maxRecDepth 100000 in
set_option maxHeartbeats 4000000 in
theorem G_X11_cheapest_55 {sc : Nat × (Nat → Int32)} {d : Nat} (hd : 4 ≤ d) {r : Int32} {u' : xS} {k14 : Int32 → Int32 → Int32 → Int32 → xS → Option (Int32 × xS)} (hk14 : ∀ (v1 : Int32) (v2 : Int32) (v3 : Int32) (v4 : Int32) (u : xS), k14 v1 v2 v3 v4 u = some (r, u') → xG sc mX11_cheapest d 0 0 (xR (some (.int r)) (xL0, u') 0 0) 0 0 14 [some (.ref 0), some (.int v1), some (.int v2), some (.int v3), some (.int v4), none, none] [] (xL0, u)) (v1 : Int32) (v2 : Int32) (v4 : Int32) (v5 : Int32) (s0 : Int32) (u : xS) (h : f_X11_cheapest_55 k14 v1 v2 v4 v5 s0 u = some (r, u')) : xG sc mX11_cheapest d 0 0 (xR (some (.int r)) (xL0, u') 0 0) 0 0 55 [some (.ref 0), some (.int v1), some (.int v2), none, some (.int v4), some (.int v5), none] [.int s0] (xL0, u) := by
  rw [f_X11_cheapest_55] at h
  refine g_istore (pc := 55) dX11_cheapest_55 (Nat.le_of_ble_eq_true rfl) (L' := [some (.ref 0), some (.int v1), some (.int v2), none, some (.int v4), some (.int v5), some (.int s0)]) rfl ?_
  refine g_iload (pc := 57) dX11_cheapest_57 rfl ?_
  refine g_if_eq (tgt := 80) (pc := 59) dX11_cheapest_59 (by decide) (fun c1 => ?_) (fun c1 => ?_)
  · replace h := (if_pos c1).symm.trans h
    refine g_L (L' := [some (.ref 0), some (.int v1), some (.int v2), none, some (.int v4), none, none]) ⟨rfl, ⟨rfl, ⟨rfl, ⟨rfl, trivial⟩⟩⟩⟩ ?_
    exact G_X11_cheapest_80 hd hk14 v1 v2 v4 u h
  · replace h := (if_neg c1).symm.trans h
    refine g_aload_n (pc := 62) dX11_cheapest_62 rfl ?_
    refine g_iload_n (pc := 63) dX11_cheapest_63 rfl ?_
    obtain ⟨⟨x3, u4⟩, e2, h⟩ := x_bind h
    dsimp only at h
    refine g_cV (pc := 64) dX11_cheapest_64 cV_RX11_339 (M_X11_holdsTrial (Nat.le_refl _) e2) xc_0 (as := [.int v1]) (st := []) rfl rfl (Nat.le_of_ble_eq_true rfl) (Nat.le_trans (Nat.le_of_ble_eq_true rfl) hd) rfl ?_
    refine g_if_eq (tgt := 80) (pc := 67) dX11_cheapest_67 (by decide) (fun c5 => ?_) (fun c5 => ?_)
    · replace h := (if_pos c5).symm.trans h
      refine g_L (L' := [some (.ref 0), some (.int v1), some (.int v2), none, some (.int v4), none, none]) ⟨rfl, ⟨rfl, ⟨rfl, ⟨rfl, trivial⟩⟩⟩⟩ ?_
      exact G_X11_cheapest_80 hd hk14 v1 v2 v4 u4 h
    · replace h := (if_neg c5).symm.trans h
      refine g_iload (pc := 70) dX11_cheapest_70 rfl ?_
      refine g_istore_n (pc := 72) dX11_cheapest_72 (Nat.le_of_ble_eq_true rfl) (L' := [some (.ref 0), some (.int v1), some (.int v5), none, some (.int v4), some (.int v5), some (.int s0)]) rfl ?_
      refine g_aload_n (pc := 73) dX11_cheapest_73 rfl ?_
      refine g_gR (pc := 74) dX11_cheapest_74 fR_RX11_61 xc_0 (v := 79) rfl ?_
      obtain ⟨u7, e6, h⟩ := x_bind h
      refine g_cV (pc := 77) dX11_cheapest_77 cV_RX11_342 (M_X1_keepTrial (Nat.le_refl _) e6) xc_79 (as := []) (st := []) rfl rfl (Nat.le_of_ble_eq_true rfl) (Nat.le_trans (Nat.le_of_ble_eq_true rfl) hd) rfl ?_
      refine g_L (L' := [some (.ref 0), some (.int v1), some (.int v5), none, some (.int v4), none, none]) ⟨rfl, ⟨rfl, ⟨rfl, ⟨rfl, trivial⟩⟩⟩⟩ ?_
      exact G_X11_cheapest_80 hd hk14 v1 v5 v4 u7 h
set_option maxRecDepth 100000 in
set_option maxHeartbeats 4000000 in
theorem G_X11_cheapest_54 {sc : Nat × (Nat → Int32)} {d : Nat} (hd : 4 ≤ d) {r : Int32} {u' : xS} {k14 : Int32 → Int32 → Int32 → Int32 → xS → Option (Int32 × xS)} (hk14 : ∀ (v1 : Int32) (v2 : Int32) (v3 : Int32) (v4 : Int32) (u : xS), k14 v1 v2 v3 v4 u = some (r, u') → xG sc mX11_cheapest d 0 0 (xR (some (.int r)) (xL0, u') 0 0) 0 0 14 [some (.ref 0), some (.int v1), some (.int v2), some (.int v3), some (.int v4), none, none] [] (xL0, u)) (v1 : Int32) (v2 : Int32) (v4 : Int32) (v5 : Int32) (u : xS) (h : f_X11_cheapest_54 k14 v1 v2 v4 v5 u = some (r, u')) : xG sc mX11_cheapest d 0 0 (xR (some (.int r)) (xL0, u') 0 0) 0 0 54 [some (.ref 0), some (.int v1), some (.int v2), none, some (.int v4), some (.int v5), none] [] (xL0, u) := by
  rw [f_X11_cheapest_54] at h
  refine g_iconst (pc := 54) dX11_cheapest_54 ic_0 ?_
  exact G_X11_cheapest_55 hd hk14 v1 v2 v4 v5 (0 : Int32) u h
set_option maxRecDepth 100000 in
set_option maxHeartbeats 4000000 in
theorem G_X11_cheapest_50 {sc : Nat × (Nat → Int32)} {d : Nat} (hd : 4 ≤ d) {r : Int32} {u' : xS} {k14 : Int32 → Int32 → Int32 → Int32 → xS → Option (Int32 × xS)} (hk14 : ∀ (v1 : Int32) (v2 : Int32) (v3 : Int32) (v4 : Int32) (u : xS), k14 v1 v2 v3 v4 u = some (r, u') → xG sc mX11_cheapest d 0 0 (xR (some (.int r)) (xL0, u') 0 0) 0 0 14 [some (.ref 0), some (.int v1), some (.int v2), some (.int v3), some (.int v4), none, none] [] (xL0, u)) (v1 : Int32) (v2 : Int32) (v4 : Int32) (v5 : Int32) (u : xS) (h : f_X11_cheapest_50 k14 v1 v2 v4 v5 u = some (r, u')) : xG sc mX11_cheapest d 0 0 (xR (some (.int r)) (xL0, u') 0 0) 0 0 50 [some (.ref 0), some (.int v1), some (.int v2), none, some (.int v4), some (.int v5), none] [] (xL0, u) := by
  rw [f_X11_cheapest_50] at h
  refine g_iconst (pc := 50) dX11_cheapest_50 ic_1 ?_
  refine g_goto (tgt := 55) (pc := 51) dX11_cheapest_51 (by decide) ?_
  exact G_X11_cheapest_55 hd hk14 v1 v2 v4 v5 (1 : Int32) u h
set_option maxRecDepth 100000 in
set_option maxHeartbeats 4000000 in
theorem G_X11_cheapest_14 {sc : Nat × (Nat → Int32)} {d : Nat} (hd : 4 ≤ d) {r : Int32} {u' : xS} : ∀ (n : Nat) (v1 : Int32) (v2 : Int32) (v3 : Int32) (v4 : Int32) (u : xS), f_X11_cheapest_14 n v1 v2 v3 v4 u = some (r, u') → xG sc mX11_cheapest d 0 0 (xR (some (.int r)) (xL0, u') 0 0) 0 0 14 [some (.ref 0), some (.int v1), some (.int v2), some (.int v3), some (.int v4), none, none] [] (xL0, u) := by
  intro n
  induction n with
  | zero =>
    intro v1 v2 v3 v4 u h
    rw [f_X11_cheapest_14] at h
    cases h
  | succ n ih =>
    intro v1 v2 v3 v4 u h
    rw [f_X11_cheapest_14] at h
    refine g_iload_n (pc := 14) dX11_cheapest_14 rfl ?_
    refine g_if_eq (tgt := 94) (pc := 15) dX11_cheapest_15 (by decide) (fun c1 => ?_) (fun c1 => ?_)
    · replace h := (if_pos c1).symm.trans h
      refine g_iload_n (pc := 94) dX11_cheapest_94 rfl ?_
      obtain ⟨h1, h2⟩ := x_inj2 h
      subst h1
      subst h2
      exact g_iret (pc := 95) dX11_cheapest_95 rfl rfl rfl (Nat.le_refl _) (Nat.le_refl _)
    · replace h := (if_neg c1).symm.trans h
      refine g_iload (pc := 18) dX11_cheapest_18 rfl ?_
      refine g_sipush (pc := 20) dX11_cheapest_20 sp_6188 ?_
      refine g_icmp_ge (tgt := 94) (pc := 23) dX11_cheapest_23 (by decide) (fun c2 => ?_) (fun c2 => ?_)
      · replace h := (if_pos c2).symm.trans h
        refine g_iload_n (pc := 94) dX11_cheapest_94 rfl ?_
        obtain ⟨h1, h2⟩ := x_inj2 h
        subst h1
        subst h2
        exact g_iret (pc := 95) dX11_cheapest_95 rfl rfl rfl (Nat.le_refl _) (Nat.le_refl _)
      · replace h := (if_neg c2).symm.trans h
        refine g_aload_n (pc := 26) dX11_cheapest_26 rfl ?_
        refine g_gR (pc := 27) dX11_cheapest_27 fR_RX11_61 xc_0 (v := 79) rfl ?_
        obtain ⟨x4, e3, h⟩ := x_bind h
        refine g_cV (pc := 30) dX11_cheapest_30 cV_RX11_336 (M_X1_trialPence (Nat.le_refl _) e3) xc_79 (as := []) (st := []) rfl rfl (Nat.le_of_ble_eq_true rfl) (Nat.le_trans (Nat.le_of_ble_eq_true rfl) hd) rfl ?_
        refine g_istore (pc := 33) dX11_cheapest_33 (Nat.le_of_ble_eq_true rfl) (L' := [some (.ref 0), some (.int v1), some (.int v2), some (.int v3), some (.int v4), some (.int x4), none]) rfl ?_
        refine g_iload (pc := 35) dX11_cheapest_35 rfl ?_
        refine g_if_lt (tgt := 54) (pc := 37) dX11_cheapest_37 (by decide) (fun c5 => ?_) (fun c5 => ?_)
        · replace h := (if_pos c5).symm.trans h
          refine g_L (L' := [some (.ref 0), some (.int v1), some (.int v2), none, some (.int v4), some (.int x4), none]) ⟨rfl, ⟨rfl, ⟨rfl, ⟨rfl, ⟨rfl, trivial⟩⟩⟩⟩⟩ ?_
          exact G_X11_cheapest_54 hd ih v1 v2 v4 x4 u h
        · replace h := (if_neg c5).symm.trans h
          refine g_iload_n (pc := 40) dX11_cheapest_40 rfl ?_
          refine g_if_lt (tgt := 50) (pc := 41) dX11_cheapest_41 (by decide) (fun c6 => ?_) (fun c6 => ?_)
          · replace h := (if_pos c6).symm.trans h
            refine g_L (L' := [some (.ref 0), some (.int v1), some (.int v2), none, some (.int v4), some (.int x4), none]) ⟨rfl, ⟨rfl, ⟨rfl, ⟨rfl, ⟨rfl, trivial⟩⟩⟩⟩⟩ ?_
            exact G_X11_cheapest_50 hd ih v1 v2 v4 x4 u h
          · replace h := (if_neg c6).symm.trans h
            refine g_iload (pc := 44) dX11_cheapest_44 rfl ?_
            refine g_iload_n (pc := 46) dX11_cheapest_46 rfl ?_
            refine g_icmp_ge (tgt := 54) (pc := 47) dX11_cheapest_47 (by decide) (fun c7 => ?_) (fun c7 => ?_)
            · replace h := (if_pos c7).symm.trans h
              refine g_L (L' := [some (.ref 0), some (.int v1), some (.int v2), none, some (.int v4), some (.int x4), none]) ⟨rfl, ⟨rfl, ⟨rfl, ⟨rfl, ⟨rfl, trivial⟩⟩⟩⟩⟩ ?_
              exact G_X11_cheapest_54 hd ih v1 v2 v4 x4 u h
            · replace h := (if_neg c7).symm.trans h
              refine g_L (L' := [some (.ref 0), some (.int v1), some (.int v2), none, some (.int v4), some (.int x4), none]) ⟨rfl, ⟨rfl, ⟨rfl, ⟨rfl, ⟨rfl, trivial⟩⟩⟩⟩⟩ ?_
              exact G_X11_cheapest_50 hd ih v1 v2 v4 x4 u h
set_option maxRecDepth 100000 in
set_option maxHeartbeats 4000000 in
theorem G_X11_cheapest_0 {sc : Nat × (Nat → Int32)} {d : Nat} (hd : 4 ≤ d) {r : Int32} {u' : xS} (v1 : Int32) (u : xS) (h : f_X11_cheapest v1 u = some (r, u')) : xG sc mX11_cheapest d 0 0 (xR (some (.int r)) (xL0, u') 0 0) 0 0 0 [some (.ref 0), some (.int v1), none, none, none, none, none] [] (xL0, u) := by
  rw [f_X11_cheapest] at h
  refine g_bipush (pc := 0) dX11_cheapest_0 bp_m2 ?_
  refine g_istore_n (pc := 2) dX11_cheapest_2 (Nat.le_of_ble_eq_true rfl) (L' := [some (.ref 0), some (.int v1), some (.int (-2 : Int32)), none, none, none, none]) rfl ?_
  refine g_aload_n (pc := 3) dX11_cheapest_3 rfl ?_
  refine g_gR (pc := 4) dX11_cheapest_4 fR_RX11_61 xc_0 (v := 79) rfl ?_
  obtain ⟨⟨x2, u3⟩, e1, h⟩ := x_bind h
  dsimp only at h
  refine g_cV (pc := 7) dX11_cheapest_7 cV_RX11_332 (M_X1_startTrial (Nat.le_refl _) e1) xc_79 (as := []) (st := []) rfl rfl (Nat.le_of_ble_eq_true rfl) (Nat.le_trans (Nat.le_of_ble_eq_true rfl) hd) rfl ?_
  refine g_istore_n (pc := 10) dX11_cheapest_10 (Nat.le_of_ble_eq_true rfl) (L' := [some (.ref 0), some (.int v1), some (.int (-2 : Int32)), some (.int x2), none, none, none]) rfl ?_
  refine g_iconst (pc := 11) dX11_cheapest_11 ic_0 ?_
  refine g_istore (pc := 12) dX11_cheapest_12 (Nat.le_of_ble_eq_true rfl) (L' := [some (.ref 0), some (.int v1), some (.int (-2 : Int32)), some (.int x2), some (.int (0 : Int32)), none, none]) rfl ?_
  exact G_X11_cheapest_14 hd xN v1 (-2 : Int32) x2 (0 : Int32) u3 h
set_option maxRecDepth 100000 in
set_option maxHeartbeats 4000000 in
theorem M_X11_cheapest {sc : Nat × (Nat → Int32)} {d : Nat} (hd : 4 ≤ d) {r : Int32} {u u' : xS} {a1 : Int32} (h : f_X11_cheapest a1 u = some (r, u')) : xMt sc mX11_cheapest d 0 0 [.ref 0, .int a1] (xL0, u) (some (.int r)) (xL0, u') :=
  xMt.of (by decide +kernel) (by decide +kernel) (Nat.le_of_ble_eq_true rfl) (L := [some (.ref 0), some (.int a1), none, none, none, none, none]) rfl ((G_X11_cheapest_0 hd a1 u h))
set_option maxRecDepth 100000 in
set_option maxHeartbeats 4000000 in
theorem G_X1_inAll_4 {sc : Nat × (Nat → Int32)} {d : Nat} (hd : 0 ≤ d) {r : Int32} {u : xS} : ∀ (n : Nat) (v1 : Int32) (v2 : Int32), f_X1_inAll_4 u n v1 v2 = some r → xG sc mX1_inAll d 0 0 (xR (some (.int r)) (xL0, u) 0 0) 0 0 4 [some (.ref 79), some (.int v1), some (.int v2)] [] (xL0, u) := by
  intro n
  induction n with
  | zero =>
    intro v1 v2 h
    rw [f_X1_inAll_4] at h
    cases h
  | succ n ih =>
    intro v1 v2 h
    rw [f_X1_inAll_4] at h
    refine g_iload_n (pc := 4) dX1_inAll_4 rfl ?_
    refine g_bipush (pc := 5) dX1_inAll_5 bp_16 ?_
    refine g_icmp_ge (tgt := 25) (pc := 7) dX1_inAll_7 (by decide) (fun c1 => ?_) (fun c1 => ?_)
    · replace h := (if_pos c1).symm.trans h
      refine g_iload_n (pc := 25) dX1_inAll_25 rfl ?_
      replace h := Option.some.inj h
      subst h
      exact g_iret (pc := 26) dX1_inAll_26 rfl rfl rfl (Nat.le_refl _) (Nat.le_refl _)
    · replace h := (if_neg c1).symm.trans h
      refine g_iload_n (pc := 10) dX1_inAll_10 rfl ?_
      refine g_aload_n (pc := 11) dX1_inAll_11 rfl ?_
      refine g_gR (pc := 12) dX1_inAll_12 fR_RX1_9 xc_79 (v := 80) rfl ?_
      refine g_iload_n (pc := 15) dX1_inAll_15 rfl ?_
      obtain ⟨g2, h⟩ := x_gd h
      refine g_iaload (pc := 16) dX1_inAll_16 xc_80 (xin_of g2) (v := (rd u 80 v2.toNatClampNeg)) rfl ?_
      refine g_iadd (pc := 17) dX1_inAll_17 rfl ?_
      refine g_istore_n (pc := 18) dX1_inAll_18 (Nat.le_of_ble_eq_true rfl) (L' := [some (.ref 79), some (.int (v1 + (rd u 80 v2.toNatClampNeg))), some (.int v2)]) rfl ?_
      refine g_inc (pc := 19) dX1_inAll_19 (Nat.le_of_ble_eq_true rfl) rfl ic_1 (L' := [some (.ref 79), some (.int (v1 + (rd u 80 v2.toNatClampNeg))), some (.int (v2 + (1 : Int32)))]) rfl ?_
      refine g_goto (tgt := 4) (pc := 22) dX1_inAll_22 (by decide) ?_
      exact ih (v1 + (rd u 80 v2.toNatClampNeg)) (v2 + (1 : Int32)) h
set_option maxRecDepth 100000 in
set_option maxHeartbeats 4000000 in
theorem G_X1_inAll_0 {sc : Nat × (Nat → Int32)} {d : Nat} (hd : 0 ≤ d) {r : Int32} {u : xS} (h : f_X1_inAll u = some r) : xG sc mX1_inAll d 0 0 (xR (some (.int r)) (xL0, u) 0 0) 0 0 0 [some (.ref 79), none, none] [] (xL0, u) := by
  rw [f_X1_inAll] at h
  refine g_iconst (pc := 0) dX1_inAll_0 ic_0 ?_
  refine g_istore_n (pc := 1) dX1_inAll_1 (Nat.le_of_ble_eq_true rfl) (L' := [some (.ref 79), some (.int (0 : Int32)), none]) rfl ?_
  refine g_iconst (pc := 2) dX1_inAll_2 ic_0 ?_
  refine g_istore_n (pc := 3) dX1_inAll_3 (Nat.le_of_ble_eq_true rfl) (L' := [some (.ref 79), some (.int (0 : Int32)), some (.int (0 : Int32))]) rfl ?_
  exact G_X1_inAll_4 hd xN (0 : Int32) (0 : Int32) h
set_option maxRecDepth 100000 in
set_option maxHeartbeats 4000000 in
theorem M_X1_inAll {sc : Nat × (Nat → Int32)} {d : Nat} (hd : 0 ≤ d) {r : Int32} {u : xS} (h : f_X1_inAll u = some r) : xMt sc mX1_inAll d 0 0 [.ref 79] (xL0, u) (some (.int r)) (xL0, u) :=
  xMt.of (by decide +kernel) (by decide +kernel) (Nat.le_of_ble_eq_true rfl) (L := [some (.ref 79), none, none]) rfl ((G_X1_inAll_0 hd h))
set_option maxRecDepth 100000 in
set_option maxHeartbeats 4000000 in
theorem G_X11_cost_25 {sc : Nat × (Nat → Int32)} {d : Nat} (hd : 2 ≤ d) {r : Int32} {u : xS} : ∀ (n : Nat) (v1 : Int32) (v2 : Int32) (v3 : Int32), f_X11_cost_25 u n v1 v2 v3 = some r → xG sc mX11_cost d 0 0 (xR (some (.int r)) (xL0, u) 0 0) 0 0 25 [some (.ref 0), some (.int v1), some (.int v2), some (.int v3)] [] (xL0, u) := by
  intro n
  induction n with
  | zero =>
    intro v1 v2 v3 h
    rw [f_X11_cost_25] at h
    cases h
  | succ n ih =>
    intro v1 v2 v3 h
    rw [f_X11_cost_25] at h
    refine g_iload_n (pc := 25) dX11_cost_25 rfl ?_
    refine g_aload_n (pc := 26) dX11_cost_26 rfl ?_
    refine g_gR (pc := 27) dX11_cost_27 fR_RX11_12 xc_0 (v := 1) rfl ?_
    refine g_gI (pc := 30) dX11_cost_30 fI_RX11_102 xc_1 (v := (rd u 1 2)) rfl ?_
    refine g_icmp_ge (tgt := 64) (pc := 33) dX11_cost_33 (by decide) (fun c1 => ?_) (fun c1 => ?_)
    · replace h := (if_pos c1).symm.trans h
      refine g_iload_n (pc := 64) dX11_cost_64 rfl ?_
      replace h := Option.some.inj h
      subst h
      exact g_iret (pc := 65) dX11_cost_65 rfl rfl rfl (Nat.le_refl _) (Nat.le_refl _)
    · replace h := (if_neg c1).symm.trans h
      refine g_iload_n (pc := 36) dX11_cost_36 rfl ?_
      refine g_aload_n (pc := 37) dX11_cost_37 rfl ?_
      refine g_gR (pc := 38) dX11_cost_38 fR_RX11_61 xc_0 (v := 79) rfl ?_
      refine g_gR (pc := 41) dX11_cost_41 fR_RX11_286 xc_79 (v := 80) rfl ?_
      refine g_iload_n (pc := 44) dX11_cost_44 rfl ?_
      obtain ⟨g2, h⟩ := x_gd h
      refine g_iaload (pc := 45) dX11_cost_45 xc_80 (xin_of g2) (v := (rd u 80 v3.toNatClampNeg)) rfl ?_
      refine g_aload_n (pc := 46) dX11_cost_46 rfl ?_
      refine g_gR (pc := 47) dX11_cost_47 fR_RX11_12 xc_0 (v := 1) rfl ?_
      refine g_iload_n (pc := 50) dX11_cost_50 rfl ?_
      refine g_iload_n (pc := 51) dX11_cost_51 rfl ?_
      obtain ⟨x4, e3, h⟩ := x_bind h
      refine g_cV (pc := 52) dX11_cost_52 cV_RX11_119 (M_X8_priceIn (Nat.le_refl _) e3) xc_1 (as := [.int v3, .int v1]) (st := [.int (rd u 80 v3.toNatClampNeg), .int v2]) rfl rfl (Nat.le_of_ble_eq_true rfl) (Nat.le_trans (Nat.le_of_ble_eq_true rfl) hd) rfl ?_
      refine g_imul (pc := 55) dX11_cost_55 rfl ?_
      refine g_iadd (pc := 56) dX11_cost_56 rfl ?_
      refine g_istore_n (pc := 57) dX11_cost_57 (Nat.le_of_ble_eq_true rfl) (L' := [some (.ref 0), some (.int v1), some (.int (v2 + ((rd u 80 v3.toNatClampNeg) * x4))), some (.int v3)]) rfl ?_
      refine g_inc (pc := 58) dX11_cost_58 (Nat.le_of_ble_eq_true rfl) rfl ic_1 (L' := [some (.ref 0), some (.int v1), some (.int (v2 + ((rd u 80 v3.toNatClampNeg) * x4))), some (.int (v3 + (1 : Int32)))]) rfl ?_
      refine g_goto (tgt := 25) (pc := 61) dX11_cost_61 (by decide) ?_
      exact ih v1 (v2 + ((rd u 80 v3.toNatClampNeg) * x4)) (v3 + (1 : Int32)) h
set_option maxRecDepth 100000 in
set_option maxHeartbeats 4000000 in
theorem G_X11_cost_0 {sc : Nat × (Nat → Int32)} {d : Nat} (hd : 2 ≤ d) {r : Int32} {u : xS} (v1 : Int32) (h : f_X11_cost u v1 = some r) : xG sc mX11_cost d 0 0 (xR (some (.int r)) (xL0, u) 0 0) 0 0 0 [some (.ref 0), some (.int v1), none, none] [] (xL0, u) := by
  rw [f_X11_cost] at h
  refine g_iload_n (pc := 0) dX11_cost_0 rfl ?_
  refine g_cS (pc := 1) dX11_cost_1 cS_RX11_109 (M_X11_isDay (Nat.le_refl _) rfl) (as := [.int v1]) (st := []) rfl rfl (Nat.le_of_ble_eq_true rfl) (Nat.le_trans (Nat.le_of_ble_eq_true rfl) hd) rfl ?_
  refine g_if_eq (tgt := 19) (pc := 4) dX11_cost_4 (by decide) (fun c1 => ?_) (fun c1 => ?_)
  · replace h := (if_pos c1).symm.trans h
    refine g_iconst (pc := 19) dX11_cost_19 ic_m1 ?_
    replace h := Option.some.inj h
    subst h
    exact g_iret (pc := 20) dX11_cost_20 rfl rfl rfl (Nat.le_refl _) (Nat.le_refl _)
  · replace h := (if_neg c1).symm.trans h
    refine g_aload_n (pc := 7) dX11_cost_7 rfl ?_
    refine g_gR (pc := 8) dX11_cost_8 fR_RX11_61 xc_0 (v := 79) rfl ?_
    obtain ⟨x3, e2, h⟩ := x_bind h
    refine g_cV (pc := 11) dX11_cost_11 cV_RX11_289 (M_X1_inAll (Nat.le_refl _) e2) xc_79 (as := []) (st := []) rfl rfl (Nat.le_of_ble_eq_true rfl) (Nat.le_trans (Nat.le_of_ble_eq_true rfl) hd) rfl ?_
    refine g_bipush (pc := 14) dX11_cost_14 bp_12 ?_
    refine g_icmp_eq (tgt := 21) (pc := 16) dX11_cost_16 (by decide) (fun c4 => ?_) (fun c4 => ?_)
    · replace h := (if_pos c4).symm.trans h
      refine g_iconst (pc := 21) dX11_cost_21 ic_0 ?_
      refine g_istore_n (pc := 22) dX11_cost_22 (Nat.le_of_ble_eq_true rfl) (L' := [some (.ref 0), some (.int v1), some (.int (0 : Int32)), none]) rfl ?_
      refine g_iconst (pc := 23) dX11_cost_23 ic_0 ?_
      refine g_istore_n (pc := 24) dX11_cost_24 (Nat.le_of_ble_eq_true rfl) (L' := [some (.ref 0), some (.int v1), some (.int (0 : Int32)), some (.int (0 : Int32))]) rfl ?_
      exact G_X11_cost_25 hd xN v1 (0 : Int32) (0 : Int32) h
    · replace h := (if_neg c4).symm.trans h
      refine g_iconst (pc := 19) dX11_cost_19 ic_m1 ?_
      replace h := Option.some.inj h
      subst h
      exact g_iret (pc := 20) dX11_cost_20 rfl rfl rfl (Nat.le_refl _) (Nat.le_refl _)
set_option maxRecDepth 100000 in
set_option maxHeartbeats 4000000 in
theorem M_X11_cost {sc : Nat × (Nat → Int32)} {d : Nat} (hd : 2 ≤ d) {r : Int32} {u : xS} {a1 : Int32} (h : f_X11_cost u a1 = some r) : xMt sc mX11_cost d 0 0 [.ref 0, .int a1] (xL0, u) (some (.int r)) (xL0, u) :=
  xMt.of (by decide +kernel) (by decide +kernel) (Nat.le_of_ble_eq_true rfl) (L := [some (.ref 0), some (.int a1), none, none]) rfl ((G_X11_cost_0 hd a1 h))
set_option maxRecDepth 100000 in
set_option maxHeartbeats 4000000 in
theorem G_X6_withPounds_24 {sc : Nat × (Nat → Int32)} {d : Nat} (hd : 0 ≤ d) {r : Int32} {u : xS} {k4 : Int32 → Int32 → Option Int32} (hk4 : ∀ (v1 : Int32) (v2 : Int32), k4 v1 v2 = some r → xG sc mX6_withPounds d 0 0 (xR (some (.int r)) (xL0, u) 0 0) 0 0 4 [some (.ref 74), some (.int v1), some (.int v2)] [] (xL0, u)) (v1 : Int32) (v2 : Int32) (h : f_X6_withPounds_24 k4 u v1 v2 = some r) : xG sc mX6_withPounds d 0 0 (xR (some (.int r)) (xL0, u) 0 0) 0 0 24 [some (.ref 74), some (.int v1), some (.int v2)] [] (xL0, u) := by
  rw [f_X6_withPounds_24] at h
  refine g_inc (pc := 24) dX6_withPounds_24 (Nat.le_of_ble_eq_true rfl) rfl ic_1 (L' := [some (.ref 74), some (.int v1), some (.int (v2 + (1 : Int32)))]) rfl ?_
  refine g_goto (tgt := 4) (pc := 27) dX6_withPounds_27 (by decide) ?_
  exact hk4 v1 (v2 + (1 : Int32)) h
set_option maxRecDepth 100000 in
set_option maxHeartbeats 4000000 in
theorem G_X6_withPounds_4 {sc : Nat × (Nat → Int32)} {d : Nat} (hd : 0 ≤ d) {r : Int32} {u : xS} : ∀ (n : Nat) (v1 : Int32) (v2 : Int32), f_X6_withPounds_4 u n v1 v2 = some r → xG sc mX6_withPounds d 0 0 (xR (some (.int r)) (xL0, u) 0 0) 0 0 4 [some (.ref 74), some (.int v1), some (.int v2)] [] (xL0, u) := by
  intro n
  induction n with
  | zero =>
    intro v1 v2 h
    rw [f_X6_withPounds_4] at h
    cases h
  | succ n ih =>
    intro v1 v2 h
    rw [f_X6_withPounds_4] at h
    refine g_iload_n (pc := 4) dX6_withPounds_4 rfl ?_
    refine g_aload_n (pc := 5) dX6_withPounds_5 rfl ?_
    refine g_gI (pc := 6) dX6_withPounds_6 fI_RX6_24 xc_74 (v := (rd u 74 4)) rfl ?_
    refine g_icmp_ge (tgt := 30) (pc := 9) dX6_withPounds_9 (by decide) (fun c1 => ?_) (fun c1 => ?_)
    · replace h := (if_pos c1).symm.trans h
      refine g_iload_n (pc := 30) dX6_withPounds_30 rfl ?_
      replace h := Option.some.inj h
      subst h
      exact g_iret (pc := 31) dX6_withPounds_31 rfl rfl rfl (Nat.le_refl _) (Nat.le_refl _)
    · replace h := (if_neg c1).symm.trans h
      refine g_aload_n (pc := 12) dX6_withPounds_12 rfl ?_
      refine g_gR (pc := 13) dX6_withPounds_13 fR_RX6_18 xc_74 (v := 77) rfl ?_
      refine g_iload_n (pc := 16) dX6_withPounds_16 rfl ?_
      obtain ⟨g2, h⟩ := x_gd h
      refine g_iaload (pc := 17) dX6_withPounds_17 xc_77 (xin_of g2) (v := (rd u 77 v2.toNatClampNeg)) rfl ?_
      refine g_if_le (tgt := 24) (pc := 18) dX6_withPounds_18 (by decide) (fun c3 => ?_) (fun c3 => ?_)
      · replace h := (if_pos c3).symm.trans h
        exact G_X6_withPounds_24 hd ih v1 v2 h
      · replace h := (if_neg c3).symm.trans h
        refine g_inc (pc := 21) dX6_withPounds_21 (Nat.le_of_ble_eq_true rfl) rfl ic_1 (L' := [some (.ref 74), some (.int (v1 + (1 : Int32))), some (.int v2)]) rfl ?_
        exact G_X6_withPounds_24 hd ih (v1 + (1 : Int32)) v2 h
set_option maxRecDepth 100000 in
set_option maxHeartbeats 4000000 in
theorem G_X6_withPounds_0 {sc : Nat × (Nat → Int32)} {d : Nat} (hd : 0 ≤ d) {r : Int32} {u : xS} (h : f_X6_withPounds u = some r) : xG sc mX6_withPounds d 0 0 (xR (some (.int r)) (xL0, u) 0 0) 0 0 0 [some (.ref 74), none, none] [] (xL0, u) := by
  rw [f_X6_withPounds] at h
  refine g_iconst (pc := 0) dX6_withPounds_0 ic_0 ?_
  refine g_istore_n (pc := 1) dX6_withPounds_1 (Nat.le_of_ble_eq_true rfl) (L' := [some (.ref 74), some (.int (0 : Int32)), none]) rfl ?_
  refine g_iconst (pc := 2) dX6_withPounds_2 ic_0 ?_
  refine g_istore_n (pc := 3) dX6_withPounds_3 (Nat.le_of_ble_eq_true rfl) (L' := [some (.ref 74), some (.int (0 : Int32)), some (.int (0 : Int32))]) rfl ?_
  exact G_X6_withPounds_4 hd xN (0 : Int32) (0 : Int32) h
set_option maxRecDepth 100000 in
set_option maxHeartbeats 4000000 in
theorem M_X6_withPounds {sc : Nat × (Nat → Int32)} {d : Nat} (hd : 0 ≤ d) {r : Int32} {u : xS} (h : f_X6_withPounds u = some r) : xMt sc mX6_withPounds d 0 0 [.ref 74] (xL0, u) (some (.int r)) (xL0, u) :=
  xMt.of (by decide +kernel) (by decide +kernel) (Nat.le_of_ble_eq_true rfl) (L := [some (.ref 74), none, none]) rfl ((G_X6_withPounds_0 hd h))
set_option maxRecDepth 100000 in
set_option maxHeartbeats 4000000 in
theorem G_X11_count_0 {sc : Nat × (Nat → Int32)} {d : Nat} (hd : 1 ≤ d) {r : Int32} {u : xS} (v1 : Int32) (h : f_X11_count u v1 = some r) : xG sc mX11_count d 0 0 (xR (some (.int r)) (xL0, u) 0 0) 0 0 0 [some (.ref 0), some (.int v1)] [] (xL0, u) := by
  rw [f_X11_count] at h
  refine g_iload_n (pc := 0) dX11_count_0 rfl ?_
  by_cases c1 : v1 = (0 : Int32)
  · replace h := (if_pos c1).symm.trans h
    refine g_tableIn (tgt := 68) (off := 67) (pc := 1) dX11_count_1 (by rw [c1]; decide) (by rw [c1]; decide) (by rw [c1]; rfl) (by decide) ?_
    refine g_aload_n (pc := 68) dX11_count_68 rfl ?_
    refine g_gR (pc := 69) dX11_count_69 fR_RX11_12 xc_0 (v := 1) rfl ?_
    refine g_gI (pc := 72) dX11_count_72 fI_RX11_102 xc_1 (v := (rd u 1 2)) rfl ?_
    replace h := Option.some.inj h
    subst h
    exact g_iret (pc := 75) dX11_count_75 rfl rfl rfl (Nat.le_refl _) (Nat.le_refl _)
  replace h := (if_neg c1).symm.trans h
  by_cases c2 : v1 = (1 : Int32)
  · replace h := (if_pos c2).symm.trans h
    refine g_tableIn (tgt := 76) (off := 75) (pc := 1) dX11_count_1 (by rw [c2]; decide) (by rw [c2]; decide) (by rw [c2]; rfl) (by decide) ?_
    refine g_aload_n (pc := 76) dX11_count_76 rfl ?_
    refine g_gR (pc := 77) dX11_count_77 fR_RX11_12 xc_0 (v := 1) rfl ?_
    refine g_gI (pc := 80) dX11_count_80 fI_RX11_112 xc_1 (v := (rd u 1 6)) rfl ?_
    replace h := Option.some.inj h
    subst h
    exact g_iret (pc := 83) dX11_count_83 rfl rfl rfl (Nat.le_refl _) (Nat.le_refl _)
  replace h := (if_neg c2).symm.trans h
  by_cases c3 : v1 = (2 : Int32)
  · replace h := (if_pos c3).symm.trans h
    refine g_tableIn (tgt := 84) (off := 83) (pc := 1) dX11_count_1 (by rw [c3]; decide) (by rw [c3]; decide) (by rw [c3]; rfl) (by decide) ?_
    refine g_aload_n (pc := 84) dX11_count_84 rfl ?_
    refine g_gR (pc := 85) dX11_count_85 fR_RX11_19 xc_0 (v := 13) rfl ?_
    refine g_gI (pc := 88) dX11_count_88 fI_RX11_133 xc_13 (v := (rd u 13 8)) rfl ?_
    replace h := Option.some.inj h
    subst h
    exact g_iret (pc := 91) dX11_count_91 rfl rfl rfl (Nat.le_refl _) (Nat.le_refl _)
  replace h := (if_neg c3).symm.trans h
  by_cases c4 : v1 = (3 : Int32)
  · replace h := (if_pos c4).symm.trans h
    refine g_tableIn (tgt := 92) (off := 91) (pc := 1) dX11_count_1 (by rw [c4]; decide) (by rw [c4]; decide) (by rw [c4]; rfl) (by decide) ?_
    refine g_aload_n (pc := 92) dX11_count_92 rfl ?_
    refine g_gR (pc := 93) dX11_count_93 fR_RX11_26 xc_0 (v := 46) rfl ?_
    refine g_gI (pc := 96) dX11_count_96 fI_RX11_179 xc_46 (v := (rd u 46 5)) rfl ?_
    replace h := Option.some.inj h
    subst h
    exact g_iret (pc := 99) dX11_count_99 rfl rfl rfl (Nat.le_refl _) (Nat.le_refl _)
  replace h := (if_neg c4).symm.trans h
  by_cases c5 : v1 = (4 : Int32)
  · replace h := (if_pos c5).symm.trans h
    refine g_tableIn (tgt := 100) (off := 99) (pc := 1) dX11_count_1 (by rw [c5]; decide) (by rw [c5]; decide) (by rw [c5]; rfl) (by decide) ?_
    refine g_aload_n (pc := 100) dX11_count_100 rfl ?_
    refine g_gR (pc := 101) dX11_count_101 fR_RX11_47 xc_0 (v := 58) rfl ?_
    refine g_gI (pc := 104) dX11_count_104 fI_RX11_238 xc_58 (v := (rd u 58 5)) rfl ?_
    replace h := Option.some.inj h
    subst h
    exact g_iret (pc := 107) dX11_count_107 rfl rfl rfl (Nat.le_refl _) (Nat.le_refl _)
  replace h := (if_neg c5).symm.trans h
  by_cases c6 : v1 = (5 : Int32)
  · replace h := (if_pos c6).symm.trans h
    refine g_tableIn (tgt := 108) (off := 107) (pc := 1) dX11_count_1 (by rw [c6]; decide) (by rw [c6]; decide) (by rw [c6]; rfl) (by decide) ?_
    refine g_aload_n (pc := 108) dX11_count_108 rfl ?_
    refine g_gR (pc := 109) dX11_count_109 fR_RX11_54 xc_0 (v := 74) rfl ?_
    obtain ⟨x8, e7, h⟩ := x_bind h
    refine g_cV (pc := 112) dX11_count_112 cV_RX11_415 (M_X6_withPounds (Nat.le_refl _) e7) xc_74 (as := []) (st := []) rfl rfl (Nat.le_of_ble_eq_true rfl) (Nat.le_trans (Nat.le_of_ble_eq_true rfl) hd) rfl ?_
    replace h := Option.some.inj h
    subst h
    exact g_iret (pc := 115) dX11_count_115 rfl rfl rfl (Nat.le_refl _) (Nat.le_refl _)
  replace h := (if_neg c6).symm.trans h
  by_cases c9 : v1 = (6 : Int32)
  · replace h := (if_pos c9).symm.trans h
    refine g_tableIn (tgt := 116) (off := 115) (pc := 1) dX11_count_1 (by rw [c9]; decide) (by rw [c9]; decide) (by rw [c9]; rfl) (by decide) ?_
    refine g_aload_n (pc := 116) dX11_count_116 rfl ?_
    refine g_gR (pc := 117) dX11_count_117 fR_RX11_68 xc_0 (v := 87) rfl ?_
    refine g_gI (pc := 120) dX11_count_120 fI_RX11_351 xc_87 (v := (rd u 87 2)) rfl ?_
    replace h := Option.some.inj h
    subst h
    exact g_iret (pc := 123) dX11_count_123 rfl rfl rfl (Nat.le_refl _) (Nat.le_refl _)
  replace h := (if_neg c9).symm.trans h
  by_cases c10 : v1 = (7 : Int32)
  · replace h := (if_pos c10).symm.trans h
    refine g_tableIn (tgt := 124) (off := 123) (pc := 1) dX11_count_1 (by rw [c10]; decide) (by rw [c10]; decide) (by rw [c10]; rfl) (by decide) ?_
    refine g_aload_n (pc := 124) dX11_count_124 rfl ?_
    refine g_gR (pc := 125) dX11_count_125 fR_RX11_75 xc_0 (v := 113) rfl ?_
    refine g_gI (pc := 128) dX11_count_128 fI_RX11_374 xc_113 (v := (rd u 113 3)) rfl ?_
    replace h := Option.some.inj h
    subst h
    exact g_iret (pc := 131) dX11_count_131 rfl rfl rfl (Nat.le_refl _) (Nat.le_refl _)
  replace h := (if_neg c10).symm.trans h
  by_cases c11 : v1 = (8 : Int32)
  · replace h := (if_pos c11).symm.trans h
    refine g_tableIn (tgt := 132) (off := 131) (pc := 1) dX11_count_1 (by rw [c11]; decide) (by rw [c11]; decide) (by rw [c11]; rfl) (by decide) ?_
    refine g_aload_n (pc := 132) dX11_count_132 rfl ?_
    refine g_gR (pc := 133) dX11_count_133 fR_RX11_82 xc_0 (v := 121) rfl ?_
    refine g_gI (pc := 136) dX11_count_136 fI_RX11_391 xc_121 (v := (rd u 121 6)) rfl ?_
    replace h := Option.some.inj h
    subst h
    exact g_iret (pc := 139) dX11_count_139 rfl rfl rfl (Nat.le_refl _) (Nat.le_refl _)
  replace h := (if_neg c11).symm.trans h
  by_cases c12 : v1 = (9 : Int32)
  · replace h := (if_pos c12).symm.trans h
    refine g_tableIn (tgt := 140) (off := 139) (pc := 1) dX11_count_1 (by rw [c12]; decide) (by rw [c12]; decide) (by rw [c12]; rfl) (by decide) ?_
    refine g_aload_n (pc := 140) dX11_count_140 rfl ?_
    refine g_gI (pc := 141) dX11_count_141 fI_RX11_90 xc_0 (v := (rd u 0 12)) rfl ?_
    replace h := Option.some.inj h
    subst h
    exact g_iret (pc := 144) dX11_count_144 rfl rfl rfl (Nat.le_refl _) (Nat.le_refl _)
  replace h := (if_neg c12).symm.trans h
  by_cases c13 : v1 = (10 : Int32)
  · replace h := (if_pos c13).symm.trans h
    refine g_tableIn (tgt := 145) (off := 144) (pc := 1) dX11_count_1 (by rw [c13]; decide) (by rw [c13]; decide) (by rw [c13]; rfl) (by decide) ?_
    refine g_aload_n (pc := 145) dX11_count_145 rfl ?_
    refine g_gR (pc := 146) dX11_count_146 fR_RX11_33 xc_0 (v := 52) rfl ?_
    refine g_gI (pc := 149) dX11_count_149 fI_RX11_233 xc_52 (v := (rd u 52 1)) rfl ?_
    replace h := Option.some.inj h
    subst h
    exact g_iret (pc := 152) dX11_count_152 rfl rfl rfl (Nat.le_refl _) (Nat.le_refl _)
  replace h := (if_neg c13).symm.trans h
  by_cases c14 : v1 = (11 : Int32)
  · replace h := (if_pos c14).symm.trans h
    refine g_tableIn (tgt := 153) (off := 152) (pc := 1) dX11_count_1 (by rw [c14]; decide) (by rw [c14]; decide) (by rw [c14]; rfl) (by decide) ?_
    refine g_aload_n (pc := 153) dX11_count_153 rfl ?_
    refine g_gR (pc := 154) dX11_count_154 fR_RX11_26 xc_0 (v := 46) rfl ?_
    refine g_gI (pc := 157) dX11_count_157 fI_RX11_182 xc_46 (v := (rd u 46 6)) rfl ?_
    replace h := Option.some.inj h
    subst h
    exact g_iret (pc := 160) dX11_count_160 rfl rfl rfl (Nat.le_refl _) (Nat.le_refl _)
  replace h := (if_neg c14).symm.trans h
  by_cases c15 : v1 = (12 : Int32)
  · replace h := (if_pos c15).symm.trans h
    refine g_tableIn (tgt := 161) (off := 160) (pc := 1) dX11_count_1 (by rw [c15]; decide) (by rw [c15]; decide) (by rw [c15]; rfl) (by decide) ?_
    refine g_aload_n (pc := 161) dX11_count_161 rfl ?_
    refine g_gR (pc := 162) dX11_count_162 fR_RX11_61 xc_0 (v := 79) rfl ?_
    obtain ⟨x17, e16, h⟩ := x_bind h
    refine g_cV (pc := 165) dX11_count_165 cV_RX11_289 (M_X1_inAll (Nat.le_refl _) e16) xc_79 (as := []) (st := []) rfl rfl (Nat.le_of_ble_eq_true rfl) (Nat.le_trans (Nat.le_of_ble_eq_true rfl) hd) rfl ?_
    replace h := Option.some.inj h
    subst h
    exact g_iret (pc := 168) dX11_count_168 rfl rfl rfl (Nat.le_refl _) (Nat.le_refl _)
  replace h := (if_neg c15).symm.trans h
  have c1i := i32_ne c1 (m := 0) (by decide)
  have c2i := i32_ne c2 (m := 1) (by decide)
  have c3i := i32_ne c3 (m := 2) (by decide)
  have c4i := i32_ne c4 (m := 3) (by decide)
  have c5i := i32_ne c5 (m := 4) (by decide)
  have c6i := i32_ne c6 (m := 5) (by decide)
  have c9i := i32_ne c9 (m := 6) (by decide)
  have c10i := i32_ne c10 (m := 7) (by decide)
  have c11i := i32_ne c11 (m := 8) (by decide)
  have c12i := i32_ne c12 (m := 9) (by decide)
  have c13i := i32_ne c13 (m := 10) (by decide)
  have c14i := i32_ne c14 (m := 11) (by decide)
  have c15i := i32_ne c15 (m := 12) (by decide)
  refine g_tableOut (tgt := 169) (pc := 1) dX11_count_1 (by omega) (by decide) ?_
  refine g_iconst (pc := 169) dX11_count_169 ic_m1 ?_
  replace h := Option.some.inj h
  subst h
  exact g_iret (pc := 170) dX11_count_170 rfl rfl rfl (Nat.le_refl _) (Nat.le_refl _)
set_option maxRecDepth 100000 in
set_option maxHeartbeats 4000000 in
theorem M_X11_count {sc : Nat × (Nat → Int32)} {d : Nat} (hd : 1 ≤ d) {r : Int32} {u : xS} {a1 : Int32} (h : f_X11_count u a1 = some r) : xMt sc mX11_count d 0 0 [.ref 0, .int a1] (xL0, u) (some (.int r)) (xL0, u) :=
  xMt.of (by decide +kernel) (by decide +kernel) (Nat.le_of_ble_eq_true rfl) (L := [some (.ref 0), some (.int a1)]) rfl ((G_X11_count_0 hd a1 h))
set_option maxRecDepth 100000 in
set_option maxHeartbeats 4000000 in
theorem G_X5_held_77 {sc : Nat × (Nat → Int32)} {d : Nat} (hd : 0 ≤ d) {r : Int32} {u : xS} {k8 : Int32 → Int32 → Int32 → Int32 → Int32 → Option Int32} (hk8 : ∀ (v1 : Int32) (v2 : Int32) (v3 : Int32) (v4 : Int32) (v5 : Int32), k8 v1 v2 v3 v4 v5 = some r → xG sc mX5_held d 0 0 (xR (some (.int r)) (xL0, u) 0 0) 0 0 8 [some (.ref 46), some (.int v1), some (.int v2), some (.int v3), some (.int v4), some (.int v5)] [] (xL0, u)) (v1 : Int32) (v2 : Int32) (v3 : Int32) (v4 : Int32) (v5 : Int32) (h : f_X5_held_77 k8 u v1 v2 v3 v4 v5 = some r) : xG sc mX5_held d 0 0 (xR (some (.int r)) (xL0, u) 0 0) 0 0 77 [some (.ref 46), some (.int v1), some (.int v2), some (.int v3), some (.int v4), some (.int v5)] [] (xL0, u) := by
  rw [f_X5_held_77] at h
  refine g_inc (pc := 77) dX5_held_77 (Nat.le_of_ble_eq_true rfl) rfl ic_1 (L' := [some (.ref 46), some (.int v1), some (.int v2), some (.int v3), some (.int v4), some (.int (v5 + (1 : Int32)))]) rfl ?_
  refine g_goto (tgt := 8) (pc := 80) dX5_held_80 (by decide) ?_
  exact hk8 v1 v2 v3 v4 (v5 + (1 : Int32)) h
set_option maxRecDepth 100000 in
set_option maxHeartbeats 4000000 in
theorem G_X5_held_8 {sc : Nat × (Nat → Int32)} {d : Nat} (hd : 0 ≤ d) {r : Int32} {u : xS} : ∀ (n : Nat) (v1 : Int32) (v2 : Int32) (v3 : Int32) (v4 : Int32) (v5 : Int32), f_X5_held_8 u n v1 v2 v3 v4 v5 = some r → xG sc mX5_held d 0 0 (xR (some (.int r)) (xL0, u) 0 0) 0 0 8 [some (.ref 46), some (.int v1), some (.int v2), some (.int v3), some (.int v4), some (.int v5)] [] (xL0, u) := by
  intro n
  induction n with
  | zero =>
    intro v1 v2 v3 v4 v5 h
    rw [f_X5_held_8] at h
    cases h
  | succ n ih =>
    intro v1 v2 v3 v4 v5 h
    rw [f_X5_held_8] at h
    refine g_iload (pc := 8) dX5_held_8 rfl ?_
    refine g_aload_n (pc := 10) dX5_held_10 rfl ?_
    refine g_gI (pc := 11) dX5_held_11 fI_RX5_27 xc_46 (v := (rd u 46 5)) rfl ?_
    refine g_icmp_ge (tgt := 83) (pc := 14) dX5_held_14 (by decide) (fun c1 => ?_) (fun c1 => ?_)
    · replace h := (if_pos c1).symm.trans h
      refine g_iload_n (pc := 83) dX5_held_83 rfl ?_
      replace h := Option.some.inj h
      subst h
      exact g_iret (pc := 84) dX5_held_84 rfl rfl rfl (Nat.le_refl _) (Nat.le_refl _)
    · replace h := (if_neg c1).symm.trans h
      refine g_aload_n (pc := 17) dX5_held_17 rfl ?_
      refine g_gR (pc := 18) dX5_held_18 fR_RX5_9 xc_46 (v := 47) rfl ?_
      refine g_iload (pc := 21) dX5_held_21 rfl ?_
      obtain ⟨g2, h⟩ := x_gd h
      refine g_iaload (pc := 23) dX5_held_23 xc_47 (xin_of g2) (v := (rd u 47 v5.toNatClampNeg)) rfl ?_
      refine g_iload_n (pc := 24) dX5_held_24 rfl ?_
      refine g_icmp_ne (tgt := 77) (pc := 25) dX5_held_25 (by decide) (fun c3 => ?_) (fun c3 => ?_)
      · replace h := (if_neg c3).symm.trans h
        exact G_X5_held_77 hd ih v1 v2 v3 v4 v5 h
      · replace h := (if_pos c3).symm.trans h
        refine g_aload_n (pc := 28) dX5_held_28 rfl ?_
        refine g_gR (pc := 29) dX5_held_29 fR_RX5_15 xc_46 (v := 48) rfl ?_
        refine g_iload (pc := 32) dX5_held_32 rfl ?_
        refine g_iaload (pc := 34) dX5_held_34 xc_48 (xin_of g2) (v := (rd u 48 v5.toNatClampNeg)) rfl ?_
        refine g_iload_n (pc := 35) dX5_held_35 rfl ?_
        refine g_icmp_ne (tgt := 77) (pc := 36) dX5_held_36 (by decide) (fun c4 => ?_) (fun c4 => ?_)
        · replace h := (if_neg c4).symm.trans h
          exact G_X5_held_77 hd ih v1 v2 v3 v4 v5 h
        · replace h := (if_pos c4).symm.trans h
          refine g_aload_n (pc := 39) dX5_held_39 rfl ?_
          refine g_gR (pc := 40) dX5_held_40 fR_RX5_18 xc_46 (v := 49) rfl ?_
          refine g_iload (pc := 43) dX5_held_43 rfl ?_
          refine g_iaload (pc := 45) dX5_held_45 xc_49 (xin_of g2) (v := (rd u 49 v5.toNatClampNeg)) rfl ?_
          refine g_aload_n (pc := 46) dX5_held_46 rfl ?_
          refine g_gI (pc := 47) dX5_held_47 fI_RX5_31 xc_46 (v := (rd u 46 6)) rfl ?_
          refine g_icmp_gt (tgt := 77) (pc := 50) dX5_held_50 (by decide) (fun c5 => ?_) (fun c5 => ?_)
          · replace h := (if_pos c5).symm.trans h
            exact G_X5_held_77 hd ih v1 v2 v3 v4 v5 h
          · replace h := (if_neg c5).symm.trans h
            refine g_aload_n (pc := 53) dX5_held_53 rfl ?_
            refine g_gR (pc := 54) dX5_held_54 fR_RX5_18 xc_46 (v := 49) rfl ?_
            refine g_iload (pc := 57) dX5_held_57 rfl ?_
            refine g_iaload (pc := 59) dX5_held_59 xc_49 (xin_of g2) (v := (rd u 49 v5.toNatClampNeg)) rfl ?_
            refine g_iload (pc := 60) dX5_held_60 rfl ?_
            refine g_icmp_lt (tgt := 77) (pc := 62) dX5_held_62 (by decide) (fun c6 => ?_) (fun c6 => ?_)
            · replace h := (if_pos c6).symm.trans h
              exact G_X5_held_77 hd ih v1 v2 v3 v4 v5 h
            · replace h := (if_neg c6).symm.trans h
              refine g_iload (pc := 65) dX5_held_65 rfl ?_
              refine g_istore_n (pc := 67) dX5_held_67 (Nat.le_of_ble_eq_true rfl) (L' := [some (.ref 46), some (.int v1), some (.int v2), some (.int v5), some (.int v4), some (.int v5)]) rfl ?_
              refine g_aload_n (pc := 68) dX5_held_68 rfl ?_
              refine g_gR (pc := 69) dX5_held_69 fR_RX5_18 xc_46 (v := 49) rfl ?_
              refine g_iload (pc := 72) dX5_held_72 rfl ?_
              refine g_iaload (pc := 74) dX5_held_74 xc_49 (xin_of g2) (v := (rd u 49 v5.toNatClampNeg)) rfl ?_
              refine g_istore (pc := 75) dX5_held_75 (Nat.le_of_ble_eq_true rfl) (L' := [some (.ref 46), some (.int v1), some (.int v2), some (.int v5), some (.int (rd u 49 v5.toNatClampNeg)), some (.int v5)]) rfl ?_
              exact G_X5_held_77 hd ih v1 v2 v5 (rd u 49 v5.toNatClampNeg) v5 h
set_option maxRecDepth 100000 in
set_option maxHeartbeats 4000000 in
theorem G_X5_held_0 {sc : Nat × (Nat → Int32)} {d : Nat} (hd : 0 ≤ d) {r : Int32} {u : xS} (v1 : Int32) (v2 : Int32) (h : f_X5_held u v1 v2 = some r) : xG sc mX5_held d 0 0 (xR (some (.int r)) (xL0, u) 0 0) 0 0 0 [some (.ref 46), some (.int v1), some (.int v2), none, none, none] [] (xL0, u) := by
  rw [f_X5_held] at h
  refine g_iconst (pc := 0) dX5_held_0 ic_m1 ?_
  refine g_istore_n (pc := 1) dX5_held_1 (Nat.le_of_ble_eq_true rfl) (L' := [some (.ref 46), some (.int v1), some (.int v2), some (.int (-1 : Int32)), none, none]) rfl ?_
  refine g_iconst (pc := 2) dX5_held_2 ic_m1 ?_
  refine g_istore (pc := 3) dX5_held_3 (Nat.le_of_ble_eq_true rfl) (L' := [some (.ref 46), some (.int v1), some (.int v2), some (.int (-1 : Int32)), some (.int (-1 : Int32)), none]) rfl ?_
  refine g_iconst (pc := 5) dX5_held_5 ic_0 ?_
  refine g_istore (pc := 6) dX5_held_6 (Nat.le_of_ble_eq_true rfl) (L' := [some (.ref 46), some (.int v1), some (.int v2), some (.int (-1 : Int32)), some (.int (-1 : Int32)), some (.int (0 : Int32))]) rfl ?_
  exact G_X5_held_8 hd xN v1 v2 (-1 : Int32) (-1 : Int32) (0 : Int32) h
set_option maxRecDepth 100000 in
set_option maxHeartbeats 4000000 in
theorem M_X5_held {sc : Nat × (Nat → Int32)} {d : Nat} (hd : 0 ≤ d) {r : Int32} {u : xS} {a1 : Int32} {a2 : Int32} (h : f_X5_held u a1 a2 = some r) : xMt sc mX5_held d 0 0 [.ref 46, .int a1, .int a2] (xL0, u) (some (.int r)) (xL0, u) :=
  xMt.of (by decide +kernel) (by decide +kernel) (Nat.le_of_ble_eq_true rfl) (L := [some (.ref 46), some (.int a1), some (.int a2), none, none, none]) rfl ((G_X5_held_0 hd a1 a2 h))
set_option maxRecDepth 100000 in
set_option maxHeartbeats 4000000 in
theorem G_X11_inThousand_0 {sc : Nat × (Nat → Int32)} {d : Nat} (hd : 0 ≤ d) {r : Int32} {u : xS} (v0 : Int32) (v1 : Int32) (h : f_X11_inThousand v0 v1 = some r) : xG sc mX11_inThousand d 0 0 (xR (some (.int r)) (xL0, u) 0 0) 0 0 0 [some (.int v0), some (.int v1)] [] (xL0, u) := by
  rw [f_X11_inThousand] at h
  refine g_iload_n (pc := 0) dX11_inThousand_0 rfl ?_
  refine g_if_le (tgt := 17) (pc := 1) dX11_inThousand_1 (by decide) (fun c1 => ?_) (fun c1 => ?_)
  · replace h := (if_pos c1).symm.trans h
    refine g_iconst (pc := 17) dX11_inThousand_17 ic_0 ?_
    replace h := Option.some.inj h
    subst h
    exact g_iret (pc := 18) dX11_inThousand_18 rfl rfl rfl (Nat.le_refl _) (Nat.le_refl _)
  · replace h := (if_neg c1).symm.trans h
    refine g_iload_n (pc := 4) dX11_inThousand_4 rfl ?_
    refine g_i2l (pc := 5) dX11_inThousand_5 rfl ?_
    refine g_ldc2 (pc := 6) dX11_inThousand_6 kl_RX11_196 ?_
    refine g_lmul (pc := 9) dX11_inThousand_9 rfl ?_
    refine g_iload_n (pc := 10) dX11_inThousand_10 rfl ?_
    refine g_i2l (pc := 11) dX11_inThousand_11 rfl ?_
    obtain ⟨g2, h⟩ := x_gd h
    refine g_ldiv (pc := 12) dX11_inThousand_12 (xnzJ_of g2) rfl ?_
    refine g_l2i (pc := 13) dX11_inThousand_13 rfl ?_
    refine g_goto (tgt := 18) (pc := 14) dX11_inThousand_14 (by decide) ?_
    replace h := Option.some.inj h
    subst h
    exact g_iret (pc := 18) dX11_inThousand_18 rfl rfl rfl (Nat.le_refl _) (Nat.le_refl _)
set_option maxRecDepth 100000 in
set_option maxHeartbeats 4000000 in
theorem M_X11_inThousand {sc : Nat × (Nat → Int32)} {d : Nat} (hd : 0 ≤ d) {r : Int32} {u : xS} {a0 : Int32} {a1 : Int32} (h : f_X11_inThousand a0 a1 = some r) : xMt sc mX11_inThousand d 0 0 [.int a0, .int a1] (xL0, u) (some (.int r)) (xL0, u) :=
  xMt.of (by decide +kernel) (by decide +kernel) (Nat.le_of_ble_eq_true rfl) (L := [some (.int a0), some (.int a1)]) rfl ((G_X11_inThousand_0 hd a0 a1 h))
set_option maxRecDepth 100000 in
set_option maxHeartbeats 4000000 in
theorem G_X11_woolless_43 {sc : Nat × (Nat → Int32)} {d : Nat} (hd : 0 ≤ d) {r : Int32} {u : xS} {k4 : Int32 → Int32 → Int32 → Option Int32} (hk4 : ∀ (v1 : Int32) (v2 : Int32) (v3 : Int32), k4 v1 v2 v3 = some r → xG sc mX11_woolless d 0 0 (xR (some (.int r)) (xL0, u) 0 0) 0 0 4 [some (.ref 0), some (.int v1), some (.int v2), some (.int v3)] [] (xL0, u)) (v1 : Int32) (v2 : Int32) (v3 : Int32) (h : f_X11_woolless_43 k4 u v1 v2 v3 = some r) : xG sc mX11_woolless d 0 0 (xR (some (.int r)) (xL0, u) 0 0) 0 0 43 [some (.ref 0), some (.int v1), some (.int v2), some (.int v3)] [] (xL0, u) := by
  rw [f_X11_woolless_43] at h
  refine g_inc (pc := 43) dX11_woolless_43 (Nat.le_of_ble_eq_true rfl) rfl ic_1 (L' := [some (.ref 0), some (.int v1), some (.int v2), some (.int (v3 + (1 : Int32)))]) rfl ?_
  refine g_goto (tgt := 4) (pc := 46) dX11_woolless_46 (by decide) ?_
  exact hk4 v1 v2 (v3 + (1 : Int32)) h
set_option maxRecDepth 100000 in
set_option maxHeartbeats 4000000 in
theorem G_X11_woolless_4 {sc : Nat × (Nat → Int32)} {d : Nat} (hd : 0 ≤ d) {r : Int32} {u : xS} : ∀ (n : Nat) (v1 : Int32) (v2 : Int32) (v3 : Int32), f_X11_woolless_4 u n v1 v2 v3 = some r → xG sc mX11_woolless d 0 0 (xR (some (.int r)) (xL0, u) 0 0) 0 0 4 [some (.ref 0), some (.int v1), some (.int v2), some (.int v3)] [] (xL0, u) := by
  intro n
  induction n with
  | zero =>
    intro v1 v2 v3 h
    rw [f_X11_woolless_4] at h
    cases h
  | succ n ih =>
    intro v1 v2 v3 h
    rw [f_X11_woolless_4] at h
    refine g_iload_n (pc := 4) dX11_woolless_4 rfl ?_
    refine g_aload_n (pc := 5) dX11_woolless_5 rfl ?_
    refine g_gR (pc := 6) dX11_woolless_6 fR_RX11_12 xc_0 (v := 1) rfl ?_
    refine g_gI (pc := 9) dX11_woolless_9 fI_RX11_102 xc_1 (v := (rd u 1 2)) rfl ?_
    refine g_icmp_ge (tgt := 49) (pc := 12) dX11_woolless_12 (by decide) (fun c1 => ?_) (fun c1 => ?_)
    · replace h := (if_pos c1).symm.trans h
      refine g_iload_n (pc := 49) dX11_woolless_49 rfl ?_
      replace h := Option.some.inj h
      subst h
      exact g_iret (pc := 50) dX11_woolless_50 rfl rfl rfl (Nat.le_refl _) (Nat.le_refl _)
    · replace h := (if_neg c1).symm.trans h
      refine g_aload_n (pc := 15) dX11_woolless_15 rfl ?_
      refine g_gR (pc := 16) dX11_woolless_16 fR_RX11_12 xc_0 (v := 1) rfl ?_
      refine g_gR (pc := 19) dX11_woolless_19 fR_RX11_230 xc_1 (v := 2) rfl ?_
      refine g_iconst (pc := 22) dX11_woolless_22 ic_5 ?_
      refine g_aaload (pc := 23) dX11_woolless_23 xc_2 vin_5_6 (v := 8) rfl ?_
      refine g_iload_n (pc := 24) dX11_woolless_24 rfl ?_
      obtain ⟨g2, h⟩ := x_gd h
      refine g_iaload (pc := 25) dX11_woolless_25 xc_8 (xin_of g2) (v := (rd u 8 v3.toNatClampNeg)) rfl ?_
      refine g_if_ne (tgt := 43) (pc := 26) dX11_woolless_26 (by decide) (fun c3 => ?_) (fun c3 => ?_)
      · replace h := (if_neg c3).symm.trans h
        exact G_X11_woolless_43 hd ih v1 v2 v3 h
      · replace h := (if_pos c3).symm.trans h
        refine g_iload_n (pc := 29) dX11_woolless_29 rfl ?_
        refine g_aload_n (pc := 30) dX11_woolless_30 rfl ?_
        refine g_gR (pc := 31) dX11_woolless_31 fR_RX11_19 xc_0 (v := 13) rfl ?_
        refine g_gR (pc := 34) dX11_woolless_34 fR_RX11_161 xc_13 (v := 21) rfl ?_
        refine g_iload_n (pc := 37) dX11_woolless_37 rfl ?_
        obtain ⟨g4, h⟩ := x_gd h
        refine g_aaload (pc := 38) dX11_woolless_38 xc_21 (xin_of g4) (v := (22 + v1.toNatClampNeg)) (xrf_21 _ (xin_lt g4)) ?_
        refine g_iload_n (pc := 39) dX11_woolless_39 rfl ?_
        refine g_iaload (pc := 40) dX11_woolless_40 (xrow_21 _ (xin_lt g4)) (xin_of g2) (v := (rd u (22 + v1.toNatClampNeg) v3.toNatClampNeg)) rfl ?_
        refine g_iadd (pc := 41) dX11_woolless_41 rfl ?_
        refine g_istore_n (pc := 42) dX11_woolless_42 (Nat.le_of_ble_eq_true rfl) (L' := [some (.ref 0), some (.int v1), some (.int (v2 + (rd u (22 + v1.toNatClampNeg) v3.toNatClampNeg))), some (.int v3)]) rfl ?_
        exact G_X11_woolless_43 hd ih v1 (v2 + (rd u (22 + v1.toNatClampNeg) v3.toNatClampNeg)) v3 h
set_option maxRecDepth 100000 in
set_option maxHeartbeats 4000000 in
theorem G_X11_woolless_0 {sc : Nat × (Nat → Int32)} {d : Nat} (hd : 0 ≤ d) {r : Int32} {u : xS} (v1 : Int32) (h : f_X11_woolless u v1 = some r) : xG sc mX11_woolless d 0 0 (xR (some (.int r)) (xL0, u) 0 0) 0 0 0 [some (.ref 0), some (.int v1), none, none] [] (xL0, u) := by
  rw [f_X11_woolless] at h
  refine g_iconst (pc := 0) dX11_woolless_0 ic_0 ?_
  refine g_istore_n (pc := 1) dX11_woolless_1 (Nat.le_of_ble_eq_true rfl) (L' := [some (.ref 0), some (.int v1), some (.int (0 : Int32)), none]) rfl ?_
  refine g_iconst (pc := 2) dX11_woolless_2 ic_0 ?_
  refine g_istore_n (pc := 3) dX11_woolless_3 (Nat.le_of_ble_eq_true rfl) (L' := [some (.ref 0), some (.int v1), some (.int (0 : Int32)), some (.int (0 : Int32))]) rfl ?_
  exact G_X11_woolless_4 hd xN v1 (0 : Int32) (0 : Int32) h
set_option maxRecDepth 100000 in
set_option maxHeartbeats 4000000 in
theorem M_X11_woolless {sc : Nat × (Nat → Int32)} {d : Nat} (hd : 0 ≤ d) {r : Int32} {u : xS} {a1 : Int32} (h : f_X11_woolless u a1 = some r) : xMt sc mX11_woolless d 0 0 [.ref 0, .int a1] (xL0, u) (some (.int r)) (xL0, u) :=
  xMt.of (by decide +kernel) (by decide +kernel) (Nat.le_of_ble_eq_true rfl) (L := [some (.ref 0), some (.int a1), none, none]) rfl ((G_X11_woolless_0 hd a1 h))
