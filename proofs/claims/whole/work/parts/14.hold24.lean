set_option maxRecDepth 100000 in
set_option maxHeartbeats 4000000 in
theorem G_X11_price_34 {sc : Nat × (Nat → Int32)} {d : Nat} (hd : 2 ≤ d) {r : Int32} {u' : xS} (v1 : Int32) (v2 : Int32) (v3 : Int32) (s0 : Int32) (u : xS) (h : f_X11_price_34 v1 v2 v3 s0 u = some (r, u')) : xG sc mX11_price d 0 0 (xR (some (.int r)) (xL0, u') 0 0) 0 0 34 [some (.ref 0), some (.int v1), some (.int v2), some (.int v3), none] [.int s0] (xL0, u) := by
  rw [f_X11_price_34] at h
  refine g_istore (pc := 34) dX11_price_34 (Nat.le_of_ble_eq_true rfl) (L' := [some (.ref 0), some (.int v1), some (.int v2), some (.int v3), some (.int s0)]) rfl ?_
  refine g_iload (pc := 36) dX11_price_36 rfl ?_
  refine g_if_eq (tgt := 66) (pc := 38) dX11_price_38 (by decide) (fun c1 => ?_) (fun c1 => ?_)
  · replace h := (if_pos c1).symm.trans h
    refine g_iconst (pc := 66) dX11_price_66 ic_m1 ?_
    obtain ⟨h1, h2⟩ := x_inj2 h
    subst h1
    subst h2
    exact g_iret (pc := 67) dX11_price_67 rfl rfl rfl (Nat.le_refl _) (Nat.le_refl _)
  · replace h := (if_neg c1).symm.trans h
    refine g_aload_n (pc := 41) dX11_price_41 rfl ?_
    refine g_gR (pc := 42) dX11_price_42 fR_RX11_12 xc_0 (v := 1) rfl ?_
    refine g_gI (pc := 45) dX11_price_45 fI_RX11_112 xc_1 (v := (rd u 1 6)) rfl ?_
    refine g_bipush (pc := 48) dX11_price_48 bp_60 ?_
    refine g_icmp_ge (tgt := 66) (pc := 50) dX11_price_50 (by decide) (fun c2 => ?_) (fun c2 => ?_)
    · replace h := (if_pos c2).symm.trans h
      refine g_iconst (pc := 66) dX11_price_66 ic_m1 ?_
      obtain ⟨h1, h2⟩ := x_inj2 h
      subst h1
      subst h2
      exact g_iret (pc := 67) dX11_price_67 rfl rfl rfl (Nat.le_refl _) (Nat.le_refl _)
    · replace h := (if_neg c2).symm.trans h
      refine g_aload_n (pc := 53) dX11_price_53 rfl ?_
      refine g_gR (pc := 54) dX11_price_54 fR_RX11_12 xc_0 (v := 1) rfl ?_
      refine g_iload_n (pc := 57) dX11_price_57 rfl ?_
      refine g_iload_n (pc := 58) dX11_price_58 rfl ?_
      refine g_iload_n (pc := 59) dX11_price_59 rfl ?_
      obtain ⟨⟨x4, u5⟩, e3, h⟩ := x_bind h
      dsimp only at h
      refine g_cV (pc := 60) dX11_price_60 cV_RX11_115 (M_X8_addPrice (Nat.le_refl _) e3) xc_1 (as := [.int v1, .int v2, .int v3]) (st := []) rfl rfl (Nat.le_of_ble_eq_true rfl) (Nat.le_trans (Nat.le_of_ble_eq_true rfl) hd) rfl ?_
      refine g_goto (tgt := 67) (pc := 63) dX11_price_63 (by decide) ?_
      obtain ⟨h1, h2⟩ := x_inj2 h
      subst h1
      subst h2
      exact g_iret (pc := 67) dX11_price_67 rfl rfl rfl (Nat.le_refl _) (Nat.le_refl _)
set_option maxRecDepth 100000 in
set_option maxHeartbeats 4000000 in
theorem G_X11_price_33 {sc : Nat × (Nat → Int32)} {d : Nat} (hd : 2 ≤ d) {r : Int32} {u' : xS} (v1 : Int32) (v2 : Int32) (v3 : Int32) (u : xS) (h : f_X11_price_33 v1 v2 v3 u = some (r, u')) : xG sc mX11_price d 0 0 (xR (some (.int r)) (xL0, u') 0 0) 0 0 33 [some (.ref 0), some (.int v1), some (.int v2), some (.int v3), none] [] (xL0, u) := by
  rw [f_X11_price_33] at h
  refine g_iconst (pc := 33) dX11_price_33 ic_0 ?_
  exact G_X11_price_34 hd v1 v2 v3 (0 : Int32) u h
set_option maxRecDepth 100000 in
set_option maxHeartbeats 4000000 in
theorem G_X11_price_0 {sc : Nat × (Nat → Int32)} {d : Nat} (hd : 2 ≤ d) {r : Int32} {u' : xS} (v1 : Int32) (v2 : Int32) (v3 : Int32) (u : xS) (h : f_X11_price v1 v2 v3 u = some (r, u')) : xG sc mX11_price d 0 0 (xR (some (.int r)) (xL0, u') 0 0) 0 0 0 [some (.ref 0), some (.int v1), some (.int v2), some (.int v3), none] [] (xL0, u) := by
  rw [f_X11_price] at h
  refine g_aload_n (pc := 0) dX11_price_0 rfl ?_
  refine g_gR (pc := 1) dX11_price_1 fR_RX11_12 xc_0 (v := 1) rfl ?_
  refine g_iload_n (pc := 4) dX11_price_4 rfl ?_
  refine g_cV (pc := 5) dX11_price_5 cV_RX11_98 (M_X8_has (Nat.le_refl _) rfl) xc_1 (as := [.int v1]) (st := []) rfl rfl (Nat.le_of_ble_eq_true rfl) (Nat.le_trans (Nat.le_of_ble_eq_true rfl) hd) rfl ?_
  refine g_if_eq (tgt := 33) (pc := 8) dX11_price_8 (by decide) (fun c1 => ?_) (fun c1 => ?_)
  · replace h := (if_pos c1).symm.trans h
    exact G_X11_price_33 hd v1 v2 v3 u h
  · replace h := (if_neg c1).symm.trans h
    refine g_iload_n (pc := 11) dX11_price_11 rfl ?_
    refine g_cS (pc := 12) dX11_price_12 cS_RX11_109 (M_X11_isDay (Nat.le_refl _) rfl) (as := [.int v2]) (st := []) rfl rfl (Nat.le_of_ble_eq_true rfl) (Nat.le_trans (Nat.le_of_ble_eq_true rfl) hd) rfl ?_
    refine g_if_eq (tgt := 33) (pc := 15) dX11_price_15 (by decide) (fun c2 => ?_) (fun c2 => ?_)
    · replace h := (if_pos c2).symm.trans h
      exact G_X11_price_33 hd v1 v2 v3 u h
    · replace h := (if_neg c2).symm.trans h
      refine g_iload_n (pc := 18) dX11_price_18 rfl ?_
      refine g_iconst (pc := 19) dX11_price_19 ic_0 ?_
      refine g_sipush (pc := 20) dX11_price_20 sp_999 ?_
      refine g_cS (pc := 23) dX11_price_23 cS_RX11_94 (M_X11_lies (Nat.le_refl _) rfl) (as := [.int v3, .int (0 : Int32), .int (999 : Int32)]) (st := []) rfl rfl (Nat.le_of_ble_eq_true rfl) (Nat.le_trans (Nat.le_of_ble_eq_true rfl) hd) rfl ?_
      refine g_if_eq (tgt := 33) (pc := 26) dX11_price_26 (by decide) (fun c3 => ?_) (fun c3 => ?_)
      · replace h := (if_pos c3).symm.trans h
        exact G_X11_price_33 hd v1 v2 v3 u h
      · replace h := (if_neg c3).symm.trans h
        refine g_iconst (pc := 29) dX11_price_29 ic_1 ?_
        refine g_goto (tgt := 34) (pc := 30) dX11_price_30 (by decide) ?_
        exact G_X11_price_34 hd v1 v2 v3 (1 : Int32) u h
set_option maxRecDepth 100000 in
set_option maxHeartbeats 4000000 in
theorem M_X11_price {sc : Nat × (Nat → Int32)} {d : Nat} (hd : 2 ≤ d) {r : Int32} {u u' : xS} {a1 : Int32} {a2 : Int32} {a3 : Int32} (h : f_X11_price a1 a2 a3 u = some (r, u')) : xMt sc mX11_price d 0 0 [.ref 0, .int a1, .int a2, .int a3] (xL0, u) (some (.int r)) (xL0, u') :=
  xMt.of (by decide +kernel) (by decide +kernel) (Nat.le_of_ble_eq_true rfl) (L := [some (.ref 0), some (.int a1), some (.int a2), some (.int a3), none]) rfl ((G_X11_price_0 hd a1 a2 a3 u h))
set_option maxRecDepth 100000 in
set_option maxHeartbeats 4000000 in
theorem G_X3_hangingTogether_61 {sc : Nat × (Nat → Int32)} {d : Nat} (hd : 0 ≤ d) {r : Int32} {u : xS} {k15 : Int32 → Int32 → Int32 → Option Int32} (hk15 : ∀ (v2 : Int32) (v3 : Int32) (v4 : Int32), k15 v2 v3 v4 = some r → xG sc mX3_hangingTogether d 0 0 (xR (some (.int r)) (xL0, u) 0 0) 0 0 15 [some (.ref 113), none, some (.int v2), some (.int v3), some (.int v4), none] [] (xL0, u)) {k6 : Int32 → Int32 → Option Int32} (hk6 : ∀ (v2 : Int32) (v3 : Int32), k6 v2 v3 = some r → xG sc mX3_hangingTogether d 0 0 (xR (some (.int r)) (xL0, u) 0 0) 0 0 6 [some (.ref 113), none, some (.int v2), some (.int v3), none, none] [] (xL0, u)) (v2 : Int32) (v3 : Int32) (v4 : Int32) (h : f_X3_hangingTogether_61 k15 k6 u v2 v3 v4 = some r) : xG sc mX3_hangingTogether d 0 0 (xR (some (.int r)) (xL0, u) 0 0) 0 0 61 [some (.ref 113), none, some (.int v2), some (.int v3), some (.int v4), none] [] (xL0, u) := by
  rw [f_X3_hangingTogether_61] at h
  refine g_inc (pc := 61) dX3_hangingTogether_61 (Nat.le_of_ble_eq_true rfl) rfl ic_1 (L' := [some (.ref 113), none, some (.int v2), some (.int v3), some (.int (v4 + (1 : Int32))), none]) rfl ?_
  refine g_goto (tgt := 15) (pc := 64) dX3_hangingTogether_64 (by decide) ?_
  exact hk15 v2 v3 (v4 + (1 : Int32)) h
set_option maxRecDepth 100000 in
set_option maxHeartbeats 4000000 in
theorem G_X3_hangingTogether_15 {sc : Nat × (Nat → Int32)} {d : Nat} (hd : 0 ≤ d) {r : Int32} {u : xS} {k6 : Int32 → Int32 → Option Int32} (hk6 : ∀ (v2 : Int32) (v3 : Int32), k6 v2 v3 = some r → xG sc mX3_hangingTogether d 0 0 (xR (some (.int r)) (xL0, u) 0 0) 0 0 6 [some (.ref 113), none, some (.int v2), some (.int v3), none, none] [] (xL0, u)) : ∀ (n : Nat) (v2 : Int32) (v3 : Int32) (v4 : Int32), f_X3_hangingTogether_15 k6 u n v2 v3 v4 = some r → xG sc mX3_hangingTogether d 0 0 (xR (some (.int r)) (xL0, u) 0 0) 0 0 15 [some (.ref 113), none, some (.int v2), some (.int v3), some (.int v4), none] [] (xL0, u) := by
  intro n
  induction n with
  | zero =>
    intro v2 v3 v4 h
    rw [f_X3_hangingTogether_15] at h
    cases h
  | succ n ih =>
    intro v2 v3 v4 h
    rw [f_X3_hangingTogether_15] at h
    refine g_iload (pc := 15) dX3_hangingTogether_15 rfl ?_
    refine g_aload_n (pc := 17) dX3_hangingTogether_17 rfl ?_
    refine g_gI (pc := 18) dX3_hangingTogether_18 fI_RX3_23 xc_113 (v := (rd u 113 3)) rfl ?_
    refine g_icmp_ge (tgt := 67) (pc := 21) dX3_hangingTogether_21 (by decide) (fun c1 => ?_) (fun c1 => ?_)
    · replace h := (if_pos c1).symm.trans h
      refine g_inc (pc := 67) dX3_hangingTogether_67 (Nat.le_of_ble_eq_true rfl) rfl ic_1 (L' := [some (.ref 113), none, some (.int v2), some (.int (v3 + (1 : Int32))), some (.int v4), none]) rfl ?_
      refine g_goto (tgt := 6) (pc := 70) dX3_hangingTogether_70 (by decide) ?_
      refine g_L (L' := [some (.ref 113), none, some (.int v2), some (.int (v3 + (1 : Int32))), none, none]) ⟨rfl, ⟨rfl, ⟨rfl, trivial⟩⟩⟩ ?_
      exact hk6 v2 (v3 + (1 : Int32)) h
    · replace h := (if_neg c1).symm.trans h
      refine g_iconst (pc := 24) dX3_hangingTogether_24 ic_1 ?_
      refine g_aload_n (pc := 25) dX3_hangingTogether_25 rfl ?_
      refine g_gR (pc := 26) dX3_hangingTogether_26 fR_RX3_11 xc_113 (v := 114) rfl ?_
      refine g_iconst (pc := 29) dX3_hangingTogether_29 ic_0 ?_
      refine g_aaload (pc := 30) dX3_hangingTogether_30 xc_114 vin_0_2 (v := 115) rfl ?_
      refine g_iload (pc := 31) dX3_hangingTogether_31 rfl ?_
      obtain ⟨g2, h⟩ := x_gd h
      refine g_iaload (pc := 33) dX3_hangingTogether_33 xc_115 (xin_of g2) (v := (rd u 115 v4.toNatClampNeg)) rfl ?_
      refine g_ishl (pc := 34) dX3_hangingTogether_34 rfl ?_
      refine g_iconst (pc := 35) dX3_hangingTogether_35 ic_1 ?_
      refine g_aload_n (pc := 36) dX3_hangingTogether_36 rfl ?_
      refine g_gR (pc := 37) dX3_hangingTogether_37 fR_RX3_11 xc_113 (v := 114) rfl ?_
      refine g_iconst (pc := 40) dX3_hangingTogether_40 ic_1 ?_
      refine g_aaload (pc := 41) dX3_hangingTogether_41 xc_114 vin_1_2 (v := 116) rfl ?_
      refine g_iload (pc := 42) dX3_hangingTogether_42 rfl ?_
      refine g_iaload (pc := 44) dX3_hangingTogether_44 xc_116 (xin_of g2) (v := (rd u 116 v4.toNatClampNeg)) rfl ?_
      refine g_ishl (pc := 45) dX3_hangingTogether_45 rfl ?_
      refine g_ior (pc := 46) dX3_hangingTogether_46 rfl ?_
      refine g_istore (pc := 47) dX3_hangingTogether_47 (Nat.le_of_ble_eq_true rfl) (L' := [some (.ref 113), none, some (.int v2), some (.int v3), some (.int v4), some (.int (((1 : Int32) <<< ((rd u 115 v4.toNatClampNeg) &&& 31)) ||| ((1 : Int32) <<< ((rd u 116 v4.toNatClampNeg) &&& 31))))]) rfl ?_
      refine g_iload_n (pc := 49) dX3_hangingTogether_49 rfl ?_
      refine g_iload (pc := 50) dX3_hangingTogether_50 rfl ?_
      refine g_iand (pc := 52) dX3_hangingTogether_52 rfl ?_
      refine g_if_eq (tgt := 61) (pc := 53) dX3_hangingTogether_53 (by decide) (fun c3 => ?_) (fun c3 => ?_)
      · replace h := (if_pos c3).symm.trans h
        refine g_L (L' := [some (.ref 113), none, some (.int v2), some (.int v3), some (.int v4), none]) ⟨rfl, ⟨rfl, ⟨rfl, ⟨rfl, trivial⟩⟩⟩⟩ ?_
        exact G_X3_hangingTogether_61 hd ih hk6 v2 v3 v4 h
      · replace h := (if_neg c3).symm.trans h
        refine g_iload_n (pc := 56) dX3_hangingTogether_56 rfl ?_
        refine g_iload (pc := 57) dX3_hangingTogether_57 rfl ?_
        refine g_ior (pc := 59) dX3_hangingTogether_59 rfl ?_
        refine g_istore_n (pc := 60) dX3_hangingTogether_60 (Nat.le_of_ble_eq_true rfl) (L' := [some (.ref 113), none, some (.int (v2 ||| (((1 : Int32) <<< ((rd u 115 v4.toNatClampNeg) &&& 31)) ||| ((1 : Int32) <<< ((rd u 116 v4.toNatClampNeg) &&& 31))))), some (.int v3), some (.int v4), some (.int (((1 : Int32) <<< ((rd u 115 v4.toNatClampNeg) &&& 31)) ||| ((1 : Int32) <<< ((rd u 116 v4.toNatClampNeg) &&& 31))))]) rfl ?_
        refine g_L (L' := [some (.ref 113), none, some (.int (v2 ||| (((1 : Int32) <<< ((rd u 115 v4.toNatClampNeg) &&& 31)) ||| ((1 : Int32) <<< ((rd u 116 v4.toNatClampNeg) &&& 31))))), some (.int v3), some (.int v4), none]) ⟨rfl, ⟨rfl, ⟨rfl, ⟨rfl, trivial⟩⟩⟩⟩ ?_
        exact G_X3_hangingTogether_61 hd ih hk6 (v2 ||| (((1 : Int32) <<< ((rd u 115 v4.toNatClampNeg) &&& 31)) ||| ((1 : Int32) <<< ((rd u 116 v4.toNatClampNeg) &&& 31)))) v3 v4 h
set_option maxRecDepth 100000 in
set_option maxHeartbeats 4000000 in
theorem G_X3_hangingTogether_6 {sc : Nat × (Nat → Int32)} {d : Nat} (hd : 0 ≤ d) {r : Int32} {u : xS} : ∀ (n : Nat) (v2 : Int32) (v3 : Int32), f_X3_hangingTogether_6 u n v2 v3 = some r → xG sc mX3_hangingTogether d 0 0 (xR (some (.int r)) (xL0, u) 0 0) 0 0 6 [some (.ref 113), none, some (.int v2), some (.int v3), none, none] [] (xL0, u) := by
  intro n
  induction n with
  | zero =>
    intro v2 v3 h
    rw [f_X3_hangingTogether_6] at h
    cases h
  | succ n ih =>
    intro v2 v3 h
    rw [f_X3_hangingTogether_6] at h
    refine g_iload_n (pc := 6) dX3_hangingTogether_6 rfl ?_
    refine g_bipush (pc := 7) dX3_hangingTogether_7 bp_6 ?_
    refine g_icmp_ge (tgt := 73) (pc := 9) dX3_hangingTogether_9 (by decide) (fun c1 => ?_) (fun c1 => ?_)
    · replace h := (if_pos c1).symm.trans h
      refine g_iload_n (pc := 73) dX3_hangingTogether_73 rfl ?_
      replace h := Option.some.inj h
      subst h
      exact g_iret (pc := 74) dX3_hangingTogether_74 rfl rfl rfl (Nat.le_refl _) (Nat.le_refl _)
    · replace h := (if_neg c1).symm.trans h
      refine g_iconst (pc := 12) dX3_hangingTogether_12 ic_0 ?_
      refine g_istore (pc := 13) dX3_hangingTogether_13 (Nat.le_of_ble_eq_true rfl) (L' := [some (.ref 113), none, some (.int v2), some (.int v3), some (.int (0 : Int32)), none]) rfl ?_
      exact G_X3_hangingTogether_15 hd ih xN v2 v3 (0 : Int32) h
set_option maxRecDepth 100000 in
set_option maxHeartbeats 4000000 in
theorem G_X3_hangingTogether_0 {sc : Nat × (Nat → Int32)} {d : Nat} (hd : 0 ≤ d) {r : Int32} {u : xS} (v1 : Int32) (h : f_X3_hangingTogether u v1 = some r) : xG sc mX3_hangingTogether d 0 0 (xR (some (.int r)) (xL0, u) 0 0) 0 0 0 [some (.ref 113), some (.int v1), none, none, none, none] [] (xL0, u) := by
  rw [f_X3_hangingTogether] at h
  refine g_iconst (pc := 0) dX3_hangingTogether_0 ic_1 ?_
  refine g_iload_n (pc := 1) dX3_hangingTogether_1 rfl ?_
  refine g_ishl (pc := 2) dX3_hangingTogether_2 rfl ?_
  refine g_istore_n (pc := 3) dX3_hangingTogether_3 (Nat.le_of_ble_eq_true rfl) (L' := [some (.ref 113), some (.int v1), some (.int ((1 : Int32) <<< (v1 &&& 31))), none, none, none]) rfl ?_
  refine g_iconst (pc := 4) dX3_hangingTogether_4 ic_0 ?_
  refine g_istore_n (pc := 5) dX3_hangingTogether_5 (Nat.le_of_ble_eq_true rfl) (L' := [some (.ref 113), some (.int v1), some (.int ((1 : Int32) <<< (v1 &&& 31))), some (.int (0 : Int32)), none, none]) rfl ?_
  refine g_L (L' := [some (.ref 113), none, some (.int ((1 : Int32) <<< (v1 &&& 31))), some (.int (0 : Int32)), none, none]) ⟨rfl, ⟨rfl, ⟨rfl, trivial⟩⟩⟩ ?_
  exact G_X3_hangingTogether_6 hd xN ((1 : Int32) <<< (v1 &&& 31)) (0 : Int32) h
set_option maxRecDepth 100000 in
set_option maxHeartbeats 4000000 in
theorem M_X3_hangingTogether {sc : Nat × (Nat → Int32)} {d : Nat} (hd : 0 ≤ d) {r : Int32} {u : xS} {a1 : Int32} (h : f_X3_hangingTogether u a1 = some r) : xMt sc mX3_hangingTogether d 0 0 [.ref 113, .int a1] (xL0, u) (some (.int r)) (xL0, u) :=
  xMt.of (by decide +kernel) (by decide +kernel) (Nat.le_of_ble_eq_true rfl) (L := [some (.ref 113), some (.int a1), none, none, none, none]) rfl ((G_X3_hangingTogether_0 hd a1 h))
set_option maxRecDepth 100000 in
set_option maxHeartbeats 4000000 in
theorem G_X11_ring_45 {sc : Nat × (Nat → Int32)} {d : Nat} (hd : 2 ≤ d) {r : Int32} {u' : xS} {k25 : Int32 → Int32 → xS → Option (Int32 × xS)} (hk25 : ∀ (v2 : Int32) (v3 : Int32) (u : xS), k25 v2 v3 u = some (r, u') → xG sc mX11_ring d 0 0 (xR (some (.int r)) (xL0, u') 0 0) 0 0 25 [some (.ref 0), none, some (.int v2), some (.int v3)] [] (xL0, u)) (v2 : Int32) (v3 : Int32) (u : xS) (h : f_X11_ring_45 k25 v2 v3 u = some (r, u')) : xG sc mX11_ring d 0 0 (xR (some (.int r)) (xL0, u') 0 0) 0 0 45 [some (.ref 0), none, some (.int v2), some (.int v3)] [] (xL0, u) := by
  rw [f_X11_ring_45] at h
  refine g_inc (pc := 45) dX11_ring_45 (Nat.le_of_ble_eq_true rfl) rfl ic_1 (L' := [some (.ref 0), none, some (.int v2), some (.int (v3 + (1 : Int32)))]) rfl ?_
  refine g_goto (tgt := 25) (pc := 48) dX11_ring_48 (by decide) ?_
  exact hk25 v2 (v3 + (1 : Int32)) u h
set_option maxRecDepth 100000 in
set_option maxHeartbeats 4000000 in
theorem G_X11_ring_25 {sc : Nat × (Nat → Int32)} {d : Nat} (hd : 2 ≤ d) {r : Int32} {u' : xS} : ∀ (n : Nat) (v2 : Int32) (v3 : Int32) (u : xS), f_X11_ring_25 n v2 v3 u = some (r, u') → xG sc mX11_ring d 0 0 (xR (some (.int r)) (xL0, u') 0 0) 0 0 25 [some (.ref 0), none, some (.int v2), some (.int v3)] [] (xL0, u) := by
  intro n
  induction n with
  | zero =>
    intro v2 v3 u h
    rw [f_X11_ring_25] at h
    cases h
  | succ n ih =>
    intro v2 v3 u h
    rw [f_X11_ring_25] at h
    refine g_iload_n (pc := 25) dX11_ring_25 rfl ?_
    refine g_bipush (pc := 26) dX11_ring_26 bp_6 ?_
    refine g_icmp_ge (tgt := 51) (pc := 28) dX11_ring_28 (by decide) (fun c1 => ?_) (fun c1 => ?_)
    · replace h := (if_pos c1).symm.trans h
      refine g_aload_n (pc := 51) dX11_ring_51 rfl ?_
      refine g_gI (pc := 52) dX11_ring_52 fI_RX11_90 xc_0 (v := (rd u 0 12)) rfl ?_
      obtain ⟨h1, h2⟩ := x_inj2 h
      subst h1
      subst h2
      exact g_iret (pc := 55) dX11_ring_55 rfl rfl rfl (Nat.le_refl _) (Nat.le_refl _)
    · replace h := (if_neg c1).symm.trans h
      refine g_iload_n (pc := 31) dX11_ring_31 rfl ?_
      refine g_iload_n (pc := 32) dX11_ring_32 rfl ?_
      refine g_ishr (pc := 33) dX11_ring_33 rfl ?_
      refine g_iconst (pc := 34) dX11_ring_34 ic_1 ?_
      refine g_iand (pc := 35) dX11_ring_35 rfl ?_
      refine g_iconst (pc := 36) dX11_ring_36 ic_1 ?_
      refine g_icmp_ne (tgt := 45) (pc := 37) dX11_ring_37 (by decide) (fun c2 => ?_) (fun c2 => ?_)
      · replace h := (if_neg c2).symm.trans h
        exact G_X11_ring_45 hd ih v2 v3 u h
      · replace h := (if_pos c2).symm.trans h
        refine g_aload_n (pc := 40) dX11_ring_40 rfl ?_
        refine g_iload_n (pc := 41) dX11_ring_41 rfl ?_
        obtain ⟨u4, e3, h⟩ := x_bind h
        refine g_cV (pc := 42) dX11_ring_42 cV_RX11_359 (M_X11_tell (Nat.le_refl _) e3) xc_0 (as := [.int v3]) (st := []) rfl rfl (Nat.le_of_ble_eq_true rfl) (Nat.le_trans (Nat.le_of_ble_eq_true rfl) hd) rfl ?_
        exact G_X11_ring_45 hd ih v2 v3 u4 h
set_option maxRecDepth 100000 in
set_option maxHeartbeats 4000000 in
theorem G_X11_ring_0 {sc : Nat × (Nat → Int32)} {d : Nat} (hd : 2 ≤ d) {r : Int32} {u' : xS} (v1 : Int32) (u : xS) (h : f_X11_ring v1 u = some (r, u')) : xG sc mX11_ring d 0 0 (xR (some (.int r)) (xL0, u') 0 0) 0 0 0 [some (.ref 0), some (.int v1), none, none] [] (xL0, u) := by
  rw [f_X11_ring] at h
  refine g_iload_n (pc := 0) dX11_ring_0 rfl ?_
  refine g_cS (pc := 1) dX11_ring_1 cS_RX11_138 (M_X11_isSorter (Nat.le_refl _) rfl) (as := [.int v1]) (st := []) rfl rfl (Nat.le_of_ble_eq_true rfl) (Nat.le_trans (Nat.le_of_ble_eq_true rfl) hd) rfl ?_
  refine g_if_ne (tgt := 9) (pc := 4) dX11_ring_4 (by decide) (fun c1 => ?_) (fun c1 => ?_)
  · replace h := (if_neg c1).symm.trans h
    refine g_aload_n (pc := 9) dX11_ring_9 rfl ?_
    refine g_gR (pc := 10) dX11_ring_10 fR_RX11_75 xc_0 (v := 113) rfl ?_
    refine g_iload_n (pc := 13) dX11_ring_13 rfl ?_
    obtain ⟨x3, e2, h⟩ := x_bind h
    refine g_cV (pc := 14) dX11_ring_14 cV_RX11_379 (M_X3_hangingTogether (Nat.le_refl _) e2) xc_113 (as := [.int v1]) (st := []) rfl rfl (Nat.le_of_ble_eq_true rfl) (Nat.le_trans (Nat.le_of_ble_eq_true rfl) hd) rfl ?_
    refine g_istore_n (pc := 17) dX11_ring_17 (Nat.le_of_ble_eq_true rfl) (L' := [some (.ref 0), some (.int v1), some (.int x3), none]) rfl ?_
    refine g_aload_n (pc := 18) dX11_ring_18 rfl ?_
    refine g_iconst (pc := 19) dX11_ring_19 ic_0 ?_
    refine g_pI (pc := 20) dX11_ring_20 pI_RX11_90 xc_0 (u' := (wr u 0 12 (0 : Int32))) rfl ?_
    refine g_iconst (pc := 23) dX11_ring_23 ic_0 ?_
    refine g_istore_n (pc := 24) dX11_ring_24 (Nat.le_of_ble_eq_true rfl) (L' := [some (.ref 0), some (.int v1), some (.int x3), some (.int (0 : Int32))]) rfl ?_
    refine g_L (L' := [some (.ref 0), none, some (.int x3), some (.int (0 : Int32))]) ⟨rfl, ⟨rfl, ⟨rfl, trivial⟩⟩⟩ ?_
    exact G_X11_ring_25 hd xN x3 (0 : Int32) (wr u 0 12 (0 : Int32)) h
  · replace h := (if_pos c1).symm.trans h
    refine g_iconst (pc := 7) dX11_ring_7 ic_m1 ?_
    obtain ⟨h1, h2⟩ := x_inj2 h
    subst h1
    subst h2
    exact g_iret (pc := 8) dX11_ring_8 rfl rfl rfl (Nat.le_refl _) (Nat.le_refl _)
set_option maxRecDepth 100000 in
set_option maxHeartbeats 4000000 in
theorem M_X11_ring {sc : Nat × (Nat → Int32)} {d : Nat} (hd : 2 ≤ d) {r : Int32} {u u' : xS} {a1 : Int32} (h : f_X11_ring a1 u = some (r, u')) : xMt sc mX11_ring d 0 0 [.ref 0, .int a1] (xL0, u) (some (.int r)) (xL0, u') :=
  xMt.of (by decide +kernel) (by decide +kernel) (Nat.le_of_ble_eq_true rfl) (L := [some (.ref 0), some (.int a1), none, none]) rfl ((G_X11_ring_0 hd a1 u h))
set_option maxRecDepth 100000 in
set_option maxHeartbeats 4000000 in
theorem G_X4_sumOf_0 {sc : Nat × (Nat → Int32)} {d : Nat} (hd : 0 ≤ d) {r : Int32} {u : xS} (v0 : Int64) (h : f_X4_sumOf v0 = r) : xG sc mX4_sumOf d 0 0 (xR (some (.int r)) (xL0, u) 0 0) 0 0 0 [some (.long v0), none] [] (xL0, u) := by
  rw [f_X4_sumOf] at h
  refine g_lload_n (pc := 0) dX4_sumOf_0 rfl ?_
  refine g_ldc2 (pc := 1) dX4_sumOf_1 kl_RX4_70 ?_
  refine g_ldiv (pc := 4) dX4_sumOf_4 (by decide) rfl ?_
  refine g_l2i (pc := 5) dX4_sumOf_5 rfl ?_
  subst h
  exact g_iret (pc := 6) dX4_sumOf_6 rfl rfl rfl (Nat.le_refl _) (Nat.le_refl _)
set_option maxRecDepth 100000 in
set_option maxHeartbeats 4000000 in
theorem M_X4_sumOf {sc : Nat × (Nat → Int32)} {d : Nat} (hd : 0 ≤ d) {r : Int32} {u : xS} {a0 : Int64} (h : f_X4_sumOf a0 = r) : xMt sc mX4_sumOf d 0 0 [.long a0] (xL0, u) (some (.int r)) (xL0, u) :=
  xMt.of (by decide +kernel) (by decide +kernel) (Nat.le_of_ble_eq_true rfl) (L := [some (.long a0), none]) rfl ((G_X4_sumOf_0 hd a0 h))
set_option maxRecDepth 100000 in
set_option maxHeartbeats 4000000 in
theorem G_X4_landOf_0 {sc : Nat × (Nat → Int32)} {d : Nat} (hd : 1 ≤ d) {r : Int32} {u : xS} (v0 : Int64) (v2 : Int32) (h : f_X4_landOf v0 v2 = some r) : xG sc mX4_landOf d 0 0 (xR (some (.int r)) (xL0, u) 0 0) 0 0 0 [some (.long v0), none, some (.int v2), none] [] (xL0, u) := by
  rw [f_X4_landOf] at h
  refine g_iload_n (pc := 0) dX4_landOf_0 rfl ?_
  refine g_iconst (pc := 1) dX4_landOf_1 ic_0 ?_
  refine g_bipush (pc := 2) dX4_landOf_2 bp_7 ?_
  refine g_cN (pc := 4) dX4_landOf_4 cN_RX4_80 (M_X11_lies (Nat.le_refl _) rfl) (as := [.int v2, .int (0 : Int32), .int (7 : Int32)]) (st := []) rfl rfl (Nat.le_of_ble_eq_true rfl) (Nat.le_trans (Nat.le_of_ble_eq_true rfl) hd) rfl ?_
  refine g_if_ne (tgt := 12) (pc := 7) dX4_landOf_7 (by decide) (fun c1 => ?_) (fun c1 => ?_)
  · replace h := (if_neg c1).symm.trans h
    refine g_lload_n (pc := 12) dX4_landOf_12 rfl ?_
    refine g_ldc2 (pc := 13) dX4_landOf_13 kl_RX4_70 ?_
    refine g_lrem (pc := 16) dX4_landOf_16 (by decide) rfl ?_
    refine g_getsW (pc := 17) dX4_landOf_17 fs_RX4_61 ?_
    refine g_iload_n (pc := 20) dX4_landOf_20 rfl ?_
    obtain ⟨g2, h⟩ := x_gd h
    refine g_wload (pc := 21) dX4_landOf_21 (xin_of g2) rfl ?_
    refine g_i2l (pc := 22) dX4_landOf_22 rfl ?_
    obtain ⟨g3, h⟩ := x_gd h
    refine g_ldiv (pc := 23) dX4_landOf_23 (xnzJ_of g3) rfl ?_
    refine g_ldc2 (pc := 24) dX4_landOf_24 kl_RX4_84 ?_
    refine g_lrem (pc := 27) dX4_landOf_27 (by decide) rfl ?_
    refine g_l2i (pc := 28) dX4_landOf_28 rfl ?_
    refine g_istore_n (pc := 29) dX4_landOf_29 (Nat.le_of_ble_eq_true rfl) (L' := [some (.long v0), none, some (.int v2), some (.int ((lrem ((lrem v0 (390625 : Int64)) / ((xWt (v2).toNatClampNeg).toInt64)) (5 : Int64)).toInt32))]) rfl ?_
    refine g_iload_n (pc := 30) dX4_landOf_30 rfl ?_
    refine g_if_ne (tgt := 38) (pc := 31) dX4_landOf_31 (by decide) (fun c4 => ?_) (fun c4 => ?_)
    · replace h := (if_neg c4).symm.trans h
      refine g_iconst (pc := 38) dX4_landOf_38 ic_4 ?_
      refine g_iload_n (pc := 39) dX4_landOf_39 rfl ?_
      refine g_isub (pc := 40) dX4_landOf_40 rfl ?_
      replace h := Option.some.inj h
      subst h
      exact g_iret (pc := 41) dX4_landOf_41 rfl rfl rfl (Nat.le_refl _) (Nat.le_refl _)
    · replace h := (if_pos c4).symm.trans h
      refine g_iconst (pc := 34) dX4_landOf_34 ic_m1 ?_
      refine g_goto (tgt := 41) (pc := 35) dX4_landOf_35 (by decide) ?_
      replace h := Option.some.inj h
      subst h
      exact g_iret (pc := 41) dX4_landOf_41 rfl rfl rfl (Nat.le_refl _) (Nat.le_refl _)
  · replace h := (if_pos c1).symm.trans h
    refine g_iconst (pc := 10) dX4_landOf_10 ic_m1 ?_
    replace h := Option.some.inj h
    subst h
    exact g_iret (pc := 11) dX4_landOf_11 rfl rfl rfl (Nat.le_refl _) (Nat.le_refl _)
set_option maxRecDepth 100000 in
set_option maxHeartbeats 4000000 in
theorem M_X4_landOf {sc : Nat × (Nat → Int32)} {d : Nat} (hd : 1 ≤ d) {r : Int32} {u : xS} {a0 : Int64} {a2 : Int32} (h : f_X4_landOf a0 a2 = some r) : xMt sc mX4_landOf d 0 0 [.long a0, .int a2] (xL0, u) (some (.int r)) (xL0, u) :=
  xMt.of (by decide +kernel) (by decide +kernel) (Nat.le_of_ble_eq_true rfl) (L := [some (.long a0), none, some (.int a2), none]) rfl ((G_X4_landOf_0 hd a0 a2 h))
set_option maxRecDepth 100000 in
set_option maxHeartbeats 4000000 in
theorem G_X4_bestWith_49 {sc : Nat × (Nat → Int32)} {d : Nat} (hd : 1 ≤ d) {r : Int64} {u : xS} {k10 : Int32 → Int64 → Int32 → Option Int64} (hk10 : ∀ (v1 : Int32) (v2 : Int64) (v4 : Int32), k10 v1 v2 v4 = some r → xG sc mX4_bestWith d 0 0 (xR (some (.long r)) (xL0, u) 0 0) 0 0 10 [some (.ref 121), some (.int v1), some (.long v2), none, some (.int v4)] [] (xL0, u)) (v1 : Int32) (v2 : Int64) (v4 : Int32) (h : f_X4_bestWith_49 k10 u v1 v2 v4 = some r) : xG sc mX4_bestWith d 0 0 (xR (some (.long r)) (xL0, u) 0 0) 0 0 49 [some (.ref 121), some (.int v1), some (.long v2), none, some (.int v4)] [] (xL0, u) := by
  rw [f_X4_bestWith_49] at h
  refine g_iload (pc := 49) dX4_bestWith_49 rfl ?_
  refine g_iconst (pc := 51) dX4_bestWith_51 ic_1 ?_
  refine g_isub (pc := 52) dX4_bestWith_52 rfl ?_
  refine g_iload_n (pc := 53) dX4_bestWith_53 rfl ?_
  refine g_iand (pc := 54) dX4_bestWith_54 rfl ?_
  refine g_istore (pc := 55) dX4_bestWith_55 (Nat.le_of_ble_eq_true rfl) (L' := [some (.ref 121), some (.int v1), some (.long v2), none, some (.int ((v4 - (1 : Int32)) &&& v1))]) rfl ?_
  refine g_goto (tgt := 10) (pc := 57) dX4_bestWith_57 (by decide) ?_
  exact hk10 v1 v2 ((v4 - (1 : Int32)) &&& v1) h
set_option maxRecDepth 100000 in
set_option maxHeartbeats 4000000 in
theorem G_X4_bestWith_10 {sc : Nat × (Nat → Int32)} {d : Nat} (hd : 1 ≤ d) {r : Int64} {u : xS} : ∀ (n : Nat) (v1 : Int32) (v2 : Int64) (v4 : Int32), f_X4_bestWith_10 u n v1 v2 v4 = some r → xG sc mX4_bestWith d 0 0 (xR (some (.long r)) (xL0, u) 0 0) 0 0 10 [some (.ref 121), some (.int v1), some (.long v2), none, some (.int v4)] [] (xL0, u) := by
  intro n
  induction n with
  | zero =>
    intro v1 v2 v4 h
    rw [f_X4_bestWith_10] at h
    cases h
  | succ n ih =>
    intro v1 v2 v4 h
    rw [f_X4_bestWith_10] at h
    refine g_iload (pc := 10) dX4_bestWith_10 rfl ?_
    refine g_if_le (tgt := 60) (pc := 12) dX4_bestWith_12 (by decide) (fun c1 => ?_) (fun c1 => ?_)
    · replace h := (if_pos c1).symm.trans h
      refine g_lload_n (pc := 60) dX4_bestWith_60 rfl ?_
      replace h := Option.some.inj h
      subst h
      exact g_lret (pc := 61) dX4_bestWith_61 rfl rfl rfl (Nat.le_refl _) (Nat.le_refl _)
    · replace h := (if_neg c1).symm.trans h
      refine g_aload_n (pc := 15) dX4_bestWith_15 rfl ?_
      refine g_gR (pc := 16) dX4_bestWith_16 fR_RX4_36 xc_121 (v := 132) rfl ?_
      refine g_iload (pc := 19) dX4_bestWith_19 rfl ?_
      obtain ⟨g2, h⟩ := x_gd h
      refine g_laload (pc := 21) dX4_bestWith_21 xc_132 (xin_of g2) (v := (rl u 132 v4.toNatClampNeg)) rfl ?_
      refine g_lconst (v := (0 : Int64)) (pc := 22) dX4_bestWith_22 rfl ?_
      refine g_lcmp (pc := 23) dX4_bestWith_23 rfl ?_
      refine g_if_lt (tgt := 49) (pc := 24) dX4_bestWith_24 (by decide) (fun c3 => ?_) (fun c3 => ?_)
      · replace h := (if_pos c3).symm.trans h
        exact G_X4_bestWith_49 hd ih v1 v2 v4 h
      · replace h := (if_neg c3).symm.trans h
        refine g_lload_n (pc := 27) dX4_bestWith_27 rfl ?_
        refine g_aload_n (pc := 28) dX4_bestWith_28 rfl ?_
        refine g_gR (pc := 29) dX4_bestWith_29 fR_RX4_36 xc_121 (v := 132) rfl ?_
        refine g_iload (pc := 32) dX4_bestWith_32 rfl ?_
        refine g_laload (pc := 34) dX4_bestWith_34 xc_132 (xin_of g2) (v := (rl u 132 v4.toNatClampNeg)) rfl ?_
        refine g_aload_n (pc := 35) dX4_bestWith_35 rfl ?_
        refine g_gR (pc := 36) dX4_bestWith_36 fR_RX4_40 xc_121 (v := 133) rfl ?_
        refine g_iload_n (pc := 39) dX4_bestWith_39 rfl ?_
        refine g_iload (pc := 40) dX4_bestWith_40 rfl ?_
        refine g_isub (pc := 42) dX4_bestWith_42 rfl ?_
        obtain ⟨g4, h⟩ := x_gd h
        refine g_laload (pc := 43) dX4_bestWith_43 xc_133 (xin_of g4) (v := (rl u 133 (v1 - v4).toNatClampNeg)) rfl ?_
        refine g_ladd (pc := 44) dX4_bestWith_44 rfl ?_
        refine g_maxJ (pc := 45) dX4_bestWith_45 mK_RX4_74 (Nat.le_of_ble_eq_true rfl) (Nat.le_trans (Nat.le_of_ble_eq_true rfl) hd) (Nat.zero_le _) (Nat.zero_le _) ?_
        refine g_lstore_n (pc := 48) dX4_bestWith_48 (Nat.le_of_ble_eq_true rfl) (Nat.le_of_ble_eq_true rfl) (L' := [some (.ref 121), some (.int v1), some (.long (lmax v2 ((rl u 132 v4.toNatClampNeg) + (rl u 133 (v1 - v4).toNatClampNeg)))), none, some (.int v4)]) rfl ?_
        exact G_X4_bestWith_49 hd ih v1 (lmax v2 ((rl u 132 v4.toNatClampNeg) + (rl u 133 (v1 - v4).toNatClampNeg))) v4 h
set_option maxRecDepth 100000 in
set_option maxHeartbeats 4000000 in
theorem G_X4_bestWith_0 {sc : Nat × (Nat → Int32)} {d : Nat} (hd : 1 ≤ d) {r : Int64} {u : xS} (v1 : Int32) (h : f_X4_bestWith u v1 = some r) : xG sc mX4_bestWith d 0 0 (xR (some (.long r)) (xL0, u) 0 0) 0 0 0 [some (.ref 121), some (.int v1), none, none, none] [] (xL0, u) := by
  rw [f_X4_bestWith] at h
  refine g_aload_n (pc := 0) dX4_bestWith_0 rfl ?_
  refine g_gR (pc := 1) dX4_bestWith_1 fR_RX4_40 xc_121 (v := 133) rfl ?_
  refine g_iload_n (pc := 4) dX4_bestWith_4 rfl ?_
  obtain ⟨g1, h⟩ := x_gd h
  refine g_laload (pc := 5) dX4_bestWith_5 xc_133 (xin_of g1) (v := (rl u 133 v1.toNatClampNeg)) rfl ?_
  refine g_lstore_n (pc := 6) dX4_bestWith_6 (Nat.le_of_ble_eq_true rfl) (Nat.le_of_ble_eq_true rfl) (L' := [some (.ref 121), some (.int v1), some (.long (rl u 133 v1.toNatClampNeg)), none, none]) rfl ?_
  refine g_iload_n (pc := 7) dX4_bestWith_7 rfl ?_
  refine g_istore (pc := 8) dX4_bestWith_8 (Nat.le_of_ble_eq_true rfl) (L' := [some (.ref 121), some (.int v1), some (.long (rl u 133 v1.toNatClampNeg)), none, some (.int v1)]) rfl ?_
  exact G_X4_bestWith_10 hd xN v1 (rl u 133 v1.toNatClampNeg) v1 h
set_option maxRecDepth 100000 in
set_option maxHeartbeats 4000000 in
theorem M_X4_bestWith {sc : Nat × (Nat → Int32)} {d : Nat} (hd : 1 ≤ d) {r : Int64} {u : xS} {a1 : Int32} (h : f_X4_bestWith u a1 = some r) : xMt sc mX4_bestWith d 0 0 [.ref 121, .int a1] (xL0, u) (some (.long r)) (xL0, u) :=
  xMt.of (by decide +kernel) (by decide +kernel) (Nat.le_of_ble_eq_true rfl) (L := [some (.ref 121), some (.int a1), none, none, none]) rfl ((G_X4_bestWith_0 hd a1 h))
set_option maxRecDepth 100000 in
set_option maxHeartbeats 4000000 in
theorem G_X4_weigh_126 {sc : Nat × (Nat → Int32)} {d : Nat} (hd : 1 ≤ d) {u' : xS} {k45 : Int32 → Int32 → Int32 → Int64 → Int32 → Int32 → xS → Option xS} (hk45 : ∀ (v1 : Int32) (v2 : Int32) (v3 : Int32) (v4 : Int64) (v6 : Int32) (v7 : Int32) (u : xS), k45 v1 v2 v3 v4 v6 v7 u = some u' → xG sc mX4_weigh d 0 0 (xR none (xL0, u') 0 0) 0 0 45 [some (.ref 121), some (.int v1), some (.int v2), some (.int v3), some (.long v4), none, some (.int v6), some (.int v7), none] [] (xL0, u)) {k9 : Int32 → Int32 → xS → Option xS} (hk9 : ∀ (v1 : Int32) (v2 : Int32) (u : xS), k9 v1 v2 u = some u' → xG sc mX4_weigh d 0 0 (xR none (xL0, u') 0 0) 0 0 9 [some (.ref 121), some (.int v1), some (.int v2), none, none, none, none, none, none] [] (xL0, u)) (v1 : Int32) (v2 : Int32) (v3 : Int32) (v4 : Int64) (v6 : Int32) (v7 : Int32) (s1 : Int32) (s2 : Int64) (u : xS) (h : f_X4_weigh_126 k45 k9 v1 v2 v3 v4 v6 v7 s1 s2 u = some u') : xG sc mX4_weigh d 0 0 (xR none (xL0, u') 0 0) 0 0 126 [some (.ref 121), some (.int v1), some (.int v2), some (.int v3), some (.long v4), none, some (.int v6), some (.int v7), none] [.long s2, .int s1, .ref 132] (xL0, u) := by
  rw [f_X4_weigh_126] at h
  obtain ⟨g1, h⟩ := x_gd h
  refine g_lastore (pc := 126) dX4_weigh_126 xc_132 (xin_of g1) (u' := (wl u 132 s1.toNatClampNeg s2)) rfl ?_
  refine g_inc (pc := 127) dX4_weigh_127 (Nat.le_of_ble_eq_true rfl) rfl ic_1 (L' := [some (.ref 121), some (.int v1), some (.int v2), some (.int v3), some (.long v4), none, some (.int v6), some (.int (v7 + (1 : Int32))), none]) rfl ?_
  refine g_goto (tgt := 45) (pc := 130) dX4_weigh_130 (by decide) ?_
  exact hk45 v1 v2 v3 v4 v6 (v7 + (1 : Int32)) (wl u 132 s1.toNatClampNeg s2) h
set_option maxRecDepth 100000 in
set_option maxHeartbeats 4000000 in
theorem G_X4_weigh_87 {sc : Nat × (Nat → Int32)} {d : Nat} (hd : 1 ≤ d) {u' : xS} {k45 : Int32 → Int32 → Int32 → Int64 → Int32 → Int32 → xS → Option xS} (hk45 : ∀ (v1 : Int32) (v2 : Int32) (v3 : Int32) (v4 : Int64) (v6 : Int32) (v7 : Int32) (u : xS), k45 v1 v2 v3 v4 v6 v7 u = some u' → xG sc mX4_weigh d 0 0 (xR none (xL0, u') 0 0) 0 0 45 [some (.ref 121), some (.int v1), some (.int v2), some (.int v3), some (.long v4), none, some (.int v6), some (.int v7), none] [] (xL0, u)) {k9 : Int32 → Int32 → xS → Option xS} (hk9 : ∀ (v1 : Int32) (v2 : Int32) (u : xS), k9 v1 v2 u = some u' → xG sc mX4_weigh d 0 0 (xR none (xL0, u') 0 0) 0 0 9 [some (.ref 121), some (.int v1), some (.int v2), none, none, none, none, none, none] [] (xL0, u)) (v1 : Int32) (v2 : Int32) (v3 : Int32) (v4 : Int64) (v6 : Int32) (v7 : Int32) (s0 : Int32) (u : xS) (h : f_X4_weigh_87 k45 k9 v1 v2 v3 v4 v6 v7 s0 u = some u') : xG sc mX4_weigh d 0 0 (xR none (xL0, u') 0 0) 0 0 87 [some (.ref 121), some (.int v1), some (.int v2), some (.int v3), some (.long v4), none, some (.int v6), some (.int v7), none] [.int s0] (xL0, u) := by
  rw [f_X4_weigh_87] at h
  refine g_istore (pc := 87) dX4_weigh_87 (Nat.le_of_ble_eq_true rfl) (L' := [some (.ref 121), some (.int v1), some (.int v2), some (.int v3), some (.long v4), none, some (.int v6), some (.int v7), some (.int s0)]) rfl ?_
  refine g_aload_n (pc := 89) dX4_weigh_89 rfl ?_
  refine g_gR (pc := 90) dX4_weigh_90 fR_RX4_36 xc_121 (v := 132) rfl ?_
  refine g_iload (pc := 93) dX4_weigh_93 rfl ?_
  refine g_iload (pc := 95) dX4_weigh_95 rfl ?_
  refine g_iadd (pc := 97) dX4_weigh_97 rfl ?_
  refine g_iload (pc := 98) dX4_weigh_98 rfl ?_
  refine g_if_eq (tgt := 123) (pc := 100) dX4_weigh_100 (by decide) (fun c1 => ?_) (fun c1 => ?_)
  · replace h := (if_pos c1).symm.trans h
    refine g_ldc2 (pc := 123) dX4_weigh_123 kl_RX4_72 ?_
    refine g_L (L' := [some (.ref 121), some (.int v1), some (.int v2), some (.int v3), some (.long v4), none, some (.int v6), some (.int v7), none]) ⟨rfl, ⟨rfl, ⟨rfl, ⟨rfl, ⟨rfl, ⟨rfl, ⟨rfl, trivial⟩⟩⟩⟩⟩⟩⟩ ?_
    exact G_X4_weigh_126 hd hk45 hk9 v1 v2 v3 v4 v6 v7 (v6 + v7) (-1 : Int64) u h
  · replace h := (if_neg c1).symm.trans h
    refine g_aload_n (pc := 103) dX4_weigh_103 rfl ?_
    refine g_gR (pc := 104) dX4_weigh_104 fR_RX4_36 xc_121 (v := 132) rfl ?_
    refine g_iload (pc := 107) dX4_weigh_107 rfl ?_
    obtain ⟨g2, h⟩ := x_gd h
    refine g_laload (pc := 109) dX4_weigh_109 xc_132 (xin_of g2) (v := (rl u 132 v7.toNatClampNeg)) rfl ?_
    refine g_iload_n (pc := 110) dX4_weigh_110 rfl ?_
    refine g_i2l (pc := 111) dX4_weigh_111 rfl ?_
    refine g_ldc2 (pc := 112) dX4_weigh_112 kl_RX4_70 ?_
    refine g_lmul (pc := 115) dX4_weigh_115 rfl ?_
    refine g_ladd (pc := 116) dX4_weigh_116 rfl ?_
    refine g_lload (pc := 117) dX4_weigh_117 rfl ?_
    refine g_ladd (pc := 119) dX4_weigh_119 rfl ?_
    refine g_goto (tgt := 126) (pc := 120) dX4_weigh_120 (by decide) ?_
    refine g_L (L' := [some (.ref 121), some (.int v1), some (.int v2), some (.int v3), some (.long v4), none, some (.int v6), some (.int v7), none]) ⟨rfl, ⟨rfl, ⟨rfl, ⟨rfl, ⟨rfl, ⟨rfl, ⟨rfl, trivial⟩⟩⟩⟩⟩⟩⟩ ?_
    exact G_X4_weigh_126 hd hk45 hk9 v1 v2 v3 v4 v6 v7 (v6 + v7) (((rl u 132 v7.toNatClampNeg) + (((v3).toInt64) * (390625 : Int64))) + v4) u h
set_option maxRecDepth 100000 in
set_option maxHeartbeats 4000000 in
theorem G_X4_weigh_86 {sc : Nat × (Nat → Int32)} {d : Nat} (hd : 1 ≤ d) {u' : xS} {k45 : Int32 → Int32 → Int32 → Int64 → Int32 → Int32 → xS → Option xS} (hk45 : ∀ (v1 : Int32) (v2 : Int32) (v3 : Int32) (v4 : Int64) (v6 : Int32) (v7 : Int32) (u : xS), k45 v1 v2 v3 v4 v6 v7 u = some u' → xG sc mX4_weigh d 0 0 (xR none (xL0, u') 0 0) 0 0 45 [some (.ref 121), some (.int v1), some (.int v2), some (.int v3), some (.long v4), none, some (.int v6), some (.int v7), none] [] (xL0, u)) {k9 : Int32 → Int32 → xS → Option xS} (hk9 : ∀ (v1 : Int32) (v2 : Int32) (u : xS), k9 v1 v2 u = some u' → xG sc mX4_weigh d 0 0 (xR none (xL0, u') 0 0) 0 0 9 [some (.ref 121), some (.int v1), some (.int v2), none, none, none, none, none, none] [] (xL0, u)) (v1 : Int32) (v2 : Int32) (v3 : Int32) (v4 : Int64) (v6 : Int32) (v7 : Int32) (u : xS) (h : f_X4_weigh_86 k45 k9 v1 v2 v3 v4 v6 v7 u = some u') : xG sc mX4_weigh d 0 0 (xR none (xL0, u') 0 0) 0 0 86 [some (.ref 121), some (.int v1), some (.int v2), some (.int v3), some (.long v4), none, some (.int v6), some (.int v7), none] [] (xL0, u) := by
  rw [f_X4_weigh_86] at h
  refine g_iconst (pc := 86) dX4_weigh_86 ic_0 ?_
  exact G_X4_weigh_87 hd hk45 hk9 v1 v2 v3 v4 v6 v7 (0 : Int32) u h
set_option maxRecDepth 100000 in
set_option maxHeartbeats 4000000 in
theorem G_X4_weigh_45 {sc : Nat × (Nat → Int32)} {d : Nat} (hd : 1 ≤ d) {u' : xS} {k9 : Int32 → Int32 → xS → Option xS} (hk9 : ∀ (v1 : Int32) (v2 : Int32) (u : xS), k9 v1 v2 u = some u' → xG sc mX4_weigh d 0 0 (xR none (xL0, u') 0 0) 0 0 9 [some (.ref 121), some (.int v1), some (.int v2), none, none, none, none, none, none] [] (xL0, u)) : ∀ (n : Nat) (v1 : Int32) (v2 : Int32) (v3 : Int32) (v4 : Int64) (v6 : Int32) (v7 : Int32) (u : xS), f_X4_weigh_45 k9 n v1 v2 v3 v4 v6 v7 u = some u' → xG sc mX4_weigh d 0 0 (xR none (xL0, u') 0 0) 0 0 45 [some (.ref 121), some (.int v1), some (.int v2), some (.int v3), some (.long v4), none, some (.int v6), some (.int v7), none] [] (xL0, u) := by
  intro n
  induction n with
  | zero =>
    intro v1 v2 v3 v4 v6 v7 u h
    rw [f_X4_weigh_45] at h
    cases h
  | succ n ih =>
    intro v1 v2 v3 v4 v6 v7 u h
    rw [f_X4_weigh_45] at h
    refine g_iload (pc := 45) dX4_weigh_45 rfl ?_
    refine g_iload (pc := 47) dX4_weigh_47 rfl ?_
    refine g_icmp_ge (tgt := 133) (pc := 49) dX4_weigh_49 (by decide) (fun c1 => ?_) (fun c1 => ?_)
    · replace h := (if_pos c1).symm.trans h
      refine g_inc (pc := 133) dX4_weigh_133 (Nat.le_of_ble_eq_true rfl) rfl ic_1 (L' := [some (.ref 121), some (.int v1), some (.int (v2 + (1 : Int32))), some (.int v3), some (.long v4), none, some (.int v6), some (.int v7), none]) rfl ?_
      refine g_goto (tgt := 9) (pc := 136) dX4_weigh_136 (by decide) ?_
      refine g_L (L' := [some (.ref 121), some (.int v1), some (.int (v2 + (1 : Int32))), none, none, none, none, none, none]) ⟨rfl, ⟨rfl, ⟨rfl, trivial⟩⟩⟩ ?_
      exact hk9 v1 (v2 + (1 : Int32)) u h
    · replace h := (if_neg c1).symm.trans h
      refine g_iload_n (pc := 52) dX4_weigh_52 rfl ?_
      refine g_if_lt (tgt := 86) (pc := 53) dX4_weigh_53 (by decide) (fun c2 => ?_) (fun c2 => ?_)
      · replace h := (if_pos c2).symm.trans h
        exact G_X4_weigh_86 hd ih hk9 v1 v2 v3 v4 v6 v7 u h
      · replace h := (if_neg c2).symm.trans h
        refine g_aload_n (pc := 56) dX4_weigh_56 rfl ?_
        refine g_gR (pc := 57) dX4_weigh_57 fR_RX4_36 xc_121 (v := 132) rfl ?_
        refine g_iload (pc := 60) dX4_weigh_60 rfl ?_
        obtain ⟨g3, h⟩ := x_gd h
        refine g_laload (pc := 62) dX4_weigh_62 xc_132 (xin_of g3) (v := (rl u 132 v7.toNatClampNeg)) rfl ?_
        refine g_lconst (v := (0 : Int64)) (pc := 63) dX4_weigh_63 rfl ?_
        refine g_lcmp (pc := 64) dX4_weigh_64 rfl ?_
        refine g_if_lt (tgt := 86) (pc := 65) dX4_weigh_65 (by decide) (fun c4 => ?_) (fun c4 => ?_)
        · replace h := (if_pos c4).symm.trans h
          exact G_X4_weigh_86 hd ih hk9 v1 v2 v3 v4 v6 v7 u h
        · replace h := (if_neg c4).symm.trans h
          refine g_iload (pc := 68) dX4_weigh_68 rfl ?_
          refine g_cS (pc := 70) dX4_weigh_70 cS_RX4_64 (M_J6_bitCount_0f7a4 (Nat.le_refl _) rfl) (as := [.int v7]) (st := []) rfl rfl (Nat.le_of_ble_eq_true rfl) (Nat.le_trans (Nat.le_of_ble_eq_true rfl) hd) rfl ?_
          refine g_aload_n (pc := 73) dX4_weigh_73 rfl ?_
          refine g_gR (pc := 74) dX4_weigh_74 fR_RX4_16 xc_121 (v := 127) rfl ?_
          refine g_iload_n (pc := 77) dX4_weigh_77 rfl ?_
          obtain ⟨g5, h⟩ := x_gd h
          refine g_iaload (pc := 78) dX4_weigh_78 xc_127 (xin_of g5) (v := (rd u 127 v1.toNatClampNeg)) rfl ?_
          refine g_icmp_ge (tgt := 86) (pc := 79) dX4_weigh_79 (by decide) (fun c6 => ?_) (fun c6 => ?_)
          · replace h := (if_pos c6).symm.trans h
            exact G_X4_weigh_86 hd ih hk9 v1 v2 v3 v4 v6 v7 u h
          · replace h := (if_neg c6).symm.trans h
            refine g_iconst (pc := 82) dX4_weigh_82 ic_1 ?_
            refine g_goto (tgt := 87) (pc := 83) dX4_weigh_83 (by decide) ?_
            exact G_X4_weigh_87 hd ih hk9 v1 v2 v3 v4 v6 v7 (1 : Int32) u h
set_option maxRecDepth 100000 in
set_option maxHeartbeats 4000000 in
theorem G_X4_weigh_9 {sc : Nat × (Nat → Int32)} {d : Nat} (hd : 1 ≤ d) {u' : xS} : ∀ (n : Nat) (v1 : Int32) (v2 : Int32) (u : xS), f_X4_weigh_9 n v1 v2 u = some u' → xG sc mX4_weigh d 0 0 (xR none (xL0, u') 0 0) 0 0 9 [some (.ref 121), some (.int v1), some (.int v2), none, none, none, none, none, none] [] (xL0, u) := by
  intro n
  induction n with
  | zero =>
    intro v1 v2 u h
    rw [f_X4_weigh_9] at h
    cases h
  | succ n ih =>
    intro v1 v2 u h
    rw [f_X4_weigh_9] at h
    refine g_iload_n (pc := 9) dX4_weigh_9 rfl ?_
    refine g_aload_n (pc := 10) dX4_weigh_10 rfl ?_
    refine g_gI (pc := 11) dX4_weigh_11 fI_RX4_32 xc_121 (v := (rd u 121 6)) rfl ?_
    refine g_icmp_ge (tgt := 139) (pc := 14) dX4_weigh_14 (by decide) (fun c1 => ?_) (fun c1 => ?_)
    · replace h := (if_pos c1).symm.trans h
      replace h := Option.some.inj h
      subst h
      exact g_ret (pc := 139) dX4_weigh_139 rfl rfl rfl (Nat.le_refl _) (Nat.le_refl _)
    · replace h := (if_neg c1).symm.trans h
      refine g_aload_n (pc := 17) dX4_weigh_17 rfl ?_
      refine g_iload_n (pc := 18) dX4_weigh_18 rfl ?_
      refine g_iload_n (pc := 19) dX4_weigh_19 rfl ?_
      obtain ⟨x3, e2, h⟩ := x_bind h
      refine g_cV (pc := 20) dX4_weigh_20 cV_RX4_57 (M_X4_given (Nat.le_refl _) e2) xc_121 (as := [.int v1, .int v2]) (st := []) rfl rfl (Nat.le_of_ble_eq_true rfl) (Nat.le_trans (Nat.le_of_ble_eq_true rfl) hd) rfl ?_
      refine g_istore_n (pc := 23) dX4_weigh_23 (Nat.le_of_ble_eq_true rfl) (L' := [some (.ref 121), some (.int v1), some (.int v2), some (.int x3), none, none, none, none, none]) rfl ?_
      refine g_iconst (pc := 24) dX4_weigh_24 ic_4 ?_
      refine g_iload_n (pc := 25) dX4_weigh_25 rfl ?_
      refine g_isub (pc := 26) dX4_weigh_26 rfl ?_
      refine g_i2l (pc := 27) dX4_weigh_27 rfl ?_
      refine g_getsW (pc := 28) dX4_weigh_28 fs_RX4_61 ?_
      refine g_iload_n (pc := 31) dX4_weigh_31 rfl ?_
      obtain ⟨g4, h⟩ := x_gd h
      refine g_wload (pc := 32) dX4_weigh_32 (xin_of g4) rfl ?_
      refine g_i2l (pc := 33) dX4_weigh_33 rfl ?_
      refine g_lmul (pc := 34) dX4_weigh_34 rfl ?_
      refine g_lstore (pc := 35) dX4_weigh_35 (Nat.le_of_ble_eq_true rfl) (Nat.le_of_ble_eq_true rfl) (L' := [some (.ref 121), some (.int v1), some (.int v2), some (.int x3), some (.long ((((4 : Int32) - v1).toInt64) * ((xWt (v2).toNatClampNeg).toInt64))), none, none, none, none]) rfl ?_
      refine g_iconst (pc := 37) dX4_weigh_37 ic_1 ?_
      refine g_iload_n (pc := 38) dX4_weigh_38 rfl ?_
      refine g_ishl (pc := 39) dX4_weigh_39 rfl ?_
      refine g_istore (pc := 40) dX4_weigh_40 (Nat.le_of_ble_eq_true rfl) (L' := [some (.ref 121), some (.int v1), some (.int v2), some (.int x3), some (.long ((((4 : Int32) - v1).toInt64) * ((xWt (v2).toNatClampNeg).toInt64))), none, some (.int ((1 : Int32) <<< (v2 &&& 31))), none, none]) rfl ?_
      refine g_iconst (pc := 42) dX4_weigh_42 ic_0 ?_
      refine g_istore (pc := 43) dX4_weigh_43 (Nat.le_of_ble_eq_true rfl) (L' := [some (.ref 121), some (.int v1), some (.int v2), some (.int x3), some (.long ((((4 : Int32) - v1).toInt64) * ((xWt (v2).toNatClampNeg).toInt64))), none, some (.int ((1 : Int32) <<< (v2 &&& 31))), some (.int (0 : Int32)), none]) rfl ?_
      exact G_X4_weigh_45 hd ih xN v1 v2 x3 ((((4 : Int32) - v1).toInt64) * ((xWt (v2).toNatClampNeg).toInt64)) ((1 : Int32) <<< (v2 &&& 31)) (0 : Int32) u h
set_option maxRecDepth 100000 in
set_option maxHeartbeats 4000000 in
theorem G_X4_weigh_0 {sc : Nat × (Nat → Int32)} {d : Nat} (hd : 1 ≤ d) {u' : xS} (v1 : Int32) (u : xS) (h : f_X4_weigh v1 u = some u') : xG sc mX4_weigh d 0 0 (xR none (xL0, u') 0 0) 0 0 0 [some (.ref 121), some (.int v1), none, none, none, none, none, none, none] [] (xL0, u) := by
  rw [f_X4_weigh] at h
  refine g_aload_n (pc := 0) dX4_weigh_0 rfl ?_
  refine g_gR (pc := 1) dX4_weigh_1 fR_RX4_36 xc_121 (v := 132) rfl ?_
  refine g_iconst (pc := 4) dX4_weigh_4 ic_0 ?_
  refine g_lconst (v := (0 : Int64)) (pc := 5) dX4_weigh_5 rfl ?_
  refine g_lastore (pc := 6) dX4_weigh_6 xc_132 vin_0_256 (u' := (wl u 132 0 (0 : Int64))) rfl ?_
  refine g_iconst (pc := 7) dX4_weigh_7 ic_0 ?_
  refine g_istore_n (pc := 8) dX4_weigh_8 (Nat.le_of_ble_eq_true rfl) (L' := [some (.ref 121), some (.int v1), some (.int (0 : Int32)), none, none, none, none, none, none]) rfl ?_
  exact G_X4_weigh_9 hd xN v1 (0 : Int32) (wl u 132 0 (0 : Int64)) h
set_option maxRecDepth 100000 in
set_option maxHeartbeats 4000000 in
theorem M_X4_weigh {sc : Nat × (Nat → Int32)} {d : Nat} (hd : 1 ≤ d) {u u' : xS} {a1 : Int32} (h : f_X4_weigh a1 u = some u') : xMt sc mX4_weigh d 0 0 [.ref 121, .int a1] (xL0, u) none (xL0, u') :=
  xMt.of (by decide +kernel) (by decide +kernel) (Nat.le_of_ble_eq_true rfl) (L := [some (.ref 121), some (.int a1), none, none, none, none, none, none, none]) rfl ((G_X4_weigh_0 hd a1 u h))
set_option maxRecDepth 100000 in
set_option maxHeartbeats 4000000 in
theorem G_J7_fill_d0a16_6 {sc : Nat × (Nat → Int32)} {d : Nat} (hd : 0 ≤ d) {u' : xS} : ∀ (n : Nat) (v0 : Nat) (v1 : Int64) (v3 : Int32) (v4 : Int32) (u : xS), f_J7_fill_d0a16_6 n v0 v1 v3 v4 u = some u' → xG sc mJ7_fill_d0a16 d 0 0 (xR none (xL0, u') 0 0) 0 0 6 [some (.ref v0), some (.long v1), none, some (.int v3), some (.int v4)] [] (xL0, u) := by
  intro n
  induction n with
  | zero =>
    intro v0 v1 v3 v4 u h
    rw [f_J7_fill_d0a16_6] at h
    cases h
  | succ n ih =>
    intro v0 v1 v3 v4 u h
    rw [f_J7_fill_d0a16_6] at h
    refine g_iload_n (pc := 6) dJ7_fill_d0a16_6 rfl ?_
    refine g_iload (pc := 7) dJ7_fill_d0a16_7 rfl ?_
    refine g_icmp_ge (tgt := 22) (pc := 9) dJ7_fill_d0a16_9 (by decide) (fun c1 => ?_) (fun c1 => ?_)
    · replace h := (if_pos c1).symm.trans h
      replace h := Option.some.inj h
      subst h
      exact g_ret (pc := 22) dJ7_fill_d0a16_22 rfl rfl rfl (Nat.le_refl _) (Nat.le_refl _)
    · replace h := (if_neg c1).symm.trans h
      refine g_aload_n (pc := 12) dJ7_fill_d0a16_12 rfl ?_
      refine g_iload_n (pc := 13) dJ7_fill_d0a16_13 rfl ?_
      refine g_lload_n (pc := 14) dJ7_fill_d0a16_14 rfl ?_
      obtain ⟨g2, h⟩ := x_gd h
      obtain ⟨q3, hq4⟩ := xisJ_of g2
      obtain ⟨g5, h⟩ := x_gd h
      refine g_lastore (pc := 15) dJ7_fill_d0a16_15 hq4 (xin_of g5) (u' := (wl u v0 v3.toNatClampNeg v1)) rfl ?_
      refine g_inc (pc := 16) dJ7_fill_d0a16_16 (Nat.le_of_ble_eq_true rfl) rfl ic_1 (L' := [some (.ref v0), some (.long v1), none, some (.int (v3 + (1 : Int32))), some (.int v4)]) rfl ?_
      refine g_goto (tgt := 6) (pc := 19) dJ7_fill_d0a16_19 (by decide) ?_
      exact ih v0 v1 (v3 + (1 : Int32)) v4 (wl u v0 v3.toNatClampNeg v1) h
set_option maxRecDepth 100000 in
set_option maxHeartbeats 4000000 in
theorem G_J7_fill_d0a16_0 {sc : Nat × (Nat → Int32)} {d : Nat} (hd : 0 ≤ d) {u' : xS} (v0 : Nat) (v1 : Int64) (u : xS) (h : f_J7_fill_d0a16 v0 v1 u = some u') : xG sc mJ7_fill_d0a16 d 0 0 (xR none (xL0, u') 0 0) 0 0 0 [some (.ref v0), some (.long v1), none, none, none] [] (xL0, u) := by
  rw [f_J7_fill_d0a16] at h
  refine g_iconst (pc := 0) dJ7_fill_d0a16_0 ic_0 ?_
  refine g_istore_n (pc := 1) dJ7_fill_d0a16_1 (Nat.le_of_ble_eq_true rfl) (L' := [some (.ref v0), some (.long v1), none, some (.int (0 : Int32)), none]) rfl ?_
  refine g_aload_n (pc := 2) dJ7_fill_d0a16_2 rfl ?_
  obtain ⟨g1, h⟩ := x_gd h
  obtain ⟨q2, hq3⟩ := xisJ_of g1
  refine g_lalen (pc := 3) dJ7_fill_d0a16_3 hq3 (v := (Int32.ofNat (xlen v0))) rfl ?_
  refine g_istore (pc := 4) dJ7_fill_d0a16_4 (Nat.le_of_ble_eq_true rfl) (L' := [some (.ref v0), some (.long v1), none, some (.int (0 : Int32)), some (.int (Int32.ofNat (xlen v0)))]) rfl ?_
  exact G_J7_fill_d0a16_6 hd xN v0 v1 (0 : Int32) (Int32.ofNat (xlen v0)) u h
set_option maxRecDepth 100000 in
set_option maxHeartbeats 4000000 in
theorem M_J7_fill_d0a16 {sc : Nat × (Nat → Int32)} {d : Nat} (hd : 0 ≤ d) {u u' : xS} {a0 : Nat} {a1 : Int64} (h : f_J7_fill_d0a16 a0 a1 u = some u') : xMt sc mJ7_fill_d0a16 d 0 0 [.ref a0, .long a1] (xL0, u) none (xL0, u') :=
  xMt.of (by decide +kernel) (by decide +kernel) (Nat.le_of_ble_eq_true rfl) (L := [some (.ref a0), some (.long a1), none, none, none]) rfl ((G_J7_fill_d0a16_0 hd a0 a1 u h))
set_option maxRecDepth 100000 in
set_option maxHeartbeats 4000000 in
theorem G_X4_bestShare_29 {sc : Nat × (Nat → Int32)} {d : Nat} (hd : 2 ≤ d) {r : Int64} {u' : xS} {k10 : Int32 → xS → Option (Int64 × xS)} (hk10 : ∀ (v1 : Int32) (u : xS), k10 v1 u = some (r, u') → xG sc mX4_bestShare d 0 0 (xR (some (.long r)) (xL0, u') 0 0) 0 0 10 [some (.ref 121), some (.int v1), none] [] (xL0, u)) : ∀ (n : Nat) (v1 : Int32) (v2 : Int32) (u : xS), f_X4_bestShare_29 k10 n v1 v2 u = some (r, u') → xG sc mX4_bestShare d 0 0 (xR (some (.long r)) (xL0, u') 0 0) 0 0 29 [some (.ref 121), some (.int v1), some (.int v2)] [] (xL0, u) := by
  intro n
  induction n with
  | zero =>
    intro v1 v2 u h
    rw [f_X4_bestShare_29] at h
    cases h
  | succ n ih =>
    intro v1 v2 u h
    rw [f_X4_bestShare_29] at h
    refine g_iload_n (pc := 29) dX4_bestShare_29 rfl ?_
    refine g_if_le (tgt := 50) (pc := 30) dX4_bestShare_30 (by decide) (fun c1 => ?_) (fun c1 => ?_)
    · replace h := (if_pos c1).symm.trans h
      refine g_inc (pc := 50) dX4_bestShare_50 (Nat.le_of_ble_eq_true rfl) rfl ic_1 (L' := [some (.ref 121), some (.int (v1 + (1 : Int32))), some (.int v2)]) rfl ?_
      refine g_goto (tgt := 10) (pc := 53) dX4_bestShare_53 (by decide) ?_
      refine g_L (L' := [some (.ref 121), some (.int (v1 + (1 : Int32))), none]) ⟨rfl, ⟨rfl, trivial⟩⟩ ?_
      exact hk10 (v1 + (1 : Int32)) u h
    · replace h := (if_neg c1).symm.trans h
      refine g_aload_n (pc := 33) dX4_bestShare_33 rfl ?_
      refine g_gR (pc := 34) dX4_bestShare_34 fR_RX4_40 xc_121 (v := 133) rfl ?_
      refine g_iload_n (pc := 37) dX4_bestShare_37 rfl ?_
      refine g_aload_n (pc := 38) dX4_bestShare_38 rfl ?_
      refine g_iload_n (pc := 39) dX4_bestShare_39 rfl ?_
      obtain ⟨x3, e2, h⟩ := x_bind h
      refine g_cV (pc := 40) dX4_bestShare_40 cV_RX4_53 (M_X4_bestWith (Nat.le_refl _) e2) xc_121 (as := [.int v2]) (st := [.int v2, .ref 133]) rfl rfl (Nat.le_of_ble_eq_true rfl) (Nat.le_trans (Nat.le_of_ble_eq_true rfl) hd) rfl ?_
      obtain ⟨g4, h⟩ := x_gd h
      refine g_lastore (pc := 43) dX4_bestShare_43 xc_133 (xin_of g4) (u' := (wl u 133 v2.toNatClampNeg x3)) rfl ?_
      refine g_inc (pc := 44) dX4_bestShare_44 (Nat.le_of_ble_eq_true rfl) rfl ic_m1 (L' := [some (.ref 121), some (.int v1), some (.int (v2 + (-1 : Int32)))]) rfl ?_
      refine g_goto (tgt := 29) (pc := 47) dX4_bestShare_47 (by decide) ?_
      exact ih v1 (v2 + (-1 : Int32)) (wl u 133 v2.toNatClampNeg x3) h
set_option maxRecDepth 100000 in
set_option maxHeartbeats 4000000 in
theorem G_X4_bestShare_10 {sc : Nat × (Nat → Int32)} {d : Nat} (hd : 2 ≤ d) {r : Int64} {u' : xS} : ∀ (n : Nat) (v1 : Int32) (u : xS), f_X4_bestShare_10 n v1 u = some (r, u') → xG sc mX4_bestShare d 0 0 (xR (some (.long r)) (xL0, u') 0 0) 0 0 10 [some (.ref 121), some (.int v1), none] [] (xL0, u) := by
  intro n
  induction n with
  | zero =>
    intro v1 u h
    rw [f_X4_bestShare_10] at h
    cases h
  | succ n ih =>
    intro v1 u h
    rw [f_X4_bestShare_10] at h
    refine g_iload_n (pc := 10) dX4_bestShare_10 rfl ?_
    refine g_iconst (pc := 11) dX4_bestShare_11 ic_4 ?_
    refine g_icmp_ge (tgt := 56) (pc := 12) dX4_bestShare_12 (by decide) (fun c1 => ?_) (fun c1 => ?_)
    · replace h := (if_pos c1).symm.trans h
      refine g_aload_n (pc := 56) dX4_bestShare_56 rfl ?_
      refine g_gR (pc := 57) dX4_bestShare_57 fR_RX4_40 xc_121 (v := 133) rfl ?_
      refine g_iconst (pc := 60) dX4_bestShare_60 ic_1 ?_
      refine g_aload_n (pc := 61) dX4_bestShare_61 rfl ?_
      refine g_gI (pc := 62) dX4_bestShare_62 fI_RX4_32 xc_121 (v := (rd u 121 6)) rfl ?_
      refine g_ishl (pc := 65) dX4_bestShare_65 rfl ?_
      refine g_iconst (pc := 66) dX4_bestShare_66 ic_1 ?_
      refine g_isub (pc := 67) dX4_bestShare_67 rfl ?_
      obtain ⟨g2, h⟩ := x_gd h
      refine g_laload (pc := 68) dX4_bestShare_68 xc_133 (xin_of g2) (v := (rl u 133 (((1 : Int32) <<< ((rd u 121 6) &&& 31)) - (1 : Int32)).toNatClampNeg)) rfl ?_
      obtain ⟨h1, h2⟩ := x_inj2 h
      subst h1
      subst h2
      exact g_lret (pc := 69) dX4_bestShare_69 rfl rfl rfl (Nat.le_refl _) (Nat.le_refl _)
    · replace h := (if_neg c1).symm.trans h
      refine g_aload_n (pc := 15) dX4_bestShare_15 rfl ?_
      refine g_iload_n (pc := 16) dX4_bestShare_16 rfl ?_
      obtain ⟨u4, e3, h⟩ := x_bind h
      refine g_cV (pc := 17) dX4_bestShare_17 cV_RX4_49 (M_X4_weigh (Nat.le_refl _) e3) xc_121 (as := [.int v1]) (st := []) rfl rfl (Nat.le_of_ble_eq_true rfl) (Nat.le_trans (Nat.le_of_ble_eq_true rfl) hd) rfl ?_
      refine g_iconst (pc := 20) dX4_bestShare_20 ic_1 ?_
      refine g_aload_n (pc := 21) dX4_bestShare_21 rfl ?_
      refine g_gI (pc := 22) dX4_bestShare_22 fI_RX4_32 xc_121 (v := (rd u4 121 6)) rfl ?_
      refine g_ishl (pc := 25) dX4_bestShare_25 rfl ?_
      refine g_iconst (pc := 26) dX4_bestShare_26 ic_1 ?_
      refine g_isub (pc := 27) dX4_bestShare_27 rfl ?_
      refine g_istore_n (pc := 28) dX4_bestShare_28 (Nat.le_of_ble_eq_true rfl) (L' := [some (.ref 121), some (.int v1), some (.int (((1 : Int32) <<< ((rd u4 121 6) &&& 31)) - (1 : Int32)))]) rfl ?_
      exact G_X4_bestShare_29 hd ih xN v1 (((1 : Int32) <<< ((rd u4 121 6) &&& 31)) - (1 : Int32)) u4 h
set_option maxRecDepth 100000 in
set_option maxHeartbeats 4000000 in
theorem G_X4_bestShare_0 {sc : Nat × (Nat → Int32)} {d : Nat} (hd : 2 ≤ d) {r : Int64} {u' : xS} (u : xS) (h : f_X4_bestShare u = some (r, u')) : xG sc mX4_bestShare d 0 0 (xR (some (.long r)) (xL0, u') 0 0) 0 0 0 [some (.ref 121), none, none] [] (xL0, u) := by
  rw [f_X4_bestShare] at h
  refine g_aload_n (pc := 0) dX4_bestShare_0 rfl ?_
  refine g_gR (pc := 1) dX4_bestShare_1 fR_RX4_40 xc_121 (v := 133) rfl ?_
  refine g_lconst (v := (0 : Int64)) (pc := 4) dX4_bestShare_4 rfl ?_
  obtain ⟨u2, e1, h⟩ := x_bind h
  refine g_cS (pc := 5) dX4_bestShare_5 cS_RX4_43 (M_J7_fill_d0a16 (Nat.le_refl _) e1) (as := [.ref 133, .long (0 : Int64)]) (st := []) rfl rfl (Nat.le_of_ble_eq_true rfl) (Nat.le_trans (Nat.le_of_ble_eq_true rfl) hd) rfl ?_
  refine g_iconst (pc := 8) dX4_bestShare_8 ic_0 ?_
  refine g_istore_n (pc := 9) dX4_bestShare_9 (Nat.le_of_ble_eq_true rfl) (L' := [some (.ref 121), some (.int (0 : Int32)), none]) rfl ?_
  exact G_X4_bestShare_10 hd xN (0 : Int32) u2 h
set_option maxRecDepth 100000 in
set_option maxHeartbeats 4000000 in
theorem M_X4_bestShare {sc : Nat × (Nat → Int32)} {d : Nat} (hd : 2 ≤ d) {r : Int64} {u u' : xS} (h : f_X4_bestShare u = some (r, u')) : xMt sc mX4_bestShare d 0 0 [.ref 121] (xL0, u) (some (.long r)) (xL0, u') :=
  xMt.of (by decide +kernel) (by decide +kernel) (Nat.le_of_ble_eq_true rfl) (L := [some (.ref 121), none, none]) rfl ((G_X4_bestShare_0 hd u h))
