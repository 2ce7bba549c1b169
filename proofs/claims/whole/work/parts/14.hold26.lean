set_option maxRecDepth 100000 in
set_option maxHeartbeats 4000000 in
theorem G_X2_chooseRow_43 {sc : Nat × (Nat → Int32)} {d : Nat} (hd : 1 ≤ d) {r : Int32} {u' : xS} {k25 : Int32 → Int32 → Int32 → Int32 → xS → Option (Int32 × xS)} (hk25 : ∀ (v1 : Int32) (v2 : Int32) (v3 : Int32) (v4 : Int32) (u : xS), k25 v1 v2 v3 v4 u = some (r, u') → xG sc mX2_chooseRow d 0 0 (xR (some (.int r)) (xL0, u') 0 0) 0 0 25 [some (.ref 87), some (.int v1), some (.int v2), some (.int v3), some (.int v4), none, none] [] (xL0, u)) : ∀ (n : Nat) (v1 : Int32) (v2 : Int32) (v4 : Int32) (v5 : Int32) (v6 : Int32) (u : xS), f_X2_chooseRow_43 k25 n v1 v2 v4 v5 v6 u = some (r, u') → xG sc mX2_chooseRow d 0 0 (xR (some (.int r)) (xL0, u') 0 0) 0 0 43 [some (.ref 87), some (.int v1), some (.int v2), none, some (.int v4), some (.int v5), some (.int v6)] [] (xL0, u) := by
  intro n
  induction n with
  | zero =>
    intro v1 v2 v4 v5 v6 u h
    rw [f_X2_chooseRow_43] at h
    cases h
  | succ n ih =>
    intro v1 v2 v4 v5 v6 u h
    rw [f_X2_chooseRow_43] at h
    refine g_iload (pc := 43) dX2_chooseRow_43 rfl ?_
    refine g_iload_n (pc := 45) dX2_chooseRow_45 rfl ?_
    refine g_icmp_ge (tgt := 72) (pc := 46) dX2_chooseRow_46 (by decide) (fun c1 => ?_) (fun c1 => ?_)
    · replace h := (if_pos c1).symm.trans h
      refine g_iload (pc := 72) dX2_chooseRow_72 rfl ?_
      refine g_iload_n (pc := 74) dX2_chooseRow_74 rfl ?_
      refine g_icmp_ne (tgt := 80) (pc := 75) dX2_chooseRow_75 (by decide) (fun c2 => ?_) (fun c2 => ?_)
      · replace h := (if_neg c2).symm.trans h
        refine g_aload_n (pc := 80) dX2_chooseRow_80 rfl ?_
        refine g_iload_n (pc := 81) dX2_chooseRow_81 rfl ?_
        obtain ⟨⟨x4, u5⟩, e3, h⟩ := x_bind h
        dsimp only at h
        refine g_cV (pc := 82) dX2_chooseRow_82 cV_RX2_51 (M_X2_nextChoice (Nat.le_refl _) e3) xc_87 (as := [.int v1]) (st := []) rfl rfl (Nat.le_of_ble_eq_true rfl) (Nat.le_trans (Nat.le_of_ble_eq_true rfl) hd) rfl ?_
        refine g_istore_n (pc := 85) dX2_chooseRow_85 (Nat.le_of_ble_eq_true rfl) (L' := [some (.ref 87), some (.int v1), some (.int v2), some (.int x4), some (.int v4), some (.int v5), some (.int v6)]) rfl ?_
        refine g_inc (pc := 86) dX2_chooseRow_86 (Nat.le_of_ble_eq_true rfl) rfl ic_1 (L' := [some (.ref 87), some (.int v1), some (.int v2), some (.int x4), some (.int (v4 + (1 : Int32))), some (.int v5), some (.int v6)]) rfl ?_
        refine g_goto (tgt := 25) (pc := 89) dX2_chooseRow_89 (by decide) ?_
        refine g_L (L' := [some (.ref 87), some (.int v1), some (.int v2), some (.int x4), some (.int (v4 + (1 : Int32))), none, none]) ⟨rfl, ⟨rfl, ⟨rfl, ⟨rfl, ⟨rfl, trivial⟩⟩⟩⟩⟩ ?_
        exact hk25 v1 v2 x4 (v4 + (1 : Int32)) u5 h
      · replace h := (if_pos c2).symm.trans h
        refine g_iconst (pc := 78) dX2_chooseRow_78 ic_1 ?_
        obtain ⟨h1, h2⟩ := x_inj2 h
        subst h1
        subst h2
        exact g_zret (pc := 79) dX2_chooseRow_79 rfl (Or.inr rfl) rfl rfl (Nat.le_refl _) (Nat.le_refl _)
    · replace h := (if_neg c1).symm.trans h
      refine g_iload (pc := 49) dX2_chooseRow_49 rfl ?_
      refine g_aload_n (pc := 51) dX2_chooseRow_51 rfl ?_
      refine g_gR (pc := 52) dX2_chooseRow_52 fR_RX2_27 xc_87 (v := 111) rfl ?_
      refine g_aload_n (pc := 55) dX2_chooseRow_55 rfl ?_
      refine g_gR (pc := 56) dX2_chooseRow_56 fR_RX2_33 xc_87 (v := 112) rfl ?_
      refine g_iload (pc := 59) dX2_chooseRow_59 rfl ?_
      obtain ⟨g7, h⟩ := x_gd h
      refine g_iaload (pc := 61) dX2_chooseRow_61 xc_112 (xin_of g7) (v := (rd u 112 v6.toNatClampNeg)) rfl ?_
      obtain ⟨g8, h⟩ := x_gd h
      refine g_iaload (pc := 62) dX2_chooseRow_62 xc_111 (xin_of g8) (v := (rd u 111 (rd u 112 v6.toNatClampNeg).toNatClampNeg)) rfl ?_
      refine g_ior (pc := 63) dX2_chooseRow_63 rfl ?_
      refine g_istore (pc := 64) dX2_chooseRow_64 (Nat.le_of_ble_eq_true rfl) (L' := [some (.ref 87), some (.int v1), some (.int v2), none, some (.int v4), some (.int (v5 ||| (rd u 111 (rd u 112 v6.toNatClampNeg).toNatClampNeg))), some (.int v6)]) rfl ?_
      refine g_inc (pc := 66) dX2_chooseRow_66 (Nat.le_of_ble_eq_true rfl) rfl ic_1 (L' := [some (.ref 87), some (.int v1), some (.int v2), none, some (.int v4), some (.int (v5 ||| (rd u 111 (rd u 112 v6.toNatClampNeg).toNatClampNeg))), some (.int (v6 + (1 : Int32)))]) rfl ?_
      refine g_goto (tgt := 43) (pc := 69) dX2_chooseRow_69 (by decide) ?_
      exact ih v1 v2 v4 (v5 ||| (rd u 111 (rd u 112 v6.toNatClampNeg).toNatClampNeg)) (v6 + (1 : Int32)) u h
set_option maxRecDepth 100000 in
set_option maxHeartbeats 4000000 in
theorem G_X2_chooseRow_25 {sc : Nat × (Nat → Int32)} {d : Nat} (hd : 1 ≤ d) {r : Int32} {u' : xS} : ∀ (n : Nat) (v1 : Int32) (v2 : Int32) (v3 : Int32) (v4 : Int32) (u : xS), f_X2_chooseRow_25 n v1 v2 v3 v4 u = some (r, u') → xG sc mX2_chooseRow d 0 0 (xR (some (.int r)) (xL0, u') 0 0) 0 0 25 [some (.ref 87), some (.int v1), some (.int v2), some (.int v3), some (.int v4), none, none] [] (xL0, u) := by
  intro n
  induction n with
  | zero =>
    intro v1 v2 v3 v4 u h
    rw [f_X2_chooseRow_25] at h
    cases h
  | succ n ih =>
    intro v1 v2 v3 v4 u h
    rw [f_X2_chooseRow_25] at h
    refine g_iload_n (pc := 25) dX2_chooseRow_25 rfl ?_
    refine g_if_eq (tgt := 92) (pc := 26) dX2_chooseRow_26 (by decide) (fun c1 => ?_) (fun c1 => ?_)
    · replace h := (if_pos c1).symm.trans h
      refine g_iconst (pc := 92) dX2_chooseRow_92 ic_0 ?_
      obtain ⟨h1, h2⟩ := x_inj2 h
      subst h1
      subst h2
      exact g_zret (pc := 93) dX2_chooseRow_93 rfl (Or.inl rfl) rfl rfl (Nat.le_refl _) (Nat.le_refl _)
    · replace h := (if_neg c1).symm.trans h
      refine g_iload (pc := 29) dX2_chooseRow_29 rfl ?_
      refine g_sipush (pc := 31) dX2_chooseRow_31 sp_10626 ?_
      refine g_icmp_ge (tgt := 92) (pc := 34) dX2_chooseRow_34 (by decide) (fun c2 => ?_) (fun c2 => ?_)
      · replace h := (if_pos c2).symm.trans h
        refine g_iconst (pc := 92) dX2_chooseRow_92 ic_0 ?_
        obtain ⟨h1, h2⟩ := x_inj2 h
        subst h1
        subst h2
        exact g_zret (pc := 93) dX2_chooseRow_93 rfl (Or.inl rfl) rfl rfl (Nat.le_refl _) (Nat.le_refl _)
      · replace h := (if_neg c2).symm.trans h
        refine g_iconst (pc := 37) dX2_chooseRow_37 ic_0 ?_
        refine g_istore (pc := 38) dX2_chooseRow_38 (Nat.le_of_ble_eq_true rfl) (L' := [some (.ref 87), some (.int v1), some (.int v2), some (.int v3), some (.int v4), some (.int (0 : Int32)), none]) rfl ?_
        refine g_iconst (pc := 40) dX2_chooseRow_40 ic_0 ?_
        refine g_istore (pc := 41) dX2_chooseRow_41 (Nat.le_of_ble_eq_true rfl) (L' := [some (.ref 87), some (.int v1), some (.int v2), some (.int v3), some (.int v4), some (.int (0 : Int32)), some (.int (0 : Int32))]) rfl ?_
        refine g_L (L' := [some (.ref 87), some (.int v1), some (.int v2), none, some (.int v4), some (.int (0 : Int32)), some (.int (0 : Int32))]) ⟨rfl, ⟨rfl, ⟨rfl, ⟨rfl, ⟨rfl, ⟨rfl, trivial⟩⟩⟩⟩⟩⟩ ?_
        exact G_X2_chooseRow_43 hd ih xN v1 v2 v4 (0 : Int32) (0 : Int32) u h
set_option maxRecDepth 100000 in
set_option maxHeartbeats 4000000 in
theorem G_X2_chooseRow_2 {sc : Nat × (Nat → Int32)} {d : Nat} (hd : 1 ≤ d) {r : Int32} {u' : xS} : ∀ (n : Nat) (v1 : Int32) (v2 : Int32) (v3 : Int32) (u : xS), f_X2_chooseRow_2 n v1 v2 v3 u = some (r, u') → xG sc mX2_chooseRow d 0 0 (xR (some (.int r)) (xL0, u') 0 0) 0 0 2 [some (.ref 87), some (.int v1), some (.int v2), some (.int v3), none, none, none] [] (xL0, u) := by
  intro n
  induction n with
  | zero =>
    intro v1 v2 v3 u h
    rw [f_X2_chooseRow_2] at h
    cases h
  | succ n ih =>
    intro v1 v2 v3 u h
    rw [f_X2_chooseRow_2] at h
    refine g_iload_n (pc := 2) dX2_chooseRow_2 rfl ?_
    refine g_iload_n (pc := 3) dX2_chooseRow_3 rfl ?_
    refine g_icmp_ge (tgt := 20) (pc := 4) dX2_chooseRow_4 (by decide) (fun c1 => ?_) (fun c1 => ?_)
    · replace h := (if_pos c1).symm.trans h
      refine g_iconst (pc := 20) dX2_chooseRow_20 ic_1 ?_
      refine g_istore_n (pc := 21) dX2_chooseRow_21 (Nat.le_of_ble_eq_true rfl) (L' := [some (.ref 87), some (.int v1), some (.int v2), some (.int (1 : Int32)), none, none, none]) rfl ?_
      refine g_iconst (pc := 22) dX2_chooseRow_22 ic_0 ?_
      refine g_istore (pc := 23) dX2_chooseRow_23 (Nat.le_of_ble_eq_true rfl) (L' := [some (.ref 87), some (.int v1), some (.int v2), some (.int (1 : Int32)), some (.int (0 : Int32)), none, none]) rfl ?_
      exact G_X2_chooseRow_25 hd xN v1 v2 (1 : Int32) (0 : Int32) u h
    · replace h := (if_neg c1).symm.trans h
      refine g_aload_n (pc := 7) dX2_chooseRow_7 rfl ?_
      refine g_gR (pc := 8) dX2_chooseRow_8 fR_RX2_33 xc_87 (v := 112) rfl ?_
      refine g_iload_n (pc := 11) dX2_chooseRow_11 rfl ?_
      refine g_iload_n (pc := 12) dX2_chooseRow_12 rfl ?_
      obtain ⟨g2, h⟩ := x_gd h
      refine g_iastore (pc := 13) dX2_chooseRow_13 xc_112 (xin_of g2) (u' := (wr u 112 v3.toNatClampNeg v3)) rfl ?_
      refine g_inc (pc := 14) dX2_chooseRow_14 (Nat.le_of_ble_eq_true rfl) rfl ic_1 (L' := [some (.ref 87), some (.int v1), some (.int v2), some (.int (v3 + (1 : Int32))), none, none, none]) rfl ?_
      refine g_goto (tgt := 2) (pc := 17) dX2_chooseRow_17 (by decide) ?_
      exact ih v1 v2 (v3 + (1 : Int32)) (wr u 112 v3.toNatClampNeg v3) h
set_option maxRecDepth 100000 in
set_option maxHeartbeats 4000000 in
theorem G_X2_chooseRow_0 {sc : Nat × (Nat → Int32)} {d : Nat} (hd : 1 ≤ d) {r : Int32} {u' : xS} (v1 : Int32) (v2 : Int32) (u : xS) (h : f_X2_chooseRow v1 v2 u = some (r, u')) : xG sc mX2_chooseRow d 0 0 (xR (some (.int r)) (xL0, u') 0 0) 0 0 0 [some (.ref 87), some (.int v1), some (.int v2), none, none, none, none] [] (xL0, u) := by
  rw [f_X2_chooseRow] at h
  refine g_iconst (pc := 0) dX2_chooseRow_0 ic_0 ?_
  refine g_istore_n (pc := 1) dX2_chooseRow_1 (Nat.le_of_ble_eq_true rfl) (L' := [some (.ref 87), some (.int v1), some (.int v2), some (.int (0 : Int32)), none, none, none]) rfl ?_
  exact G_X2_chooseRow_2 hd xN v1 v2 (0 : Int32) u h
set_option maxRecDepth 100000 in
set_option maxHeartbeats 4000000 in
theorem M_X2_chooseRow {sc : Nat × (Nat → Int32)} {d : Nat} (hd : 1 ≤ d) {r : Int32} {u u' : xS} {a1 : Int32} {a2 : Int32} (h : f_X2_chooseRow a1 a2 u = some (r, u')) : xMt sc mX2_chooseRow d 0 0 [.ref 87, .int a1, .int a2] (xL0, u) (some (.int r)) (xL0, u') :=
  xMt.of (by decide +kernel) (by decide +kernel) (Nat.le_of_ble_eq_true rfl) (L := [some (.ref 87), some (.int a1), some (.int a2), none, none, none, none]) rfl ((G_X2_chooseRow_0 hd a1 a2 u h))
set_option maxRecDepth 100000 in
set_option maxHeartbeats 4000000 in
theorem G_X2_badWith_50 {sc : Nat × (Nat → Int32)} {d : Nat} (hd : 0 ≤ d) {r : Int32} {u : xS} {k4 : Int32 → Int32 → Int32 → Option Int32} (hk4 : ∀ (v1 : Int32) (v2 : Int32) (v3 : Int32), k4 v1 v2 v3 = some r → xG sc mX2_badWith d 0 0 (xR (some (.int r)) (xL0, u) 0 0) 0 0 4 [some (.ref 87), some (.int v1), some (.int v2), some (.int v3)] [] (xL0, u)) (v1 : Int32) (v2 : Int32) (v3 : Int32) (h : f_X2_badWith_50 k4 u v1 v2 v3 = some r) : xG sc mX2_badWith d 0 0 (xR (some (.int r)) (xL0, u) 0 0) 0 0 50 [some (.ref 87), some (.int v1), some (.int v2), some (.int v3)] [] (xL0, u) := by
  rw [f_X2_badWith_50] at h
  refine g_inc (pc := 50) dX2_badWith_50 (Nat.le_of_ble_eq_true rfl) rfl ic_1 (L' := [some (.ref 87), some (.int v1), some (.int v2), some (.int (v3 + (1 : Int32)))]) rfl ?_
  refine g_goto (tgt := 4) (pc := 53) dX2_badWith_53 (by decide) ?_
  exact hk4 v1 v2 (v3 + (1 : Int32)) h
set_option maxRecDepth 100000 in
set_option maxHeartbeats 4000000 in
theorem G_X2_badWith_4 {sc : Nat × (Nat → Int32)} {d : Nat} (hd : 0 ≤ d) {r : Int32} {u : xS} : ∀ (n : Nat) (v1 : Int32) (v2 : Int32) (v3 : Int32), f_X2_badWith_4 u n v1 v2 v3 = some r → xG sc mX2_badWith d 0 0 (xR (some (.int r)) (xL0, u) 0 0) 0 0 4 [some (.ref 87), some (.int v1), some (.int v2), some (.int v3)] [] (xL0, u) := by
  intro n
  induction n with
  | zero =>
    intro v1 v2 v3 h
    rw [f_X2_badWith_4] at h
    cases h
  | succ n ih =>
    intro v1 v2 v3 h
    rw [f_X2_badWith_4] at h
    refine g_iload_n (pc := 4) dX2_badWith_4 rfl ?_
    refine g_aload_n (pc := 5) dX2_badWith_5 rfl ?_
    refine g_gI (pc := 6) dX2_badWith_6 fI_RX2_20 xc_87 (v := (rd u 87 2)) rfl ?_
    refine g_icmp_ge (tgt := 56) (pc := 9) dX2_badWith_9 (by decide) (fun c1 => ?_) (fun c1 => ?_)
    · replace h := (if_pos c1).symm.trans h
      refine g_iload_n (pc := 56) dX2_badWith_56 rfl ?_
      replace h := Option.some.inj h
      subst h
      exact g_iret (pc := 57) dX2_badWith_57 rfl rfl rfl (Nat.le_refl _) (Nat.le_refl _)
    · replace h := (if_neg c1).symm.trans h
      refine g_aload_n (pc := 12) dX2_badWith_12 rfl ?_
      refine g_gR (pc := 13) dX2_badWith_13 fR_RX2_11 xc_87 (v := 88) rfl ?_
      refine g_iload_n (pc := 16) dX2_badWith_16 rfl ?_
      obtain ⟨g2, h⟩ := x_gd h
      refine g_aaload (pc := 17) dX2_badWith_17 xc_88 (xin_of g2) (v := (89 + v3.toNatClampNeg)) (xrf_88 _ (xin_lt g2)) ?_
      refine g_iload_n (pc := 18) dX2_badWith_18 rfl ?_
      obtain ⟨g3, h⟩ := x_gd h
      refine g_iaload (pc := 19) dX2_badWith_19 (xrow_88 _ (xin_lt g2)) (xin_of g3) (v := (rd u (89 + v3.toNatClampNeg) v1.toNatClampNeg)) rfl ?_
      refine g_if_le (tgt := 50) (pc := 20) dX2_badWith_20 (by decide) (fun c4 => ?_) (fun c4 => ?_)
      · replace h := (if_pos c4).symm.trans h
        exact G_X2_badWith_50 hd ih v1 v2 v3 h
      · replace h := (if_neg c4).symm.trans h
        refine g_aload_n (pc := 23) dX2_badWith_23 rfl ?_
        refine g_gR (pc := 24) dX2_badWith_24 fR_RX2_16 xc_87 (v := 109) rfl ?_
        refine g_iload_n (pc := 27) dX2_badWith_27 rfl ?_
        refine g_iaload (pc := 28) dX2_badWith_28 xc_109 (xin_of g2) (v := (rd u 109 v3.toNatClampNeg)) rfl ?_
        refine g_if_ne (tgt := 34) (pc := 29) dX2_badWith_29 (by decide) (fun c5 => ?_) (fun c5 => ?_)
        · replace h := (if_neg c5).symm.trans h
          refine g_aload_n (pc := 34) dX2_badWith_34 rfl ?_
          refine g_gR (pc := 35) dX2_badWith_35 fR_RX2_16 xc_87 (v := 109) rfl ?_
          refine g_iload_n (pc := 38) dX2_badWith_38 rfl ?_
          refine g_iaload (pc := 39) dX2_badWith_39 xc_109 (xin_of g2) (v := (rd u 109 v3.toNatClampNeg)) rfl ?_
          refine g_iconst (pc := 40) dX2_badWith_40 ic_1 ?_
          refine g_icmp_ne (tgt := 50) (pc := 41) dX2_badWith_41 (by decide) (fun c6 => ?_) (fun c6 => ?_)
          · replace h := (if_neg c6).symm.trans h
            exact G_X2_badWith_50 hd ih v1 v2 v3 h
          · replace h := (if_pos c6).symm.trans h
            refine g_iload_n (pc := 44) dX2_badWith_44 rfl ?_
            refine g_iconst (pc := 45) dX2_badWith_45 ic_1 ?_
            refine g_iload_n (pc := 46) dX2_badWith_46 rfl ?_
            refine g_ishl (pc := 47) dX2_badWith_47 rfl ?_
            refine g_ior (pc := 48) dX2_badWith_48 rfl ?_
            refine g_istore_n (pc := 49) dX2_badWith_49 (Nat.le_of_ble_eq_true rfl) (L' := [some (.ref 87), some (.int v1), some (.int (v2 ||| ((1 : Int32) <<< (v3 &&& 31)))), some (.int v3)]) rfl ?_
            exact G_X2_badWith_50 hd ih v1 (v2 ||| ((1 : Int32) <<< (v3 &&& 31))) v3 h
        · replace h := (if_pos c5).symm.trans h
          refine g_iconst (pc := 32) dX2_badWith_32 ic_0 ?_
          replace h := Option.some.inj h
          subst h
          exact g_iret (pc := 33) dX2_badWith_33 rfl rfl rfl (Nat.le_refl _) (Nat.le_refl _)
set_option maxRecDepth 100000 in
set_option maxHeartbeats 4000000 in
theorem G_X2_badWith_0 {sc : Nat × (Nat → Int32)} {d : Nat} (hd : 0 ≤ d) {r : Int32} {u : xS} (v1 : Int32) (h : f_X2_badWith u v1 = some r) : xG sc mX2_badWith d 0 0 (xR (some (.int r)) (xL0, u) 0 0) 0 0 0 [some (.ref 87), some (.int v1), none, none] [] (xL0, u) := by
  rw [f_X2_badWith] at h
  refine g_iconst (pc := 0) dX2_badWith_0 ic_0 ?_
  refine g_istore_n (pc := 1) dX2_badWith_1 (Nat.le_of_ble_eq_true rfl) (L' := [some (.ref 87), some (.int v1), some (.int (0 : Int32)), none]) rfl ?_
  refine g_iconst (pc := 2) dX2_badWith_2 ic_0 ?_
  refine g_istore_n (pc := 3) dX2_badWith_3 (Nat.le_of_ble_eq_true rfl) (L' := [some (.ref 87), some (.int v1), some (.int (0 : Int32)), some (.int (0 : Int32))]) rfl ?_
  exact G_X2_badWith_4 hd xN v1 (0 : Int32) (0 : Int32) h
set_option maxRecDepth 100000 in
set_option maxHeartbeats 4000000 in
theorem M_X2_badWith {sc : Nat × (Nat → Int32)} {d : Nat} (hd : 0 ≤ d) {r : Int32} {u : xS} {a1 : Int32} (h : f_X2_badWith u a1 = some r) : xMt sc mX2_badWith d 0 0 [.ref 87, .int a1] (xL0, u) (some (.int r)) (xL0, u) :=
  xMt.of (by decide +kernel) (by decide +kernel) (Nat.le_of_ble_eq_true rfl) (L := [some (.ref 87), some (.int a1), none, none]) rfl ((G_X2_badWith_0 hd a1 h))
set_option maxRecDepth 100000 in
set_option maxHeartbeats 4000000 in
theorem G_X2_findMaybes_62 {sc : Nat × (Nat → Int32)} {d : Nat} (hd : 1 ≤ d) {u' : xS} {k7 : Int32 → xS → Option xS} (hk7 : ∀ (v1 : Int32) (u : xS), k7 v1 u = some u' → xG sc mX2_findMaybes d 0 0 (xR none (xL0, u') 0 0) 0 0 7 [some (.ref 87), some (.int v1), none] [] (xL0, u)) (v1 : Int32) (u : xS) (h : f_X2_findMaybes_62 k7 v1 u = some u') : xG sc mX2_findMaybes d 0 0 (xR none (xL0, u') 0 0) 0 0 62 [some (.ref 87), some (.int v1), none] [] (xL0, u) := by
  rw [f_X2_findMaybes_62] at h
  refine g_inc (pc := 62) dX2_findMaybes_62 (Nat.le_of_ble_eq_true rfl) rfl ic_1 (L' := [some (.ref 87), some (.int (v1 + (1 : Int32))), none]) rfl ?_
  refine g_goto (tgt := 7) (pc := 65) dX2_findMaybes_65 (by decide) ?_
  exact hk7 (v1 + (1 : Int32)) u h
set_option maxRecDepth 100000 in
set_option maxHeartbeats 4000000 in
theorem G_X2_findMaybes_7 {sc : Nat × (Nat → Int32)} {d : Nat} (hd : 1 ≤ d) {u' : xS} : ∀ (n : Nat) (v1 : Int32) (u : xS), f_X2_findMaybes_7 n v1 u = some u' → xG sc mX2_findMaybes d 0 0 (xR none (xL0, u') 0 0) 0 0 7 [some (.ref 87), some (.int v1), none] [] (xL0, u) := by
  intro n
  induction n with
  | zero =>
    intro v1 u h
    rw [f_X2_findMaybes_7] at h
    cases h
  | succ n ih =>
    intro v1 u h
    rw [f_X2_findMaybes_7] at h
    refine g_iload_n (pc := 7) dX2_findMaybes_7 rfl ?_
    refine g_bipush (pc := 8) dX2_findMaybes_8 bp_24 ?_
    refine g_icmp_ge (tgt := 68) (pc := 10) dX2_findMaybes_10 (by decide) (fun c1 => ?_) (fun c1 => ?_)
    · replace h := (if_pos c1).symm.trans h
      replace h := Option.some.inj h
      subst h
      exact g_ret (pc := 68) dX2_findMaybes_68 rfl rfl rfl (Nat.le_refl _) (Nat.le_refl _)
    · replace h := (if_neg c1).symm.trans h
      refine g_aload_n (pc := 13) dX2_findMaybes_13 rfl ?_
      refine g_iload_n (pc := 14) dX2_findMaybes_14 rfl ?_
      obtain ⟨x3, e2, h⟩ := x_bind h
      refine g_cV (pc := 15) dX2_findMaybes_15 cV_RX2_47 (M_X2_badWith (Nat.le_refl _) e2) xc_87 (as := [.int v1]) (st := []) rfl rfl (Nat.le_of_ble_eq_true rfl) (Nat.le_trans (Nat.le_of_ble_eq_true rfl) hd) rfl ?_
      refine g_istore_n (pc := 18) dX2_findMaybes_18 (Nat.le_of_ble_eq_true rfl) (L' := [some (.ref 87), some (.int v1), some (.int x3)]) rfl ?_
      refine g_iload_n (pc := 19) dX2_findMaybes_19 rfl ?_
      refine g_if_eq (tgt := 62) (pc := 20) dX2_findMaybes_20 (by decide) (fun c4 => ?_) (fun c4 => ?_)
      · replace h := (if_pos c4).symm.trans h
        refine g_L (L' := [some (.ref 87), some (.int v1), none]) ⟨rfl, ⟨rfl, trivial⟩⟩ ?_
        exact G_X2_findMaybes_62 hd ih v1 u h
      · replace h := (if_neg c4).symm.trans h
        refine g_aload_n (pc := 23) dX2_findMaybes_23 rfl ?_
        refine g_gI (pc := 24) dX2_findMaybes_24 fI_RX2_30 xc_87 (v := (rd u 87 5)) rfl ?_
        refine g_bipush (pc := 27) dX2_findMaybes_27 bp_24 ?_
        refine g_icmp_ge (tgt := 62) (pc := 29) dX2_findMaybes_29 (by decide) (fun c5 => ?_) (fun c5 => ?_)
        · replace h := (if_pos c5).symm.trans h
          refine g_L (L' := [some (.ref 87), some (.int v1), none]) ⟨rfl, ⟨rfl, trivial⟩⟩ ?_
          exact G_X2_findMaybes_62 hd ih v1 u h
        · replace h := (if_neg c5).symm.trans h
          refine g_aload_n (pc := 32) dX2_findMaybes_32 rfl ?_
          refine g_gR (pc := 33) dX2_findMaybes_33 fR_RX2_24 xc_87 (v := 110) rfl ?_
          refine g_aload_n (pc := 36) dX2_findMaybes_36 rfl ?_
          refine g_gI (pc := 37) dX2_findMaybes_37 fI_RX2_30 xc_87 (v := (rd u 87 5)) rfl ?_
          refine g_iload_n (pc := 40) dX2_findMaybes_40 rfl ?_
          obtain ⟨g6, h⟩ := x_gd h
          refine g_iastore (pc := 41) dX2_findMaybes_41 xc_110 (xin_of g6) (u' := (wr u 110 (rd u 87 5).toNatClampNeg v1)) rfl ?_
          refine g_aload_n (pc := 42) dX2_findMaybes_42 rfl ?_
          refine g_gR (pc := 43) dX2_findMaybes_43 fR_RX2_27 xc_87 (v := 111) rfl ?_
          refine g_aload_n (pc := 46) dX2_findMaybes_46 rfl ?_
          refine g_gI (pc := 47) dX2_findMaybes_47 fI_RX2_30 xc_87 (v := (rd u 87 5)) rfl ?_
          refine g_iload_n (pc := 50) dX2_findMaybes_50 rfl ?_
          refine g_iastore (pc := 51) dX2_findMaybes_51 xc_111 (xin_of g6) (u' := (wr (wr u 110 (rd u 87 5).toNatClampNeg v1) 111 (rd u 87 5).toNatClampNeg x3)) rfl ?_
          refine g_aload_n (pc := 52) dX2_findMaybes_52 rfl ?_
          refine g_dup (pc := 53) dX2_findMaybes_53 rfl ?_
          refine g_gI (pc := 54) dX2_findMaybes_54 fI_RX2_30 xc_87 (v := (rd u 87 5)) rfl ?_
          refine g_iconst (pc := 57) dX2_findMaybes_57 ic_1 ?_
          refine g_iadd (pc := 58) dX2_findMaybes_58 rfl ?_
          refine g_pI (pc := 59) dX2_findMaybes_59 pI_RX2_30 xc_87 (u' := (wr (wr (wr u 110 (rd u 87 5).toNatClampNeg v1) 111 (rd u 87 5).toNatClampNeg x3) 87 5 ((rd u 87 5) + (1 : Int32)))) rfl ?_
          refine g_L (L' := [some (.ref 87), some (.int v1), none]) ⟨rfl, ⟨rfl, trivial⟩⟩ ?_
          exact G_X2_findMaybes_62 hd ih v1 (wr (wr (wr u 110 (rd u 87 5).toNatClampNeg v1) 111 (rd u 87 5).toNatClampNeg x3) 87 5 ((rd u 87 5) + (1 : Int32))) h
set_option maxRecDepth 100000 in
set_option maxHeartbeats 4000000 in
theorem G_X2_findMaybes_0 {sc : Nat × (Nat → Int32)} {d : Nat} (hd : 1 ≤ d) {u' : xS} (u : xS) (h : f_X2_findMaybes u = some u') : xG sc mX2_findMaybes d 0 0 (xR none (xL0, u') 0 0) 0 0 0 [some (.ref 87), none, none] [] (xL0, u) := by
  rw [f_X2_findMaybes] at h
  refine g_aload_n (pc := 0) dX2_findMaybes_0 rfl ?_
  refine g_iconst (pc := 1) dX2_findMaybes_1 ic_0 ?_
  refine g_pI (pc := 2) dX2_findMaybes_2 pI_RX2_30 xc_87 (u' := (wr u 87 5 (0 : Int32))) rfl ?_
  refine g_iconst (pc := 5) dX2_findMaybes_5 ic_0 ?_
  refine g_istore_n (pc := 6) dX2_findMaybes_6 (Nat.le_of_ble_eq_true rfl) (L' := [some (.ref 87), some (.int (0 : Int32)), none]) rfl ?_
  exact G_X2_findMaybes_7 hd xN (0 : Int32) (wr u 87 5 (0 : Int32)) h
set_option maxRecDepth 100000 in
set_option maxHeartbeats 4000000 in
theorem M_X2_findMaybes {sc : Nat × (Nat → Int32)} {d : Nat} (hd : 1 ≤ d) {u u' : xS} (h : f_X2_findMaybes u = some u') : xMt sc mX2_findMaybes d 0 0 [.ref 87] (xL0, u) none (xL0, u') :=
  xMt.of (by decide +kernel) (by decide +kernel) (Nat.le_of_ble_eq_true rfl) (L := [some (.ref 87), none, none]) rfl ((G_X2_findMaybes_0 hd u h))
set_option maxRecDepth 100000 in
set_option maxHeartbeats 4000000 in
theorem G_X2_findSuspects_46 {sc : Nat × (Nat → Int32)} {d : Nat} (hd : 2 ≤ d) {r : Int32} {u' : xS} : ∀ (n : Nat) (v1 : Int32) (v2 : Int32) (u : xS), f_X2_findSuspects_46 n v1 v2 u = some (r, u') → xG sc mX2_findSuspects d 0 0 (xR (some (.int r)) (xL0, u') 0 0) 0 0 46 [some (.ref 87), some (.int v1), some (.int v2)] [] (xL0, u) := by
  intro n
  induction n with
  | zero =>
    intro v1 v2 u h
    rw [f_X2_findSuspects_46] at h
    cases h
  | succ n ih =>
    intro v1 v2 u h
    rw [f_X2_findSuspects_46] at h
    refine g_iload_n (pc := 46) dX2_findSuspects_46 rfl ?_
    refine g_iconst (pc := 47) dX2_findSuspects_47 ic_4 ?_
    refine g_icmp_gt (tgt := 76) (pc := 48) dX2_findSuspects_48 (by decide) (fun c1 => ?_) (fun c1 => ?_)
    · replace h := (if_pos c1).symm.trans h
      refine g_bipush (pc := 76) dX2_findSuspects_76 bp_m2 ?_
      obtain ⟨h1, h2⟩ := x_inj2 h
      subst h1
      subst h2
      exact g_iret (pc := 78) dX2_findSuspects_78 rfl rfl rfl (Nat.le_refl _) (Nat.le_refl _)
    · replace h := (if_neg c1).symm.trans h
      refine g_iload_n (pc := 51) dX2_findSuspects_51 rfl ?_
      refine g_aload_n (pc := 52) dX2_findSuspects_52 rfl ?_
      refine g_gI (pc := 53) dX2_findSuspects_53 fI_RX2_30 xc_87 (v := (rd u 87 5)) rfl ?_
      refine g_icmp_gt (tgt := 76) (pc := 56) dX2_findSuspects_56 (by decide) (fun c2 => ?_) (fun c2 => ?_)
      · replace h := (if_pos c2).symm.trans h
        refine g_bipush (pc := 76) dX2_findSuspects_76 bp_m2 ?_
        obtain ⟨h1, h2⟩ := x_inj2 h
        subst h1
        subst h2
        exact g_iret (pc := 78) dX2_findSuspects_78 rfl rfl rfl (Nat.le_refl _) (Nat.le_refl _)
      · replace h := (if_neg c2).symm.trans h
        refine g_aload_n (pc := 59) dX2_findSuspects_59 rfl ?_
        refine g_iload_n (pc := 60) dX2_findSuspects_60 rfl ?_
        refine g_iload_n (pc := 61) dX2_findSuspects_61 rfl ?_
        obtain ⟨⟨x4, u5⟩, e3, h⟩ := x_bind h
        dsimp only at h
        refine g_cV (pc := 62) dX2_findSuspects_62 cV_RX2_43 (M_X2_chooseRow (Nat.le_refl _) e3) xc_87 (as := [.int v2, .int v1]) (st := []) rfl rfl (Nat.le_of_ble_eq_true rfl) (Nat.le_trans (Nat.le_of_ble_eq_true rfl) hd) rfl ?_
        refine g_if_eq (tgt := 70) (pc := 65) dX2_findSuspects_65 (by decide) (fun c6 => ?_) (fun c6 => ?_)
        · replace h := (if_pos c6).symm.trans h
          refine g_inc (pc := 70) dX2_findSuspects_70 (Nat.le_of_ble_eq_true rfl) rfl ic_1 (L' := [some (.ref 87), some (.int v1), some (.int (v2 + (1 : Int32)))]) rfl ?_
          refine g_goto (tgt := 46) (pc := 73) dX2_findSuspects_73 (by decide) ?_
          exact ih v1 (v2 + (1 : Int32)) u5 h
        · replace h := (if_neg c6).symm.trans h
          refine g_iload_n (pc := 68) dX2_findSuspects_68 rfl ?_
          obtain ⟨h1, h2⟩ := x_inj2 h
          subst h1
          subst h2
          exact g_iret (pc := 69) dX2_findSuspects_69 rfl rfl rfl (Nat.le_refl _) (Nat.le_refl _)
set_option maxRecDepth 100000 in
set_option maxHeartbeats 4000000 in
theorem G_X2_findSuspects_28 {sc : Nat × (Nat → Int32)} {d : Nat} (hd : 2 ≤ d) {r : Int32} {u' : xS} {k4 : Int32 → Int32 → xS → Option (Int32 × xS)} (hk4 : ∀ (v1 : Int32) (v2 : Int32) (u : xS), k4 v1 v2 u = some (r, u') → xG sc mX2_findSuspects d 0 0 (xR (some (.int r)) (xL0, u') 0 0) 0 0 4 [some (.ref 87), some (.int v1), some (.int v2)] [] (xL0, u)) (v1 : Int32) (v2 : Int32) (u : xS) (h : f_X2_findSuspects_28 k4 v1 v2 u = some (r, u')) : xG sc mX2_findSuspects d 0 0 (xR (some (.int r)) (xL0, u') 0 0) 0 0 28 [some (.ref 87), some (.int v1), some (.int v2)] [] (xL0, u) := by
  rw [f_X2_findSuspects_28] at h
  refine g_inc (pc := 28) dX2_findSuspects_28 (Nat.le_of_ble_eq_true rfl) rfl ic_1 (L' := [some (.ref 87), some (.int v1), some (.int (v2 + (1 : Int32)))]) rfl ?_
  refine g_goto (tgt := 4) (pc := 31) dX2_findSuspects_31 (by decide) ?_
  exact hk4 v1 (v2 + (1 : Int32)) u h
set_option maxRecDepth 100000 in
set_option maxHeartbeats 4000000 in
theorem G_X2_findSuspects_4 {sc : Nat × (Nat → Int32)} {d : Nat} (hd : 2 ≤ d) {r : Int32} {u' : xS} : ∀ (n : Nat) (v1 : Int32) (v2 : Int32) (u : xS), f_X2_findSuspects_4 n v1 v2 u = some (r, u') → xG sc mX2_findSuspects d 0 0 (xR (some (.int r)) (xL0, u') 0 0) 0 0 4 [some (.ref 87), some (.int v1), some (.int v2)] [] (xL0, u) := by
  intro n
  induction n with
  | zero =>
    intro v1 v2 u h
    rw [f_X2_findSuspects_4] at h
    cases h
  | succ n ih =>
    intro v1 v2 u h
    rw [f_X2_findSuspects_4] at h
    refine g_iload_n (pc := 4) dX2_findSuspects_4 rfl ?_
    refine g_aload_n (pc := 5) dX2_findSuspects_5 rfl ?_
    refine g_gI (pc := 6) dX2_findSuspects_6 fI_RX2_20 xc_87 (v := (rd u 87 2)) rfl ?_
    refine g_icmp_ge (tgt := 34) (pc := 9) dX2_findSuspects_9 (by decide) (fun c1 => ?_) (fun c1 => ?_)
    · replace h := (if_pos c1).symm.trans h
      refine g_iload_n (pc := 34) dX2_findSuspects_34 rfl ?_
      refine g_if_ne (tgt := 40) (pc := 35) dX2_findSuspects_35 (by decide) (fun c2 => ?_) (fun c2 => ?_)
      · replace h := (if_neg c2).symm.trans h
        refine g_aload_n (pc := 40) dX2_findSuspects_40 rfl ?_
        obtain ⟨u4, e3, h⟩ := x_bind h
        refine g_cV (pc := 41) dX2_findSuspects_41 cV_RX2_40 (M_X2_findMaybes (Nat.le_refl _) e3) xc_87 (as := []) (st := []) rfl rfl (Nat.le_of_ble_eq_true rfl) (Nat.le_trans (Nat.le_of_ble_eq_true rfl) hd) rfl ?_
        refine g_iconst (pc := 44) dX2_findSuspects_44 ic_1 ?_
        refine g_istore_n (pc := 45) dX2_findSuspects_45 (Nat.le_of_ble_eq_true rfl) (L' := [some (.ref 87), some (.int v1), some (.int (1 : Int32))]) rfl ?_
        exact G_X2_findSuspects_46 hd xN v1 (1 : Int32) u4 h
      · replace h := (if_pos c2).symm.trans h
        refine g_iconst (pc := 38) dX2_findSuspects_38 ic_0 ?_
        obtain ⟨h1, h2⟩ := x_inj2 h
        subst h1
        subst h2
        exact g_iret (pc := 39) dX2_findSuspects_39 rfl rfl rfl (Nat.le_refl _) (Nat.le_refl _)
    · replace h := (if_neg c1).symm.trans h
      refine g_aload_n (pc := 12) dX2_findSuspects_12 rfl ?_
      refine g_gR (pc := 13) dX2_findSuspects_13 fR_RX2_16 xc_87 (v := 109) rfl ?_
      refine g_iload_n (pc := 16) dX2_findSuspects_16 rfl ?_
      obtain ⟨g5, h⟩ := x_gd h
      refine g_iaload (pc := 17) dX2_findSuspects_17 xc_109 (xin_of g5) (v := (rd u 109 v2.toNatClampNeg)) rfl ?_
      refine g_iconst (pc := 18) dX2_findSuspects_18 ic_1 ?_
      refine g_icmp_ne (tgt := 28) (pc := 19) dX2_findSuspects_19 (by decide) (fun c6 => ?_) (fun c6 => ?_)
      · replace h := (if_neg c6).symm.trans h
        exact G_X2_findSuspects_28 hd ih v1 v2 u h
      · replace h := (if_pos c6).symm.trans h
        refine g_iload_n (pc := 22) dX2_findSuspects_22 rfl ?_
        refine g_iconst (pc := 23) dX2_findSuspects_23 ic_1 ?_
        refine g_iload_n (pc := 24) dX2_findSuspects_24 rfl ?_
        refine g_ishl (pc := 25) dX2_findSuspects_25 rfl ?_
        refine g_ior (pc := 26) dX2_findSuspects_26 rfl ?_
        refine g_istore_n (pc := 27) dX2_findSuspects_27 (Nat.le_of_ble_eq_true rfl) (L' := [some (.ref 87), some (.int (v1 ||| ((1 : Int32) <<< (v2 &&& 31)))), some (.int v2)]) rfl ?_
        exact G_X2_findSuspects_28 hd ih (v1 ||| ((1 : Int32) <<< (v2 &&& 31))) v2 u h
set_option maxRecDepth 100000 in
set_option maxHeartbeats 4000000 in
theorem G_X2_findSuspects_0 {sc : Nat × (Nat → Int32)} {d : Nat} (hd : 2 ≤ d) {r : Int32} {u' : xS} (u : xS) (h : f_X2_findSuspects u = some (r, u')) : xG sc mX2_findSuspects d 0 0 (xR (some (.int r)) (xL0, u') 0 0) 0 0 0 [some (.ref 87), none, none] [] (xL0, u) := by
  rw [f_X2_findSuspects] at h
  refine g_iconst (pc := 0) dX2_findSuspects_0 ic_0 ?_
  refine g_istore_n (pc := 1) dX2_findSuspects_1 (Nat.le_of_ble_eq_true rfl) (L' := [some (.ref 87), some (.int (0 : Int32)), none]) rfl ?_
  refine g_iconst (pc := 2) dX2_findSuspects_2 ic_0 ?_
  refine g_istore_n (pc := 3) dX2_findSuspects_3 (Nat.le_of_ble_eq_true rfl) (L' := [some (.ref 87), some (.int (0 : Int32)), some (.int (0 : Int32))]) rfl ?_
  exact G_X2_findSuspects_4 hd xN (0 : Int32) (0 : Int32) u h
set_option maxRecDepth 100000 in
set_option maxHeartbeats 4000000 in
theorem M_X2_findSuspects {sc : Nat × (Nat → Int32)} {d : Nat} (hd : 2 ≤ d) {r : Int32} {u u' : xS} (h : f_X2_findSuspects u = some (r, u')) : xMt sc mX2_findSuspects d 0 0 [.ref 87] (xL0, u) (some (.int r)) (xL0, u') :=
  xMt.of (by decide +kernel) (by decide +kernel) (Nat.le_of_ble_eq_true rfl) (L := [some (.ref 87), none, none]) rfl ((G_X2_findSuspects_0 hd u h))
set_option maxRecDepth 100000 in
set_option maxHeartbeats 4000000 in
theorem G_X11_suspects_19 {sc : Nat × (Nat → Int32)} {d : Nat} (hd : 3 ≤ d) {r : Int32} {u' : xS} : ∀ (n : Nat) (v1 : Int32) (v2 : Int32) (u : xS), f_X11_suspects_19 n v1 v2 u = some (r, u') → xG sc mX11_suspects d 0 0 (xR (some (.int r)) (xL0, u') 0 0) 0 0 19 [some (.ref 0), some (.int v1), some (.int v2)] [] (xL0, u) := by
  intro n
  induction n with
  | zero =>
    intro v1 v2 u h
    rw [f_X11_suspects_19] at h
    cases h
  | succ n ih =>
    intro v1 v2 u h
    rw [f_X11_suspects_19] at h
    refine g_iload_n (pc := 19) dX11_suspects_19 rfl ?_
    refine g_iload_n (pc := 20) dX11_suspects_20 rfl ?_
    refine g_icmp_ge (tgt := 42) (pc := 21) dX11_suspects_21 (by decide) (fun c1 => ?_) (fun c1 => ?_)
    · replace h := (if_pos c1).symm.trans h
      refine g_iload_n (pc := 42) dX11_suspects_42 rfl ?_
      obtain ⟨h1, h2⟩ := x_inj2 h
      subst h1
      subst h2
      exact g_iret (pc := 43) dX11_suspects_43 rfl rfl rfl (Nat.le_refl _) (Nat.le_refl _)
    · replace h := (if_neg c1).symm.trans h
      refine g_aload_n (pc := 24) dX11_suspects_24 rfl ?_
      refine g_aload_n (pc := 25) dX11_suspects_25 rfl ?_
      refine g_gR (pc := 26) dX11_suspects_26 fR_RX11_68 xc_0 (v := 87) rfl ?_
      refine g_iload_n (pc := 29) dX11_suspects_29 rfl ?_
      obtain ⟨x3, e2, h⟩ := x_bind h
      refine g_cV (pc := 30) dX11_suspects_30 cV_RX11_368 (M_X2_suspect (Nat.le_refl _) e2) xc_87 (as := [.int v2]) (st := [.ref 0]) rfl rfl (Nat.le_of_ble_eq_true rfl) (Nat.le_trans (Nat.le_of_ble_eq_true rfl) hd) rfl ?_
      obtain ⟨u5, e4, h⟩ := x_bind h
      refine g_cV (pc := 33) dX11_suspects_33 cV_RX11_359 (M_X11_tell (Nat.le_refl _) e4) xc_0 (as := [.int x3]) (st := []) rfl rfl (Nat.le_of_ble_eq_true rfl) (Nat.le_trans (Nat.le_of_ble_eq_true rfl) hd) rfl ?_
      refine g_inc (pc := 36) dX11_suspects_36 (Nat.le_of_ble_eq_true rfl) rfl ic_1 (L' := [some (.ref 0), some (.int v1), some (.int (v2 + (1 : Int32)))]) rfl ?_
      refine g_goto (tgt := 19) (pc := 39) dX11_suspects_39 (by decide) ?_
      exact ih v1 (v2 + (1 : Int32)) u5 h
set_option maxRecDepth 100000 in
set_option maxHeartbeats 4000000 in
theorem G_X11_suspects_0 {sc : Nat × (Nat → Int32)} {d : Nat} (hd : 3 ≤ d) {r : Int32} {u' : xS} (u : xS) (h : f_X11_suspects u = some (r, u')) : xG sc mX11_suspects d 0 0 (xR (some (.int r)) (xL0, u') 0 0) 0 0 0 [some (.ref 0), none, none] [] (xL0, u) := by
  rw [f_X11_suspects] at h
  refine g_aload_n (pc := 0) dX11_suspects_0 rfl ?_
  refine g_gR (pc := 1) dX11_suspects_1 fR_RX11_68 xc_0 (v := 87) rfl ?_
  obtain ⟨⟨x2, u3⟩, e1, h⟩ := x_bind h
  dsimp only at h
  refine g_cV (pc := 4) dX11_suspects_4 cV_RX11_365 (M_X2_findSuspects (Nat.le_refl _) e1) xc_87 (as := []) (st := []) rfl rfl (Nat.le_of_ble_eq_true rfl) (Nat.le_trans (Nat.le_of_ble_eq_true rfl) hd) rfl ?_
  refine g_istore_n (pc := 7) dX11_suspects_7 (Nat.le_of_ble_eq_true rfl) (L' := [some (.ref 0), some (.int x2), none]) rfl ?_
  refine g_iload_n (pc := 8) dX11_suspects_8 rfl ?_
  refine g_if_lt (tgt := 42) (pc := 9) dX11_suspects_9 (by decide) (fun c4 => ?_) (fun c4 => ?_)
  · replace h := (if_pos c4).symm.trans h
    refine g_iload_n (pc := 42) dX11_suspects_42 rfl ?_
    obtain ⟨h1, h2⟩ := x_inj2 h
    subst h1
    subst h2
    exact g_iret (pc := 43) dX11_suspects_43 rfl rfl rfl (Nat.le_refl _) (Nat.le_refl _)
  · replace h := (if_neg c4).symm.trans h
    refine g_aload_n (pc := 12) dX11_suspects_12 rfl ?_
    refine g_iconst (pc := 13) dX11_suspects_13 ic_0 ?_
    refine g_pI (pc := 14) dX11_suspects_14 pI_RX11_90 xc_0 (u' := (wr u3 0 12 (0 : Int32))) rfl ?_
    refine g_iconst (pc := 17) dX11_suspects_17 ic_0 ?_
    refine g_istore_n (pc := 18) dX11_suspects_18 (Nat.le_of_ble_eq_true rfl) (L' := [some (.ref 0), some (.int x2), some (.int (0 : Int32))]) rfl ?_
    exact G_X11_suspects_19 hd xN x2 (0 : Int32) (wr u3 0 12 (0 : Int32)) h
set_option maxRecDepth 100000 in
set_option maxHeartbeats 4000000 in
theorem M_X11_suspects {sc : Nat × (Nat → Int32)} {d : Nat} (hd : 3 ≤ d) {r : Int32} {u u' : xS} (h : f_X11_suspects u = some (r, u')) : xMt sc mX11_suspects d 0 0 [.ref 0] (xL0, u) (some (.int r)) (xL0, u') :=
  xMt.of (by decide +kernel) (by decide +kernel) (Nat.le_of_ble_eq_true rfl) (L := [some (.ref 0), none, none]) rfl ((G_X11_suspects_0 hd u h))
set_option maxRecDepth 100000 in
set_option maxHeartbeats 4000000 in
theorem G_X11_takes_0 {sc : Nat × (Nat → Int32)} {d : Nat} (hd : 2 ≤ d) {r : Int32} {u' : xS} (v1 : Int32) (v2 : Int32) (u : xS) (h : f_X11_takes v1 v2 u = some (r, u')) : xG sc mX11_takes d 0 0 (xR (some (.int r)) (xL0, u') 0 0) 0 0 0 [some (.ref 0), some (.int v1), some (.int v2), none] [] (xL0, u) := by
  rw [f_X11_takes] at h
  refine g_iload_n (pc := 0) dX11_takes_0 rfl ?_
  refine g_cS (pc := 1) dX11_takes_1 cS_RX11_382 (M_X11_isLand (Nat.le_refl _) rfl) (as := [.int v1]) (st := []) rfl rfl (Nat.le_of_ble_eq_true rfl) (Nat.le_trans (Nat.le_of_ble_eq_true rfl) hd) rfl ?_
  refine g_if_eq (tgt := 17) (pc := 4) dX11_takes_4 (by decide) (fun c1 => ?_) (fun c1 => ?_)
  · replace h := (if_pos c1).symm.trans h
    refine g_iconst (pc := 17) dX11_takes_17 ic_m1 ?_
    obtain ⟨h1, h2⟩ := x_inj2 h
    subst h1
    subst h2
    exact g_iret (pc := 18) dX11_takes_18 rfl rfl rfl (Nat.le_refl _) (Nat.le_refl _)
  · replace h := (if_neg c1).symm.trans h
    refine g_iload_n (pc := 7) dX11_takes_7 rfl ?_
    refine g_iconst (pc := 8) dX11_takes_8 ic_0 ?_
    refine g_bipush (pc := 9) dX11_takes_9 bp_8 ?_
    refine g_cS (pc := 11) dX11_takes_11 cS_RX11_94 (M_X11_lies (Nat.le_refl _) rfl) (as := [.int v2, .int (0 : Int32), .int (8 : Int32)]) (st := []) rfl rfl (Nat.le_of_ble_eq_true rfl) (Nat.le_trans (Nat.le_of_ble_eq_true rfl) hd) rfl ?_
    refine g_if_ne (tgt := 19) (pc := 14) dX11_takes_14 (by decide) (fun c2 => ?_) (fun c2 => ?_)
    · replace h := (if_neg c2).symm.trans h
      refine g_aload_n (pc := 19) dX11_takes_19 rfl ?_
      refine g_gR (pc := 20) dX11_takes_20 fR_RX11_82 xc_0 (v := 121) rfl ?_
      refine g_gR (pc := 23) dX11_takes_23 fR_RX11_388 xc_121 (v := 127) rfl ?_
      refine g_iload_n (pc := 26) dX11_takes_26 rfl ?_
      obtain ⟨g3, h⟩ := x_gd h
      refine g_iaload (pc := 27) dX11_takes_27 xc_127 (xin_of g3) (v := (rd u 127 v1.toNatClampNeg)) rfl ?_
      refine g_istore_n (pc := 28) dX11_takes_28 (Nat.le_of_ble_eq_true rfl) (L' := [some (.ref 0), some (.int v1), some (.int v2), some (.int (rd u 127 v1.toNatClampNeg))]) rfl ?_
      refine g_aload_n (pc := 29) dX11_takes_29 rfl ?_
      refine g_gR (pc := 30) dX11_takes_30 fR_RX11_82 xc_0 (v := 121) rfl ?_
      refine g_gR (pc := 33) dX11_takes_33 fR_RX11_388 xc_121 (v := 127) rfl ?_
      refine g_iload_n (pc := 36) dX11_takes_36 rfl ?_
      refine g_iload_n (pc := 37) dX11_takes_37 rfl ?_
      refine g_iastore (pc := 38) dX11_takes_38 xc_127 (xin_of g3) (u' := (wr u 127 v1.toNatClampNeg v2)) rfl ?_
      refine g_iload_n (pc := 39) dX11_takes_39 rfl ?_
      obtain ⟨h1, h2⟩ := x_inj2 h
      subst h1
      subst h2
      exact g_iret (pc := 40) dX11_takes_40 rfl rfl rfl (Nat.le_refl _) (Nat.le_refl _)
    · replace h := (if_pos c2).symm.trans h
      refine g_iconst (pc := 17) dX11_takes_17 ic_m1 ?_
      obtain ⟨h1, h2⟩ := x_inj2 h
      subst h1
      subst h2
      exact g_iret (pc := 18) dX11_takes_18 rfl rfl rfl (Nat.le_refl _) (Nat.le_refl _)
set_option maxRecDepth 100000 in
set_option maxHeartbeats 4000000 in
theorem M_X11_takes {sc : Nat × (Nat → Int32)} {d : Nat} (hd : 2 ≤ d) {r : Int32} {u u' : xS} {a1 : Int32} {a2 : Int32} (h : f_X11_takes a1 a2 u = some (r, u')) : xMt sc mX11_takes d 0 0 [.ref 0, .int a1, .int a2] (xL0, u) (some (.int r)) (xL0, u') :=
  xMt.of (by decide +kernel) (by decide +kernel) (Nat.le_of_ble_eq_true rfl) (L := [some (.ref 0), some (.int a1), some (.int a2), none]) rfl ((G_X11_takes_0 hd a1 a2 u h))
set_option maxRecDepth 100000 in
set_option maxHeartbeats 4000000 in
theorem G_X7_level_0 {sc : Nat × (Nat → Int32)} {d : Nat} (hd : 0 ≤ d) {r : Int32} {u : xS} (v0 : Int32) (h : f_X7_level v0 = r) : xG sc mX7_level d 0 0 (xR (some (.int r)) (xL0, u) 0 0) 0 0 0 [some (.int v0)] [] (xL0, u) := by
  rw [f_X7_level] at h
  refine g_iload_n (pc := 0) dX7_level_0 rfl ?_
  by_cases c1 : v0 = (33 : Int32)
  · replace h := (if_pos c1).symm.trans h
    refine g_lookup (tgt := 118) (off := 117) (pc := 1) dX7_level_1 (by decide) (by rw [c1]; decide) (by decide) ?_
    refine g_bipush (pc := 118) dX7_level_118 bp_6 ?_
    subst h
    exact g_iret (pc := 120) dX7_level_120 rfl rfl rfl (Nat.le_refl _) (Nat.le_refl _)
  replace h := (if_neg c1).symm.trans h
  by_cases c2 : v0 = (37 : Int32)
  · replace h := (if_pos c2).symm.trans h
    refine g_lookup (tgt := 116) (off := 115) (pc := 1) dX7_level_1 (by decide) (by rw [c2]; decide) (by decide) ?_
    refine g_iconst (pc := 116) dX7_level_116 ic_5 ?_
    subst h
    exact g_iret (pc := 117) dX7_level_117 rfl rfl rfl (Nat.le_refl _) (Nat.le_refl _)
  replace h := (if_neg c2).symm.trans h
  by_cases c3 : v0 = (38 : Int32)
  · replace h := (if_pos c3).symm.trans h
    refine g_lookup (tgt := 110) (off := 109) (pc := 1) dX7_level_1 (by decide) (by rw [c3]; decide) (by decide) ?_
    refine g_iconst (pc := 110) dX7_level_110 ic_2 ?_
    subst h
    exact g_iret (pc := 111) dX7_level_111 rfl rfl rfl (Nat.le_refl _) (Nat.le_refl _)
  replace h := (if_neg c3).symm.trans h
  by_cases c4 : v0 = (42 : Int32)
  · replace h := (if_pos c4).symm.trans h
    refine g_lookup (tgt := 116) (off := 115) (pc := 1) dX7_level_1 (by decide) (by rw [c4]; decide) (by decide) ?_
    refine g_iconst (pc := 116) dX7_level_116 ic_5 ?_
    subst h
    exact g_iret (pc := 117) dX7_level_117 rfl rfl rfl (Nat.le_refl _) (Nat.le_refl _)
  replace h := (if_neg c4).symm.trans h
  by_cases c5 : v0 = (43 : Int32)
  · replace h := (if_pos c5).symm.trans h
    refine g_lookup (tgt := 114) (off := 113) (pc := 1) dX7_level_1 (by decide) (by rw [c5]; decide) (by decide) ?_
    refine g_iconst (pc := 114) dX7_level_114 ic_4 ?_
    subst h
    exact g_iret (pc := 115) dX7_level_115 rfl rfl rfl (Nat.le_refl _) (Nat.le_refl _)
  replace h := (if_neg c5).symm.trans h
  by_cases c6 : v0 = (45 : Int32)
  · replace h := (if_pos c6).symm.trans h
    refine g_lookup (tgt := 114) (off := 113) (pc := 1) dX7_level_1 (by decide) (by rw [c6]; decide) (by decide) ?_
    refine g_iconst (pc := 114) dX7_level_114 ic_4 ?_
    subst h
    exact g_iret (pc := 115) dX7_level_115 rfl rfl rfl (Nat.le_refl _) (Nat.le_refl _)
  replace h := (if_neg c6).symm.trans h
  by_cases c7 : v0 = (47 : Int32)
  · replace h := (if_pos c7).symm.trans h
    refine g_lookup (tgt := 116) (off := 115) (pc := 1) dX7_level_1 (by decide) (by rw [c7]; decide) (by decide) ?_
    refine g_iconst (pc := 116) dX7_level_116 ic_5 ?_
    subst h
    exact g_iret (pc := 117) dX7_level_117 rfl rfl rfl (Nat.le_refl _) (Nat.le_refl _)
  replace h := (if_neg c7).symm.trans h
  by_cases c8 : v0 = (60 : Int32)
  · replace h := (if_pos c8).symm.trans h
    refine g_lookup (tgt := 112) (off := 111) (pc := 1) dX7_level_1 (by decide) (by rw [c8]; decide) (by decide) ?_
    refine g_iconst (pc := 112) dX7_level_112 ic_3 ?_
    subst h
    exact g_iret (pc := 113) dX7_level_113 rfl rfl rfl (Nat.le_refl _) (Nat.le_refl _)
  replace h := (if_neg c8).symm.trans h
  by_cases c9 : v0 = (61 : Int32)
  · replace h := (if_pos c9).symm.trans h
    refine g_lookup (tgt := 112) (off := 111) (pc := 1) dX7_level_1 (by decide) (by rw [c9]; decide) (by decide) ?_
    refine g_iconst (pc := 112) dX7_level_112 ic_3 ?_
    subst h
    exact g_iret (pc := 113) dX7_level_113 rfl rfl rfl (Nat.le_refl _) (Nat.le_refl _)
  replace h := (if_neg c9).symm.trans h
  by_cases c10 : v0 = (62 : Int32)
  · replace h := (if_pos c10).symm.trans h
    refine g_lookup (tgt := 112) (off := 111) (pc := 1) dX7_level_1 (by decide) (by rw [c10]; decide) (by decide) ?_
    refine g_iconst (pc := 112) dX7_level_112 ic_3 ?_
    subst h
    exact g_iret (pc := 113) dX7_level_113 rfl rfl rfl (Nat.le_refl _) (Nat.le_refl _)
  replace h := (if_neg c10).symm.trans h
  by_cases c11 : v0 = (124 : Int32)
  · replace h := (if_pos c11).symm.trans h
    refine g_lookup (tgt := 108) (off := 107) (pc := 1) dX7_level_1 (by decide) (by rw [c11]; decide) (by decide) ?_
    refine g_iconst (pc := 108) dX7_level_108 ic_1 ?_
    subst h
    exact g_iret (pc := 109) dX7_level_109 rfl rfl rfl (Nat.le_refl _) (Nat.le_refl _)
  replace h := (if_neg c11).symm.trans h
  by_cases c12 : v0 = (126 : Int32)
  · replace h := (if_pos c12).symm.trans h
    refine g_lookup (tgt := 118) (off := 117) (pc := 1) dX7_level_1 (by decide) (by rw [c12]; decide) (by decide) ?_
    refine g_bipush (pc := 118) dX7_level_118 bp_6 ?_
    subst h
    exact g_iret (pc := 120) dX7_level_120 rfl rfl rfl (Nat.le_refl _) (Nat.le_refl _)
  replace h := (if_neg c12).symm.trans h
  have c1i := i32_ne c1 (m := 33) (by decide)
  have c2i := i32_ne c2 (m := 37) (by decide)
  have c3i := i32_ne c3 (m := 38) (by decide)
  have c4i := i32_ne c4 (m := 42) (by decide)
  have c5i := i32_ne c5 (m := 43) (by decide)
  have c6i := i32_ne c6 (m := 45) (by decide)
  have c7i := i32_ne c7 (m := 47) (by decide)
  have c8i := i32_ne c8 (m := 60) (by decide)
  have c9i := i32_ne c9 (m := 61) (by decide)
  have c10i := i32_ne c10 (m := 62) (by decide)
  have c11i := i32_ne c11 (m := 124) (by decide)
  have c12i := i32_ne c12 (m := 126) (by decide)
  refine g_lookup (tgt := 121) (off := 120) (pc := 1) dX7_level_1 (by decide) (x_lsw (by simp [c1i, Ne.symm c1i, c2i, Ne.symm c2i, c3i, Ne.symm c3i, c4i, Ne.symm c4i, c5i, Ne.symm c5i, c6i, Ne.symm c6i, c7i, Ne.symm c7i, c8i, Ne.symm c8i, c9i, Ne.symm c9i, c10i, Ne.symm c10i, c11i, Ne.symm c11i, c12i, Ne.symm c12i])) (by decide) ?_
  refine g_iconst (pc := 121) dX7_level_121 ic_0 ?_
  subst h
  exact g_iret (pc := 122) dX7_level_122 rfl rfl rfl (Nat.le_refl _) (Nat.le_refl _)
set_option maxRecDepth 100000 in
set_option maxHeartbeats 4000000 in
theorem M_X7_level {sc : Nat × (Nat → Int32)} {d : Nat} (hd : 0 ≤ d) {r : Int32} {u : xS} {a0 : Int32} (h : f_X7_level a0 = r) : xMt sc mX7_level d 0 0 [.int a0] (xL0, u) (some (.int r)) (xL0, u) :=
  xMt.of (by decide +kernel) (by decide +kernel) (Nat.le_of_ble_eq_true rfl) (L := [some (.int a0)]) rfl ((G_X7_level_0 hd a0 h))
set_option maxRecDepth 100000 in
set_option maxHeartbeats 4000000 in
theorem G_X7_emit_0 {sc : Nat × (Nat → Int32)} {d : Nat} (hd : 0 ≤ d) {u' : xS} (v1 : Int32) (u : xS) (h : f_X7_emit v1 u = some u') : xG sc mX7_emit d 0 0 (xR none (xL0, u') 0 0) 0 0 0 [some (.ref 54), some (.int v1)] [] (xL0, u) := by
  rw [f_X7_emit] at h
  refine g_aload_n (pc := 0) dX7_emit_0 rfl ?_
  refine g_gI (pc := 1) dX7_emit_1 fI_RX7_48 xc_54 (v := (rd u 54 1)) rfl ?_
  refine g_bipush (pc := 4) dX7_emit_4 bp_64 ?_
  refine g_icmp_ge (tgt := 29) (pc := 6) dX7_emit_6 (by decide) (fun c1 => ?_) (fun c1 => ?_)
  · replace h := (if_pos c1).symm.trans h
    replace h := Option.some.inj h
    subst h
    exact g_ret (pc := 29) dX7_emit_29 rfl rfl rfl (Nat.le_refl _) (Nat.le_refl _)
  · replace h := (if_neg c1).symm.trans h
    refine g_aload_n (pc := 9) dX7_emit_9 rfl ?_
    refine g_gR (pc := 10) dX7_emit_10 fR_RX7_11 xc_54 (v := 55) rfl ?_
    refine g_aload_n (pc := 13) dX7_emit_13 rfl ?_
    refine g_gI (pc := 14) dX7_emit_14 fI_RX7_48 xc_54 (v := (rd u 54 1)) rfl ?_
    refine g_iload_n (pc := 17) dX7_emit_17 rfl ?_
    obtain ⟨g2, h⟩ := x_gd h
    refine g_iastore (pc := 18) dX7_emit_18 xc_55 (xin_of g2) (u' := (wr u 55 (rd u 54 1).toNatClampNeg v1)) rfl ?_
    refine g_aload_n (pc := 19) dX7_emit_19 rfl ?_
    refine g_dup (pc := 20) dX7_emit_20 rfl ?_
    refine g_gI (pc := 21) dX7_emit_21 fI_RX7_48 xc_54 (v := (rd u 54 1)) rfl ?_
    refine g_iconst (pc := 24) dX7_emit_24 ic_1 ?_
    refine g_iadd (pc := 25) dX7_emit_25 rfl ?_
    refine g_pI (pc := 26) dX7_emit_26 pI_RX7_48 xc_54 (u' := (wr (wr u 55 (rd u 54 1).toNatClampNeg v1) 54 1 ((rd u 54 1) + (1 : Int32)))) rfl ?_
    replace h := Option.some.inj h
    subst h
    exact g_ret (pc := 29) dX7_emit_29 rfl rfl rfl (Nat.le_refl _) (Nat.le_refl _)
set_option maxRecDepth 100000 in
set_option maxHeartbeats 4000000 in
theorem M_X7_emit {sc : Nat × (Nat → Int32)} {d : Nat} (hd : 0 ≤ d) {u u' : xS} {a1 : Int32} (h : f_X7_emit a1 u = some u') : xMt sc mX7_emit d 0 0 [.ref 54, .int a1] (xL0, u) none (xL0, u') :=
  xMt.of (by decide +kernel) (by decide +kernel) (Nat.le_of_ble_eq_true rfl) (L := [some (.ref 54), some (.int a1)]) rfl ((G_X7_emit_0 hd a1 u h))
set_option maxRecDepth 100000 in
set_option maxHeartbeats 4000000 in
theorem G_X7_bringOut_0 {sc : Nat × (Nat → Int32)} {d : Nat} (hd : 1 ≤ d) {u' : xS} : ∀ (n : Nat) (v1 : Int32) (u : xS), f_X7_bringOut_0 n v1 u = some u' → xG sc mX7_bringOut d 0 0 (xR none (xL0, u') 0 0) 0 0 0 [some (.ref 54), some (.int v1)] [] (xL0, u) := by
  intro n
  induction n with
  | zero =>
    intro v1 u h
    rw [f_X7_bringOut_0] at h
    cases h
  | succ n ih =>
    intro v1 u h
    rw [f_X7_bringOut_0] at h
    refine g_aload_n (pc := 0) dX7_bringOut_0 rfl ?_
    refine g_gI (pc := 1) dX7_bringOut_1 fI_RX7_51 xc_54 (v := (rd u 54 3)) rfl ?_
    refine g_if_le (tgt := 52) (pc := 4) dX7_bringOut_4 (by decide) (fun c1 => ?_) (fun c1 => ?_)
    · replace h := (if_pos c1).symm.trans h
      replace h := Option.some.inj h
      subst h
      exact g_ret (pc := 52) dX7_bringOut_52 rfl rfl rfl (Nat.le_refl _) (Nat.le_refl _)
    · replace h := (if_neg c1).symm.trans h
      refine g_aload_n (pc := 7) dX7_bringOut_7 rfl ?_
      refine g_gR (pc := 8) dX7_bringOut_8 fR_RX7_15 xc_54 (v := 56) rfl ?_
      refine g_aload_n (pc := 11) dX7_bringOut_11 rfl ?_
      refine g_gI (pc := 12) dX7_bringOut_12 fI_RX7_51 xc_54 (v := (rd u 54 3)) rfl ?_
      refine g_iconst (pc := 15) dX7_bringOut_15 ic_1 ?_
      refine g_isub (pc := 16) dX7_bringOut_16 rfl ?_
      obtain ⟨g2, h⟩ := x_gd h
      refine g_iaload (pc := 17) dX7_bringOut_17 xc_56 (xin_of g2) (v := (rd u 56 ((rd u 54 3) - (1 : Int32)).toNatClampNeg)) rfl ?_
      refine g_cS (pc := 18) dX7_bringOut_18 cS_RX7_85 (M_X7_level (Nat.le_refl _) rfl) (as := [.int (rd u 56 ((rd u 54 3) - (1 : Int32)).toNatClampNeg)]) (st := []) rfl rfl (Nat.le_of_ble_eq_true rfl) (Nat.le_trans (Nat.le_of_ble_eq_true rfl) hd) rfl ?_
      refine g_iload_n (pc := 21) dX7_bringOut_21 rfl ?_
      refine g_icmp_lt (tgt := 52) (pc := 22) dX7_bringOut_22 (by decide) (fun c3 => ?_) (fun c3 => ?_)
      · replace h := (if_pos c3).symm.trans h
        replace h := Option.some.inj h
        subst h
        exact g_ret (pc := 52) dX7_bringOut_52 rfl rfl rfl (Nat.le_refl _) (Nat.le_refl _)
      · replace h := (if_neg c3).symm.trans h
        refine g_aload_n (pc := 25) dX7_bringOut_25 rfl ?_
        refine g_dup (pc := 26) dX7_bringOut_26 rfl ?_
        refine g_gI (pc := 27) dX7_bringOut_27 fI_RX7_51 xc_54 (v := (rd u 54 3)) rfl ?_
        refine g_iconst (pc := 30) dX7_bringOut_30 ic_1 ?_
        refine g_isub (pc := 31) dX7_bringOut_31 rfl ?_
        refine g_pI (pc := 32) dX7_bringOut_32 pI_RX7_51 xc_54 (u' := (wr u 54 3 ((rd u 54 3) - (1 : Int32)))) rfl ?_
        refine g_aload_n (pc := 35) dX7_bringOut_35 rfl ?_
        refine g_aload_n (pc := 36) dX7_bringOut_36 rfl ?_
        refine g_gR (pc := 37) dX7_bringOut_37 fR_RX7_15 xc_54 (v := 56) rfl ?_
        refine g_aload_n (pc := 40) dX7_bringOut_40 rfl ?_
        refine g_gI (pc := 41) dX7_bringOut_41 fI_RX7_51 xc_54 (v := ((rd u 54 3) - (1 : Int32))) rfl ?_
        refine g_iaload (pc := 44) dX7_bringOut_44 xc_56 (xin_of g2) (v := (rd u 56 ((rd u 54 3) - (1 : Int32)).toNatClampNeg)) rfl ?_
        refine g_ineg (pc := 45) dX7_bringOut_45 rfl ?_
        obtain ⟨u5, e4, h⟩ := x_bind h
        refine g_cV (pc := 46) dX7_bringOut_46 cV_RX7_45 (M_X7_emit (Nat.le_refl _) e4) xc_54 (as := [.int (-(rd u 56 ((rd u 54 3) - (1 : Int32)).toNatClampNeg))]) (st := []) rfl rfl (Nat.le_of_ble_eq_true rfl) (Nat.le_trans (Nat.le_of_ble_eq_true rfl) hd) rfl ?_
        refine g_goto (tgt := 0) (pc := 49) dX7_bringOut_49 (by decide) ?_
        exact ih v1 u5 h
set_option maxRecDepth 100000 in
set_option maxHeartbeats 4000000 in
theorem M_X7_bringOut {sc : Nat × (Nat → Int32)} {d : Nat} (hd : 1 ≤ d) {u u' : xS} {a1 : Int32} (h : f_X7_bringOut_0 xN a1 u = some u') : xMt sc mX7_bringOut d 0 0 [.ref 54, .int a1] (xL0, u) none (xL0, u') :=
  xMt.of (by decide +kernel) (by decide +kernel) (Nat.le_of_ble_eq_true rfl) (L := [some (.ref 54), some (.int a1)]) rfl ((G_X7_bringOut_0 hd xN a1 u h))
theorem zb_X7_isDigit (v0 : Int32) : f_X7_isDigit v0 = 0 ∨ f_X7_isDigit v0 = 1 := by
  unfold f_X7_isDigit
  repeat' first | exact Or.inl rfl | exact Or.inr rfl | exact zb_X11_lies _ _ _ | apply x_ite
set_option maxRecDepth 100000 in
set_option maxHeartbeats 4000000 in
theorem G_X7_isDigit_0 {sc : Nat × (Nat → Int32)} {d : Nat} (hd : 1 ≤ d) {r : Int32} {u : xS} (v0 : Int32) (h : f_X7_isDigit v0 = r) : xG sc mX7_isDigit d 0 0 (xR (some (.int r)) (xL0, u) 0 0) 0 0 0 [some (.int v0)] [] (xL0, u) := by
  rw [f_X7_isDigit] at h
  refine g_iload_n (pc := 0) dX7_isDigit_0 rfl ?_
  refine g_bipush (pc := 1) dX7_isDigit_1 bp_48 ?_
  refine g_bipush (pc := 3) dX7_isDigit_3 bp_57 ?_
  refine g_cN (pc := 5) dX7_isDigit_5 cN_RX7_89 (M_X11_lies (Nat.le_refl _) rfl) (as := [.int v0, .int (48 : Int32), .int (57 : Int32)]) (st := []) rfl rfl (Nat.le_of_ble_eq_true rfl) (Nat.le_trans (Nat.le_of_ble_eq_true rfl) hd) rfl ?_
  subst h
  exact g_zret (pc := 8) dX7_isDigit_8 rfl (zb_X11_lies _ _ _) rfl rfl (Nat.le_refl _) (Nat.le_refl _)
set_option maxRecDepth 100000 in
set_option maxHeartbeats 4000000 in
theorem M_X7_isDigit {sc : Nat × (Nat → Int32)} {d : Nat} (hd : 1 ≤ d) {r : Int32} {u : xS} {a0 : Int32} (h : f_X7_isDigit a0 = r) : xMt sc mX7_isDigit d 0 0 [.int a0] (xL0, u) (some (.int r)) (xL0, u) :=
  xMt.of (by decide +kernel) (by decide +kernel) (Nat.le_of_ble_eq_true rfl) (L := [some (.int a0)]) rfl ((G_X7_isDigit_0 hd a0 h))
theorem zb_X7_joins (v0 : Int32) : f_X7_joins v0 = 0 ∨ f_X7_joins v0 = 1 := by
  unfold f_X7_joins
  repeat' first | exact Or.inl rfl | exact Or.inr rfl | exact zb_X11_lies _ _ _ | apply x_ite
set_option maxRecDepth 100000 in
set_option maxHeartbeats 4000000 in
theorem G_X7_joins_0 {sc : Nat × (Nat → Int32)} {d : Nat} (hd : 1 ≤ d) {r : Int32} {u : xS} (v0 : Int32) (h : f_X7_joins v0 = r) : xG sc mX7_joins d 0 0 (xR (some (.int r)) (xL0, u) 0 0) 0 0 0 [some (.int v0)] [] (xL0, u) := by
  rw [f_X7_joins] at h
  refine g_iload_n (pc := 0) dX7_joins_0 rfl ?_
  refine g_cS (pc := 1) dX7_joins_1 cS_RX7_85 (M_X7_level (Nat.le_refl _) rfl) (as := [.int v0]) (st := []) rfl rfl (Nat.le_of_ble_eq_true rfl) (Nat.le_trans (Nat.le_of_ble_eq_true rfl) hd) rfl ?_
  refine g_iconst (pc := 4) dX7_joins_4 ic_1 ?_
  refine g_iconst (pc := 5) dX7_joins_5 ic_5 ?_
  refine g_cN (pc := 6) dX7_joins_6 cN_RX7_89 (M_X11_lies (Nat.le_refl _) rfl) (as := [.int (f_X7_level v0), .int (1 : Int32), .int (5 : Int32)]) (st := []) rfl rfl (Nat.le_of_ble_eq_true rfl) (Nat.le_trans (Nat.le_of_ble_eq_true rfl) hd) rfl ?_
  subst h
  exact g_zret (pc := 9) dX7_joins_9 rfl (zb_X11_lies _ _ _) rfl rfl (Nat.le_refl _) (Nat.le_refl _)
set_option maxRecDepth 100000 in
set_option maxHeartbeats 4000000 in
theorem M_X7_joins {sc : Nat × (Nat → Int32)} {d : Nat} (hd : 1 ≤ d) {r : Int32} {u : xS} {a0 : Int32} (h : f_X7_joins a0 = r) : xMt sc mX7_joins d 0 0 [.int a0] (xL0, u) (some (.int r)) (xL0, u) :=
  xMt.of (by decide +kernel) (by decide +kernel) (Nat.le_of_ble_eq_true rfl) (L := [some (.int a0)]) rfl ((G_X7_joins_0 hd a0 h))
set_option maxRecDepth 100000 in
set_option maxHeartbeats 4000000 in
theorem G_X7_hold_0 {sc : Nat × (Nat → Int32)} {d : Nat} (hd : 0 ≤ d) {u' : xS} (v1 : Int32) (u : xS) (h : f_X7_hold v1 u = some u') : xG sc mX7_hold d 0 0 (xR none (xL0, u') 0 0) 0 0 0 [some (.ref 54), some (.int v1)] [] (xL0, u) := by
  rw [f_X7_hold] at h
  refine g_aload_n (pc := 0) dX7_hold_0 rfl ?_
  refine g_gI (pc := 1) dX7_hold_1 fI_RX7_51 xc_54 (v := (rd u 54 3)) rfl ?_
  refine g_bipush (pc := 4) dX7_hold_4 bp_64 ?_
  refine g_icmp_ge (tgt := 29) (pc := 6) dX7_hold_6 (by decide) (fun c1 => ?_) (fun c1 => ?_)
  · replace h := (if_pos c1).symm.trans h
    replace h := Option.some.inj h
    subst h
    exact g_ret (pc := 29) dX7_hold_29 rfl rfl rfl (Nat.le_refl _) (Nat.le_refl _)
  · replace h := (if_neg c1).symm.trans h
    refine g_aload_n (pc := 9) dX7_hold_9 rfl ?_
    refine g_gR (pc := 10) dX7_hold_10 fR_RX7_15 xc_54 (v := 56) rfl ?_
    refine g_aload_n (pc := 13) dX7_hold_13 rfl ?_
    refine g_gI (pc := 14) dX7_hold_14 fI_RX7_51 xc_54 (v := (rd u 54 3)) rfl ?_
    refine g_iload_n (pc := 17) dX7_hold_17 rfl ?_
    obtain ⟨g2, h⟩ := x_gd h
    refine g_iastore (pc := 18) dX7_hold_18 xc_56 (xin_of g2) (u' := (wr u 56 (rd u 54 3).toNatClampNeg v1)) rfl ?_
    refine g_aload_n (pc := 19) dX7_hold_19 rfl ?_
    refine g_dup (pc := 20) dX7_hold_20 rfl ?_
    refine g_gI (pc := 21) dX7_hold_21 fI_RX7_51 xc_54 (v := (rd u 54 3)) rfl ?_
    refine g_iconst (pc := 24) dX7_hold_24 ic_1 ?_
    refine g_iadd (pc := 25) dX7_hold_25 rfl ?_
    refine g_pI (pc := 26) dX7_hold_26 pI_RX7_51 xc_54 (u' := (wr (wr u 56 (rd u 54 3).toNatClampNeg v1) 54 3 ((rd u 54 3) + (1 : Int32)))) rfl ?_
    replace h := Option.some.inj h
    subst h
    exact g_ret (pc := 29) dX7_hold_29 rfl rfl rfl (Nat.le_refl _) (Nat.le_refl _)
set_option maxRecDepth 100000 in
set_option maxHeartbeats 4000000 in
theorem M_X7_hold {sc : Nat × (Nat → Int32)} {d : Nat} (hd : 0 ≤ d) {u u' : xS} {a1 : Int32} (h : f_X7_hold a1 u = some u') : xMt sc mX7_hold d 0 0 [.ref 54, .int a1] (xL0, u) none (xL0, u') :=
  xMt.of (by decide +kernel) (by decide +kernel) (Nat.le_of_ble_eq_true rfl) (L := [some (.ref 54), some (.int a1)]) rfl ((G_X7_hold_0 hd a1 u h))
