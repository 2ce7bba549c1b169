set_option maxRecDepth 100000 in
set_option maxHeartbeats 4000000 in
theorem G_X10_work_60 {sc : Nat × (Nat → Int32)} {d : Nat} (hd : 1 ≤ d) {u' : xS} (s1 : Int32) (u : xS) (h : f_X10_work_60 s1 u = some u') : xG sc mX10_work d 0 0 (xR none (xL0, u') 0 0) 0 0 60 [none, none, none] [.int s1, .ref 58] (xL0, u) := by
  rw [f_X10_work_60] at h
  obtain ⟨u2, e1, h⟩ := x_bind h
  refine g_cV (pc := 60) dX10_work_60 cV_RX10_73 (M_X10_push (Nat.le_refl _) e1) xc_58 (as := [.int s1]) (st := []) rfl rfl (Nat.le_of_ble_eq_true rfl) (Nat.le_trans (Nat.le_of_ble_eq_true rfl) hd) rfl ?_
  refine g_goto (tgt := 103) (pc := 63) dX10_work_63 (by decide) ?_
  replace h := Option.some.inj h
  subst h
  exact g_ret (pc := 103) dX10_work_103 rfl rfl rfl (Nat.le_refl _) (Nat.le_refl _)
set_option maxRecDepth 100000 in
set_option maxHeartbeats 4000000 in
theorem G_X10_work_0 {sc : Nat × (Nat → Int32)} {d : Nat} (hd : 1 ≤ d) {u' : xS} (v1 : Int32) (u : xS) (h : f_X10_work v1 u = some u') : xG sc mX10_work d 0 0 (xR none (xL0, u') 0 0) 0 0 0 [some (.ref 58), some (.int v1), none] [] (xL0, u) := by
  rw [f_X10_work] at h
  refine g_iload_n (pc := 0) dX10_work_0 rfl ?_
  refine g_if_lt (tgt := 12) (pc := 1) dX10_work_1 (by decide) (fun c1 => ?_) (fun c1 => ?_)
  · replace h := (if_pos c1).symm.trans h
    refine g_iload_n (pc := 12) dX10_work_12 rfl ?_
    refine g_ineg (pc := 13) dX10_work_13 rfl ?_
    refine g_bipush (pc := 14) dX10_work_14 bp_97 ?_
    refine g_bipush (pc := 16) dX10_work_16 bp_122 ?_
    refine g_cN (pc := 18) dX10_work_18 cN_RX10_35 (M_X11_lies (Nat.le_refl _) rfl) (as := [.int (-v1), .int (97 : Int32), .int (122 : Int32)]) (st := []) rfl rfl (Nat.le_of_ble_eq_true rfl) (Nat.le_trans (Nat.le_of_ble_eq_true rfl) hd) rfl ?_
    refine g_if_eq (tgt := 41) (pc := 21) dX10_work_21 (by decide) (fun c2 => ?_) (fun c2 => ?_)
    · replace h := (if_pos c2).symm.trans h
      refine g_iload_n (pc := 41) dX10_work_41 rfl ?_
      refine g_bipush (pc := 42) dX10_work_42 bp_m33 ?_
      refine g_icmp_ne (tgt := 66) (pc := 44) dX10_work_44 (by decide) (fun c3 => ?_) (fun c3 => ?_)
      · replace h := (if_neg c3).symm.trans h
        refine g_iload_n (pc := 66) dX10_work_66 rfl ?_
        refine g_bipush (pc := 67) dX10_work_67 bp_m126 ?_
        refine g_icmp_ne (tgt := 84) (pc := 69) dX10_work_69 (by decide) (fun c4 => ?_) (fun c4 => ?_)
        · replace h := (if_neg c4).symm.trans h
          refine g_aload_n (pc := 84) dX10_work_84 rfl ?_
          obtain ⟨⟨x6, u7⟩, e5, h⟩ := x_bind h
          dsimp only at h
          refine g_cV (pc := 85) dX10_work_85 cV_RX10_65 (M_X10_pop (Nat.le_refl _) e5) xc_58 (as := []) (st := []) rfl rfl (Nat.le_of_ble_eq_true rfl) (Nat.le_trans (Nat.le_of_ble_eq_true rfl) hd) rfl ?_
          refine g_istore_n (pc := 88) dX10_work_88 (Nat.le_of_ble_eq_true rfl) (L' := [some (.ref 58), some (.int v1), some (.int x6)]) rfl ?_
          refine g_aload_n (pc := 89) dX10_work_89 rfl ?_
          refine g_iload_n (pc := 90) dX10_work_90 rfl ?_
          refine g_ineg (pc := 91) dX10_work_91 rfl ?_
          refine g_aload_n (pc := 92) dX10_work_92 rfl ?_
          obtain ⟨⟨x9, u10⟩, e8, h⟩ := x_bind h
          dsimp only at h
          refine g_cV (pc := 93) dX10_work_93 cV_RX10_65 (M_X10_pop (Nat.le_refl _) e8) xc_58 (as := []) (st := [.int (-v1), .ref 58]) rfl rfl (Nat.le_of_ble_eq_true rfl) (Nat.le_trans (Nat.le_of_ble_eq_true rfl) hd) rfl ?_
          refine g_iload_n (pc := 96) dX10_work_96 rfl ?_
          obtain ⟨x12, e11, h⟩ := x_bind h
          refine g_cS (pc := 97) dX10_work_97 cS_RX10_76 (M_X10_joined (Nat.le_refl _) e11) (as := [.int (-v1), .int x9, .int x6]) (st := [.ref 58]) rfl rfl (Nat.le_of_ble_eq_true rfl) (Nat.le_trans (Nat.le_of_ble_eq_true rfl) hd) rfl ?_
          obtain ⟨u14, e13, h⟩ := x_bind h
          refine g_cV (pc := 100) dX10_work_100 cV_RX10_73 (M_X10_push (Nat.le_refl _) e13) xc_58 (as := [.int x12]) (st := []) rfl rfl (Nat.le_of_ble_eq_true rfl) (Nat.le_trans (Nat.le_of_ble_eq_true rfl) hd) rfl ?_
          replace h := Option.some.inj h
          subst h
          exact g_ret (pc := 103) dX10_work_103 rfl rfl rfl (Nat.le_refl _) (Nat.le_refl _)
        · replace h := (if_pos c4).symm.trans h
          refine g_aload_n (pc := 72) dX10_work_72 rfl ?_
          refine g_aload_n (pc := 73) dX10_work_73 rfl ?_
          obtain ⟨⟨x18, u19⟩, e17, h⟩ := x_bind h
          dsimp only at h
          refine g_cV (pc := 74) dX10_work_74 cV_RX10_65 (M_X10_pop (Nat.le_refl _) e17) xc_58 (as := []) (st := [.ref 58]) rfl rfl (Nat.le_of_ble_eq_true rfl) (Nat.le_trans (Nat.le_of_ble_eq_true rfl) hd) rfl ?_
          refine g_ineg (pc := 77) dX10_work_77 rfl ?_
          obtain ⟨u21, e20, h⟩ := x_bind h
          refine g_cV (pc := 78) dX10_work_78 cV_RX10_73 (M_X10_push (Nat.le_refl _) e20) xc_58 (as := [.int (-x18)]) (st := []) rfl rfl (Nat.le_of_ble_eq_true rfl) (Nat.le_trans (Nat.le_of_ble_eq_true rfl) hd) rfl ?_
          refine g_goto (tgt := 103) (pc := 81) dX10_work_81 (by decide) ?_
          replace h := Option.some.inj h
          subst h
          exact g_ret (pc := 103) dX10_work_103 rfl rfl rfl (Nat.le_refl _) (Nat.le_refl _)
      · replace h := (if_pos c3).symm.trans h
        refine g_aload_n (pc := 47) dX10_work_47 rfl ?_
        refine g_aload_n (pc := 48) dX10_work_48 rfl ?_
        obtain ⟨⟨x24, u25⟩, e23, h⟩ := x_bind h
        dsimp only at h
        refine g_cV (pc := 49) dX10_work_49 cV_RX10_65 (M_X10_pop (Nat.le_refl _) e23) xc_58 (as := []) (st := [.ref 58]) rfl rfl (Nat.le_of_ble_eq_true rfl) (Nat.le_trans (Nat.le_of_ble_eq_true rfl) hd) rfl ?_
        refine g_if_ne (tgt := 59) (pc := 52) dX10_work_52 (by decide) (fun c26 => ?_) (fun c26 => ?_)
        · replace h := (if_neg c26).symm.trans h
          refine g_iconst (pc := 59) dX10_work_59 ic_0 ?_
          refine g_L (L' := [none, none, none]) trivial ?_
          exact G_X10_work_60 hd (0 : Int32) u25 h
        · replace h := (if_pos c26).symm.trans h
          refine g_iconst (pc := 55) dX10_work_55 ic_1 ?_
          refine g_goto (tgt := 60) (pc := 56) dX10_work_56 (by decide) ?_
          refine g_L (L' := [none, none, none]) trivial ?_
          exact G_X10_work_60 hd (1 : Int32) u25 h
    · replace h := (if_neg c2).symm.trans h
      refine g_aload_n (pc := 24) dX10_work_24 rfl ?_
      refine g_aload_n (pc := 25) dX10_work_25 rfl ?_
      refine g_gR (pc := 26) dX10_work_26 fR_RX10_22 xc_58 (v := 72) rfl ?_
      refine g_iload_n (pc := 29) dX10_work_29 rfl ?_
      refine g_ineg (pc := 30) dX10_work_30 rfl ?_
      refine g_bipush (pc := 31) dX10_work_31 bp_97 ?_
      refine g_isub (pc := 33) dX10_work_33 rfl ?_
      obtain ⟨g28, h⟩ := x_gd h
      refine g_iaload (pc := 34) dX10_work_34 xc_72 (xin_of g28) (v := (rd u 72 ((-v1) - (97 : Int32)).toNatClampNeg)) rfl ?_
      obtain ⟨u30, e29, h⟩ := x_bind h
      refine g_cV (pc := 35) dX10_work_35 cV_RX10_73 (M_X10_push (Nat.le_refl _) e29) xc_58 (as := [.int (rd u 72 ((-v1) - (97 : Int32)).toNatClampNeg)]) (st := []) rfl rfl (Nat.le_of_ble_eq_true rfl) (Nat.le_trans (Nat.le_of_ble_eq_true rfl) hd) rfl ?_
      refine g_goto (tgt := 103) (pc := 38) dX10_work_38 (by decide) ?_
      replace h := Option.some.inj h
      subst h
      exact g_ret (pc := 103) dX10_work_103 rfl rfl rfl (Nat.le_refl _) (Nat.le_refl _)
  · replace h := (if_neg c1).symm.trans h
    refine g_aload_n (pc := 4) dX10_work_4 rfl ?_
    refine g_iload_n (pc := 5) dX10_work_5 rfl ?_
    obtain ⟨u32, e31, h⟩ := x_bind h
    refine g_cV (pc := 6) dX10_work_6 cV_RX10_73 (M_X10_push (Nat.le_refl _) e31) xc_58 (as := [.int v1]) (st := []) rfl rfl (Nat.le_of_ble_eq_true rfl) (Nat.le_trans (Nat.le_of_ble_eq_true rfl) hd) rfl ?_
    refine g_goto (tgt := 103) (pc := 9) dX10_work_9 (by decide) ?_
    replace h := Option.some.inj h
    subst h
    exact g_ret (pc := 103) dX10_work_103 rfl rfl rfl (Nat.le_refl _) (Nat.le_refl _)
set_option maxRecDepth 100000 in
set_option maxHeartbeats 4000000 in
theorem M_X10_work {sc : Nat × (Nat → Int32)} {d : Nat} (hd : 1 ≤ d) {u u' : xS} {a1 : Int32} (h : f_X10_work a1 u = some u') : xMt sc mX10_work d 0 0 [.ref 58, .int a1] (xL0, u) none (xL0, u') :=
  xMt.of (by decide +kernel) (by decide +kernel) (Nat.le_of_ble_eq_true rfl) (L := [some (.ref 58), some (.int a1), none]) rfl ((G_X10_work_0 hd a1 u h))
theorem zb_X10_hasRecipe (u : xS) (v1 : Int32) : f_X10_hasRecipe u v1 = 0 ∨ f_X10_hasRecipe u v1 = 1 := by
  unfold f_X10_hasRecipe
  repeat' first | exact Or.inl rfl | exact Or.inr rfl | apply x_ite
set_option maxRecDepth 100000 in
set_option maxHeartbeats 4000000 in
theorem G_X10_hasRecipe_0 {sc : Nat × (Nat → Int32)} {d : Nat} (hd : 0 ≤ d) {r : Int32} {u : xS} (v1 : Int32) (h : f_X10_hasRecipe u v1 = r) : xG sc mX10_hasRecipe d 0 0 (xR (some (.int r)) (xL0, u) 0 0) 0 0 0 [some (.ref 58), some (.int v1)] [] (xL0, u) := by
  rw [f_X10_hasRecipe] at h
  refine g_iload_n (pc := 0) dX10_hasRecipe_0 rfl ?_
  refine g_if_lt (tgt := 16) (pc := 1) dX10_hasRecipe_1 (by decide) (fun c1 => ?_) (fun c1 => ?_)
  · replace h := (if_pos c1).symm.trans h
    refine g_iconst (pc := 16) dX10_hasRecipe_16 ic_0 ?_
    subst h
    exact g_zret (pc := 17) dX10_hasRecipe_17 rfl (Or.inl rfl) rfl rfl (Nat.le_refl _) (Nat.le_refl _)
  · replace h := (if_neg c1).symm.trans h
    refine g_iload_n (pc := 4) dX10_hasRecipe_4 rfl ?_
    refine g_aload_n (pc := 5) dX10_hasRecipe_5 rfl ?_
    refine g_gI (pc := 6) dX10_hasRecipe_6 fI_RX10_32 xc_58 (v := (rd u 58 5)) rfl ?_
    refine g_icmp_ge (tgt := 16) (pc := 9) dX10_hasRecipe_9 (by decide) (fun c2 => ?_) (fun c2 => ?_)
    · replace h := (if_pos c2).symm.trans h
      refine g_iconst (pc := 16) dX10_hasRecipe_16 ic_0 ?_
      subst h
      exact g_zret (pc := 17) dX10_hasRecipe_17 rfl (Or.inl rfl) rfl rfl (Nat.le_refl _) (Nat.le_refl _)
    · replace h := (if_neg c2).symm.trans h
      refine g_iconst (pc := 12) dX10_hasRecipe_12 ic_1 ?_
      refine g_goto (tgt := 17) (pc := 13) dX10_hasRecipe_13 (by decide) ?_
      subst h
      exact g_zret (pc := 17) dX10_hasRecipe_17 rfl (Or.inr rfl) rfl rfl (Nat.le_refl _) (Nat.le_refl _)
set_option maxRecDepth 100000 in
set_option maxHeartbeats 4000000 in
theorem M_X10_hasRecipe {sc : Nat × (Nat → Int32)} {d : Nat} (hd : 0 ≤ d) {r : Int32} {u : xS} {a1 : Int32} (h : f_X10_hasRecipe u a1 = r) : xMt sc mX10_hasRecipe d 0 0 [.ref 58, .int a1] (xL0, u) (some (.int r)) (xL0, u) :=
  xMt.of (by decide +kernel) (by decide +kernel) (Nat.le_of_ble_eq_true rfl) (L := [some (.ref 58), some (.int a1)]) rfl ((G_X10_hasRecipe_0 hd a1 h))
set_option maxRecDepth 100000 in
set_option maxHeartbeats 4000000 in
theorem G_X10_firstBroken_74 {sc : Nat × (Nat → Int32)} {d : Nat} (hd : 2 ≤ d) {r : Int32} {u' : xS} {k29 : Int32 → Nat → Int32 → Int32 → xS → Option (Int32 × xS)} (hk29 : ∀ (v1 : Int32) (v2 : Nat) (v3 : Int32) (v4 : Int32) (u : xS), k29 v1 v2 v3 v4 u = some (r, u') → xG sc mX10_firstBroken d 0 0 (xR (some (.int r)) (xL0, u') 0 0) 0 0 29 [some (.ref 58), some (.int v1), some (.ref v2), some (.int v3), some (.int v4)] [] (xL0, u)) (v1 : Int32) (v2 : Nat) (v3 : Int32) (v4 : Int32) (u : xS) (h : f_X10_firstBroken_74 k29 v1 v2 v3 v4 u = some (r, u')) : xG sc mX10_firstBroken d 0 0 (xR (some (.int r)) (xL0, u') 0 0) 0 0 74 [some (.ref 58), some (.int v1), some (.ref v2), some (.int v3), some (.int v4)] [] (xL0, u) := by
  rw [f_X10_firstBroken_74] at h
  refine g_inc (pc := 74) dX10_firstBroken_74 (Nat.le_of_ble_eq_true rfl) rfl ic_1 (L' := [some (.ref 58), some (.int v1), some (.ref v2), some (.int v3), some (.int (v4 + (1 : Int32)))]) rfl ?_
  refine g_goto (tgt := 29) (pc := 77) dX10_firstBroken_77 (by decide) ?_
  exact hk29 v1 v2 v3 (v4 + (1 : Int32)) u h
set_option maxRecDepth 100000 in
set_option maxHeartbeats 4000000 in
theorem G_X10_firstBroken_29 {sc : Nat × (Nat → Int32)} {d : Nat} (hd : 2 ≤ d) {r : Int32} {u' : xS} : ∀ (n : Nat) (v1 : Int32) (v2 : Nat) (v3 : Int32) (v4 : Int32) (u : xS), f_X10_firstBroken_29 n v1 v2 v3 v4 u = some (r, u') → xG sc mX10_firstBroken d 0 0 (xR (some (.int r)) (xL0, u') 0 0) 0 0 29 [some (.ref 58), some (.int v1), some (.ref v2), some (.int v3), some (.int v4)] [] (xL0, u) := by
  intro n
  induction n with
  | zero =>
    intro v1 v2 v3 v4 u h
    rw [f_X10_firstBroken_29] at h
    cases h
  | succ n ih =>
    intro v1 v2 v3 v4 u h
    rw [f_X10_firstBroken_29] at h
    refine g_iload (pc := 29) dX10_firstBroken_29 rfl ?_
    refine g_aload_n (pc := 31) dX10_firstBroken_31 rfl ?_
    refine g_gR (pc := 32) dX10_firstBroken_32 fR_RX10_18 xc_58 (v := 71) rfl ?_
    refine g_iconst (pc := 35) dX10_firstBroken_35 ic_4 ?_
    refine g_iload_n (pc := 36) dX10_firstBroken_36 rfl ?_
    refine g_iadd (pc := 37) dX10_firstBroken_37 rfl ?_
    obtain ⟨g1, h⟩ := x_gd h
    refine g_iaload (pc := 38) dX10_firstBroken_38 xc_71 (xin_of g1) (v := (rd u 71 ((4 : Int32) + v1).toNatClampNeg)) rfl ?_
    refine g_icmp_ge (tgt := 80) (pc := 39) dX10_firstBroken_39 (by decide) (fun c2 => ?_) (fun c2 => ?_)
    · replace h := (if_pos c2).symm.trans h
      refine g_bipush (pc := 80) dX10_firstBroken_80 bp_m2 ?_
      obtain ⟨h1, h2⟩ := x_inj2 h
      subst h1
      subst h2
      exact g_iret (pc := 82) dX10_firstBroken_82 rfl rfl rfl (Nat.le_refl _) (Nat.le_refl _)
    · replace h := (if_neg c2).symm.trans h
      refine g_aload_n (pc := 42) dX10_firstBroken_42 rfl ?_
      refine g_iload (pc := 43) dX10_firstBroken_43 rfl ?_
      obtain ⟨g3, h⟩ := x_gd h
      obtain ⟨g4, h⟩ := x_gd h
      obtain ⟨q5, hq6⟩ := xisI_of g3
      refine g_iaload (pc := 45) dX10_firstBroken_45 hq6 (xin_of g4) (v := (rd u v2 v4.toNatClampNeg)) rfl ?_
      refine g_bipush (pc := 46) dX10_firstBroken_46 bp_m59 ?_
      refine g_icmp_eq (tgt := 62) (pc := 48) dX10_firstBroken_48 (by decide) (fun c7 => ?_) (fun c7 => ?_)
      · replace h := (if_pos c7).symm.trans h
        refine g_aload_n (pc := 62) dX10_firstBroken_62 rfl ?_
        obtain ⟨⟨x9, u10⟩, e8, h⟩ := x_bind h
        dsimp only at h
        refine g_cV (pc := 63) dX10_firstBroken_63 cV_RX10_65 (M_X10_pop (Nat.le_refl _) e8) xc_58 (as := []) (st := []) rfl rfl (Nat.le_of_ble_eq_true rfl) (Nat.le_trans (Nat.le_of_ble_eq_true rfl) hd) rfl ?_
        refine g_if_ne (tgt := 71) (pc := 66) dX10_firstBroken_66 (by decide) (fun c11 => ?_) (fun c11 => ?_)
        · replace h := (if_neg c11).symm.trans h
          refine g_inc (pc := 71) dX10_firstBroken_71 (Nat.le_of_ble_eq_true rfl) rfl ic_1 (L' := [some (.ref 58), some (.int v1), some (.ref v2), some (.int (v3 + (1 : Int32))), some (.int v4)]) rfl ?_
          exact G_X10_firstBroken_74 hd ih v1 v2 (v3 + (1 : Int32)) v4 u10 h
        · replace h := (if_pos c11).symm.trans h
          refine g_iload_n (pc := 69) dX10_firstBroken_69 rfl ?_
          obtain ⟨h1, h2⟩ := x_inj2 h
          subst h1
          subst h2
          exact g_iret (pc := 70) dX10_firstBroken_70 rfl rfl rfl (Nat.le_refl _) (Nat.le_refl _)
      · replace h := (if_neg c7).symm.trans h
        refine g_aload_n (pc := 51) dX10_firstBroken_51 rfl ?_
        refine g_aload_n (pc := 52) dX10_firstBroken_52 rfl ?_
        refine g_iload (pc := 53) dX10_firstBroken_53 rfl ?_
        obtain ⟨g13, h⟩ := x_gd h
        obtain ⟨g14, h⟩ := x_gd h
        obtain ⟨q15, hq16⟩ := xisI_of g13
        refine g_iaload (pc := 55) dX10_firstBroken_55 hq16 (xin_of g14) (v := (rd u v2 v4.toNatClampNeg)) rfl ?_
        obtain ⟨u18, e17, h⟩ := x_bind h
        refine g_cV (pc := 56) dX10_firstBroken_56 cV_RX10_61 (M_X10_work (Nat.le_refl _) e17) xc_58 (as := [.int (rd u v2 v4.toNatClampNeg)]) (st := []) rfl rfl (Nat.le_of_ble_eq_true rfl) (Nat.le_trans (Nat.le_of_ble_eq_true rfl) hd) rfl ?_
        refine g_goto (tgt := 74) (pc := 59) dX10_firstBroken_59 (by decide) ?_
        exact G_X10_firstBroken_74 hd ih v1 v2 v3 v4 u18 h
set_option maxRecDepth 100000 in
set_option maxHeartbeats 4000000 in
theorem G_X10_firstBroken_0 {sc : Nat × (Nat → Int32)} {d : Nat} (hd : 2 ≤ d) {r : Int32} {u' : xS} (v1 : Int32) (u : xS) (h : f_X10_firstBroken v1 u = some (r, u')) : xG sc mX10_firstBroken d 0 0 (xR (some (.int r)) (xL0, u') 0 0) 0 0 0 [some (.ref 58), some (.int v1), none, none, none] [] (xL0, u) := by
  rw [f_X10_firstBroken] at h
  refine g_aload_n (pc := 0) dX10_firstBroken_0 rfl ?_
  refine g_iload_n (pc := 1) dX10_firstBroken_1 rfl ?_
  refine g_cV (pc := 2) dX10_firstBroken_2 cV_RX10_69 (M_X10_hasRecipe (Nat.le_refl _) rfl) xc_58 (as := [.int v1]) (st := []) rfl rfl (Nat.le_of_ble_eq_true rfl) (Nat.le_trans (Nat.le_of_ble_eq_true rfl) hd) rfl ?_
  refine g_if_ne (tgt := 10) (pc := 5) dX10_firstBroken_5 (by decide) (fun c1 => ?_) (fun c1 => ?_)
  · replace h := (if_neg c1).symm.trans h
    refine g_aload_n (pc := 10) dX10_firstBroken_10 rfl ?_
    refine g_gR (pc := 11) dX10_firstBroken_11 fR_RX10_15 xc_58 (v := 59) rfl ?_
    refine g_iconst (pc := 14) dX10_firstBroken_14 ic_4 ?_
    refine g_iload_n (pc := 15) dX10_firstBroken_15 rfl ?_
    refine g_iadd (pc := 16) dX10_firstBroken_16 rfl ?_
    obtain ⟨g2, h⟩ := x_gd h
    refine g_aaload (pc := 17) dX10_firstBroken_17 xc_59 (xin_of g2) (v := (60 + ((4 : Int32) + v1).toNatClampNeg)) (xrf_59 _ (xin_lt g2)) ?_
    refine g_astore_n (pc := 18) dX10_firstBroken_18 (Nat.le_of_ble_eq_true rfl) (L' := [some (.ref 58), some (.int v1), some (.ref (60 + ((4 : Int32) + v1).toNatClampNeg)), none, none]) rfl ?_
    refine g_iconst (pc := 19) dX10_firstBroken_19 ic_0 ?_
    refine g_istore_n (pc := 20) dX10_firstBroken_20 (Nat.le_of_ble_eq_true rfl) (L' := [some (.ref 58), some (.int v1), some (.ref (60 + ((4 : Int32) + v1).toNatClampNeg)), some (.int (0 : Int32)), none]) rfl ?_
    refine g_aload_n (pc := 21) dX10_firstBroken_21 rfl ?_
    refine g_iconst (pc := 22) dX10_firstBroken_22 ic_0 ?_
    refine g_pI (pc := 23) dX10_firstBroken_23 pI_RX10_28 xc_58 (u' := (wr u 58 4 (0 : Int32))) rfl ?_
    refine g_iconst (pc := 26) dX10_firstBroken_26 ic_0 ?_
    refine g_istore (pc := 27) dX10_firstBroken_27 (Nat.le_of_ble_eq_true rfl) (L' := [some (.ref 58), some (.int v1), some (.ref (60 + ((4 : Int32) + v1).toNatClampNeg)), some (.int (0 : Int32)), some (.int (0 : Int32))]) rfl ?_
    exact G_X10_firstBroken_29 hd xN v1 (60 + ((4 : Int32) + v1).toNatClampNeg) (0 : Int32) (0 : Int32) (wr u 58 4 (0 : Int32)) h
  · replace h := (if_pos c1).symm.trans h
    refine g_iconst (pc := 8) dX10_firstBroken_8 ic_m1 ?_
    obtain ⟨h1, h2⟩ := x_inj2 h
    subst h1
    subst h2
    exact g_iret (pc := 9) dX10_firstBroken_9 rfl rfl rfl (Nat.le_refl _) (Nat.le_refl _)
set_option maxRecDepth 100000 in
set_option maxHeartbeats 4000000 in
theorem M_X10_firstBroken {sc : Nat × (Nat → Int32)} {d : Nat} (hd : 2 ≤ d) {r : Int32} {u u' : xS} {a1 : Int32} (h : f_X10_firstBroken a1 u = some (r, u')) : xMt sc mX10_firstBroken d 0 0 [.ref 58, .int a1] (xL0, u) (some (.int r)) (xL0, u') :=
  xMt.of (by decide +kernel) (by decide +kernel) (Nat.le_of_ble_eq_true rfl) (L := [some (.ref 58), some (.int a1), none, none, none]) rfl ((G_X10_firstBroken_0 hd a1 u h))
set_option maxRecDepth 100000 in
set_option maxHeartbeats 4000000 in
theorem G_X10_tell_0 {sc : Nat × (Nat → Int32)} {d : Nat} (hd : 1 ≤ d) {u' : xS} (v1 : Int32) (v2 : Int32) (u : xS) (h : f_X10_tell v1 v2 u = some u') : xG sc mX10_tell d 0 0 (xR none (xL0, u') 0 0) 0 0 0 [some (.ref 58), some (.int v1), some (.int v2)] [] (xL0, u) := by
  rw [f_X10_tell] at h
  refine g_iload_n (pc := 0) dX10_tell_0 rfl ?_
  refine g_bipush (pc := 1) dX10_tell_1 bp_97 ?_
  refine g_bipush (pc := 3) dX10_tell_3 bp_122 ?_
  refine g_cN (pc := 5) dX10_tell_5 cN_RX10_35 (M_X11_lies (Nat.le_refl _) rfl) (as := [.int v1, .int (97 : Int32), .int (122 : Int32)]) (st := []) rfl rfl (Nat.le_of_ble_eq_true rfl) (Nat.le_trans (Nat.le_of_ble_eq_true rfl) hd) rfl ?_
  refine g_if_eq (tgt := 21) (pc := 8) dX10_tell_8 (by decide) (fun c1 => ?_) (fun c1 => ?_)
  · replace h := (if_pos c1).symm.trans h
    replace h := Option.some.inj h
    subst h
    exact g_ret (pc := 21) dX10_tell_21 rfl rfl rfl (Nat.le_refl _) (Nat.le_refl _)
  · replace h := (if_neg c1).symm.trans h
    refine g_aload_n (pc := 11) dX10_tell_11 rfl ?_
    refine g_gR (pc := 12) dX10_tell_12 fR_RX10_22 xc_58 (v := 72) rfl ?_
    refine g_iload_n (pc := 15) dX10_tell_15 rfl ?_
    refine g_bipush (pc := 16) dX10_tell_16 bp_97 ?_
    refine g_isub (pc := 18) dX10_tell_18 rfl ?_
    refine g_iload_n (pc := 19) dX10_tell_19 rfl ?_
    obtain ⟨g2, h⟩ := x_gd h
    refine g_iastore (pc := 20) dX10_tell_20 xc_72 (xin_of g2) (u' := (wr u 72 (v1 - (97 : Int32)).toNatClampNeg v2)) rfl ?_
    replace h := Option.some.inj h
    subst h
    exact g_ret (pc := 21) dX10_tell_21 rfl rfl rfl (Nat.le_refl _) (Nat.le_refl _)
set_option maxRecDepth 100000 in
set_option maxHeartbeats 4000000 in
theorem M_X10_tell {sc : Nat × (Nat → Int32)} {d : Nat} (hd : 1 ≤ d) {u u' : xS} {a1 : Int32} {a2 : Int32} (h : f_X10_tell a1 a2 u = some u') : xMt sc mX10_tell d 0 0 [.ref 58, .int a1, .int a2] (xL0, u) none (xL0, u') :=
  xMt.of (by decide +kernel) (by decide +kernel) (Nat.le_of_ble_eq_true rfl) (L := [some (.ref 58), some (.int a1), some (.int a2)]) rfl ((G_X10_tell_0 hd a1 a2 u h))
set_option maxRecDepth 100000 in
set_option maxHeartbeats 4000000 in
theorem G_X10_valueOf_19 {sc : Nat × (Nat → Int32)} {d : Nat} (hd : 2 ≤ d) {r : Int32} {u' : xS} : ∀ (n : Nat) (v1 : Int32) (v2 : Int32) (u : xS), f_X10_valueOf_19 n v1 v2 u = some (r, u') → xG sc mX10_valueOf d 0 0 (xR (some (.int r)) (xL0, u') 0 0) 0 0 19 [some (.ref 58), some (.int v1), some (.int v2)] [] (xL0, u) := by
  intro n
  induction n with
  | zero =>
    intro v1 v2 u h
    rw [f_X10_valueOf_19] at h
    cases h
  | succ n ih =>
    intro v1 v2 u h
    rw [f_X10_valueOf_19] at h
    refine g_iload_n (pc := 19) dX10_valueOf_19 rfl ?_
    refine g_aload_n (pc := 20) dX10_valueOf_20 rfl ?_
    refine g_gR (pc := 21) dX10_valueOf_21 fR_RX10_18 xc_58 (v := 71) rfl ?_
    refine g_iload_n (pc := 24) dX10_valueOf_24 rfl ?_
    obtain ⟨g1, h⟩ := x_gd h
    refine g_iaload (pc := 25) dX10_valueOf_25 xc_71 (xin_of g1) (v := (rd u 71 v1.toNatClampNeg)) rfl ?_
    refine g_icmp_ge (tgt := 47) (pc := 26) dX10_valueOf_26 (by decide) (fun c2 => ?_) (fun c2 => ?_)
    · replace h := (if_pos c2).symm.trans h
      refine g_aload_n (pc := 47) dX10_valueOf_47 rfl ?_
      obtain ⟨⟨x4, u5⟩, e3, h⟩ := x_bind h
      dsimp only at h
      refine g_cV (pc := 48) dX10_valueOf_48 cV_RX10_65 (M_X10_pop (Nat.le_refl _) e3) xc_58 (as := []) (st := []) rfl rfl (Nat.le_of_ble_eq_true rfl) (Nat.le_trans (Nat.le_of_ble_eq_true rfl) hd) rfl ?_
      obtain ⟨h1, h2⟩ := x_inj2 h
      subst h1
      subst h2
      exact g_iret (pc := 51) dX10_valueOf_51 rfl rfl rfl (Nat.le_refl _) (Nat.le_refl _)
    · replace h := (if_neg c2).symm.trans h
      refine g_aload_n (pc := 29) dX10_valueOf_29 rfl ?_
      refine g_aload_n (pc := 30) dX10_valueOf_30 rfl ?_
      refine g_gR (pc := 31) dX10_valueOf_31 fR_RX10_15 xc_58 (v := 59) rfl ?_
      refine g_iload_n (pc := 34) dX10_valueOf_34 rfl ?_
      refine g_aaload (pc := 35) dX10_valueOf_35 xc_59 (xin_of g1) (v := (60 + v1.toNatClampNeg)) (xrf_59 _ (xin_lt g1)) ?_
      refine g_iload_n (pc := 36) dX10_valueOf_36 rfl ?_
      obtain ⟨g7, h⟩ := x_gd h
      refine g_iaload (pc := 37) dX10_valueOf_37 (xrow_59 _ (xin_lt g1)) (xin_of g7) (v := (rd u (60 + v1.toNatClampNeg) v2.toNatClampNeg)) rfl ?_
      obtain ⟨u9, e8, h⟩ := x_bind h
      refine g_cV (pc := 38) dX10_valueOf_38 cV_RX10_61 (M_X10_work (Nat.le_refl _) e8) xc_58 (as := [.int (rd u (60 + v1.toNatClampNeg) v2.toNatClampNeg)]) (st := []) rfl rfl (Nat.le_of_ble_eq_true rfl) (Nat.le_trans (Nat.le_of_ble_eq_true rfl) hd) rfl ?_
      refine g_inc (pc := 41) dX10_valueOf_41 (Nat.le_of_ble_eq_true rfl) rfl ic_1 (L' := [some (.ref 58), some (.int v1), some (.int (v2 + (1 : Int32)))]) rfl ?_
      refine g_goto (tgt := 19) (pc := 44) dX10_valueOf_44 (by decide) ?_
      exact ih v1 (v2 + (1 : Int32)) u9 h
set_option maxRecDepth 100000 in
set_option maxHeartbeats 4000000 in
theorem G_X10_valueOf_0 {sc : Nat × (Nat → Int32)} {d : Nat} (hd : 2 ≤ d) {r : Int32} {u' : xS} (v1 : Int32) (u : xS) (h : f_X10_valueOf v1 u = some (r, u')) : xG sc mX10_valueOf d 0 0 (xR (some (.int r)) (xL0, u') 0 0) 0 0 0 [some (.ref 58), some (.int v1), none] [] (xL0, u) := by
  rw [f_X10_valueOf] at h
  refine g_iload_n (pc := 0) dX10_valueOf_0 rfl ?_
  refine g_iconst (pc := 1) dX10_valueOf_1 ic_0 ?_
  refine g_bipush (pc := 2) dX10_valueOf_2 bp_10 ?_
  refine g_cN (pc := 4) dX10_valueOf_4 cN_RX10_35 (M_X11_lies (Nat.le_refl _) rfl) (as := [.int v1, .int (0 : Int32), .int (10 : Int32)]) (st := []) rfl rfl (Nat.le_of_ble_eq_true rfl) (Nat.le_trans (Nat.le_of_ble_eq_true rfl) hd) rfl ?_
  refine g_if_ne (tgt := 12) (pc := 7) dX10_valueOf_7 (by decide) (fun c1 => ?_) (fun c1 => ?_)
  · replace h := (if_neg c1).symm.trans h
    refine g_aload_n (pc := 12) dX10_valueOf_12 rfl ?_
    refine g_iconst (pc := 13) dX10_valueOf_13 ic_0 ?_
    refine g_pI (pc := 14) dX10_valueOf_14 pI_RX10_28 xc_58 (u' := (wr u 58 4 (0 : Int32))) rfl ?_
    refine g_iconst (pc := 17) dX10_valueOf_17 ic_0 ?_
    refine g_istore_n (pc := 18) dX10_valueOf_18 (Nat.le_of_ble_eq_true rfl) (L' := [some (.ref 58), some (.int v1), some (.int (0 : Int32))]) rfl ?_
    exact G_X10_valueOf_19 hd xN v1 (0 : Int32) (wr u 58 4 (0 : Int32)) h
  · replace h := (if_pos c1).symm.trans h
    refine g_iconst (pc := 10) dX10_valueOf_10 ic_0 ?_
    obtain ⟨h1, h2⟩ := x_inj2 h
    subst h1
    subst h2
    exact g_iret (pc := 11) dX10_valueOf_11 rfl rfl rfl (Nat.le_refl _) (Nat.le_refl _)
set_option maxRecDepth 100000 in
set_option maxHeartbeats 4000000 in
theorem M_X10_valueOf {sc : Nat × (Nat → Int32)} {d : Nat} (hd : 2 ≤ d) {r : Int32} {u u' : xS} {a1 : Int32} (h : f_X10_valueOf a1 u = some (r, u')) : xMt sc mX10_valueOf d 0 0 [.ref 58, .int a1] (xL0, u) (some (.int r)) (xL0, u') :=
  xMt.of (by decide +kernel) (by decide +kernel) (Nat.le_of_ble_eq_true rfl) (L := [some (.ref 58), some (.int a1), none]) rfl ((G_X10_valueOf_0 hd a1 u h))
theorem zb_X11_isDay (v0 : Int32) : f_X11_isDay v0 = 0 ∨ f_X11_isDay v0 = 1 := by
  unfold f_X11_isDay
  repeat' first | exact Or.inl rfl | exact Or.inr rfl | exact zb_X11_lies _ _ _ | apply x_ite
set_option maxRecDepth 100000 in
set_option maxHeartbeats 4000000 in
theorem G_X11_isDay_0 {sc : Nat × (Nat → Int32)} {d : Nat} (hd : 1 ≤ d) {r : Int32} {u : xS} (v0 : Int32) (h : f_X11_isDay v0 = r) : xG sc mX11_isDay d 0 0 (xR (some (.int r)) (xL0, u) 0 0) 0 0 0 [some (.int v0)] [] (xL0, u) := by
  rw [f_X11_isDay] at h
  refine g_iload_n (pc := 0) dX11_isDay_0 rfl ?_
  refine g_iconst (pc := 1) dX11_isDay_1 ic_0 ?_
  refine g_bipush (pc := 2) dX11_isDay_2 bp_99 ?_
  refine g_cS (pc := 4) dX11_isDay_4 cS_RX11_94 (M_X11_lies (Nat.le_refl _) rfl) (as := [.int v0, .int (0 : Int32), .int (99 : Int32)]) (st := []) rfl rfl (Nat.le_of_ble_eq_true rfl) (Nat.le_trans (Nat.le_of_ble_eq_true rfl) hd) rfl ?_
  subst h
  exact g_zret (pc := 7) dX11_isDay_7 rfl (zb_X11_lies _ _ _) rfl rfl (Nat.le_refl _) (Nat.le_refl _)
set_option maxRecDepth 100000 in
set_option maxHeartbeats 4000000 in
theorem M_X11_isDay {sc : Nat × (Nat → Int32)} {d : Nat} (hd : 1 ≤ d) {r : Int32} {u : xS} {a0 : Int32} (h : f_X11_isDay a0 = r) : xMt sc mX11_isDay d 0 0 [.int a0] (xL0, u) (some (.int r)) (xL0, u) :=
  xMt.of (by decide +kernel) (by decide +kernel) (Nat.le_of_ble_eq_true rfl) (L := [some (.int a0)]) rfl ((G_X11_isDay_0 hd a0 h))
set_option maxRecDepth 100000 in
set_option maxHeartbeats 4000000 in
theorem G_X11_as_0 {sc : Nat × (Nat → Int32)} {d : Nat} (hd : 2 ≤ d) {r : Int32} {u' : xS} (v1 : Int32) (u : xS) (h : f_X11_as v1 u = some (r, u')) : xG sc mX11_as d 0 0 (xR (some (.int r)) (xL0, u') 0 0) 0 0 0 [some (.ref 0), some (.int v1), none] [] (xL0, u) := by
  rw [f_X11_as] at h
  refine g_iload_n (pc := 0) dX11_as_0 rfl ?_
  refine g_cS (pc := 1) dX11_as_1 cS_RX11_109 (M_X11_isDay (Nat.le_refl _) rfl) (as := [.int v1]) (st := []) rfl rfl (Nat.le_of_ble_eq_true rfl) (Nat.le_trans (Nat.le_of_ble_eq_true rfl) hd) rfl ?_
  refine g_if_ne (tgt := 9) (pc := 4) dX11_as_4 (by decide) (fun c1 => ?_) (fun c1 => ?_)
  · replace h := (if_neg c1).symm.trans h
    refine g_aload_n (pc := 9) dX11_as_9 rfl ?_
    refine g_gR (pc := 10) dX11_as_10 fR_RX11_26 xc_0 (v := 46) rfl ?_
    refine g_gI (pc := 13) dX11_as_13 fI_RX11_182 xc_46 (v := (rd u 46 6)) rfl ?_
    refine g_istore_n (pc := 16) dX11_as_16 (Nat.le_of_ble_eq_true rfl) (L' := [some (.ref 0), some (.int v1), some (.int (rd u 46 6))]) rfl ?_
    refine g_aload_n (pc := 17) dX11_as_17 rfl ?_
    refine g_gR (pc := 18) dX11_as_18 fR_RX11_26 xc_0 (v := 46) rfl ?_
    refine g_iload_n (pc := 21) dX11_as_21 rfl ?_
    refine g_pI (pc := 22) dX11_as_22 pI_RX11_182 xc_46 (u' := (wr u 46 6 v1)) rfl ?_
    refine g_iload_n (pc := 25) dX11_as_25 rfl ?_
    obtain ⟨h1, h2⟩ := x_inj2 h
    subst h1
    subst h2
    exact g_iret (pc := 26) dX11_as_26 rfl rfl rfl (Nat.le_refl _) (Nat.le_refl _)
  · replace h := (if_pos c1).symm.trans h
    refine g_iconst (pc := 7) dX11_as_7 ic_m1 ?_
    obtain ⟨h1, h2⟩ := x_inj2 h
    subst h1
    subst h2
    exact g_iret (pc := 8) dX11_as_8 rfl rfl rfl (Nat.le_refl _) (Nat.le_refl _)
set_option maxRecDepth 100000 in
set_option maxHeartbeats 4000000 in
theorem M_X11_as {sc : Nat × (Nat → Int32)} {d : Nat} (hd : 2 ≤ d) {r : Int32} {u u' : xS} {a1 : Int32} (h : f_X11_as a1 u = some (r, u')) : xMt sc mX11_as d 0 0 [.ref 0, .int a1] (xL0, u) (some (.int r)) (xL0, u') :=
  xMt.of (by decide +kernel) (by decide +kernel) (Nat.le_of_ble_eq_true rfl) (L := [some (.ref 0), some (.int a1), none]) rfl ((G_X11_as_0 hd a1 u h))
theorem zb_X8_has (u : xS) (v1 : Int32) : f_X8_has u v1 = 0 ∨ f_X8_has u v1 = 1 := by
  unfold f_X8_has
  repeat' first | exact Or.inl rfl | exact Or.inr rfl | apply x_ite
set_option maxRecDepth 100000 in
set_option maxHeartbeats 4000000 in
theorem G_X8_has_0 {sc : Nat × (Nat → Int32)} {d : Nat} (hd : 0 ≤ d) {r : Int32} {u : xS} (v1 : Int32) (h : f_X8_has u v1 = r) : xG sc mX8_has d 0 0 (xR (some (.int r)) (xL0, u) 0 0) 0 0 0 [some (.ref 1), some (.int v1)] [] (xL0, u) := by
  rw [f_X8_has] at h
  refine g_iload_n (pc := 0) dX8_has_0 rfl ?_
  refine g_if_lt (tgt := 16) (pc := 1) dX8_has_1 (by decide) (fun c1 => ?_) (fun c1 => ?_)
  · replace h := (if_pos c1).symm.trans h
    refine g_iconst (pc := 16) dX8_has_16 ic_0 ?_
    subst h
    exact g_zret (pc := 17) dX8_has_17 rfl (Or.inl rfl) rfl rfl (Nat.le_refl _) (Nat.le_refl _)
  · replace h := (if_neg c1).symm.trans h
    refine g_iload_n (pc := 4) dX8_has_4 rfl ?_
    refine g_aload_n (pc := 5) dX8_has_5 rfl ?_
    refine g_gI (pc := 6) dX8_has_6 fI_RX8_20 xc_1 (v := (rd u 1 2)) rfl ?_
    refine g_icmp_ge (tgt := 16) (pc := 9) dX8_has_9 (by decide) (fun c2 => ?_) (fun c2 => ?_)
    · replace h := (if_pos c2).symm.trans h
      refine g_iconst (pc := 16) dX8_has_16 ic_0 ?_
      subst h
      exact g_zret (pc := 17) dX8_has_17 rfl (Or.inl rfl) rfl rfl (Nat.le_refl _) (Nat.le_refl _)
    · replace h := (if_neg c2).symm.trans h
      refine g_iconst (pc := 12) dX8_has_12 ic_1 ?_
      refine g_goto (tgt := 17) (pc := 13) dX8_has_13 (by decide) ?_
      subst h
      exact g_zret (pc := 17) dX8_has_17 rfl (Or.inr rfl) rfl rfl (Nat.le_refl _) (Nat.le_refl _)
set_option maxRecDepth 100000 in
set_option maxHeartbeats 4000000 in
theorem M_X8_has {sc : Nat × (Nat → Int32)} {d : Nat} (hd : 0 ≤ d) {r : Int32} {u : xS} {a1 : Int32} (h : f_X8_has u a1 = r) : xMt sc mX8_has d 0 0 [.ref 1, .int a1] (xL0, u) (some (.int r)) (xL0, u) :=
  xMt.of (by decide +kernel) (by decide +kernel) (Nat.le_of_ble_eq_true rfl) (L := [some (.ref 1), some (.int a1)]) rfl ((G_X8_has_0 hd a1 h))
set_option maxRecDepth 100000 in
set_option maxHeartbeats 4000000 in
theorem G_X8_priceIn_67 {sc : Nat × (Nat → Int32)} {d : Nat} (hd : 0 ≤ d) {r : Int32} {u : xS} {k8 : Int32 → Int32 → Int32 → Int32 → Int32 → Option Int32} (hk8 : ∀ (v1 : Int32) (v2 : Int32) (v3 : Int32) (v4 : Int32) (v5 : Int32), k8 v1 v2 v3 v4 v5 = some r → xG sc mX8_priceIn d 0 0 (xR (some (.int r)) (xL0, u) 0 0) 0 0 8 [some (.ref 1), some (.int v1), some (.int v2), some (.int v3), some (.int v4), some (.int v5)] [] (xL0, u)) (v1 : Int32) (v2 : Int32) (v3 : Int32) (v4 : Int32) (v5 : Int32) (h : f_X8_priceIn_67 k8 u v1 v2 v3 v4 v5 = some r) : xG sc mX8_priceIn d 0 0 (xR (some (.int r)) (xL0, u) 0 0) 0 0 67 [some (.ref 1), some (.int v1), some (.int v2), some (.int v3), some (.int v4), some (.int v5)] [] (xL0, u) := by
  rw [f_X8_priceIn_67] at h
  refine g_inc (pc := 67) dX8_priceIn_67 (Nat.le_of_ble_eq_true rfl) rfl ic_1 (L' := [some (.ref 1), some (.int v1), some (.int v2), some (.int v3), some (.int v4), some (.int (v5 + (1 : Int32)))]) rfl ?_
  refine g_goto (tgt := 8) (pc := 70) dX8_priceIn_70 (by decide) ?_
  exact hk8 v1 v2 v3 v4 (v5 + (1 : Int32)) h
set_option maxRecDepth 100000 in
set_option maxHeartbeats 4000000 in
theorem G_X8_priceIn_8 {sc : Nat × (Nat → Int32)} {d : Nat} (hd : 0 ≤ d) {r : Int32} {u : xS} : ∀ (n : Nat) (v1 : Int32) (v2 : Int32) (v3 : Int32) (v4 : Int32) (v5 : Int32), f_X8_priceIn_8 u n v1 v2 v3 v4 v5 = some r → xG sc mX8_priceIn d 0 0 (xR (some (.int r)) (xL0, u) 0 0) 0 0 8 [some (.ref 1), some (.int v1), some (.int v2), some (.int v3), some (.int v4), some (.int v5)] [] (xL0, u) := by
  intro n
  induction n with
  | zero =>
    intro v1 v2 v3 v4 v5 h
    rw [f_X8_priceIn_8] at h
    cases h
  | succ n ih =>
    intro v1 v2 v3 v4 v5 h
    rw [f_X8_priceIn_8] at h
    refine g_iload (pc := 8) dX8_priceIn_8 rfl ?_
    refine g_aload_n (pc := 10) dX8_priceIn_10 rfl ?_
    refine g_gI (pc := 11) dX8_priceIn_11 fI_RX8_33 xc_1 (v := (rd u 1 6)) rfl ?_
    refine g_icmp_ge (tgt := 73) (pc := 14) dX8_priceIn_14 (by decide) (fun c1 => ?_) (fun c1 => ?_)
    · replace h := (if_pos c1).symm.trans h
      refine g_iload (pc := 73) dX8_priceIn_73 rfl ?_
      replace h := Option.some.inj h
      subst h
      exact g_iret (pc := 75) dX8_priceIn_75 rfl rfl rfl (Nat.le_refl _) (Nat.le_refl _)
    · replace h := (if_neg c1).symm.trans h
      refine g_aload_n (pc := 17) dX8_priceIn_17 rfl ?_
      refine g_gR (pc := 18) dX8_priceIn_18 fR_RX8_24 xc_1 (v := 10) rfl ?_
      refine g_iload (pc := 21) dX8_priceIn_21 rfl ?_
      obtain ⟨g2, h⟩ := x_gd h
      refine g_iaload (pc := 23) dX8_priceIn_23 xc_10 (xin_of g2) (v := (rd u 10 v5.toNatClampNeg)) rfl ?_
      refine g_iload_n (pc := 24) dX8_priceIn_24 rfl ?_
      refine g_icmp_ne (tgt := 67) (pc := 25) dX8_priceIn_25 (by decide) (fun c3 => ?_) (fun c3 => ?_)
      · replace h := (if_neg c3).symm.trans h
        exact G_X8_priceIn_67 hd ih v1 v2 v3 v4 v5 h
      · replace h := (if_pos c3).symm.trans h
        refine g_aload_n (pc := 28) dX8_priceIn_28 rfl ?_
        refine g_gR (pc := 29) dX8_priceIn_29 fR_RX8_27 xc_1 (v := 11) rfl ?_
        refine g_iload (pc := 32) dX8_priceIn_32 rfl ?_
        refine g_iaload (pc := 34) dX8_priceIn_34 xc_11 (xin_of g2) (v := (rd u 11 v5.toNatClampNeg)) rfl ?_
        refine g_iload_n (pc := 35) dX8_priceIn_35 rfl ?_
        refine g_icmp_gt (tgt := 67) (pc := 36) dX8_priceIn_36 (by decide) (fun c4 => ?_) (fun c4 => ?_)
        · replace h := (if_pos c4).symm.trans h
          exact G_X8_priceIn_67 hd ih v1 v2 v3 v4 v5 h
        · replace h := (if_neg c4).symm.trans h
          refine g_aload_n (pc := 39) dX8_priceIn_39 rfl ?_
          refine g_gR (pc := 40) dX8_priceIn_40 fR_RX8_27 xc_1 (v := 11) rfl ?_
          refine g_iload (pc := 43) dX8_priceIn_43 rfl ?_
          refine g_iaload (pc := 45) dX8_priceIn_45 xc_11 (xin_of g2) (v := (rd u 11 v5.toNatClampNeg)) rfl ?_
          refine g_iload_n (pc := 46) dX8_priceIn_46 rfl ?_
          refine g_icmp_lt (tgt := 67) (pc := 47) dX8_priceIn_47 (by decide) (fun c5 => ?_) (fun c5 => ?_)
          · replace h := (if_pos c5).symm.trans h
            exact G_X8_priceIn_67 hd ih v1 v2 v3 v4 v5 h
          · replace h := (if_neg c5).symm.trans h
            refine g_aload_n (pc := 50) dX8_priceIn_50 rfl ?_
            refine g_gR (pc := 51) dX8_priceIn_51 fR_RX8_27 xc_1 (v := 11) rfl ?_
            refine g_iload (pc := 54) dX8_priceIn_54 rfl ?_
            refine g_iaload (pc := 56) dX8_priceIn_56 xc_11 (xin_of g2) (v := (rd u 11 v5.toNatClampNeg)) rfl ?_
            refine g_istore_n (pc := 57) dX8_priceIn_57 (Nat.le_of_ble_eq_true rfl) (L' := [some (.ref 1), some (.int v1), some (.int v2), some (.int (rd u 11 v5.toNatClampNeg)), some (.int v4), some (.int v5)]) rfl ?_
            refine g_aload_n (pc := 58) dX8_priceIn_58 rfl ?_
            refine g_gR (pc := 59) dX8_priceIn_59 fR_RX8_30 xc_1 (v := 12) rfl ?_
            refine g_iload (pc := 62) dX8_priceIn_62 rfl ?_
            refine g_iaload (pc := 64) dX8_priceIn_64 xc_12 (xin_of g2) (v := (rd u 12 v5.toNatClampNeg)) rfl ?_
            refine g_istore (pc := 65) dX8_priceIn_65 (Nat.le_of_ble_eq_true rfl) (L' := [some (.ref 1), some (.int v1), some (.int v2), some (.int (rd u 11 v5.toNatClampNeg)), some (.int (rd u 12 v5.toNatClampNeg)), some (.int v5)]) rfl ?_
            exact G_X8_priceIn_67 hd ih v1 v2 (rd u 11 v5.toNatClampNeg) (rd u 12 v5.toNatClampNeg) v5 h
set_option maxRecDepth 100000 in
set_option maxHeartbeats 4000000 in
theorem G_X8_priceIn_0 {sc : Nat × (Nat → Int32)} {d : Nat} (hd : 0 ≤ d) {r : Int32} {u : xS} (v1 : Int32) (v2 : Int32) (h : f_X8_priceIn u v1 v2 = some r) : xG sc mX8_priceIn d 0 0 (xR (some (.int r)) (xL0, u) 0 0) 0 0 0 [some (.ref 1), some (.int v1), some (.int v2), none, none, none] [] (xL0, u) := by
  rw [f_X8_priceIn] at h
  refine g_iconst (pc := 0) dX8_priceIn_0 ic_m1 ?_
  refine g_istore_n (pc := 1) dX8_priceIn_1 (Nat.le_of_ble_eq_true rfl) (L' := [some (.ref 1), some (.int v1), some (.int v2), some (.int (-1 : Int32)), none, none]) rfl ?_
  refine g_iconst (pc := 2) dX8_priceIn_2 ic_0 ?_
  refine g_istore (pc := 3) dX8_priceIn_3 (Nat.le_of_ble_eq_true rfl) (L' := [some (.ref 1), some (.int v1), some (.int v2), some (.int (-1 : Int32)), some (.int (0 : Int32)), none]) rfl ?_
  refine g_iconst (pc := 5) dX8_priceIn_5 ic_0 ?_
  refine g_istore (pc := 6) dX8_priceIn_6 (Nat.le_of_ble_eq_true rfl) (L' := [some (.ref 1), some (.int v1), some (.int v2), some (.int (-1 : Int32)), some (.int (0 : Int32)), some (.int (0 : Int32))]) rfl ?_
  exact G_X8_priceIn_8 hd xN v1 v2 (-1 : Int32) (0 : Int32) (0 : Int32) h
set_option maxRecDepth 100000 in
set_option maxHeartbeats 4000000 in
theorem M_X8_priceIn {sc : Nat × (Nat → Int32)} {d : Nat} (hd : 0 ≤ d) {r : Int32} {u : xS} {a1 : Int32} {a2 : Int32} (h : f_X8_priceIn u a1 a2 = some r) : xMt sc mX8_priceIn d 0 0 [.ref 1, .int a1, .int a2] (xL0, u) (some (.int r)) (xL0, u) :=
  xMt.of (by decide +kernel) (by decide +kernel) (Nat.le_of_ble_eq_true rfl) (L := [some (.ref 1), some (.int a1), some (.int a2), none, none, none]) rfl ((G_X8_priceIn_0 hd a1 a2 h))
set_option maxRecDepth 100000 in
set_option maxHeartbeats 4000000 in
theorem G_X11_at_0 {sc : Nat × (Nat → Int32)} {d : Nat} (hd : 2 ≤ d) {r : Int32} {u : xS} (v1 : Int32) (v2 : Int32) (h : f_X11_at u v1 v2 = some r) : xG sc mX11_at d 0 0 (xR (some (.int r)) (xL0, u) 0 0) 0 0 0 [some (.ref 0), some (.int v1), some (.int v2)] [] (xL0, u) := by
  rw [f_X11_at] at h
  refine g_aload_n (pc := 0) dX11_at_0 rfl ?_
  refine g_gR (pc := 1) dX11_at_1 fR_RX11_12 xc_0 (v := 1) rfl ?_
  refine g_iload_n (pc := 4) dX11_at_4 rfl ?_
  refine g_cV (pc := 5) dX11_at_5 cV_RX11_98 (M_X8_has (Nat.le_refl _) rfl) xc_1 (as := [.int v1]) (st := []) rfl rfl (Nat.le_of_ble_eq_true rfl) (Nat.le_trans (Nat.le_of_ble_eq_true rfl) hd) rfl ?_
  refine g_if_eq (tgt := 30) (pc := 8) dX11_at_8 (by decide) (fun c1 => ?_) (fun c1 => ?_)
  · replace h := (if_pos c1).symm.trans h
    refine g_iconst (pc := 30) dX11_at_30 ic_m1 ?_
    replace h := Option.some.inj h
    subst h
    exact g_iret (pc := 31) dX11_at_31 rfl rfl rfl (Nat.le_refl _) (Nat.le_refl _)
  · replace h := (if_neg c1).symm.trans h
    refine g_iload_n (pc := 11) dX11_at_11 rfl ?_
    refine g_cS (pc := 12) dX11_at_12 cS_RX11_109 (M_X11_isDay (Nat.le_refl _) rfl) (as := [.int v2]) (st := []) rfl rfl (Nat.le_of_ble_eq_true rfl) (Nat.le_trans (Nat.le_of_ble_eq_true rfl) hd) rfl ?_
    refine g_if_eq (tgt := 30) (pc := 15) dX11_at_15 (by decide) (fun c2 => ?_) (fun c2 => ?_)
    · replace h := (if_pos c2).symm.trans h
      refine g_iconst (pc := 30) dX11_at_30 ic_m1 ?_
      replace h := Option.some.inj h
      subst h
      exact g_iret (pc := 31) dX11_at_31 rfl rfl rfl (Nat.le_refl _) (Nat.le_refl _)
    · replace h := (if_neg c2).symm.trans h
      refine g_aload_n (pc := 18) dX11_at_18 rfl ?_
      refine g_gR (pc := 19) dX11_at_19 fR_RX11_12 xc_0 (v := 1) rfl ?_
      refine g_iload_n (pc := 22) dX11_at_22 rfl ?_
      refine g_iload_n (pc := 23) dX11_at_23 rfl ?_
      obtain ⟨x4, e3, h⟩ := x_bind h
      refine g_cV (pc := 24) dX11_at_24 cV_RX11_119 (M_X8_priceIn (Nat.le_refl _) e3) xc_1 (as := [.int v1, .int v2]) (st := []) rfl rfl (Nat.le_of_ble_eq_true rfl) (Nat.le_trans (Nat.le_of_ble_eq_true rfl) hd) rfl ?_
      refine g_goto (tgt := 31) (pc := 27) dX11_at_27 (by decide) ?_
      replace h := Option.some.inj h
      subst h
      exact g_iret (pc := 31) dX11_at_31 rfl rfl rfl (Nat.le_refl _) (Nat.le_refl _)
set_option maxRecDepth 100000 in
set_option maxHeartbeats 4000000 in
theorem M_X11_at {sc : Nat × (Nat → Int32)} {d : Nat} (hd : 2 ≤ d) {r : Int32} {u : xS} {a1 : Int32} {a2 : Int32} (h : f_X11_at u a1 a2 = some r) : xMt sc mX11_at d 0 0 [.ref 0, .int a1, .int a2] (xL0, u) (some (.int r)) (xL0, u) :=
  xMt.of (by decide +kernel) (by decide +kernel) (Nat.le_of_ble_eq_true rfl) (L := [some (.ref 0), some (.int a1), some (.int a2)]) rfl ((G_X11_at_0 hd a1 a2 h))
theorem zb_X11_isSeller (v0 : Int32) : f_X11_isSeller v0 = 0 ∨ f_X11_isSeller v0 = 1 := by
  unfold f_X11_isSeller
  repeat' first | exact Or.inl rfl | exact Or.inr rfl | exact zb_X11_lies _ _ _ | apply x_ite
set_option maxRecDepth 100000 in
set_option maxHeartbeats 4000000 in
theorem G_X11_isSeller_0 {sc : Nat × (Nat → Int32)} {d : Nat} (hd : 1 ≤ d) {r : Int32} {u : xS} (v0 : Int32) (h : f_X11_isSeller v0 = r) : xG sc mX11_isSeller d 0 0 (xR (some (.int r)) (xL0, u) 0 0) 0 0 0 [some (.int v0)] [] (xL0, u) := by
  rw [f_X11_isSeller] at h
  refine g_iload_n (pc := 0) dX11_isSeller_0 rfl ?_
  refine g_iconst (pc := 1) dX11_isSeller_1 ic_0 ?_
  refine g_iconst (pc := 2) dX11_isSeller_2 ic_3 ?_
  refine g_cS (pc := 3) dX11_isSeller_3 cS_RX11_94 (M_X11_lies (Nat.le_refl _) rfl) (as := [.int v0, .int (0 : Int32), .int (3 : Int32)]) (st := []) rfl rfl (Nat.le_of_ble_eq_true rfl) (Nat.le_trans (Nat.le_of_ble_eq_true rfl) hd) rfl ?_
  subst h
  exact g_zret (pc := 6) dX11_isSeller_6 rfl (zb_X11_lies _ _ _) rfl rfl (Nat.le_refl _) (Nat.le_refl _)
set_option maxRecDepth 100000 in
set_option maxHeartbeats 4000000 in
theorem M_X11_isSeller {sc : Nat × (Nat → Int32)} {d : Nat} (hd : 1 ≤ d) {r : Int32} {u : xS} {a0 : Int32} (h : f_X11_isSeller a0 = r) : xMt sc mX11_isSeller d 0 0 [.int a0] (xL0, u) (some (.int r)) (xL0, u) :=
  xMt.of (by decide +kernel) (by decide +kernel) (Nat.le_of_ble_eq_true rfl) (L := [some (.int a0)]) rfl ((G_X11_isSeller_0 hd a0 h))
theorem zb_X11_isMark (v0 : Int32) : f_X11_isMark v0 = 0 ∨ f_X11_isMark v0 = 1 := by
  unfold f_X11_isMark
  repeat' first | exact Or.inl rfl | exact Or.inr rfl | exact zb_X11_lies _ _ _ | apply x_ite
set_option maxRecDepth 100000 in
set_option maxHeartbeats 4000000 in
theorem G_X11_isMark_0 {sc : Nat × (Nat → Int32)} {d : Nat} (hd : 1 ≤ d) {r : Int32} {u : xS} (v0 : Int32) (h : f_X11_isMark v0 = r) : xG sc mX11_isMark d 0 0 (xR (some (.int r)) (xL0, u) 0 0) 0 0 0 [some (.int v0)] [] (xL0, u) := by
  rw [f_X11_isMark] at h
  refine g_iload_n (pc := 0) dX11_isMark_0 rfl ?_
  refine g_iconst (pc := 1) dX11_isMark_1 ic_0 ?_
  refine g_bipush (pc := 2) dX11_isMark_2 bp_7 ?_
  refine g_cS (pc := 4) dX11_isMark_4 cS_RX11_94 (M_X11_lies (Nat.le_refl _) rfl) (as := [.int v0, .int (0 : Int32), .int (7 : Int32)]) (st := []) rfl rfl (Nat.le_of_ble_eq_true rfl) (Nat.le_trans (Nat.le_of_ble_eq_true rfl) hd) rfl ?_
  subst h
  exact g_zret (pc := 7) dX11_isMark_7 rfl (zb_X11_lies _ _ _) rfl rfl (Nat.le_refl _) (Nat.le_refl _)
set_option maxRecDepth 100000 in
set_option maxHeartbeats 4000000 in
theorem M_X11_isMark {sc : Nat × (Nat → Int32)} {d : Nat} (hd : 1 ≤ d) {r : Int32} {u : xS} {a0 : Int32} (h : f_X11_isMark a0 = r) : xMt sc mX11_isMark d 0 0 [.int a0] (xL0, u) (some (.int r)) (xL0, u) :=
  xMt.of (by decide +kernel) (by decide +kernel) (Nat.le_of_ble_eq_true rfl) (L := [some (.int a0)]) rfl ((G_X11_isMark_0 hd a0 h))
set_option maxRecDepth 100000 in
set_option maxHeartbeats 4000000 in
theorem G_X11_bale_42 {sc : Nat × (Nat → Int32)} {d : Nat} (hd : 2 ≤ d) {r : Int32} {u' : xS} (v1 : Int32) (v2 : Int32) (v3 : Int32) (v4 : Int32) (s0 : Int32) (u : xS) (h : f_X11_bale_42 v1 v2 v3 v4 s0 u = some (r, u')) : xG sc mX11_bale d 0 0 (xR (some (.int r)) (xL0, u') 0 0) 0 0 42 [some (.ref 0), some (.int v1), some (.int v2), some (.int v3), some (.int v4), none] [.int s0] (xL0, u) := by
  rw [f_X11_bale_42] at h
  refine g_istore (pc := 42) dX11_bale_42 (Nat.le_of_ble_eq_true rfl) (L' := [some (.ref 0), some (.int v1), some (.int v2), some (.int v3), some (.int v4), some (.int s0)]) rfl ?_
  refine g_iload (pc := 44) dX11_bale_44 rfl ?_
  refine g_if_eq (tgt := 76) (pc := 46) dX11_bale_46 (by decide) (fun c1 => ?_) (fun c1 => ?_)
  · replace h := (if_pos c1).symm.trans h
    refine g_iconst (pc := 76) dX11_bale_76 ic_m1 ?_
    obtain ⟨h1, h2⟩ := x_inj2 h
    subst h1
    subst h2
    exact g_iret (pc := 77) dX11_bale_77 rfl rfl rfl (Nat.le_refl _) (Nat.le_refl _)
  · replace h := (if_neg c1).symm.trans h
    refine g_aload_n (pc := 49) dX11_bale_49 rfl ?_
    refine g_gR (pc := 50) dX11_bale_50 fR_RX11_19 xc_0 (v := 13) rfl ?_
    refine g_gI (pc := 53) dX11_bale_53 fI_RX11_133 xc_13 (v := (rd u 13 8)) rfl ?_
    refine g_bipush (pc := 56) dX11_bale_56 bp_24 ?_
    refine g_icmp_ge (tgt := 76) (pc := 58) dX11_bale_58 (by decide) (fun c2 => ?_) (fun c2 => ?_)
    · replace h := (if_pos c2).symm.trans h
      refine g_iconst (pc := 76) dX11_bale_76 ic_m1 ?_
      obtain ⟨h1, h2⟩ := x_inj2 h
      subst h1
      subst h2
      exact g_iret (pc := 77) dX11_bale_77 rfl rfl rfl (Nat.le_refl _) (Nat.le_refl _)
    · replace h := (if_neg c2).symm.trans h
      refine g_aload_n (pc := 61) dX11_bale_61 rfl ?_
      refine g_gR (pc := 62) dX11_bale_62 fR_RX11_19 xc_0 (v := 13) rfl ?_
      refine g_iload_n (pc := 65) dX11_bale_65 rfl ?_
      refine g_iload_n (pc := 66) dX11_bale_66 rfl ?_
      refine g_iload_n (pc := 67) dX11_bale_67 rfl ?_
      refine g_iload (pc := 68) dX11_bale_68 rfl ?_
      obtain ⟨⟨x4, u5⟩, e3, h⟩ := x_bind h
      dsimp only at h
      refine g_cV (pc := 70) dX11_bale_70 cV_RX11_134 (M_X0_add (Nat.le_refl _) e3) xc_13 (as := [.int v1, .int v2, .int v3, .int v4]) (st := []) rfl rfl (Nat.le_of_ble_eq_true rfl) (Nat.le_trans (Nat.le_of_ble_eq_true rfl) hd) rfl ?_
      refine g_goto (tgt := 77) (pc := 73) dX11_bale_73 (by decide) ?_
      obtain ⟨h1, h2⟩ := x_inj2 h
      subst h1
      subst h2
      exact g_iret (pc := 77) dX11_bale_77 rfl rfl rfl (Nat.le_refl _) (Nat.le_refl _)
set_option maxRecDepth 100000 in
set_option maxHeartbeats 4000000 in
theorem G_X11_bale_41 {sc : Nat × (Nat → Int32)} {d : Nat} (hd : 2 ≤ d) {r : Int32} {u' : xS} (v1 : Int32) (v2 : Int32) (v3 : Int32) (v4 : Int32) (u : xS) (h : f_X11_bale_41 v1 v2 v3 v4 u = some (r, u')) : xG sc mX11_bale d 0 0 (xR (some (.int r)) (xL0, u') 0 0) 0 0 41 [some (.ref 0), some (.int v1), some (.int v2), some (.int v3), some (.int v4), none] [] (xL0, u) := by
  rw [f_X11_bale_41] at h
  refine g_iconst (pc := 41) dX11_bale_41 ic_0 ?_
  exact G_X11_bale_42 hd v1 v2 v3 v4 (0 : Int32) u h
set_option maxRecDepth 100000 in
set_option maxHeartbeats 4000000 in
theorem G_X11_bale_0 {sc : Nat × (Nat → Int32)} {d : Nat} (hd : 2 ≤ d) {r : Int32} {u' : xS} (v1 : Int32) (v2 : Int32) (v3 : Int32) (v4 : Int32) (u : xS) (h : f_X11_bale v1 v2 v3 v4 u = some (r, u')) : xG sc mX11_bale d 0 0 (xR (some (.int r)) (xL0, u') 0 0) 0 0 0 [some (.ref 0), some (.int v1), some (.int v2), some (.int v3), some (.int v4), none] [] (xL0, u) := by
  rw [f_X11_bale] at h
  refine g_iload_n (pc := 0) dX11_bale_0 rfl ?_
  refine g_cS (pc := 1) dX11_bale_1 cS_RX11_127 (M_X11_isSeller (Nat.le_refl _) rfl) (as := [.int v1]) (st := []) rfl rfl (Nat.le_of_ble_eq_true rfl) (Nat.le_trans (Nat.le_of_ble_eq_true rfl) hd) rfl ?_
  refine g_if_eq (tgt := 41) (pc := 4) dX11_bale_4 (by decide) (fun c1 => ?_) (fun c1 => ?_)
  · replace h := (if_pos c1).symm.trans h
    exact G_X11_bale_41 hd v1 v2 v3 v4 u h
  · replace h := (if_neg c1).symm.trans h
    refine g_iload_n (pc := 7) dX11_bale_7 rfl ?_
    refine g_cS (pc := 8) dX11_bale_8 cS_RX11_130 (M_X11_isMark (Nat.le_refl _) rfl) (as := [.int v2]) (st := []) rfl rfl (Nat.le_of_ble_eq_true rfl) (Nat.le_trans (Nat.le_of_ble_eq_true rfl) hd) rfl ?_
    refine g_if_eq (tgt := 41) (pc := 11) dX11_bale_11 (by decide) (fun c2 => ?_) (fun c2 => ?_)
    · replace h := (if_pos c2).symm.trans h
      exact G_X11_bale_41 hd v1 v2 v3 v4 u h
    · replace h := (if_neg c2).symm.trans h
      refine g_iload_n (pc := 14) dX11_bale_14 rfl ?_
      refine g_iconst (pc := 15) dX11_bale_15 ic_1 ?_
      refine g_sipush (pc := 16) dX11_bale_16 sp_9999 ?_
      refine g_cS (pc := 19) dX11_bale_19 cS_RX11_94 (M_X11_lies (Nat.le_refl _) rfl) (as := [.int v3, .int (1 : Int32), .int (9999 : Int32)]) (st := []) rfl rfl (Nat.le_of_ble_eq_true rfl) (Nat.le_trans (Nat.le_of_ble_eq_true rfl) hd) rfl ?_
      refine g_if_eq (tgt := 41) (pc := 22) dX11_bale_22 (by decide) (fun c3 => ?_) (fun c3 => ?_)
      · replace h := (if_pos c3).symm.trans h
        exact G_X11_bale_41 hd v1 v2 v3 v4 u h
      · replace h := (if_neg c3).symm.trans h
        refine g_iload (pc := 25) dX11_bale_25 rfl ?_
        refine g_iconst (pc := 27) dX11_bale_27 ic_0 ?_
        refine g_sipush (pc := 28) dX11_bale_28 sp_999 ?_
        refine g_cS (pc := 31) dX11_bale_31 cS_RX11_94 (M_X11_lies (Nat.le_refl _) rfl) (as := [.int v4, .int (0 : Int32), .int (999 : Int32)]) (st := []) rfl rfl (Nat.le_of_ble_eq_true rfl) (Nat.le_trans (Nat.le_of_ble_eq_true rfl) hd) rfl ?_
        refine g_if_eq (tgt := 41) (pc := 34) dX11_bale_34 (by decide) (fun c4 => ?_) (fun c4 => ?_)
        · replace h := (if_pos c4).symm.trans h
          exact G_X11_bale_41 hd v1 v2 v3 v4 u h
        · replace h := (if_neg c4).symm.trans h
          refine g_iconst (pc := 37) dX11_bale_37 ic_1 ?_
          refine g_goto (tgt := 42) (pc := 38) dX11_bale_38 (by decide) ?_
          exact G_X11_bale_42 hd v1 v2 v3 v4 (1 : Int32) u h
set_option maxRecDepth 100000 in
set_option maxHeartbeats 4000000 in
theorem M_X11_bale {sc : Nat × (Nat → Int32)} {d : Nat} (hd : 2 ≤ d) {r : Int32} {u u' : xS} {a1 : Int32} {a2 : Int32} {a3 : Int32} {a4 : Int32} (h : f_X11_bale a1 a2 a3 a4 u = some (r, u')) : xMt sc mX11_bale d 0 0 [.ref 0, .int a1, .int a2, .int a3, .int a4] (xL0, u) (some (.int r)) (xL0, u') :=
  xMt.of (by decide +kernel) (by decide +kernel) (Nat.le_of_ble_eq_true rfl) (L := [some (.ref 0), some (.int a1), some (.int a2), some (.int a3), some (.int a4), none]) rfl ((G_X11_bale_0 hd a1 a2 a3 a4 u h))
theorem zb_X11_isSorter (v0 : Int32) : f_X11_isSorter v0 = 0 ∨ f_X11_isSorter v0 = 1 := by
  unfold f_X11_isSorter
  repeat' first | exact Or.inl rfl | exact Or.inr rfl | exact zb_X11_lies _ _ _ | apply x_ite
set_option maxRecDepth 100000 in
set_option maxHeartbeats 4000000 in
theorem G_X11_isSorter_0 {sc : Nat × (Nat → Int32)} {d : Nat} (hd : 1 ≤ d) {r : Int32} {u : xS} (v0 : Int32) (h : f_X11_isSorter v0 = r) : xG sc mX11_isSorter d 0 0 (xR (some (.int r)) (xL0, u) 0 0) 0 0 0 [some (.int v0)] [] (xL0, u) := by
  rw [f_X11_isSorter] at h
  refine g_iload_n (pc := 0) dX11_isSorter_0 rfl ?_
  refine g_iconst (pc := 1) dX11_isSorter_1 ic_0 ?_
  refine g_iconst (pc := 2) dX11_isSorter_2 ic_5 ?_
  refine g_cS (pc := 3) dX11_isSorter_3 cS_RX11_94 (M_X11_lies (Nat.le_refl _) rfl) (as := [.int v0, .int (0 : Int32), .int (5 : Int32)]) (st := []) rfl rfl (Nat.le_of_ble_eq_true rfl) (Nat.le_trans (Nat.le_of_ble_eq_true rfl) hd) rfl ?_
  subst h
  exact g_zret (pc := 6) dX11_isSorter_6 rfl (zb_X11_lies _ _ _) rfl rfl (Nat.le_refl _) (Nat.le_refl _)
set_option maxRecDepth 100000 in
set_option maxHeartbeats 4000000 in
theorem M_X11_isSorter {sc : Nat × (Nat → Int32)} {d : Nat} (hd : 1 ≤ d) {r : Int32} {u : xS} {a0 : Int32} (h : f_X11_isSorter a0 = r) : xMt sc mX11_isSorter d 0 0 [.int a0] (xL0, u) (some (.int r)) (xL0, u) :=
  xMt.of (by decide +kernel) (by decide +kernel) (Nat.le_of_ble_eq_true rfl) (L := [some (.int a0)]) rfl ((G_X11_isSorter_0 hd a0 h))
