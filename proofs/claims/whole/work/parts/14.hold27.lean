set_option maxRecDepth 100000 in
set_option maxHeartbeats 4000000 in
theorem G_X7_join_57 {sc : Nat × (Nat → Int32)} {d : Nat} (hd : 2 ≤ d) {r : Int32} {u' : xS} (v1 : Int32) (v2 : Int32) (u : xS) (h : f_X7_join_57 v1 v2 u = some (r, u')) : xG sc mX7_join d 0 0 (xR (some (.int r)) (xL0, u') 0 0) 0 0 57 [some (.ref 54), some (.int v1), some (.int v2)] [] (xL0, u) := by
  rw [f_X7_join_57] at h
  refine g_aload_n (pc := 57) dX7_join_57 rfl ?_
  refine g_iload_n (pc := 58) dX7_join_58 rfl ?_
  obtain ⟨u2, e1, h⟩ := x_bind h
  refine g_cV (pc := 59) dX7_join_59 cV_RX7_41 (M_X7_bringOut (Nat.le_refl _) e1) xc_54 (as := [.int v2]) (st := []) rfl rfl (Nat.le_of_ble_eq_true rfl) (Nat.le_trans (Nat.le_of_ble_eq_true rfl) hd) rfl ?_
  refine g_aload_n (pc := 62) dX7_join_62 rfl ?_
  refine g_iload_n (pc := 63) dX7_join_63 rfl ?_
  obtain ⟨u4, e3, h⟩ := x_bind h
  refine g_cV (pc := 64) dX7_join_64 cV_RX7_60 (M_X7_hold (Nat.le_refl _) e3) xc_54 (as := [.int v1]) (st := []) rfl rfl (Nat.le_of_ble_eq_true rfl) (Nat.le_trans (Nat.le_of_ble_eq_true rfl) hd) rfl ?_
  refine g_aload_n (pc := 67) dX7_join_67 rfl ?_
  refine g_iconst (pc := 68) dX7_join_68 ic_1 ?_
  refine g_pZ (pc := 69) dX7_join_69 pZ_RX7_26 xc_54 (Or.inr rfl) (u' := (wr u4 54 7 (1 : Int32))) rfl ?_
  refine g_iconst (pc := 72) dX7_join_72 ic_1 ?_
  obtain ⟨h1, h2⟩ := x_inj2 h
  subst h1
  subst h2
  exact g_zret (pc := 73) dX7_join_73 rfl (Or.inr rfl) rfl rfl (Nat.le_refl _) (Nat.le_refl _)
set_option maxRecDepth 100000 in
set_option maxHeartbeats 4000000 in
theorem G_X7_join_56 {sc : Nat × (Nat → Int32)} {d : Nat} (hd : 2 ≤ d) {r : Int32} {u' : xS} (v1 : Int32) (v2 : Int32) (s1 : Int32) (s2 : Int32) (u : xS) (h : f_X7_join_56 v1 v2 s1 s2 u = some (r, u')) : xG sc mX7_join d 0 0 (xR (some (.int r)) (xL0, u') 0 0) 0 0 56 [some (.ref 54), some (.int v1), some (.int v2)] [.int s2, .int s1, .ref 57] (xL0, u) := by
  rw [f_X7_join_56] at h
  obtain ⟨g1, h⟩ := x_gd h
  obtain ⟨g2, h⟩ := x_gd h
  refine g_bastoreB (pc := 56) dX7_join_56 xc_57 (xin_of g1) (xb_of g2) (u' := (wr u 57 s1.toNatClampNeg s2)) rfl ?_
  exact G_X7_join_57 hd v1 v2 (wr u 57 s1.toNatClampNeg s2) h
set_option maxRecDepth 100000 in
set_option maxHeartbeats 4000000 in
theorem G_X7_join_33 {sc : Nat × (Nat → Int32)} {d : Nat} (hd : 2 ≤ d) {r : Int32} {u' : xS} (v1 : Int32) (v2 : Int32) (u : xS) (h : f_X7_join_33 v1 v2 u = some (r, u')) : xG sc mX7_join d 0 0 (xR (some (.int r)) (xL0, u') 0 0) 0 0 33 [some (.ref 54), some (.int v1), some (.int v2)] [] (xL0, u) := by
  rw [f_X7_join_33] at h
  refine g_iload_n (pc := 33) dX7_join_33 rfl ?_
  refine g_iconst (pc := 34) dX7_join_34 ic_3 ?_
  refine g_icmp_gt (tgt := 57) (pc := 35) dX7_join_35 (by decide) (fun c1 => ?_) (fun c1 => ?_)
  · replace h := (if_pos c1).symm.trans h
    exact G_X7_join_57 hd v1 v2 u h
  · replace h := (if_neg c1).symm.trans h
    refine g_aload_n (pc := 38) dX7_join_38 rfl ?_
    refine g_gR (pc := 39) dX7_join_39 fR_RX7_18 xc_54 (v := 57) rfl ?_
    refine g_aload_n (pc := 42) dX7_join_42 rfl ?_
    refine g_gI (pc := 43) dX7_join_43 fI_RX7_37 xc_54 (v := (rd u 54 5)) rfl ?_
    refine g_iload_n (pc := 46) dX7_join_46 rfl ?_
    refine g_iconst (pc := 47) dX7_join_47 ic_3 ?_
    refine g_icmp_ne (tgt := 55) (pc := 48) dX7_join_48 (by decide) (fun c2 => ?_) (fun c2 => ?_)
    · replace h := (if_neg c2).symm.trans h
      refine g_iconst (pc := 55) dX7_join_55 ic_0 ?_
      exact G_X7_join_56 hd v1 v2 (rd u 54 5) (0 : Int32) u h
    · replace h := (if_pos c2).symm.trans h
      refine g_iconst (pc := 51) dX7_join_51 ic_1 ?_
      refine g_goto (tgt := 56) (pc := 52) dX7_join_52 (by decide) ?_
      exact G_X7_join_56 hd v1 v2 (rd u 54 5) (1 : Int32) u h
set_option maxRecDepth 100000 in
set_option maxHeartbeats 4000000 in
theorem G_X7_join_0 {sc : Nat × (Nat → Int32)} {d : Nat} (hd : 2 ≤ d) {r : Int32} {u' : xS} (v1 : Int32) (u : xS) (h : f_X7_join v1 u = some (r, u')) : xG sc mX7_join d 0 0 (xR (some (.int r)) (xL0, u') 0 0) 0 0 0 [some (.ref 54), some (.int v1), none] [] (xL0, u) := by
  rw [f_X7_join] at h
  refine g_iload_n (pc := 0) dX7_join_0 rfl ?_
  refine g_cS (pc := 1) dX7_join_1 cS_RX7_85 (M_X7_level (Nat.le_refl _) rfl) (as := [.int v1]) (st := []) rfl rfl (Nat.le_of_ble_eq_true rfl) (Nat.le_trans (Nat.le_of_ble_eq_true rfl) hd) rfl ?_
  refine g_istore_n (pc := 4) dX7_join_4 (Nat.le_of_ble_eq_true rfl) (L' := [some (.ref 54), some (.int v1), some (.int (f_X7_level v1))]) rfl ?_
  refine g_aload_n (pc := 5) dX7_join_5 rfl ?_
  refine g_gI (pc := 6) dX7_join_6 fI_RX7_37 xc_54 (v := (rd u 54 5)) rfl ?_
  refine g_bipush (pc := 9) dX7_join_9 bp_64 ?_
  refine g_icmp_ge (tgt := 31) (pc := 11) dX7_join_11 (by decide) (fun c1 => ?_) (fun c1 => ?_)
  · replace h := (if_pos c1).symm.trans h
    refine g_iconst (pc := 31) dX7_join_31 ic_0 ?_
    obtain ⟨h1, h2⟩ := x_inj2 h
    subst h1
    subst h2
    exact g_zret (pc := 32) dX7_join_32 rfl (Or.inl rfl) rfl rfl (Nat.le_refl _) (Nat.le_refl _)
  · replace h := (if_neg c1).symm.trans h
    refine g_iload_n (pc := 14) dX7_join_14 rfl ?_
    refine g_iconst (pc := 15) dX7_join_15 ic_3 ?_
    refine g_icmp_ne (tgt := 33) (pc := 16) dX7_join_16 (by decide) (fun c2 => ?_) (fun c2 => ?_)
    · replace h := (if_neg c2).symm.trans h
      exact G_X7_join_33 hd v1 (f_X7_level v1) u h
    · replace h := (if_pos c2).symm.trans h
      refine g_aload_n (pc := 19) dX7_join_19 rfl ?_
      refine g_gR (pc := 20) dX7_join_20 fR_RX7_18 xc_54 (v := 57) rfl ?_
      refine g_aload_n (pc := 23) dX7_join_23 rfl ?_
      refine g_gI (pc := 24) dX7_join_24 fI_RX7_37 xc_54 (v := (rd u 54 5)) rfl ?_
      obtain ⟨g3, h⟩ := x_gd h
      refine g_baload (pc := 27) dX7_join_27 xc_57 (xin_of g3) (v := (rd u 57 (rd u 54 5).toNatClampNeg)) rfl ?_
      refine g_if_eq (tgt := 33) (pc := 28) dX7_join_28 (by decide) (fun c4 => ?_) (fun c4 => ?_)
      · replace h := (if_pos c4).symm.trans h
        exact G_X7_join_33 hd v1 (f_X7_level v1) u h
      · replace h := (if_neg c4).symm.trans h
        refine g_iconst (pc := 31) dX7_join_31 ic_0 ?_
        obtain ⟨h1, h2⟩ := x_inj2 h
        subst h1
        subst h2
        exact g_zret (pc := 32) dX7_join_32 rfl (Or.inl rfl) rfl rfl (Nat.le_refl _) (Nat.le_refl _)
set_option maxRecDepth 100000 in
set_option maxHeartbeats 4000000 in
theorem M_X7_join {sc : Nat × (Nat → Int32)} {d : Nat} (hd : 2 ≤ d) {r : Int32} {u u' : xS} {a1 : Int32} (h : f_X7_join a1 u = some (r, u')) : xMt sc mX7_join d 0 0 [.ref 54, .int a1] (xL0, u) (some (.int r)) (xL0, u') :=
  xMt.of (by decide +kernel) (by decide +kernel) (Nat.le_of_ble_eq_true rfl) (L := [some (.ref 54), some (.int a1), none]) rfl ((G_X7_join_0 hd a1 u h))
set_option maxRecDepth 100000 in
set_option maxHeartbeats 4000000 in
theorem G_X7_partHere_0 {sc : Nat × (Nat → Int32)} {d : Nat} (hd : 2 ≤ d) {r : Int32} {u' : xS} (u : xS) (h : f_X7_partHere u = some (r, u')) : xG sc mX7_partHere d 0 0 (xR (some (.int r)) (xL0, u') 0 0) 0 0 0 [some (.ref 54)] [] (xL0, u) := by
  rw [f_X7_partHere] at h
  refine g_aload_n (pc := 0) dX7_partHere_0 rfl ?_
  refine g_gI (pc := 1) dX7_partHere_1 fI_RX7_57 xc_54 (v := (rd u 54 8)) rfl ?_
  refine g_if_eq (tgt := 14) (pc := 4) dX7_partHere_4 (by decide) (fun c1 => ?_) (fun c1 => ?_)
  · replace h := (if_pos c1).symm.trans h
    refine g_iconst (pc := 14) dX7_partHere_14 ic_0 ?_
    obtain ⟨h1, h2⟩ := x_inj2 h
    subst h1
    subst h2
    exact g_zret (pc := 15) dX7_partHere_15 rfl (Or.inl rfl) rfl rfl (Nat.le_refl _) (Nat.le_refl _)
  · replace h := (if_neg c1).symm.trans h
    refine g_aload_n (pc := 7) dX7_partHere_7 rfl ?_
    refine g_gI (pc := 8) dX7_partHere_8 fI_RX7_37 xc_54 (v := (rd u 54 5)) rfl ?_
    refine g_if_le (tgt := 16) (pc := 11) dX7_partHere_11 (by decide) (fun c2 => ?_) (fun c2 => ?_)
    · replace h := (if_pos c2).symm.trans h
      refine g_aload_n (pc := 16) dX7_partHere_16 rfl ?_
      refine g_iconst (pc := 17) dX7_partHere_17 ic_1 ?_
      obtain ⟨u4, e3, h⟩ := x_bind h
      refine g_cV (pc := 18) dX7_partHere_18 cV_RX7_41 (M_X7_bringOut (Nat.le_refl _) e3) xc_54 (as := [.int (1 : Int32)]) (st := []) rfl rfl (Nat.le_of_ble_eq_true rfl) (Nat.le_trans (Nat.le_of_ble_eq_true rfl) hd) rfl ?_
      refine g_aload_n (pc := 21) dX7_partHere_21 rfl ?_
      refine g_bipush (pc := 22) dX7_partHere_22 bp_m59 ?_
      obtain ⟨u6, e5, h⟩ := x_bind h
      refine g_cV (pc := 24) dX7_partHere_24 cV_RX7_45 (M_X7_emit (Nat.le_refl _) e5) xc_54 (as := [.int (-59 : Int32)]) (st := []) rfl rfl (Nat.le_of_ble_eq_true rfl) (Nat.le_trans (Nat.le_of_ble_eq_true rfl) hd) rfl ?_
      refine g_aload_n (pc := 27) dX7_partHere_27 rfl ?_
      refine g_gR (pc := 28) dX7_partHere_28 fR_RX7_18 xc_54 (v := 57) rfl ?_
      refine g_iconst (pc := 31) dX7_partHere_31 ic_0 ?_
      refine g_iconst (pc := 32) dX7_partHere_32 ic_0 ?_
      refine g_bastoreB (pc := 33) dX7_partHere_33 xc_57 vin_0_64 (Or.inl rfl) (u' := (wr u6 57 0 (0 : Int32))) rfl ?_
      refine g_aload_n (pc := 34) dX7_partHere_34 rfl ?_
      refine g_iconst (pc := 35) dX7_partHere_35 ic_1 ?_
      refine g_pZ (pc := 36) dX7_partHere_36 pZ_RX7_26 xc_54 (Or.inr rfl) (u' := (wr (wr u6 57 0 (0 : Int32)) 54 7 (1 : Int32))) rfl ?_
      refine g_iconst (pc := 39) dX7_partHere_39 ic_1 ?_
      obtain ⟨h1, h2⟩ := x_inj2 h
      subst h1
      subst h2
      exact g_zret (pc := 40) dX7_partHere_40 rfl (Or.inr rfl) rfl rfl (Nat.le_refl _) (Nat.le_refl _)
    · replace h := (if_neg c2).symm.trans h
      refine g_iconst (pc := 14) dX7_partHere_14 ic_0 ?_
      obtain ⟨h1, h2⟩ := x_inj2 h
      subst h1
      subst h2
      exact g_zret (pc := 15) dX7_partHere_15 rfl (Or.inl rfl) rfl rfl (Nat.le_refl _) (Nat.le_refl _)
set_option maxRecDepth 100000 in
set_option maxHeartbeats 4000000 in
theorem M_X7_partHere {sc : Nat × (Nat → Int32)} {d : Nat} (hd : 2 ≤ d) {r : Int32} {u u' : xS} (h : f_X7_partHere u = some (r, u')) : xMt sc mX7_partHere d 0 0 [.ref 54] (xL0, u) (some (.int r)) (xL0, u') :=
  xMt.of (by decide +kernel) (by decide +kernel) (Nat.le_of_ble_eq_true rfl) (L := [some (.ref 54)]) rfl ((G_X7_partHere_0 hd u h))
set_option maxRecDepth 100000 in
set_option maxHeartbeats 4000000 in
theorem G_X7_close_31 {sc : Nat × (Nat → Int32)} {d : Nat} (hd : 2 ≤ d) {r : Int32} {u' : xS} (u : xS) (h : f_X7_close_31 u = some (r, u')) : xG sc mX7_close d 0 0 (xR (some (.int r)) (xL0, u') 0 0) 0 0 31 [some (.ref 54)] [] (xL0, u) := by
  rw [f_X7_close_31] at h
  refine g_aload_n (pc := 31) dX7_close_31 rfl ?_
  refine g_dup (pc := 32) dX7_close_32 rfl ?_
  refine g_gI (pc := 33) dX7_close_33 fI_RX7_37 xc_54 (v := (rd u 54 5)) rfl ?_
  refine g_iconst (pc := 36) dX7_close_36 ic_1 ?_
  refine g_isub (pc := 37) dX7_close_37 rfl ?_
  refine g_pI (pc := 38) dX7_close_38 pI_RX7_37 xc_54 (u' := (wr u 54 5 ((rd u 54 5) - (1 : Int32)))) rfl ?_
  refine g_iconst (pc := 41) dX7_close_41 ic_1 ?_
  obtain ⟨h1, h2⟩ := x_inj2 h
  subst h1
  subst h2
  exact g_zret (pc := 42) dX7_close_42 rfl (Or.inr rfl) rfl rfl (Nat.le_refl _) (Nat.le_refl _)
set_option maxRecDepth 100000 in
set_option maxHeartbeats 4000000 in
theorem G_X7_close_0 {sc : Nat × (Nat → Int32)} {d : Nat} (hd : 2 ≤ d) {r : Int32} {u' : xS} (u : xS) (h : f_X7_close u = some (r, u')) : xG sc mX7_close d 0 0 (xR (some (.int r)) (xL0, u') 0 0) 0 0 0 [some (.ref 54)] [] (xL0, u) := by
  rw [f_X7_close] at h
  refine g_aload_n (pc := 0) dX7_close_0 rfl ?_
  refine g_gI (pc := 1) dX7_close_1 fI_RX7_37 xc_54 (v := (rd u 54 5)) rfl ?_
  refine g_if_ne (tgt := 9) (pc := 4) dX7_close_4 (by decide) (fun c1 => ?_) (fun c1 => ?_)
  · replace h := (if_neg c1).symm.trans h
    refine g_aload_n (pc := 9) dX7_close_9 rfl ?_
    refine g_iconst (pc := 10) dX7_close_10 ic_1 ?_
    obtain ⟨u3, e2, h⟩ := x_bind h
    refine g_cV (pc := 11) dX7_close_11 cV_RX7_41 (M_X7_bringOut (Nat.le_refl _) e2) xc_54 (as := [.int (1 : Int32)]) (st := []) rfl rfl (Nat.le_of_ble_eq_true rfl) (Nat.le_trans (Nat.le_of_ble_eq_true rfl) hd) rfl ?_
    refine g_aload_n (pc := 14) dX7_close_14 rfl ?_
    refine g_gI (pc := 15) dX7_close_15 fI_RX7_51 xc_54 (v := (rd u3 54 3)) rfl ?_
    refine g_if_le (tgt := 31) (pc := 18) dX7_close_18 (by decide) (fun c4 => ?_) (fun c4 => ?_)
    · replace h := (if_pos c4).symm.trans h
      exact G_X7_close_31 hd u3 h
    · replace h := (if_neg c4).symm.trans h
      refine g_aload_n (pc := 21) dX7_close_21 rfl ?_
      refine g_dup (pc := 22) dX7_close_22 rfl ?_
      refine g_gI (pc := 23) dX7_close_23 fI_RX7_51 xc_54 (v := (rd u3 54 3)) rfl ?_
      refine g_iconst (pc := 26) dX7_close_26 ic_1 ?_
      refine g_isub (pc := 27) dX7_close_27 rfl ?_
      refine g_pI (pc := 28) dX7_close_28 pI_RX7_51 xc_54 (u' := (wr u3 54 3 ((rd u3 54 3) - (1 : Int32)))) rfl ?_
      exact G_X7_close_31 hd (wr u3 54 3 ((rd u3 54 3) - (1 : Int32))) h
  · replace h := (if_pos c1).symm.trans h
    refine g_iconst (pc := 7) dX7_close_7 ic_0 ?_
    obtain ⟨h1, h2⟩ := x_inj2 h
    subst h1
    subst h2
    exact g_zret (pc := 8) dX7_close_8 rfl (Or.inl rfl) rfl rfl (Nat.le_refl _) (Nat.le_refl _)
set_option maxRecDepth 100000 in
set_option maxHeartbeats 4000000 in
theorem M_X7_close {sc : Nat × (Nat → Int32)} {d : Nat} (hd : 2 ≤ d) {r : Int32} {u u' : xS} (h : f_X7_close u = some (r, u')) : xMt sc mX7_close d 0 0 [.ref 54] (xL0, u) (some (.int r)) (xL0, u') :=
  xMt.of (by decide +kernel) (by decide +kernel) (Nat.le_of_ble_eq_true rfl) (L := [some (.ref 54)]) rfl ((G_X7_close_0 hd u h))
set_option maxRecDepth 100000 in
set_option maxHeartbeats 4000000 in
theorem G_X7_lengthen_0 {sc : Nat × (Nat → Int32)} {d : Nat} (hd : 0 ≤ d) {r : Int32} {u' : xS} (v1 : Int32) (u : xS) (h : f_X7_lengthen v1 u = some (r, u')) : xG sc mX7_lengthen d 0 0 (xR (some (.int r)) (xL0, u') 0 0) 0 0 0 [some (.ref 54), some (.int v1)] [] (xL0, u) := by
  rw [f_X7_lengthen] at h
  refine g_aload_n (pc := 0) dX7_lengthen_0 rfl ?_
  refine g_gI (pc := 1) dX7_lengthen_1 fI_RX7_54 xc_54 (v := (rd u 54 6)) rfl ?_
  refine g_if_eq (tgt := 22) (pc := 4) dX7_lengthen_4 (by decide) (fun c1 => ?_) (fun c1 => ?_)
  · replace h := (if_pos c1).symm.trans h
    refine g_iconst (pc := 22) dX7_lengthen_22 ic_0 ?_
    obtain ⟨h1, h2⟩ := x_inj2 h
    subst h1
    subst h2
    exact g_zret (pc := 23) dX7_lengthen_23 rfl (Or.inl rfl) rfl rfl (Nat.le_refl _) (Nat.le_refl _)
  · replace h := (if_neg c1).symm.trans h
    refine g_aload_n (pc := 7) dX7_lengthen_7 rfl ?_
    refine g_gI (pc := 8) dX7_lengthen_8 fI_RX7_54 xc_54 (v := (rd u 54 6)) rfl ?_
    refine g_iconst (pc := 11) dX7_lengthen_11 ic_4 ?_
    refine g_icmp_ge (tgt := 22) (pc := 12) dX7_lengthen_12 (by decide) (fun c2 => ?_) (fun c2 => ?_)
    · replace h := (if_pos c2).symm.trans h
      refine g_iconst (pc := 22) dX7_lengthen_22 ic_0 ?_
      obtain ⟨h1, h2⟩ := x_inj2 h
      subst h1
      subst h2
      exact g_zret (pc := 23) dX7_lengthen_23 rfl (Or.inl rfl) rfl rfl (Nat.le_refl _) (Nat.le_refl _)
    · replace h := (if_neg c2).symm.trans h
      refine g_aload_n (pc := 15) dX7_lengthen_15 rfl ?_
      refine g_gI (pc := 16) dX7_lengthen_16 fI_RX7_48 xc_54 (v := (rd u 54 1)) rfl ?_
      refine g_if_ne (tgt := 24) (pc := 19) dX7_lengthen_19 (by decide) (fun c3 => ?_) (fun c3 => ?_)
      · replace h := (if_neg c3).symm.trans h
        refine g_aload_n (pc := 24) dX7_lengthen_24 rfl ?_
        refine g_dup (pc := 25) dX7_lengthen_25 rfl ?_
        refine g_gI (pc := 26) dX7_lengthen_26 fI_RX7_54 xc_54 (v := (rd u 54 6)) rfl ?_
        refine g_iconst (pc := 29) dX7_lengthen_29 ic_1 ?_
        refine g_iadd (pc := 30) dX7_lengthen_30 rfl ?_
        refine g_pI (pc := 31) dX7_lengthen_31 pI_RX7_54 xc_54 (u' := (wr u 54 6 ((rd u 54 6) + (1 : Int32)))) rfl ?_
        refine g_aload_n (pc := 34) dX7_lengthen_34 rfl ?_
        refine g_gR (pc := 35) dX7_lengthen_35 fR_RX7_11 xc_54 (v := 55) rfl ?_
        refine g_aload_n (pc := 38) dX7_lengthen_38 rfl ?_
        refine g_gI (pc := 39) dX7_lengthen_39 fI_RX7_48 xc_54 (v := (rd u 54 1)) rfl ?_
        refine g_iconst (pc := 42) dX7_lengthen_42 ic_1 ?_
        refine g_isub (pc := 43) dX7_lengthen_43 rfl ?_
        refine g_aload_n (pc := 44) dX7_lengthen_44 rfl ?_
        refine g_gR (pc := 45) dX7_lengthen_45 fR_RX7_11 xc_54 (v := 55) rfl ?_
        refine g_aload_n (pc := 48) dX7_lengthen_48 rfl ?_
        refine g_gI (pc := 49) dX7_lengthen_49 fI_RX7_48 xc_54 (v := (rd u 54 1)) rfl ?_
        refine g_iconst (pc := 52) dX7_lengthen_52 ic_1 ?_
        refine g_isub (pc := 53) dX7_lengthen_53 rfl ?_
        obtain ⟨g4, h⟩ := x_gd h
        refine g_iaload (pc := 54) dX7_lengthen_54 xc_55 (xin_of g4) (v := (rd u 55 ((rd u 54 1) - (1 : Int32)).toNatClampNeg)) rfl ?_
        refine g_bipush (pc := 55) dX7_lengthen_55 bp_10 ?_
        refine g_imul (pc := 57) dX7_lengthen_57 rfl ?_
        refine g_iload_n (pc := 58) dX7_lengthen_58 rfl ?_
        refine g_iadd (pc := 59) dX7_lengthen_59 rfl ?_
        refine g_iastore (pc := 60) dX7_lengthen_60 xc_55 (xin_of g4) (u' := (wr (wr u 54 6 ((rd u 54 6) + (1 : Int32))) 55 ((rd u 54 1) - (1 : Int32)).toNatClampNeg (((rd u 55 ((rd u 54 1) - (1 : Int32)).toNatClampNeg) * (10 : Int32)) + v1))) rfl ?_
        refine g_iconst (pc := 61) dX7_lengthen_61 ic_1 ?_
        obtain ⟨h1, h2⟩ := x_inj2 h
        subst h1
        subst h2
        exact g_zret (pc := 62) dX7_lengthen_62 rfl (Or.inr rfl) rfl rfl (Nat.le_refl _) (Nat.le_refl _)
      · replace h := (if_pos c3).symm.trans h
        refine g_iconst (pc := 22) dX7_lengthen_22 ic_0 ?_
        obtain ⟨h1, h2⟩ := x_inj2 h
        subst h1
        subst h2
        exact g_zret (pc := 23) dX7_lengthen_23 rfl (Or.inl rfl) rfl rfl (Nat.le_refl _) (Nat.le_refl _)
set_option maxRecDepth 100000 in
set_option maxHeartbeats 4000000 in
theorem M_X7_lengthen {sc : Nat × (Nat → Int32)} {d : Nat} (hd : 0 ≤ d) {r : Int32} {u u' : xS} {a1 : Int32} (h : f_X7_lengthen a1 u = some (r, u')) : xMt sc mX7_lengthen d 0 0 [.ref 54, .int a1] (xL0, u) (some (.int r)) (xL0, u') :=
  xMt.of (by decide +kernel) (by decide +kernel) (Nat.le_of_ble_eq_true rfl) (L := [some (.ref 54), some (.int a1)]) rfl ((G_X7_lengthen_0 hd a1 u h))
set_option maxRecDepth 100000 in
set_option maxHeartbeats 4000000 in
theorem G_X7_goesOn_0 {sc : Nat × (Nat → Int32)} {d : Nat} (hd : 3 ≤ d) {r : Int32} {u' : xS} (v1 : Int32) (u : xS) (h : f_X7_goesOn v1 u = some (r, u')) : xG sc mX7_goesOn d 0 0 (xR (some (.int r)) (xL0, u') 0 0) 0 0 0 [some (.ref 54), some (.int v1)] [] (xL0, u) := by
  rw [f_X7_goesOn] at h
  refine g_iload_n (pc := 0) dX7_goesOn_0 rfl ?_
  refine g_cS (pc := 1) dX7_goesOn_1 cS_RX7_63 (M_X7_isDigit (Nat.le_refl _) rfl) (as := [.int v1]) (st := []) rfl rfl (Nat.le_of_ble_eq_true rfl) (Nat.le_trans (Nat.le_of_ble_eq_true rfl) hd) rfl ?_
  refine g_if_eq (tgt := 16) (pc := 4) dX7_goesOn_4 (by decide) (fun c1 => ?_) (fun c1 => ?_)
  · replace h := (if_pos c1).symm.trans h
    refine g_aload_n (pc := 16) dX7_goesOn_16 rfl ?_
    refine g_iconst (pc := 17) dX7_goesOn_17 ic_0 ?_
    refine g_pI (pc := 18) dX7_goesOn_18 pI_RX7_54 xc_54 (u' := (wr u 54 6 (0 : Int32))) rfl ?_
    refine g_iload_n (pc := 21) dX7_goesOn_21 rfl ?_
    refine g_bipush (pc := 22) dX7_goesOn_22 bp_41 ?_
    refine g_icmp_ne (tgt := 32) (pc := 24) dX7_goesOn_24 (by decide) (fun c2 => ?_) (fun c2 => ?_)
    · replace h := (if_neg c2).symm.trans h
      refine g_iload_n (pc := 32) dX7_goesOn_32 rfl ?_
      refine g_bipush (pc := 33) dX7_goesOn_33 bp_59 ?_
      refine g_icmp_ne (tgt := 43) (pc := 35) dX7_goesOn_35 (by decide) (fun c3 => ?_) (fun c3 => ?_)
      · replace h := (if_neg c3).symm.trans h
        refine g_iload_n (pc := 43) dX7_goesOn_43 rfl ?_
        refine g_cS (pc := 44) dX7_goesOn_44 cS_RX7_79 (M_X7_joins (Nat.le_refl _) rfl) (as := [.int v1]) (st := []) rfl rfl (Nat.le_of_ble_eq_true rfl) (Nat.le_trans (Nat.le_of_ble_eq_true rfl) hd) rfl ?_
        refine g_if_eq (tgt := 62) (pc := 47) dX7_goesOn_47 (by decide) (fun c4 => ?_) (fun c4 => ?_)
        · replace h := (if_pos c4).symm.trans h
          refine g_iconst (pc := 62) dX7_goesOn_62 ic_0 ?_
          obtain ⟨h1, h2⟩ := x_inj2 h
          subst h1
          subst h2
          exact g_zret (pc := 63) dX7_goesOn_63 rfl (Or.inl rfl) rfl rfl (Nat.le_refl _) (Nat.le_refl _)
        · replace h := (if_neg c4).symm.trans h
          refine g_aload_n (pc := 50) dX7_goesOn_50 rfl ?_
          refine g_iload_n (pc := 51) dX7_goesOn_51 rfl ?_
          obtain ⟨⟨x6, u7⟩, e5, h⟩ := x_bind h
          dsimp only at h
          refine g_cV (pc := 52) dX7_goesOn_52 cV_RX7_82 (M_X7_join (Nat.le_refl _) e5) xc_54 (as := [.int v1]) (st := []) rfl rfl (Nat.le_of_ble_eq_true rfl) (Nat.le_trans (Nat.le_of_ble_eq_true rfl) hd) rfl ?_
          refine g_if_eq (tgt := 62) (pc := 55) dX7_goesOn_55 (by decide) (fun c8 => ?_) (fun c8 => ?_)
          · replace h := (if_pos c8).symm.trans h
            refine g_iconst (pc := 62) dX7_goesOn_62 ic_0 ?_
            obtain ⟨h1, h2⟩ := x_inj2 h
            subst h1
            subst h2
            exact g_zret (pc := 63) dX7_goesOn_63 rfl (Or.inl rfl) rfl rfl (Nat.le_refl _) (Nat.le_refl _)
          · replace h := (if_neg c8).symm.trans h
            refine g_iconst (pc := 58) dX7_goesOn_58 ic_1 ?_
            refine g_goto (tgt := 63) (pc := 59) dX7_goesOn_59 (by decide) ?_
            obtain ⟨h1, h2⟩ := x_inj2 h
            subst h1
            subst h2
            exact g_zret (pc := 63) dX7_goesOn_63 rfl (Or.inr rfl) rfl rfl (Nat.le_refl _) (Nat.le_refl _)
      · replace h := (if_pos c3).symm.trans h
        refine g_aload_n (pc := 38) dX7_goesOn_38 rfl ?_
        obtain ⟨⟨x11, u12⟩, e10, h⟩ := x_bind h
        dsimp only at h
        refine g_cV (pc := 39) dX7_goesOn_39 cV_RX7_76 (M_X7_partHere (Nat.le_refl _) e10) xc_54 (as := []) (st := []) rfl rfl (Nat.le_of_ble_eq_true rfl) (Nat.le_trans (Nat.le_of_ble_eq_true rfl) hd) rfl ?_
        obtain ⟨g13, h⟩ := x_gd h
        obtain ⟨h1, h2⟩ := x_inj2 h
        subst h1
        subst h2
        exact g_zret (pc := 42) dX7_goesOn_42 rfl (xb_of g13) rfl rfl (Nat.le_refl _) (Nat.le_refl _)
    · replace h := (if_pos c2).symm.trans h
      refine g_aload_n (pc := 27) dX7_goesOn_27 rfl ?_
      obtain ⟨⟨x16, u17⟩, e15, h⟩ := x_bind h
      dsimp only at h
      refine g_cV (pc := 28) dX7_goesOn_28 cV_RX7_72 (M_X7_close (Nat.le_refl _) e15) xc_54 (as := []) (st := []) rfl rfl (Nat.le_of_ble_eq_true rfl) (Nat.le_trans (Nat.le_of_ble_eq_true rfl) hd) rfl ?_
      obtain ⟨g18, h⟩ := x_gd h
      obtain ⟨h1, h2⟩ := x_inj2 h
      subst h1
      subst h2
      exact g_zret (pc := 31) dX7_goesOn_31 rfl (xb_of g18) rfl rfl (Nat.le_refl _) (Nat.le_refl _)
  · replace h := (if_neg c1).symm.trans h
    refine g_aload_n (pc := 7) dX7_goesOn_7 rfl ?_
    refine g_iload_n (pc := 8) dX7_goesOn_8 rfl ?_
    refine g_bipush (pc := 9) dX7_goesOn_9 bp_48 ?_
    refine g_isub (pc := 11) dX7_goesOn_11 rfl ?_
    obtain ⟨⟨x21, u22⟩, e20, h⟩ := x_bind h
    dsimp only at h
    refine g_cV (pc := 12) dX7_goesOn_12 cV_RX7_69 (M_X7_lengthen (Nat.le_refl _) e20) xc_54 (as := [.int (v1 - (48 : Int32))]) (st := []) rfl rfl (Nat.le_of_ble_eq_true rfl) (Nat.le_trans (Nat.le_of_ble_eq_true rfl) hd) rfl ?_
    obtain ⟨g23, h⟩ := x_gd h
    obtain ⟨h1, h2⟩ := x_inj2 h
    subst h1
    subst h2
    exact g_zret (pc := 15) dX7_goesOn_15 rfl (xb_of g23) rfl rfl (Nat.le_refl _) (Nat.le_refl _)
set_option maxRecDepth 100000 in
set_option maxHeartbeats 4000000 in
theorem M_X7_goesOn {sc : Nat × (Nat → Int32)} {d : Nat} (hd : 3 ≤ d) {r : Int32} {u u' : xS} {a1 : Int32} (h : f_X7_goesOn a1 u = some (r, u')) : xMt sc mX7_goesOn d 0 0 [.ref 54, .int a1] (xL0, u) (some (.int r)) (xL0, u') :=
  xMt.of (by decide +kernel) (by decide +kernel) (Nat.le_of_ble_eq_true rfl) (L := [some (.ref 54), some (.int a1)]) rfl ((G_X7_goesOn_0 hd a1 u h))
theorem zb_X7_isLetter (v0 : Int32) : f_X7_isLetter v0 = 0 ∨ f_X7_isLetter v0 = 1 := by
  unfold f_X7_isLetter
  repeat' first | exact Or.inl rfl | exact Or.inr rfl | apply x_ite
set_option maxRecDepth 100000 in
set_option maxHeartbeats 4000000 in
theorem G_X7_isLetter_0 {sc : Nat × (Nat → Int32)} {d : Nat} (hd : 0 ≤ d) {r : Int32} {u : xS} (v0 : Int32) (h : f_X7_isLetter v0 = r) : xG sc mX7_isLetter d 0 0 (xR (some (.int r)) (xL0, u) 0 0) 0 0 0 [some (.int v0)] [] (xL0, u) := by
  rw [f_X7_isLetter] at h
  refine g_iload_n (pc := 0) dX7_isLetter_0 rfl ?_
  by_cases c1 : v0 = (98 : Int32)
  · replace h := (if_pos c1).symm.trans h
    refine g_tableIn (tgt := 116) (off := 115) (pc := 1) dX7_isLetter_1 (by rw [c1]; decide) (by rw [c1]; decide) (by rw [c1]; rfl) (by decide) ?_
    refine g_iconst (pc := 116) dX7_isLetter_116 ic_1 ?_
    subst h
    exact g_zret (pc := 117) dX7_isLetter_117 rfl (Or.inr rfl) rfl rfl (Nat.le_refl _) (Nat.le_refl _)
  replace h := (if_neg c1).symm.trans h
  by_cases c2 : v0 = (99 : Int32)
  · replace h := (if_pos c2).symm.trans h
    refine g_tableIn (tgt := 118) (off := 117) (pc := 1) dX7_isLetter_1 (by rw [c2]; decide) (by rw [c2]; decide) (by rw [c2]; rfl) (by decide) ?_
    refine g_iconst (pc := 118) dX7_isLetter_118 ic_0 ?_
    subst h
    exact g_zret (pc := 119) dX7_isLetter_119 rfl (Or.inl rfl) rfl rfl (Nat.le_refl _) (Nat.le_refl _)
  replace h := (if_neg c2).symm.trans h
  by_cases c3 : v0 = (100 : Int32)
  · replace h := (if_pos c3).symm.trans h
    refine g_tableIn (tgt := 116) (off := 115) (pc := 1) dX7_isLetter_1 (by rw [c3]; decide) (by rw [c3]; decide) (by rw [c3]; rfl) (by decide) ?_
    refine g_iconst (pc := 116) dX7_isLetter_116 ic_1 ?_
    subst h
    exact g_zret (pc := 117) dX7_isLetter_117 rfl (Or.inr rfl) rfl rfl (Nat.le_refl _) (Nat.le_refl _)
  replace h := (if_neg c3).symm.trans h
  by_cases c4 : v0 = (101 : Int32)
  · replace h := (if_pos c4).symm.trans h
    refine g_tableIn (tgt := 116) (off := 115) (pc := 1) dX7_isLetter_1 (by rw [c4]; decide) (by rw [c4]; decide) (by rw [c4]; rfl) (by decide) ?_
    refine g_iconst (pc := 116) dX7_isLetter_116 ic_1 ?_
    subst h
    exact g_zret (pc := 117) dX7_isLetter_117 rfl (Or.inr rfl) rfl rfl (Nat.le_refl _) (Nat.le_refl _)
  replace h := (if_neg c4).symm.trans h
  by_cases c5 : v0 = (102 : Int32)
  · replace h := (if_pos c5).symm.trans h
    refine g_tableIn (tgt := 118) (off := 117) (pc := 1) dX7_isLetter_1 (by rw [c5]; decide) (by rw [c5]; decide) (by rw [c5]; rfl) (by decide) ?_
    refine g_iconst (pc := 118) dX7_isLetter_118 ic_0 ?_
    subst h
    exact g_zret (pc := 119) dX7_isLetter_119 rfl (Or.inl rfl) rfl rfl (Nat.le_refl _) (Nat.le_refl _)
  replace h := (if_neg c5).symm.trans h
  by_cases c6 : v0 = (103 : Int32)
  · replace h := (if_pos c6).symm.trans h
    refine g_tableIn (tgt := 116) (off := 115) (pc := 1) dX7_isLetter_1 (by rw [c6]; decide) (by rw [c6]; decide) (by rw [c6]; rfl) (by decide) ?_
    refine g_iconst (pc := 116) dX7_isLetter_116 ic_1 ?_
    subst h
    exact g_zret (pc := 117) dX7_isLetter_117 rfl (Or.inr rfl) rfl rfl (Nat.le_refl _) (Nat.le_refl _)
  replace h := (if_neg c6).symm.trans h
  by_cases c7 : v0 = (104 : Int32)
  · replace h := (if_pos c7).symm.trans h
    refine g_tableIn (tgt := 118) (off := 117) (pc := 1) dX7_isLetter_1 (by rw [c7]; decide) (by rw [c7]; decide) (by rw [c7]; rfl) (by decide) ?_
    refine g_iconst (pc := 118) dX7_isLetter_118 ic_0 ?_
    subst h
    exact g_zret (pc := 119) dX7_isLetter_119 rfl (Or.inl rfl) rfl rfl (Nat.le_refl _) (Nat.le_refl _)
  replace h := (if_neg c7).symm.trans h
  by_cases c8 : v0 = (105 : Int32)
  · replace h := (if_pos c8).symm.trans h
    refine g_tableIn (tgt := 118) (off := 117) (pc := 1) dX7_isLetter_1 (by rw [c8]; decide) (by rw [c8]; decide) (by rw [c8]; rfl) (by decide) ?_
    refine g_iconst (pc := 118) dX7_isLetter_118 ic_0 ?_
    subst h
    exact g_zret (pc := 119) dX7_isLetter_119 rfl (Or.inl rfl) rfl rfl (Nat.le_refl _) (Nat.le_refl _)
  replace h := (if_neg c8).symm.trans h
  by_cases c9 : v0 = (106 : Int32)
  · replace h := (if_pos c9).symm.trans h
    refine g_tableIn (tgt := 118) (off := 117) (pc := 1) dX7_isLetter_1 (by rw [c9]; decide) (by rw [c9]; decide) (by rw [c9]; rfl) (by decide) ?_
    refine g_iconst (pc := 118) dX7_isLetter_118 ic_0 ?_
    subst h
    exact g_zret (pc := 119) dX7_isLetter_119 rfl (Or.inl rfl) rfl rfl (Nat.le_refl _) (Nat.le_refl _)
  replace h := (if_neg c9).symm.trans h
  by_cases c10 : v0 = (107 : Int32)
  · replace h := (if_pos c10).symm.trans h
    refine g_tableIn (tgt := 116) (off := 115) (pc := 1) dX7_isLetter_1 (by rw [c10]; decide) (by rw [c10]; decide) (by rw [c10]; rfl) (by decide) ?_
    refine g_iconst (pc := 116) dX7_isLetter_116 ic_1 ?_
    subst h
    exact g_zret (pc := 117) dX7_isLetter_117 rfl (Or.inr rfl) rfl rfl (Nat.le_refl _) (Nat.le_refl _)
  replace h := (if_neg c10).symm.trans h
  by_cases c11 : v0 = (108 : Int32)
  · replace h := (if_pos c11).symm.trans h
    refine g_tableIn (tgt := 116) (off := 115) (pc := 1) dX7_isLetter_1 (by rw [c11]; decide) (by rw [c11]; decide) (by rw [c11]; rfl) (by decide) ?_
    refine g_iconst (pc := 116) dX7_isLetter_116 ic_1 ?_
    subst h
    exact g_zret (pc := 117) dX7_isLetter_117 rfl (Or.inr rfl) rfl rfl (Nat.le_refl _) (Nat.le_refl _)
  replace h := (if_neg c11).symm.trans h
  by_cases c12 : v0 = (109 : Int32)
  · replace h := (if_pos c12).symm.trans h
    refine g_tableIn (tgt := 116) (off := 115) (pc := 1) dX7_isLetter_1 (by rw [c12]; decide) (by rw [c12]; decide) (by rw [c12]; rfl) (by decide) ?_
    refine g_iconst (pc := 116) dX7_isLetter_116 ic_1 ?_
    subst h
    exact g_zret (pc := 117) dX7_isLetter_117 rfl (Or.inr rfl) rfl rfl (Nat.le_refl _) (Nat.le_refl _)
  replace h := (if_neg c12).symm.trans h
  by_cases c13 : v0 = (110 : Int32)
  · replace h := (if_pos c13).symm.trans h
    refine g_tableIn (tgt := 116) (off := 115) (pc := 1) dX7_isLetter_1 (by rw [c13]; decide) (by rw [c13]; decide) (by rw [c13]; rfl) (by decide) ?_
    refine g_iconst (pc := 116) dX7_isLetter_116 ic_1 ?_
    subst h
    exact g_zret (pc := 117) dX7_isLetter_117 rfl (Or.inr rfl) rfl rfl (Nat.le_refl _) (Nat.le_refl _)
  replace h := (if_neg c13).symm.trans h
  by_cases c14 : v0 = (111 : Int32)
  · replace h := (if_pos c14).symm.trans h
    refine g_tableIn (tgt := 116) (off := 115) (pc := 1) dX7_isLetter_1 (by rw [c14]; decide) (by rw [c14]; decide) (by rw [c14]; rfl) (by decide) ?_
    refine g_iconst (pc := 116) dX7_isLetter_116 ic_1 ?_
    subst h
    exact g_zret (pc := 117) dX7_isLetter_117 rfl (Or.inr rfl) rfl rfl (Nat.le_refl _) (Nat.le_refl _)
  replace h := (if_neg c14).symm.trans h
  by_cases c15 : v0 = (112 : Int32)
  · replace h := (if_pos c15).symm.trans h
    refine g_tableIn (tgt := 116) (off := 115) (pc := 1) dX7_isLetter_1 (by rw [c15]; decide) (by rw [c15]; decide) (by rw [c15]; rfl) (by decide) ?_
    refine g_iconst (pc := 116) dX7_isLetter_116 ic_1 ?_
    subst h
    exact g_zret (pc := 117) dX7_isLetter_117 rfl (Or.inr rfl) rfl rfl (Nat.le_refl _) (Nat.le_refl _)
  replace h := (if_neg c15).symm.trans h
  by_cases c16 : v0 = (113 : Int32)
  · replace h := (if_pos c16).symm.trans h
    refine g_tableIn (tgt := 116) (off := 115) (pc := 1) dX7_isLetter_1 (by rw [c16]; decide) (by rw [c16]; decide) (by rw [c16]; rfl) (by decide) ?_
    refine g_iconst (pc := 116) dX7_isLetter_116 ic_1 ?_
    subst h
    exact g_zret (pc := 117) dX7_isLetter_117 rfl (Or.inr rfl) rfl rfl (Nat.le_refl _) (Nat.le_refl _)
  replace h := (if_neg c16).symm.trans h
  by_cases c17 : v0 = (114 : Int32)
  · replace h := (if_pos c17).symm.trans h
    refine g_tableIn (tgt := 116) (off := 115) (pc := 1) dX7_isLetter_1 (by rw [c17]; decide) (by rw [c17]; decide) (by rw [c17]; rfl) (by decide) ?_
    refine g_iconst (pc := 116) dX7_isLetter_116 ic_1 ?_
    subst h
    exact g_zret (pc := 117) dX7_isLetter_117 rfl (Or.inr rfl) rfl rfl (Nat.le_refl _) (Nat.le_refl _)
  replace h := (if_neg c17).symm.trans h
  by_cases c18 : v0 = (115 : Int32)
  · replace h := (if_pos c18).symm.trans h
    refine g_tableIn (tgt := 116) (off := 115) (pc := 1) dX7_isLetter_1 (by rw [c18]; decide) (by rw [c18]; decide) (by rw [c18]; rfl) (by decide) ?_
    refine g_iconst (pc := 116) dX7_isLetter_116 ic_1 ?_
    subst h
    exact g_zret (pc := 117) dX7_isLetter_117 rfl (Or.inr rfl) rfl rfl (Nat.le_refl _) (Nat.le_refl _)
  replace h := (if_neg c18).symm.trans h
  by_cases c19 : v0 = (116 : Int32)
  · replace h := (if_pos c19).symm.trans h
    refine g_tableIn (tgt := 118) (off := 117) (pc := 1) dX7_isLetter_1 (by rw [c19]; decide) (by rw [c19]; decide) (by rw [c19]; rfl) (by decide) ?_
    refine g_iconst (pc := 118) dX7_isLetter_118 ic_0 ?_
    subst h
    exact g_zret (pc := 119) dX7_isLetter_119 rfl (Or.inl rfl) rfl rfl (Nat.le_refl _) (Nat.le_refl _)
  replace h := (if_neg c19).symm.trans h
  by_cases c20 : v0 = (117 : Int32)
  · replace h := (if_pos c20).symm.trans h
    refine g_tableIn (tgt := 118) (off := 117) (pc := 1) dX7_isLetter_1 (by rw [c20]; decide) (by rw [c20]; decide) (by rw [c20]; rfl) (by decide) ?_
    refine g_iconst (pc := 118) dX7_isLetter_118 ic_0 ?_
    subst h
    exact g_zret (pc := 119) dX7_isLetter_119 rfl (Or.inl rfl) rfl rfl (Nat.le_refl _) (Nat.le_refl _)
  replace h := (if_neg c20).symm.trans h
  by_cases c21 : v0 = (118 : Int32)
  · replace h := (if_pos c21).symm.trans h
    refine g_tableIn (tgt := 116) (off := 115) (pc := 1) dX7_isLetter_1 (by rw [c21]; decide) (by rw [c21]; decide) (by rw [c21]; rfl) (by decide) ?_
    refine g_iconst (pc := 116) dX7_isLetter_116 ic_1 ?_
    subst h
    exact g_zret (pc := 117) dX7_isLetter_117 rfl (Or.inr rfl) rfl rfl (Nat.le_refl _) (Nat.le_refl _)
  replace h := (if_neg c21).symm.trans h
  by_cases c22 : v0 = (119 : Int32)
  · replace h := (if_pos c22).symm.trans h
    refine g_tableIn (tgt := 116) (off := 115) (pc := 1) dX7_isLetter_1 (by rw [c22]; decide) (by rw [c22]; decide) (by rw [c22]; rfl) (by decide) ?_
    refine g_iconst (pc := 116) dX7_isLetter_116 ic_1 ?_
    subst h
    exact g_zret (pc := 117) dX7_isLetter_117 rfl (Or.inr rfl) rfl rfl (Nat.le_refl _) (Nat.le_refl _)
  replace h := (if_neg c22).symm.trans h
  by_cases c23 : v0 = (120 : Int32)
  · replace h := (if_pos c23).symm.trans h
    refine g_tableIn (tgt := 118) (off := 117) (pc := 1) dX7_isLetter_1 (by rw [c23]; decide) (by rw [c23]; decide) (by rw [c23]; rfl) (by decide) ?_
    refine g_iconst (pc := 118) dX7_isLetter_118 ic_0 ?_
    subst h
    exact g_zret (pc := 119) dX7_isLetter_119 rfl (Or.inl rfl) rfl rfl (Nat.le_refl _) (Nat.le_refl _)
  replace h := (if_neg c23).symm.trans h
  by_cases c24 : v0 = (121 : Int32)
  · replace h := (if_pos c24).symm.trans h
    refine g_tableIn (tgt := 118) (off := 117) (pc := 1) dX7_isLetter_1 (by rw [c24]; decide) (by rw [c24]; decide) (by rw [c24]; rfl) (by decide) ?_
    refine g_iconst (pc := 118) dX7_isLetter_118 ic_0 ?_
    subst h
    exact g_zret (pc := 119) dX7_isLetter_119 rfl (Or.inl rfl) rfl rfl (Nat.le_refl _) (Nat.le_refl _)
  replace h := (if_neg c24).symm.trans h
  by_cases c25 : v0 = (122 : Int32)
  · replace h := (if_pos c25).symm.trans h
    refine g_tableIn (tgt := 116) (off := 115) (pc := 1) dX7_isLetter_1 (by rw [c25]; decide) (by rw [c25]; decide) (by rw [c25]; rfl) (by decide) ?_
    refine g_iconst (pc := 116) dX7_isLetter_116 ic_1 ?_
    subst h
    exact g_zret (pc := 117) dX7_isLetter_117 rfl (Or.inr rfl) rfl rfl (Nat.le_refl _) (Nat.le_refl _)
  replace h := (if_neg c25).symm.trans h
  have c1i := i32_ne c1 (m := 98) (by decide)
  have c2i := i32_ne c2 (m := 99) (by decide)
  have c3i := i32_ne c3 (m := 100) (by decide)
  have c4i := i32_ne c4 (m := 101) (by decide)
  have c5i := i32_ne c5 (m := 102) (by decide)
  have c6i := i32_ne c6 (m := 103) (by decide)
  have c7i := i32_ne c7 (m := 104) (by decide)
  have c8i := i32_ne c8 (m := 105) (by decide)
  have c9i := i32_ne c9 (m := 106) (by decide)
  have c10i := i32_ne c10 (m := 107) (by decide)
  have c11i := i32_ne c11 (m := 108) (by decide)
  have c12i := i32_ne c12 (m := 109) (by decide)
  have c13i := i32_ne c13 (m := 110) (by decide)
  have c14i := i32_ne c14 (m := 111) (by decide)
  have c15i := i32_ne c15 (m := 112) (by decide)
  have c16i := i32_ne c16 (m := 113) (by decide)
  have c17i := i32_ne c17 (m := 114) (by decide)
  have c18i := i32_ne c18 (m := 115) (by decide)
  have c19i := i32_ne c19 (m := 116) (by decide)
  have c20i := i32_ne c20 (m := 117) (by decide)
  have c21i := i32_ne c21 (m := 118) (by decide)
  have c22i := i32_ne c22 (m := 119) (by decide)
  have c23i := i32_ne c23 (m := 120) (by decide)
  have c24i := i32_ne c24 (m := 121) (by decide)
  have c25i := i32_ne c25 (m := 122) (by decide)
  refine g_tableOut (tgt := 118) (pc := 1) dX7_isLetter_1 (by omega) (by decide) ?_
  refine g_iconst (pc := 118) dX7_isLetter_118 ic_0 ?_
  subst h
  exact g_zret (pc := 119) dX7_isLetter_119 rfl (Or.inl rfl) rfl rfl (Nat.le_refl _) (Nat.le_refl _)
set_option maxRecDepth 100000 in
set_option maxHeartbeats 4000000 in
theorem M_X7_isLetter {sc : Nat × (Nat → Int32)} {d : Nat} (hd : 0 ≤ d) {r : Int32} {u : xS} {a0 : Int32} (h : f_X7_isLetter a0 = r) : xMt sc mX7_isLetter d 0 0 [.int a0] (xL0, u) (some (.int r)) (xL0, u) :=
  xMt.of (by decide +kernel) (by decide +kernel) (Nat.le_of_ble_eq_true rfl) (L := [some (.int a0)]) rfl ((G_X7_isLetter_0 hd a0 h))
set_option maxRecDepth 100000 in
set_option maxHeartbeats 4000000 in
theorem G_X7_begins_25 {sc : Nat × (Nat → Int32)} {d : Nat} (hd : 2 ≤ d) {r : Int32} {u' : xS} (s1 : Int32) (u : xS) (h : f_X7_begins_25 s1 u = some (r, u')) : xG sc mX7_begins d 0 0 (xR (some (.int r)) (xL0, u') 0 0) 0 0 25 [none, none] [.int s1, .ref 54] (xL0, u) := by
  rw [f_X7_begins_25] at h
  obtain ⟨u2, e1, h⟩ := x_bind h
  refine g_cV (pc := 25) dX7_begins_25 cV_RX7_60 (M_X7_hold (Nat.le_refl _) e1) xc_54 (as := [.int s1]) (st := []) rfl rfl (Nat.le_of_ble_eq_true rfl) (Nat.le_trans (Nat.le_of_ble_eq_true rfl) hd) rfl ?_
  refine g_iconst (pc := 28) dX7_begins_28 ic_1 ?_
  obtain ⟨h1, h2⟩ := x_inj2 h
  subst h1
  subst h2
  exact g_zret (pc := 29) dX7_begins_29 rfl (Or.inr rfl) rfl rfl (Nat.le_refl _) (Nat.le_refl _)
set_option maxRecDepth 100000 in
set_option maxHeartbeats 4000000 in
theorem G_X7_begins_12 {sc : Nat × (Nat → Int32)} {d : Nat} (hd : 2 ≤ d) {r : Int32} {u' : xS} (v1 : Int32) (u : xS) (h : f_X7_begins_12 v1 u = some (r, u')) : xG sc mX7_begins d 0 0 (xR (some (.int r)) (xL0, u') 0 0) 0 0 12 [some (.ref 54), some (.int v1)] [] (xL0, u) := by
  rw [f_X7_begins_12] at h
  refine g_aload_n (pc := 12) dX7_begins_12 rfl ?_
  refine g_iload_n (pc := 13) dX7_begins_13 rfl ?_
  refine g_bipush (pc := 14) dX7_begins_14 bp_45 ?_
  refine g_icmp_ne (tgt := 24) (pc := 16) dX7_begins_16 (by decide) (fun c1 => ?_) (fun c1 => ?_)
  · replace h := (if_neg c1).symm.trans h
    refine g_iload_n (pc := 24) dX7_begins_24 rfl ?_
    refine g_L (L' := [none, none]) trivial ?_
    exact G_X7_begins_25 hd v1 u h
  · replace h := (if_pos c1).symm.trans h
    refine g_bipush (pc := 19) dX7_begins_19 bp_126 ?_
    refine g_goto (tgt := 25) (pc := 21) dX7_begins_21 (by decide) ?_
    refine g_L (L' := [none, none]) trivial ?_
    exact G_X7_begins_25 hd (126 : Int32) u h
set_option maxRecDepth 100000 in
set_option maxHeartbeats 4000000 in
theorem G_X7_begins_118 {sc : Nat × (Nat → Int32)} {d : Nat} (hd : 2 ≤ d) {r : Int32} {u' : xS} (u : xS) (h : f_X7_begins_118 u = some (r, u')) : xG sc mX7_begins d 0 0 (xR (some (.int r)) (xL0, u') 0 0) 0 0 118 [some (.ref 54), none] [] (xL0, u) := by
  rw [f_X7_begins_118] at h
  refine g_aload_n (pc := 118) dX7_begins_118 rfl ?_
  refine g_iconst (pc := 119) dX7_begins_119 ic_0 ?_
  refine g_pZ (pc := 120) dX7_begins_120 pZ_RX7_26 xc_54 (Or.inl rfl) (u' := (wr u 54 7 (0 : Int32))) rfl ?_
  refine g_iconst (pc := 123) dX7_begins_123 ic_1 ?_
  obtain ⟨h1, h2⟩ := x_inj2 h
  subst h1
  subst h2
  exact g_zret (pc := 124) dX7_begins_124 rfl (Or.inr rfl) rfl rfl (Nat.le_refl _) (Nat.le_refl _)
set_option maxRecDepth 100000 in
set_option maxHeartbeats 4000000 in
theorem G_X7_begins_0 {sc : Nat × (Nat → Int32)} {d : Nat} (hd : 2 ≤ d) {r : Int32} {u' : xS} (v1 : Int32) (u : xS) (h : f_X7_begins v1 u = some (r, u')) : xG sc mX7_begins d 0 0 (xR (some (.int r)) (xL0, u') 0 0) 0 0 0 [some (.ref 54), some (.int v1)] [] (xL0, u) := by
  rw [f_X7_begins] at h
  refine g_iload_n (pc := 0) dX7_begins_0 rfl ?_
  refine g_bipush (pc := 1) dX7_begins_1 bp_33 ?_
  refine g_icmp_eq (tgt := 12) (pc := 3) dX7_begins_3 (by decide) (fun c1 => ?_) (fun c1 => ?_)
  · replace h := (if_pos c1).symm.trans h
    exact G_X7_begins_12 hd v1 u h
  · replace h := (if_neg c1).symm.trans h
    refine g_iload_n (pc := 6) dX7_begins_6 rfl ?_
    refine g_bipush (pc := 7) dX7_begins_7 bp_45 ?_
    refine g_icmp_ne (tgt := 30) (pc := 9) dX7_begins_9 (by decide) (fun c2 => ?_) (fun c2 => ?_)
    · replace h := (if_neg c2).symm.trans h
      refine g_iload_n (pc := 30) dX7_begins_30 rfl ?_
      refine g_bipush (pc := 31) dX7_begins_31 bp_40 ?_
      refine g_icmp_ne (tgt := 72) (pc := 33) dX7_begins_33 (by decide) (fun c3 => ?_) (fun c3 => ?_)
      · replace h := (if_neg c3).symm.trans h
        refine g_iload_n (pc := 72) dX7_begins_72 rfl ?_
        refine g_cS (pc := 73) dX7_begins_73 cS_RX7_63 (M_X7_isDigit (Nat.le_refl _) rfl) (as := [.int v1]) (st := []) rfl rfl (Nat.le_of_ble_eq_true rfl) (Nat.le_trans (Nat.le_of_ble_eq_true rfl) hd) rfl ?_
        refine g_if_eq (tgt := 95) (pc := 76) dX7_begins_76 (by decide) (fun c4 => ?_) (fun c4 => ?_)
        · replace h := (if_pos c4).symm.trans h
          refine g_iload_n (pc := 95) dX7_begins_95 rfl ?_
          refine g_cS (pc := 96) dX7_begins_96 cS_RX7_66 (M_X7_isLetter (Nat.le_refl _) rfl) (as := [.int v1]) (st := []) rfl rfl (Nat.le_of_ble_eq_true rfl) (Nat.le_trans (Nat.le_of_ble_eq_true rfl) hd) rfl ?_
          refine g_if_eq (tgt := 116) (pc := 99) dX7_begins_99 (by decide) (fun c5 => ?_) (fun c5 => ?_)
          · replace h := (if_pos c5).symm.trans h
            refine g_iconst (pc := 116) dX7_begins_116 ic_0 ?_
            obtain ⟨h1, h2⟩ := x_inj2 h
            subst h1
            subst h2
            exact g_zret (pc := 117) dX7_begins_117 rfl (Or.inl rfl) rfl rfl (Nat.le_refl _) (Nat.le_refl _)
          · replace h := (if_neg c5).symm.trans h
            refine g_aload_n (pc := 102) dX7_begins_102 rfl ?_
            refine g_iload_n (pc := 103) dX7_begins_103 rfl ?_
            refine g_ineg (pc := 104) dX7_begins_104 rfl ?_
            obtain ⟨u7, e6, h⟩ := x_bind h
            refine g_cV (pc := 105) dX7_begins_105 cV_RX7_45 (M_X7_emit (Nat.le_refl _) e6) xc_54 (as := [.int (-v1)]) (st := []) rfl rfl (Nat.le_of_ble_eq_true rfl) (Nat.le_trans (Nat.le_of_ble_eq_true rfl) hd) rfl ?_
            refine g_aload_n (pc := 108) dX7_begins_108 rfl ?_
            refine g_iconst (pc := 109) dX7_begins_109 ic_0 ?_
            refine g_pI (pc := 110) dX7_begins_110 pI_RX7_54 xc_54 (u' := (wr u7 54 6 (0 : Int32))) rfl ?_
            refine g_goto (tgt := 118) (pc := 113) dX7_begins_113 (by decide) ?_
            refine g_L (L' := [some (.ref 54), none]) ⟨rfl, trivial⟩ ?_
            exact G_X7_begins_118 hd (wr u7 54 6 (0 : Int32)) h
        · replace h := (if_neg c4).symm.trans h
          refine g_aload_n (pc := 79) dX7_begins_79 rfl ?_
          refine g_iload_n (pc := 80) dX7_begins_80 rfl ?_
          refine g_bipush (pc := 81) dX7_begins_81 bp_48 ?_
          refine g_isub (pc := 83) dX7_begins_83 rfl ?_
          obtain ⟨u9, e8, h⟩ := x_bind h
          refine g_cV (pc := 84) dX7_begins_84 cV_RX7_45 (M_X7_emit (Nat.le_refl _) e8) xc_54 (as := [.int (v1 - (48 : Int32))]) (st := []) rfl rfl (Nat.le_of_ble_eq_true rfl) (Nat.le_trans (Nat.le_of_ble_eq_true rfl) hd) rfl ?_
          refine g_aload_n (pc := 87) dX7_begins_87 rfl ?_
          refine g_iconst (pc := 88) dX7_begins_88 ic_1 ?_
          refine g_pI (pc := 89) dX7_begins_89 pI_RX7_54 xc_54 (u' := (wr u9 54 6 (1 : Int32))) rfl ?_
          refine g_goto (tgt := 118) (pc := 92) dX7_begins_92 (by decide) ?_
          refine g_L (L' := [some (.ref 54), none]) ⟨rfl, trivial⟩ ?_
          exact G_X7_begins_118 hd (wr u9 54 6 (1 : Int32)) h
      · replace h := (if_pos c3).symm.trans h
        refine g_aload_n (pc := 36) dX7_begins_36 rfl ?_
        refine g_iload_n (pc := 37) dX7_begins_37 rfl ?_
        obtain ⟨u11, e10, h⟩ := x_bind h
        refine g_cV (pc := 38) dX7_begins_38 cV_RX7_60 (M_X7_hold (Nat.le_refl _) e10) xc_54 (as := [.int v1]) (st := []) rfl rfl (Nat.le_of_ble_eq_true rfl) (Nat.le_trans (Nat.le_of_ble_eq_true rfl) hd) rfl ?_
        refine g_aload_n (pc := 41) dX7_begins_41 rfl ?_
        refine g_dup (pc := 42) dX7_begins_42 rfl ?_
        refine g_gI (pc := 43) dX7_begins_43 fI_RX7_37 xc_54 (v := (rd u11 54 5)) rfl ?_
        refine g_iconst (pc := 46) dX7_begins_46 ic_1 ?_
        refine g_iadd (pc := 47) dX7_begins_47 rfl ?_
        refine g_pI (pc := 48) dX7_begins_48 pI_RX7_37 xc_54 (u' := (wr u11 54 5 ((rd u11 54 5) + (1 : Int32)))) rfl ?_
        refine g_aload_n (pc := 51) dX7_begins_51 rfl ?_
        refine g_gI (pc := 52) dX7_begins_52 fI_RX7_37 xc_54 (v := ((rd u11 54 5) + (1 : Int32))) rfl ?_
        refine g_bipush (pc := 55) dX7_begins_55 bp_64 ?_
        refine g_icmp_ge (tgt := 70) (pc := 57) dX7_begins_57 (by decide) (fun c12 => ?_) (fun c12 => ?_)
        · replace h := (if_pos c12).symm.trans h
          refine g_iconst (pc := 70) dX7_begins_70 ic_1 ?_
          obtain ⟨h1, h2⟩ := x_inj2 h
          subst h1
          subst h2
          exact g_zret (pc := 71) dX7_begins_71 rfl (Or.inr rfl) rfl rfl (Nat.le_refl _) (Nat.le_refl _)
        · replace h := (if_neg c12).symm.trans h
          refine g_aload_n (pc := 60) dX7_begins_60 rfl ?_
          refine g_gR (pc := 61) dX7_begins_61 fR_RX7_18 xc_54 (v := 57) rfl ?_
          refine g_aload_n (pc := 64) dX7_begins_64 rfl ?_
          refine g_gI (pc := 65) dX7_begins_65 fI_RX7_37 xc_54 (v := ((rd u11 54 5) + (1 : Int32))) rfl ?_
          refine g_iconst (pc := 68) dX7_begins_68 ic_0 ?_
          obtain ⟨g13, h⟩ := x_gd h
          refine g_bastoreB (pc := 69) dX7_begins_69 xc_57 (xin_of g13) (Or.inl rfl) (u' := (wr (wr u11 54 5 ((rd u11 54 5) + (1 : Int32))) 57 ((rd u11 54 5) + (1 : Int32)).toNatClampNeg (0 : Int32))) rfl ?_
          refine g_iconst (pc := 70) dX7_begins_70 ic_1 ?_
          obtain ⟨h1, h2⟩ := x_inj2 h
          subst h1
          subst h2
          exact g_zret (pc := 71) dX7_begins_71 rfl (Or.inr rfl) rfl rfl (Nat.le_refl _) (Nat.le_refl _)
    · replace h := (if_pos c2).symm.trans h
      exact G_X7_begins_12 hd v1 u h
set_option maxRecDepth 100000 in
set_option maxHeartbeats 4000000 in
theorem M_X7_begins {sc : Nat × (Nat → Int32)} {d : Nat} (hd : 2 ≤ d) {r : Int32} {u u' : xS} {a1 : Int32} (h : f_X7_begins a1 u = some (r, u')) : xMt sc mX7_begins d 0 0 [.ref 54, .int a1] (xL0, u) (some (.int r)) (xL0, u') :=
  xMt.of (by decide +kernel) (by decide +kernel) (Nat.le_of_ble_eq_true rfl) (L := [some (.ref 54), some (.int a1)]) rfl ((G_X7_begins_0 hd a1 u h))
set_option maxRecDepth 100000 in
set_option maxHeartbeats 4000000 in
theorem G_X7_begin_0 {sc : Nat × (Nat → Int32)} {d : Nat} (hd : 0 ≤ d) {u' : xS} (v1 : Int32) (u : xS) (h : f_X7_begin v1 u = some u') : xG sc mX7_begin d 0 0 (xR none (xL0, u') 0 0) 0 0 0 [some (.ref 54), some (.int v1)] [] (xL0, u) := by
  rw [f_X7_begin] at h
  refine g_aload_n (pc := 0) dX7_begin_0 rfl ?_
  refine g_iconst (pc := 1) dX7_begin_1 ic_0 ?_
  refine g_pI (pc := 2) dX7_begin_2 pI_RX7_48 xc_54 (u' := (wr u 54 1 (0 : Int32))) rfl ?_
  refine g_aload_n (pc := 5) dX7_begin_5 rfl ?_
  refine g_iconst (pc := 6) dX7_begin_6 ic_0 ?_
  refine g_pI (pc := 7) dX7_begin_7 pI_RX7_51 xc_54 (u' := (wr (wr u 54 1 (0 : Int32)) 54 3 (0 : Int32))) rfl ?_
  refine g_aload_n (pc := 10) dX7_begin_10 rfl ?_
  refine g_iconst (pc := 11) dX7_begin_11 ic_0 ?_
  refine g_pI (pc := 12) dX7_begin_12 pI_RX7_37 xc_54 (u' := (wr (wr (wr u 54 1 (0 : Int32)) 54 3 (0 : Int32)) 54 5 (0 : Int32))) rfl ?_
  refine g_aload_n (pc := 15) dX7_begin_15 rfl ?_
  refine g_iconst (pc := 16) dX7_begin_16 ic_0 ?_
  refine g_pI (pc := 17) dX7_begin_17 pI_RX7_54 xc_54 (u' := (wr (wr (wr (wr u 54 1 (0 : Int32)) 54 3 (0 : Int32)) 54 5 (0 : Int32)) 54 6 (0 : Int32))) rfl ?_
  refine g_aload_n (pc := 20) dX7_begin_20 rfl ?_
  refine g_gR (pc := 21) dX7_begin_21 fR_RX7_18 xc_54 (v := 57) rfl ?_
  refine g_iconst (pc := 24) dX7_begin_24 ic_0 ?_
  refine g_iconst (pc := 25) dX7_begin_25 ic_0 ?_
  refine g_bastoreB (pc := 26) dX7_begin_26 xc_57 vin_0_64 (Or.inl rfl) (u' := (wr (wr (wr (wr (wr u 54 1 (0 : Int32)) 54 3 (0 : Int32)) 54 5 (0 : Int32)) 54 6 (0 : Int32)) 57 0 (0 : Int32))) rfl ?_
  refine g_aload_n (pc := 27) dX7_begin_27 rfl ?_
  refine g_iconst (pc := 28) dX7_begin_28 ic_1 ?_
  refine g_pZ (pc := 29) dX7_begin_29 pZ_RX7_26 xc_54 (Or.inr rfl) (u' := (wr (wr (wr (wr (wr (wr u 54 1 (0 : Int32)) 54 3 (0 : Int32)) 54 5 (0 : Int32)) 54 6 (0 : Int32)) 57 0 (0 : Int32)) 54 7 (1 : Int32))) rfl ?_
  refine g_aload_n (pc := 32) dX7_begin_32 rfl ?_
  refine g_iload_n (pc := 33) dX7_begin_33 rfl ?_
  obtain ⟨g1, h⟩ := x_gd h
  refine g_pZ (pc := 34) dX7_begin_34 pZ_RX7_57 xc_54 (xb_of g1) (u' := (wr (wr (wr (wr (wr (wr (wr u 54 1 (0 : Int32)) 54 3 (0 : Int32)) 54 5 (0 : Int32)) 54 6 (0 : Int32)) 57 0 (0 : Int32)) 54 7 (1 : Int32)) 54 8 v1)) rfl ?_
  replace h := Option.some.inj h
  subst h
  exact g_ret (pc := 37) dX7_begin_37 rfl rfl rfl (Nat.le_refl _) (Nat.le_refl _)
set_option maxRecDepth 100000 in
set_option maxHeartbeats 4000000 in
theorem M_X7_begin {sc : Nat × (Nat → Int32)} {d : Nat} (hd : 0 ≤ d) {u u' : xS} {a1 : Int32} (h : f_X7_begin a1 u = some u') : xMt sc mX7_begin d 0 0 [.ref 54, .int a1] (xL0, u) none (xL0, u') :=
  xMt.of (by decide +kernel) (by decide +kernel) (Nat.le_of_ble_eq_true rfl) (L := [some (.ref 54), some (.int a1)]) rfl ((G_X7_begin_0 hd a1 u h))
