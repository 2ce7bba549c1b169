theorem zb_X8_has (u : xS) (v1 : Int32) : f_X8_has u v1 = 0 ∨ f_X8_has u v1 = 1 := by
  unfold f_X8_has
  (repeat' split) <;> first | exact Or.inl rfl | exact Or.inr rfl
set_option maxRecDepth 100000 in
set_option maxHeartbeats 4000000 in
theorem G_X8_has_0 {sc : Nat × (Nat → Int32)} {d : Nat} (hd : 0 ≤ d) {r : Int32} {u : xS} (v1 : Int32) (h : f_X8_has u v1 = r) : xG sc mX8_has d 0 0 (xR (some (.int r)) (xL0, u) 0 0) 0 0 0 [some (.ref 1), some (.int v1)] [] (xL0, u) := by
  rw [f_X8_has] at h
  refine g_iload_n (pc := 0) dX8_has_0 rfl ?_
  refine g_if_lt (tgt := 16) (pc := 1) dX8_has_1 (by decide) (fun c1 => ?_) (fun c1 => ?_)
  · replace h := (if_pos c1).symm.trans h
    refine g_iconst (pc := 16) dX8_has_16 ic_0 ?_
    subst h
    exact g_zret (pc := 17) dX8_has_17 rfl (Or.inl rfl) rfl rfl (Nat.le_refl _) (Nat.le_refl _)
  · replace h := (if_neg c1).symm.trans h
    refine g_iload_n (pc := 4) dX8_has_4 rfl ?_
    refine g_aload_n (pc := 5) dX8_has_5 rfl ?_
    refine g_gI (pc := 6) dX8_has_6 fI_RX8_20 xc_1 (v := (rd u 1 2)) rfl ?_
    refine g_icmp_ge (tgt := 16) (pc := 9) dX8_has_9 (by decide) (fun c2 => ?_) (fun c2 => ?_)
    · replace h := (if_pos c2).symm.trans h
      refine g_iconst (pc := 16) dX8_has_16 ic_0 ?_
      subst h
      exact g_zret (pc := 17) dX8_has_17 rfl (Or.inl rfl) rfl rfl (Nat.le_refl _) (Nat.le_refl _)
    · replace h := (if_neg c2).symm.trans h
      refine g_iconst (pc := 12) dX8_has_12 ic_1 ?_
      refine g_goto (tgt := 17) (pc := 13) dX8_has_13 (by decide) ?_
      subst h
      exact g_zret (pc := 17) dX8_has_17 rfl (Or.inr rfl) rfl rfl (Nat.le_refl _) (Nat.le_refl _)
set_option maxRecDepth 100000 in
set_option maxHeartbeats 4000000 in
theorem M_X8_has {sc : Nat × (Nat → Int32)} {d : Nat} (hd : 0 ≤ d) {r : Int32} {u : xS} {a1 : Int32} (h : f_X8_has u a1 = r) : xMt sc mX8_has d 0 0 [.ref 1, .int a1] (xL0, u) (some (.int r)) (xL0, u) :=
  xMt.of (by decide +kernel) (Nat.le_of_ble_eq_true rfl) (L := [some (.ref 1), some (.int a1)]) rfl ((G_X8_has_0 hd a1 h))
set_option maxRecDepth 100000 in
set_option maxHeartbeats 4000000 in
theorem G_X8_priceIn_67 {sc : Nat × (Nat → Int32)} {d : Nat} (hd : 0 ≤ d) {r : Int32} {u : xS} {k8 : Int32 → Int32 → Int32 → Int32 → Int32 → Option Int32} (hk8 : ∀ (v1 : Int32) (v2 : Int32) (v3 : Int32) (v4 : Int32) (v5 : Int32), k8 v1 v2 v3 v4 v5 = some r → xG sc mX8_priceIn d 0 0 (xR (some (.int r)) (xL0, u) 0 0) 0 0 8 [some (.ref 1), some (.int v1), some (.int v2), some (.int v3), some (.int v4), some (.int v5)] [] (xL0, u)) (v1 : Int32) (v2 : Int32) (v3 : Int32) (v4 : Int32) (v5 : Int32) (h : f_X8_priceIn_67 k8 u v1 v2 v3 v4 v5 = some r) : xG sc mX8_priceIn d 0 0 (xR (some (.int r)) (xL0, u) 0 0) 0 0 67 [some (.ref 1), some (.int v1), some (.int v2), some (.int v3), some (.int v4), some (.int v5)] [] (xL0, u) := by
  rw [f_X8_priceIn_67] at h
  refine g_inc (pc := 67) dX8_priceIn_67 (Nat.le_of_ble_eq_true rfl) rfl ic_1 (L' := [some (.ref 1), some (.int v1), some (.int v2), some (.int v3), some (.int v4), some (.int (v5 + (1 : Int32)))]) rfl ?_
  refine g_goto (tgt := 8) (pc := 70) dX8_priceIn_70 (by decide) ?_
  exact hk8 v1 v2 v3 v4 (v5 + (1 : Int32)) h
set_option maxRecDepth 100000 in
set_option maxHeartbeats 4000000 in
theorem G_X8_priceIn_8 {sc : Nat × (Nat → Int32)} {d : Nat} (hd : 0 ≤ d) {r : Int32} {u : xS} : ∀ (n : Nat) (v1 : Int32) (v2 : Int32) (v3 : Int32) (v4 : Int32) (v5 : Int32), f_X8_priceIn_8 u n v1 v2 v3 v4 v5 = some r → xG sc mX8_priceIn d 0 0 (xR (some (.int r)) (xL0, u) 0 0) 0 0 8 [some (.ref 1), some (.int v1), some (.int v2), some (.int v3), some (.int v4), some (.int v5)] [] (xL0, u) := by
  intro n
  induction n with
  | zero =>
    intro v1 v2 v3 v4 v5 h
    rw [f_X8_priceIn_8] at h
    cases h
  | succ n ih =>
    intro v1 v2 v3 v4 v5 h
    rw [f_X8_priceIn_8] at h
    refine g_iload (pc := 8) dX8_priceIn_8 rfl ?_
    refine g_aload_n (pc := 10) dX8_priceIn_10 rfl ?_
    refine g_gI (pc := 11) dX8_priceIn_11 fI_RX8_33 xc_1 (v := (rd u 1 6)) rfl ?_
    refine g_icmp_ge (tgt := 73) (pc := 14) dX8_priceIn_14 (by decide) (fun c1 => ?_) (fun c1 => ?_)
    · replace h := (if_pos c1).symm.trans h
      refine g_iload (pc := 73) dX8_priceIn_73 rfl ?_
      cases h
      exact g_iret (pc := 75) dX8_priceIn_75 rfl rfl rfl (Nat.le_refl _) (Nat.le_refl _)
    · replace h := (if_neg c1).symm.trans h
      refine g_aload_n (pc := 17) dX8_priceIn_17 rfl ?_
      refine g_gR (pc := 18) dX8_priceIn_18 fR_RX8_24 xc_1 (v := 10) rfl ?_
      refine g_iload (pc := 21) dX8_priceIn_21 rfl ?_
      obtain ⟨g2, h⟩ := x_gd h
      refine g_iaload (pc := 23) dX8_priceIn_23 xc_10 (xin_of g2) (v := (rd u 10 v5.toNatClampNeg)) rfl ?_
      refine g_iload_n (pc := 24) dX8_priceIn_24 rfl ?_
      refine g_icmp_ne (tgt := 67) (pc := 25) dX8_priceIn_25 (by decide) (fun c3 => ?_) (fun c3 => ?_)
      · replace h := (if_neg c3).symm.trans h
        exact G_X8_priceIn_67 hd ih v1 v2 v3 v4 v5 h
      · replace h := (if_pos c3).symm.trans h
        refine g_aload_n (pc := 28) dX8_priceIn_28 rfl ?_
        refine g_gR (pc := 29) dX8_priceIn_29 fR_RX8_27 xc_1 (v := 11) rfl ?_
        refine g_iload (pc := 32) dX8_priceIn_32 rfl ?_
        refine g_iaload (pc := 34) dX8_priceIn_34 xc_11 (xin_of g2) (v := (rd u 11 v5.toNatClampNeg)) rfl ?_
        refine g_iload_n (pc := 35) dX8_priceIn_35 rfl ?_
        refine g_icmp_gt (tgt := 67) (pc := 36) dX8_priceIn_36 (by decide) (fun c4 => ?_) (fun c4 => ?_)
        · replace h := (if_pos c4).symm.trans h
          exact G_X8_priceIn_67 hd ih v1 v2 v3 v4 v5 h
        · replace h := (if_neg c4).symm.trans h
          refine g_aload_n (pc := 39) dX8_priceIn_39 rfl ?_
          refine g_gR (pc := 40) dX8_priceIn_40 fR_RX8_27 xc_1 (v := 11) rfl ?_
          refine g_iload (pc := 43) dX8_priceIn_43 rfl ?_
          refine g_iaload (pc := 45) dX8_priceIn_45 xc_11 (xin_of g2) (v := (rd u 11 v5.toNatClampNeg)) rfl ?_
          refine g_iload_n (pc := 46) dX8_priceIn_46 rfl ?_
          refine g_icmp_lt (tgt := 67) (pc := 47) dX8_priceIn_47 (by decide) (fun c5 => ?_) (fun c5 => ?_)
          · replace h := (if_pos c5).symm.trans h
            exact G_X8_priceIn_67 hd ih v1 v2 v3 v4 v5 h
          · replace h := (if_neg c5).symm.trans h
            refine g_aload_n (pc := 50) dX8_priceIn_50 rfl ?_
            refine g_gR (pc := 51) dX8_priceIn_51 fR_RX8_27 xc_1 (v := 11) rfl ?_
            refine g_iload (pc := 54) dX8_priceIn_54 rfl ?_
            refine g_iaload (pc := 56) dX8_priceIn_56 xc_11 (xin_of g2) (v := (rd u 11 v5.toNatClampNeg)) rfl ?_
            refine g_istore_n (pc := 57) dX8_priceIn_57 (Nat.le_of_ble_eq_true rfl) (L' := [some (.ref 1), some (.int v1), some (.int v2), some (.int (rd u 11 v5.toNatClampNeg)), some (.int v4), some (.int v5)]) rfl ?_
            refine g_aload_n (pc := 58) dX8_priceIn_58 rfl ?_
            refine g_gR (pc := 59) dX8_priceIn_59 fR_RX8_30 xc_1 (v := 12) rfl ?_
            refine g_iload (pc := 62) dX8_priceIn_62 rfl ?_
            refine g_iaload (pc := 64) dX8_priceIn_64 xc_12 (xin_of g2) (v := (rd u 12 v5.toNatClampNeg)) rfl ?_
            refine g_istore (pc := 65) dX8_priceIn_65 (Nat.le_of_ble_eq_true rfl) (L' := [some (.ref 1), some (.int v1), some (.int v2), some (.int (rd u 11 v5.toNatClampNeg)), some (.int (rd u 12 v5.toNatClampNeg)), some (.int v5)]) rfl ?_
            exact G_X8_priceIn_67 hd ih v1 v2 (rd u 11 v5.toNatClampNeg) (rd u 12 v5.toNatClampNeg) v5 h
set_option maxRecDepth 100000 in
set_option maxHeartbeats 4000000 in
theorem G_X8_priceIn_0 {sc : Nat × (Nat → Int32)} {d : Nat} (hd : 0 ≤ d) {r : Int32} {u : xS} (v1 : Int32) (v2 : Int32) (h : f_X8_priceIn u v1 v2 = some r) : xG sc mX8_priceIn d 0 0 (xR (some (.int r)) (xL0, u) 0 0) 0 0 0 [some (.ref 1), some (.int v1), some (.int v2), none, none, none] [] (xL0, u) := by
  rw [f_X8_priceIn] at h
  refine g_iconst (pc := 0) dX8_priceIn_0 ic_m1 ?_
  refine g_istore_n (pc := 1) dX8_priceIn_1 (Nat.le_of_ble_eq_true rfl) (L' := [some (.ref 1), some (.int v1), some (.int v2), some (.int (-1 : Int32)), none, none]) rfl ?_
  refine g_iconst (pc := 2) dX8_priceIn_2 ic_0 ?_
  refine g_istore (pc := 3) dX8_priceIn_3 (Nat.le_of_ble_eq_true rfl) (L' := [some (.ref 1), some (.int v1), some (.int v2), some (.int (-1 : Int32)), some (.int (0 : Int32)), none]) rfl ?_
  refine g_iconst (pc := 5) dX8_priceIn_5 ic_0 ?_
  refine g_istore (pc := 6) dX8_priceIn_6 (Nat.le_of_ble_eq_true rfl) (L' := [some (.ref 1), some (.int v1), some (.int v2), some (.int (-1 : Int32)), some (.int (0 : Int32)), some (.int (0 : Int32))]) rfl ?_
  exact G_X8_priceIn_8 hd xN v1 v2 (-1 : Int32) (0 : Int32) (0 : Int32) h
set_option maxRecDepth 100000 in
set_option maxHeartbeats 4000000 in
theorem M_X8_priceIn {sc : Nat × (Nat → Int32)} {d : Nat} (hd : 0 ≤ d) {r : Int32} {u : xS} {a1 : Int32} {a2 : Int32} (h : f_X8_priceIn u a1 a2 = some r) : xMt sc mX8_priceIn d 0 0 [.ref 1, .int a1, .int a2] (xL0, u) (some (.int r)) (xL0, u) :=
  xMt.of (by decide +kernel) (Nat.le_of_ble_eq_true rfl) (L := [some (.ref 1), some (.int a1), some (.int a2), none, none, none]) rfl ((G_X8_priceIn_0 hd a1 a2 h))
set_option maxRecDepth 100000 in
set_option maxHeartbeats 4000000 in
theorem G_X8_isPart_5 {sc : Nat × (Nat → Int32)} {d : Nat} (hd : 1 ≤ d) {r : Int32} {u : xS} : ∀ (n : Nat) (v2 : Int32) (v3 : Int32) (v4 : Int32), f_X8_isPart_5 u n v2 v3 v4 = some r → xG sc mX8_isPart d 0 0 (xR (some (.int r)) (xL0, u) 0 0) 0 0 5 [some (.ref 1), none, some (.int v2), some (.int v3), some (.int v4)] [] (xL0, u) := by
  intro n
  induction n with
  | zero =>
    intro v2 v3 v4 h
    rw [f_X8_isPart_5] at h
    cases h
  | succ n ih =>
    intro v2 v3 v4 h
    rw [f_X8_isPart_5] at h
    refine g_iload (pc := 5) dX8_isPart_5 rfl ?_
    refine g_bipush (pc := 7) dX8_isPart_7 bp_16 ?_
    refine g_icmp_ge (tgt := 40) (pc := 9) dX8_isPart_9 (by decide) (fun c1 => ?_) (fun c1 => ?_)
    · replace h := (if_pos c1).symm.trans h
      refine g_iconst (pc := 40) dX8_isPart_40 ic_0 ?_
      cases h
      exact g_zret (pc := 41) dX8_isPart_41 rfl (Or.inl rfl) rfl rfl (Nat.le_refl _) (Nat.le_refl _)
    · replace h := (if_neg c1).symm.trans h
      refine g_aload_n (pc := 12) dX8_isPart_12 rfl ?_
      refine g_iload_n (pc := 13) dX8_isPart_13 rfl ?_
      refine g_cV (pc := 14) dX8_isPart_14 cV_RX8_36 (M_X8_has (Nat.le_refl _) rfl) xc_1 (as := [.int v3]) (st := []) rfl rfl (Nat.le_of_ble_eq_true rfl) (Nat.le_trans (Nat.le_of_ble_eq_true rfl) hd) rfl ?_
      refine g_if_eq (tgt := 40) (pc := 17) dX8_isPart_17 (by decide) (fun c2 => ?_) (fun c2 => ?_)
      · replace h := (if_pos c2).symm.trans h
        refine g_iconst (pc := 40) dX8_isPart_40 ic_0 ?_
        cases h
        exact g_zret (pc := 41) dX8_isPart_41 rfl (Or.inl rfl) rfl rfl (Nat.le_refl _) (Nat.le_refl _)
      · replace h := (if_neg c2).symm.trans h
        refine g_iload_n (pc := 20) dX8_isPart_20 rfl ?_
        refine g_iload_n (pc := 21) dX8_isPart_21 rfl ?_
        refine g_icmp_ne (tgt := 27) (pc := 22) dX8_isPart_22 (by decide) (fun c3 => ?_) (fun c3 => ?_)
        · replace h := (if_neg c3).symm.trans h
          refine g_aload_n (pc := 27) dX8_isPart_27 rfl ?_
          refine g_gR (pc := 28) dX8_isPart_28 fR_RX8_16 xc_1 (v := 9) rfl ?_
          refine g_iload_n (pc := 31) dX8_isPart_31 rfl ?_
          obtain ⟨g4, h⟩ := x_gd h
          refine g_iaload (pc := 32) dX8_isPart_32 xc_9 (xin_of g4) (v := (rd u 9 v3.toNatClampNeg)) rfl ?_
          refine g_istore_n (pc := 33) dX8_isPart_33 (Nat.le_of_ble_eq_true rfl) (L' := [some (.ref 1), none, some (.int v2), some (.int (rd u 9 v3.toNatClampNeg)), some (.int v4)]) rfl ?_
          refine g_inc (pc := 34) dX8_isPart_34 (Nat.le_of_ble_eq_true rfl) rfl ic_1 (L' := [some (.ref 1), none, some (.int v2), some (.int (rd u 9 v3.toNatClampNeg)), some (.int (v4 + (1 : Int32)))]) rfl ?_
          refine g_goto (tgt := 5) (pc := 37) dX8_isPart_37 (by decide) ?_
          exact ih v2 (rd u 9 v3.toNatClampNeg) (v4 + (1 : Int32)) h
        · replace h := (if_pos c3).symm.trans h
          refine g_iconst (pc := 25) dX8_isPart_25 ic_1 ?_
          cases h
          exact g_zret (pc := 26) dX8_isPart_26 rfl (Or.inr rfl) rfl rfl (Nat.le_refl _) (Nat.le_refl _)
set_option maxRecDepth 100000 in
set_option maxHeartbeats 4000000 in
theorem G_X8_isPart_0 {sc : Nat × (Nat → Int32)} {d : Nat} (hd : 1 ≤ d) {r : Int32} {u : xS} (v1 : Int32) (v2 : Int32) (h : f_X8_isPart u v1 v2 = some r) : xG sc mX8_isPart d 0 0 (xR (some (.int r)) (xL0, u) 0 0) 0 0 0 [some (.ref 1), some (.int v1), some (.int v2), none, none] [] (xL0, u) := by
  rw [f_X8_isPart] at h
  refine g_iload_n (pc := 0) dX8_isPart_0 rfl ?_
  refine g_istore_n (pc := 1) dX8_isPart_1 (Nat.le_of_ble_eq_true rfl) (L' := [some (.ref 1), some (.int v1), some (.int v2), some (.int v1), none]) rfl ?_
  refine g_iconst (pc := 2) dX8_isPart_2 ic_0 ?_
  refine g_istore (pc := 3) dX8_isPart_3 (Nat.le_of_ble_eq_true rfl) (L' := [some (.ref 1), some (.int v1), some (.int v2), some (.int v1), some (.int (0 : Int32))]) rfl ?_
  refine g_L (L' := [some (.ref 1), none, some (.int v2), some (.int v1), some (.int (0 : Int32))]) ⟨rfl, ⟨rfl, ⟨rfl, ⟨rfl, trivial⟩⟩⟩⟩ ?_
  exact G_X8_isPart_5 hd xN v2 v1 (0 : Int32) h
set_option maxRecDepth 100000 in
set_option maxHeartbeats 4000000 in
theorem M_X8_isPart {sc : Nat × (Nat → Int32)} {d : Nat} (hd : 1 ≤ d) {r : Int32} {u : xS} {a1 : Int32} {a2 : Int32} (h : f_X8_isPart u a1 a2 = some r) : xMt sc mX8_isPart d 0 0 [.ref 1, .int a1, .int a2] (xL0, u) (some (.int r)) (xL0, u) :=
  xMt.of (by decide +kernel) (Nat.le_of_ble_eq_true rfl) (L := [some (.ref 1), some (.int a1), some (.int a2), none, none]) rfl ((G_X8_isPart_0 hd a1 a2 h))
set_option maxRecDepth 100000 in
set_option maxHeartbeats 4000000 in
theorem G_X8_addPrice_0 {sc : Nat × (Nat → Int32)} {d : Nat} (hd : 0 ≤ d) {r : Int32} {u' : xS} (v1 : Int32) (v2 : Int32) (v3 : Int32) (u : xS) (h : f_X8_addPrice v1 v2 v3 u = some (r, u')) : xG sc mX8_addPrice d 0 0 (xR (some (.int r)) (xL0, u') 0 0) 0 0 0 [some (.ref 1), some (.int v1), some (.int v2), some (.int v3)] [] (xL0, u) := by
  rw [f_X8_addPrice] at h
  refine g_aload_n (pc := 0) dX8_addPrice_0 rfl ?_
  refine g_gI (pc := 1) dX8_addPrice_1 fI_RX8_33 xc_1 (v := (rd u 1 6)) rfl ?_
  refine g_bipush (pc := 4) dX8_addPrice_4 bp_60 ?_
  refine g_icmp_lt (tgt := 11) (pc := 6) dX8_addPrice_6 (by decide) (fun c1 => ?_) (fun c1 => ?_)
  · replace h := (if_pos c1).symm.trans h
    refine g_aload_n (pc := 11) dX8_addPrice_11 rfl ?_
    refine g_gR (pc := 12) dX8_addPrice_12 fR_RX8_24 xc_1 (v := 10) rfl ?_
    refine g_aload_n (pc := 15) dX8_addPrice_15 rfl ?_
    refine g_gI (pc := 16) dX8_addPrice_16 fI_RX8_33 xc_1 (v := (rd u 1 6)) rfl ?_
    refine g_iload_n (pc := 19) dX8_addPrice_19 rfl ?_
    obtain ⟨g2, h⟩ := x_gd h
    refine g_iastore (pc := 20) dX8_addPrice_20 xc_10 (xin_of g2) (u' := (wr u 10 (rd u 1 6).toNatClampNeg v1)) rfl ?_
    refine g_aload_n (pc := 21) dX8_addPrice_21 rfl ?_
    refine g_gR (pc := 22) dX8_addPrice_22 fR_RX8_27 xc_1 (v := 11) rfl ?_
    refine g_aload_n (pc := 25) dX8_addPrice_25 rfl ?_
    refine g_gI (pc := 26) dX8_addPrice_26 fI_RX8_33 xc_1 (v := (rd u 1 6)) rfl ?_
    refine g_iload_n (pc := 29) dX8_addPrice_29 rfl ?_
    refine g_iastore (pc := 30) dX8_addPrice_30 xc_11 (xin_of g2) (u' := (wr (wr u 10 (rd u 1 6).toNatClampNeg v1) 11 (rd u 1 6).toNatClampNeg v2)) rfl ?_
    refine g_aload_n (pc := 31) dX8_addPrice_31 rfl ?_
    refine g_gR (pc := 32) dX8_addPrice_32 fR_RX8_30 xc_1 (v := 12) rfl ?_
    refine g_aload_n (pc := 35) dX8_addPrice_35 rfl ?_
    refine g_gI (pc := 36) dX8_addPrice_36 fI_RX8_33 xc_1 (v := (rd u 1 6)) rfl ?_
    refine g_iload_n (pc := 39) dX8_addPrice_39 rfl ?_
    refine g_iastore (pc := 40) dX8_addPrice_40 xc_12 (xin_of g2) (u' := (wr (wr (wr u 10 (rd u 1 6).toNatClampNeg v1) 11 (rd u 1 6).toNatClampNeg v2) 12 (rd u 1 6).toNatClampNeg v3)) rfl ?_
    refine g_aload_n (pc := 41) dX8_addPrice_41 rfl ?_
    refine g_dup (pc := 42) dX8_addPrice_42 rfl ?_
    refine g_gI (pc := 43) dX8_addPrice_43 fI_RX8_33 xc_1 (v := (rd u 1 6)) rfl ?_
    refine g_iconst (pc := 46) dX8_addPrice_46 ic_1 ?_
    refine g_iadd (pc := 47) dX8_addPrice_47 rfl ?_
    refine g_pI (pc := 48) dX8_addPrice_48 pI_RX8_33 xc_1 (u' := (wr (wr (wr (wr u 10 (rd u 1 6).toNatClampNeg v1) 11 (rd u 1 6).toNatClampNeg v2) 12 (rd u 1 6).toNatClampNeg v3) 1 6 ((rd u 1 6) + (1 : Int32)))) rfl ?_
    refine g_aload_n (pc := 51) dX8_addPrice_51 rfl ?_
    refine g_gI (pc := 52) dX8_addPrice_52 fI_RX8_33 xc_1 (v := ((rd u 1 6) + (1 : Int32))) rfl ?_
    cases h
    exact g_iret (pc := 55) dX8_addPrice_55 rfl rfl rfl (Nat.le_refl _) (Nat.le_refl _)
  · replace h := (if_neg c1).symm.trans h
    refine g_iconst (pc := 9) dX8_addPrice_9 ic_m1 ?_
    cases h
    exact g_iret (pc := 10) dX8_addPrice_10 rfl rfl rfl (Nat.le_refl _) (Nat.le_refl _)
set_option maxRecDepth 100000 in
set_option maxHeartbeats 4000000 in
theorem M_X8_addPrice {sc : Nat × (Nat → Int32)} {d : Nat} (hd : 0 ≤ d) {r : Int32} {u u' : xS} {a1 : Int32} {a2 : Int32} {a3 : Int32} (h : f_X8_addPrice a1 a2 a3 u = some (r, u')) : xMt sc mX8_addPrice d 0 0 [.ref 1, .int a1, .int a2, .int a3] (xL0, u) (some (.int r)) (xL0, u') :=
  xMt.of (by decide +kernel) (Nat.le_of_ble_eq_true rfl) (L := [some (.ref 1), some (.int a1), some (.int a2), some (.int a3)]) rfl ((G_X8_addPrice_0 hd a1 a2 a3 u h))
set_option maxRecDepth 100000 in
set_option maxHeartbeats 4000000 in
theorem G_J9_min_7cf53_0 {sc : Nat × (Nat → Int32)} {d : Nat} (hd : 0 ≤ d) {r : Int32} {u : xS} (v0 : Int32) (v1 : Int32) (h : f_J9_min_7cf53 v0 v1 = r) : xG sc mJ9_min_7cf53 d 0 0 (xR (some (.int r)) (xL0, u) 0 0) 0 0 0 [some (.int v0), some (.int v1)] [] (xL0, u) := by
  rw [f_J9_min_7cf53] at h
  refine g_iload_n (pc := 0) dJ9_min_7cf53_0 rfl ?_
  refine g_iload_n (pc := 1) dJ9_min_7cf53_1 rfl ?_
  refine g_icmp_gt (tgt := 9) (pc := 2) dJ9_min_7cf53_2 (by decide) (fun c1 => ?_) (fun c1 => ?_)
  · replace h := (if_pos c1).symm.trans h
    refine g_iload_n (pc := 9) dJ9_min_7cf53_9 rfl ?_
    subst h
    exact g_iret (pc := 10) dJ9_min_7cf53_10 rfl rfl rfl (Nat.le_refl _) (Nat.le_refl _)
  · replace h := (if_neg c1).symm.trans h
    refine g_iload_n (pc := 5) dJ9_min_7cf53_5 rfl ?_
    refine g_goto (tgt := 10) (pc := 6) dJ9_min_7cf53_6 (by decide) ?_
    subst h
    exact g_iret (pc := 10) dJ9_min_7cf53_10 rfl rfl rfl (Nat.le_refl _) (Nat.le_refl _)
set_option maxRecDepth 100000 in
set_option maxHeartbeats 4000000 in
theorem M_J9_min_7cf53 {sc : Nat × (Nat → Int32)} {d : Nat} (hd : 0 ≤ d) {r : Int32} {u : xS} {a0 : Int32} {a1 : Int32} (h : f_J9_min_7cf53 a0 a1 = r) : xMt sc mJ9_min_7cf53 d 0 0 [.int a0, .int a1] (xL0, u) (some (.int r)) (xL0, u) :=
  xMt.of (by decide +kernel) (Nat.le_of_ble_eq_true rfl) (L := [some (.int a0), some (.int a1)]) rfl ((G_J9_min_7cf53_0 hd a0 a1 h))
set_option maxRecDepth 100000 in
set_option maxHeartbeats 4000000 in
theorem G_X6_lessen_0 {sc : Nat × (Nat → Int32)} {d : Nat} (hd : 0 ≤ d) {u' : xS} (v1 : Int32) (v2 : Int32) (v3 : Nat) (u : xS) (h : f_X6_lessen v1 v2 v3 u = some u') : xG sc mX6_lessen d 0 0 (xR none (xL0, u') 0 0) 0 0 0 [some (.ref 74), some (.int v1), some (.int v2), some (.ref v3)] [] (xL0, u) := by
  rw [f_X6_lessen] at h
  refine g_aload_n (pc := 0) dX6_lessen_0 rfl ?_
  refine g_gR (pc := 1) dX6_lessen_1 fR_RX6_18 xc_74 (v := 77) rfl ?_
  refine g_iload_n (pc := 4) dX6_lessen_4 rfl ?_
  refine g_dup2 (pc := 5) dX6_lessen_5 rfl rfl ?_
  obtain ⟨g1, h⟩ := x_gd h
  refine g_iaload (pc := 6) dX6_lessen_6 xc_77 (xin_of g1) (v := (rd u 77 v1.toNatClampNeg)) rfl ?_
  refine g_iload_n (pc := 7) dX6_lessen_7 rfl ?_
  refine g_isub (pc := 8) dX6_lessen_8 rfl ?_
  refine g_iastore (pc := 9) dX6_lessen_9 xc_77 (xin_of g1) (u' := (wr u 77 v1.toNatClampNeg ((rd u 77 v1.toNatClampNeg) - v2))) rfl ?_
  refine g_aload_n (pc := 10) dX6_lessen_10 rfl ?_
  refine g_gR (pc := 11) dX6_lessen_11 fR_RX6_21 xc_74 (v := 78) rfl ?_
  refine g_aload_n (pc := 14) dX6_lessen_14 rfl ?_
  refine g_gR (pc := 15) dX6_lessen_15 fR_RX6_11 xc_74 (v := 75) rfl ?_
  refine g_iload_n (pc := 18) dX6_lessen_18 rfl ?_
  refine g_iaload (pc := 19) dX6_lessen_19 xc_75 (xin_of g1) (v := (rd u 75 v1.toNatClampNeg)) rfl ?_
  refine g_dup2 (pc := 20) dX6_lessen_20 rfl rfl ?_
  obtain ⟨g2, h⟩ := x_gd h
  refine g_iaload (pc := 21) dX6_lessen_21 xc_78 (xin_of g2) (v := (rd u 78 (rd u 75 v1.toNatClampNeg).toNatClampNeg)) rfl ?_
  refine g_iload_n (pc := 22) dX6_lessen_22 rfl ?_
  refine g_isub (pc := 23) dX6_lessen_23 rfl ?_
  refine g_iastore (pc := 24) dX6_lessen_24 xc_78 (xin_of g2) (u' := (wr (wr u 77 v1.toNatClampNeg ((rd u 77 v1.toNatClampNeg) - v2)) 78 (rd u 75 v1.toNatClampNeg).toNatClampNeg ((rd u 78 (rd u 75 v1.toNatClampNeg).toNatClampNeg) - v2))) rfl ?_
  refine g_aload_n (pc := 25) dX6_lessen_25 rfl ?_
  refine g_aload_n (pc := 26) dX6_lessen_26 rfl ?_
  refine g_gR (pc := 27) dX6_lessen_27 fR_RX6_15 xc_74 (v := 76) rfl ?_
  refine g_iload_n (pc := 30) dX6_lessen_30 rfl ?_
  refine g_iaload (pc := 31) dX6_lessen_31 xc_76 (xin_of g1) (v := (rd u 76 v1.toNatClampNeg)) rfl ?_
  refine g_dup2 (pc := 32) dX6_lessen_32 rfl rfl ?_
  obtain ⟨g3, h⟩ := x_gd h
  obtain ⟨g4, h⟩ := x_gd h
  obtain ⟨q5, hq6⟩ := xisI_of g3
  refine g_iaload (pc := 33) dX6_lessen_33 hq6 (xin_of g4) (v := (rd (wr (wr u 77 v1.toNatClampNeg ((rd u 77 v1.toNatClampNeg) - v2)) 78 (rd u 75 v1.toNatClampNeg).toNatClampNeg ((rd u 78 (rd u 75 v1.toNatClampNeg).toNatClampNeg) - v2)) v3 (rd u 76 v1.toNatClampNeg).toNatClampNeg)) rfl ?_
  refine g_iload_n (pc := 34) dX6_lessen_34 rfl ?_
  refine g_iadd (pc := 35) dX6_lessen_35 rfl ?_
  obtain ⟨g7, h⟩ := x_gd h
  obtain ⟨q8, hq9⟩ := xisI_of g7
  obtain ⟨g10, h⟩ := x_gd h
  refine g_iastore (pc := 36) dX6_lessen_36 hq9 (xin_of g10) (u' := (wr (wr (wr u 77 v1.toNatClampNeg ((rd u 77 v1.toNatClampNeg) - v2)) 78 (rd u 75 v1.toNatClampNeg).toNatClampNeg ((rd u 78 (rd u 75 v1.toNatClampNeg).toNatClampNeg) - v2)) v3 (rd u 76 v1.toNatClampNeg).toNatClampNeg ((rd (wr (wr u 77 v1.toNatClampNeg ((rd u 77 v1.toNatClampNeg) - v2)) 78 (rd u 75 v1.toNatClampNeg).toNatClampNeg ((rd u 78 (rd u 75 v1.toNatClampNeg).toNatClampNeg) - v2)) v3 (rd u 76 v1.toNatClampNeg).toNatClampNeg) + v2))) rfl ?_
  cases h
  exact g_ret (pc := 37) dX6_lessen_37 rfl rfl rfl (Nat.le_refl _) (Nat.le_refl _)
set_option maxRecDepth 100000 in
set_option maxHeartbeats 4000000 in
theorem M_X6_lessen {sc : Nat × (Nat → Int32)} {d : Nat} (hd : 0 ≤ d) {u u' : xS} {a1 : Int32} {a2 : Int32} {a3 : Nat} (h : f_X6_lessen a1 a2 a3 u = some u') : xMt sc mX6_lessen d 0 0 [.ref 74, .int a1, .int a2, .ref a3] (xL0, u) none (xL0, u') :=
  xMt.of (by decide +kernel) (Nat.le_of_ble_eq_true rfl) (L := [some (.ref 74), some (.int a1), some (.int a2), some (.ref a3)]) rfl ((G_X6_lessen_0 hd a1 a2 a3 u h))
set_option maxRecDepth 100000 in
set_option maxHeartbeats 4000000 in
theorem G_X6_takeOut_61 {sc : Nat × (Nat → Int32)} {d : Nat} (hd : 1 ≤ d) {u' : xS} {k6 : Int32 → Nat → Int32 → Int32 → xS → Option xS} (hk6 : ∀ (v1 : Int32) (v3 : Nat) (v4 : Int32) (v5 : Int32) (u : xS), k6 v1 v3 v4 v5 u = some u' → xG sc mX6_takeOut d 0 0 (xR none (xL0, u') 0 0) 0 0 6 [some (.ref 74), some (.int v1), none, some (.ref v3), some (.int v4), some (.int v5), none] [] (xL0, u)) (v1 : Int32) (v3 : Nat) (v4 : Int32) (v5 : Int32) (u : xS) (h : f_X6_takeOut_61 k6 v1 v3 v4 v5 u = some u') : xG sc mX6_takeOut d 0 0 (xR none (xL0, u') 0 0) 0 0 61 [some (.ref 74), some (.int v1), none, some (.ref v3), some (.int v4), some (.int v5), none] [] (xL0, u) := by
  rw [f_X6_takeOut_61] at h
  refine g_inc (pc := 61) dX6_takeOut_61 (Nat.le_of_ble_eq_true rfl) rfl ic_1 (L' := [some (.ref 74), some (.int v1), none, some (.ref v3), some (.int v4), some (.int (v5 + (1 : Int32))), none]) rfl ?_
  refine g_goto (tgt := 6) (pc := 64) dX6_takeOut_64 (by decide) ?_
  exact hk6 v1 v3 v4 (v5 + (1 : Int32)) u h
set_option maxRecDepth 100000 in
set_option maxHeartbeats 4000000 in
theorem G_X6_takeOut_6 {sc : Nat × (Nat → Int32)} {d : Nat} (hd : 1 ≤ d) {u' : xS} : ∀ (n : Nat) (v1 : Int32) (v3 : Nat) (v4 : Int32) (v5 : Int32) (u : xS), f_X6_takeOut_6 n v1 v3 v4 v5 u = some u' → xG sc mX6_takeOut d 0 0 (xR none (xL0, u') 0 0) 0 0 6 [some (.ref 74), some (.int v1), none, some (.ref v3), some (.int v4), some (.int v5), none] [] (xL0, u) := by
  intro n
  induction n with
  | zero =>
    intro v1 v3 v4 v5 u h
    rw [f_X6_takeOut_6] at h
    cases h
  | succ n ih =>
    intro v1 v3 v4 v5 u h
    rw [f_X6_takeOut_6] at h
    refine g_iload (pc := 6) dX6_takeOut_6 rfl ?_
    refine g_aload_n (pc := 8) dX6_takeOut_8 rfl ?_
    refine g_gI (pc := 9) dX6_takeOut_9 fI_RX6_24 xc_74 (v := (rd u 74 4)) rfl ?_
    refine g_icmp_ge (tgt := 67) (pc := 12) dX6_takeOut_12 (by decide) (fun c1 => ?_) (fun c1 => ?_)
    · replace h := (if_pos c1).symm.trans h
      cases h
      exact g_ret (pc := 67) dX6_takeOut_67 rfl rfl rfl (Nat.le_refl _) (Nat.le_refl _)
    · replace h := (if_neg c1).symm.trans h
      refine g_iload (pc := 15) dX6_takeOut_15 rfl ?_
      refine g_if_le (tgt := 67) (pc := 17) dX6_takeOut_17 (by decide) (fun c2 => ?_) (fun c2 => ?_)
      · replace h := (if_pos c2).symm.trans h
        cases h
        exact g_ret (pc := 67) dX6_takeOut_67 rfl rfl rfl (Nat.le_refl _) (Nat.le_refl _)
      · replace h := (if_neg c2).symm.trans h
        refine g_aload_n (pc := 20) dX6_takeOut_20 rfl ?_
        refine g_gR (pc := 21) dX6_takeOut_21 fR_RX6_11 xc_74 (v := 75) rfl ?_
        refine g_iload (pc := 24) dX6_takeOut_24 rfl ?_
        obtain ⟨g3, h⟩ := x_gd h
        refine g_iaload (pc := 26) dX6_takeOut_26 xc_75 (xin_of g3) (v := (rd u 75 v5.toNatClampNeg)) rfl ?_
        refine g_iload_n (pc := 27) dX6_takeOut_27 rfl ?_
        refine g_icmp_ne (tgt := 61) (pc := 28) dX6_takeOut_28 (by decide) (fun c4 => ?_) (fun c4 => ?_)
        · replace h := (if_neg c4).symm.trans h
          exact G_X6_takeOut_61 hd ih v1 v3 v4 v5 u h
        · replace h := (if_pos c4).symm.trans h
          refine g_iload (pc := 31) dX6_takeOut_31 rfl ?_
          refine g_aload_n (pc := 33) dX6_takeOut_33 rfl ?_
          refine g_gR (pc := 34) dX6_takeOut_34 fR_RX6_18 xc_74 (v := 77) rfl ?_
          refine g_iload (pc := 37) dX6_takeOut_37 rfl ?_
          refine g_iaload (pc := 39) dX6_takeOut_39 xc_77 (xin_of g3) (v := (rd u 77 v5.toNatClampNeg)) rfl ?_
          refine g_cS (pc := 40) dX6_takeOut_40 cS_RX6_28 (M_J9_min_7cf53 (Nat.le_refl _) rfl) (as := [.int v4, .int (rd u 77 v5.toNatClampNeg)]) (st := []) rfl rfl (Nat.le_of_ble_eq_true rfl) (Nat.le_trans (Nat.le_of_ble_eq_true rfl) hd) rfl ?_
          refine g_istore (pc := 43) dX6_takeOut_43 (Nat.le_of_ble_eq_true rfl) (L' := [some (.ref 74), some (.int v1), none, some (.ref v3), some (.int v4), some (.int v5), some (.int (f_J9_min_7cf53 v4 (rd u 77 v5.toNatClampNeg)))]) rfl ?_
          refine g_aload_n (pc := 45) dX6_takeOut_45 rfl ?_
          refine g_iload (pc := 46) dX6_takeOut_46 rfl ?_
          refine g_iload (pc := 48) dX6_takeOut_48 rfl ?_
          refine g_aload_n (pc := 50) dX6_takeOut_50 rfl ?_
          obtain ⟨u6, e5, h⟩ := x_bind h
          refine g_cV (pc := 51) dX6_takeOut_51 cV_RX6_34 (M_X6_lessen (Nat.le_refl _) e5) xc_74 (as := [.int v5, .int (f_J9_min_7cf53 v4 (rd u 77 v5.toNatClampNeg)), .ref v3]) (st := []) rfl rfl (Nat.le_of_ble_eq_true rfl) (Nat.le_trans (Nat.le_of_ble_eq_true rfl) hd) rfl ?_
          refine g_iload (pc := 54) dX6_takeOut_54 rfl ?_
          refine g_iload (pc := 56) dX6_takeOut_56 rfl ?_
          refine g_isub (pc := 58) dX6_takeOut_58 rfl ?_
          refine g_istore (pc := 59) dX6_takeOut_59 (Nat.le_of_ble_eq_true rfl) (L' := [some (.ref 74), some (.int v1), none, some (.ref v3), some (.int (v4 - (f_J9_min_7cf53 v4 (rd u 77 v5.toNatClampNeg)))), some (.int v5), some (.int (f_J9_min_7cf53 v4 (rd u 77 v5.toNatClampNeg)))]) rfl ?_
          refine g_L (L' := [some (.ref 74), some (.int v1), none, some (.ref v3), some (.int (v4 - (f_J9_min_7cf53 v4 (rd u 77 v5.toNatClampNeg)))), some (.int v5), none]) ⟨rfl, ⟨rfl, ⟨rfl, ⟨rfl, ⟨rfl, trivial⟩⟩⟩⟩⟩ ?_
          exact G_X6_takeOut_61 hd ih v1 v3 (v4 - (f_J9_min_7cf53 v4 (rd u 77 v5.toNatClampNeg))) v5 u6 h
set_option maxRecDepth 100000 in
set_option maxHeartbeats 4000000 in
theorem G_X6_takeOut_0 {sc : Nat × (Nat → Int32)} {d : Nat} (hd : 1 ≤ d) {u' : xS} (v1 : Int32) (v2 : Int32) (v3 : Nat) (u : xS) (h : f_X6_takeOut v1 v2 v3 u = some u') : xG sc mX6_takeOut d 0 0 (xR none (xL0, u') 0 0) 0 0 0 [some (.ref 74), some (.int v1), some (.int v2), some (.ref v3), none, none, none] [] (xL0, u) := by
  rw [f_X6_takeOut] at h
  refine g_iload_n (pc := 0) dX6_takeOut_0 rfl ?_
  refine g_istore (pc := 1) dX6_takeOut_1 (Nat.le_of_ble_eq_true rfl) (L' := [some (.ref 74), some (.int v1), some (.int v2), some (.ref v3), some (.int v2), none, none]) rfl ?_
  refine g_iconst (pc := 3) dX6_takeOut_3 ic_0 ?_
  refine g_istore (pc := 4) dX6_takeOut_4 (Nat.le_of_ble_eq_true rfl) (L' := [some (.ref 74), some (.int v1), some (.int v2), some (.ref v3), some (.int v2), some (.int (0 : Int32)), none]) rfl ?_
  refine g_L (L' := [some (.ref 74), some (.int v1), none, some (.ref v3), some (.int v2), some (.int (0 : Int32)), none]) ⟨rfl, ⟨rfl, ⟨rfl, ⟨rfl, ⟨rfl, trivial⟩⟩⟩⟩⟩ ?_
  exact G_X6_takeOut_6 hd xN v1 v3 v2 (0 : Int32) u h
set_option maxRecDepth 100000 in
set_option maxHeartbeats 4000000 in
theorem M_X6_takeOut {sc : Nat × (Nat → Int32)} {d : Nat} (hd : 1 ≤ d) {u u' : xS} {a1 : Int32} {a2 : Int32} {a3 : Nat} (h : f_X6_takeOut a1 a2 a3 u = some u') : xMt sc mX6_takeOut d 0 0 [.ref 74, .int a1, .int a2, .ref a3] (xL0, u) none (xL0, u') :=
  xMt.of (by decide +kernel) (Nat.le_of_ble_eq_true rfl) (L := [some (.ref 74), some (.int a1), some (.int a2), some (.ref a3), none, none, none]) rfl ((G_X6_takeOut_0 hd a1 a2 a3 u h))
set_option maxRecDepth 100000 in
set_option maxHeartbeats 4000000 in
theorem G_X0_everOf_4 {sc : Nat × (Nat → Int32)} {d : Nat} (hd : 0 ≤ d) {r : Int32} {u : xS} : ∀ (n : Nat) (v1 : Int32) (v2 : Int32) (v3 : Int32), f_X0_everOf_4 u n v1 v2 v3 = some r → xG sc mX0_everOf d 0 0 (xR (some (.int r)) (xL0, u) 0 0) 0 0 4 [some (.ref 13), some (.int v1), some (.int v2), some (.int v3)] [] (xL0, u) := by
  intro n
  induction n with
  | zero =>
    intro v1 v2 v3 h
    rw [f_X0_everOf_4] at h
    cases h
  | succ n ih =>
    intro v1 v2 v3 h
    rw [f_X0_everOf_4] at h
    refine g_iload_n (pc := 4) dX0_everOf_4 rfl ?_
    refine g_aload_n (pc := 5) dX0_everOf_5 rfl ?_
    refine g_gI (pc := 6) dX0_everOf_6 fI_RX0_38 xc_13 (v := (rd u 13 8)) rfl ?_
    refine g_icmp_ge (tgt := 29) (pc := 9) dX0_everOf_9 (by decide) (fun c1 => ?_) (fun c1 => ?_)
    · replace h := (if_pos c1).symm.trans h
      refine g_iload_n (pc := 29) dX0_everOf_29 rfl ?_
      cases h
      exact g_iret (pc := 30) dX0_everOf_30 rfl rfl rfl (Nat.le_refl _) (Nat.le_refl _)
    · replace h := (if_neg c1).symm.trans h
      refine g_iload_n (pc := 12) dX0_everOf_12 rfl ?_
      refine g_aload_n (pc := 13) dX0_everOf_13 rfl ?_
      refine g_gR (pc := 14) dX0_everOf_14 fR_RX0_35 xc_13 (v := 21) rfl ?_
      refine g_iload_n (pc := 17) dX0_everOf_17 rfl ?_
      obtain ⟨g2, h⟩ := x_gd h
      refine g_aaload (pc := 18) dX0_everOf_18 xc_21 (xin_of g2) (v := (22 + v3.toNatClampNeg)) (xrf_21 _ (xin_lt g2)) ?_
      refine g_iload_n (pc := 19) dX0_everOf_19 rfl ?_
      obtain ⟨g3, h⟩ := x_gd h
      refine g_iaload (pc := 20) dX0_everOf_20 (xrow_21 _ (xin_lt g2)) (xin_of g3) (v := (rd u (22 + v3.toNatClampNeg) v1.toNatClampNeg)) rfl ?_
      refine g_iadd (pc := 21) dX0_everOf_21 rfl ?_
      refine g_istore_n (pc := 22) dX0_everOf_22 (Nat.le_of_ble_eq_true rfl) (L' := [some (.ref 13), some (.int v1), some (.int (v2 + (rd u (22 + v3.toNatClampNeg) v1.toNatClampNeg))), some (.int v3)]) rfl ?_
      refine g_inc (pc := 23) dX0_everOf_23 (Nat.le_of_ble_eq_true rfl) rfl ic_1 (L' := [some (.ref 13), some (.int v1), some (.int (v2 + (rd u (22 + v3.toNatClampNeg) v1.toNatClampNeg))), some (.int (v3 + (1 : Int32)))]) rfl ?_
      refine g_goto (tgt := 4) (pc := 26) dX0_everOf_26 (by decide) ?_
      exact ih v1 (v2 + (rd u (22 + v3.toNatClampNeg) v1.toNatClampNeg)) (v3 + (1 : Int32)) h
set_option maxRecDepth 100000 in
set_option maxHeartbeats 4000000 in
theorem G_X0_everOf_0 {sc : Nat × (Nat → Int32)} {d : Nat} (hd : 0 ≤ d) {r : Int32} {u : xS} (v1 : Int32) (h : f_X0_everOf u v1 = some r) : xG sc mX0_everOf d 0 0 (xR (some (.int r)) (xL0, u) 0 0) 0 0 0 [some (.ref 13), some (.int v1), none, none] [] (xL0, u) := by
  rw [f_X0_everOf] at h
  refine g_iconst (pc := 0) dX0_everOf_0 ic_0 ?_
  refine g_istore_n (pc := 1) dX0_everOf_1 (Nat.le_of_ble_eq_true rfl) (L' := [some (.ref 13), some (.int v1), some (.int (0 : Int32)), none]) rfl ?_
  refine g_iconst (pc := 2) dX0_everOf_2 ic_0 ?_
  refine g_istore_n (pc := 3) dX0_everOf_3 (Nat.le_of_ble_eq_true rfl) (L' := [some (.ref 13), some (.int v1), some (.int (0 : Int32)), some (.int (0 : Int32))]) rfl ?_
  exact G_X0_everOf_4 hd xN v1 (0 : Int32) (0 : Int32) h
set_option maxRecDepth 100000 in
set_option maxHeartbeats 4000000 in
theorem M_X0_everOf {sc : Nat × (Nat → Int32)} {d : Nat} (hd : 0 ≤ d) {r : Int32} {u : xS} {a1 : Int32} (h : f_X0_everOf u a1 = some r) : xMt sc mX0_everOf d 0 0 [.ref 13, .int a1] (xL0, u) (some (.int r)) (xL0, u) :=
  xMt.of (by decide +kernel) (Nat.le_of_ble_eq_true rfl) (L := [some (.ref 13), some (.int a1), none, none]) rfl ((G_X0_everOf_0 hd a1 h))
set_option maxRecDepth 100000 in
set_option maxHeartbeats 4000000 in
theorem G_X7_level_0 {sc : Nat × (Nat → Int32)} {d : Nat} (hd : 0 ≤ d) {r : Int32} {u : xS} (v0 : Int32) (h : f_X7_level v0 = r) : xG sc mX7_level d 0 0 (xR (some (.int r)) (xL0, u) 0 0) 0 0 0 [some (.int v0)] [] (xL0, u) := by
  rw [f_X7_level] at h
  refine g_iload_n (pc := 0) dX7_level_0 rfl ?_
  by_cases c1 : v0 = (33 : Int32)
  · replace h := (if_pos c1).symm.trans h
    refine g_lookup (tgt := 116) (off := 115) (pc := 1) dX7_level_1 (by decide) (by rw [c1]; decide) (by decide) ?_
    refine g_iconst (pc := 116) dX7_level_116 ic_5 ?_
    subst h
    exact g_iret (pc := 117) dX7_level_117 rfl rfl rfl (Nat.le_refl _) (Nat.le_refl _)
  replace h := (if_neg c1).symm.trans h
  by_cases c2 : v0 = (37 : Int32)
  · replace h := (if_pos c2).symm.trans h
    refine g_lookup (tgt := 114) (off := 113) (pc := 1) dX7_level_1 (by decide) (by rw [c2]; decide) (by decide) ?_
    refine g_iconst (pc := 114) dX7_level_114 ic_4 ?_
    subst h
    exact g_iret (pc := 115) dX7_level_115 rfl rfl rfl (Nat.le_refl _) (Nat.le_refl _)
  replace h := (if_neg c2).symm.trans h
  by_cases c3 : v0 = (38 : Int32)
  · replace h := (if_pos c3).symm.trans h
    refine g_lookup (tgt := 108) (off := 107) (pc := 1) dX7_level_1 (by decide) (by rw [c3]; decide) (by decide) ?_
    refine g_iconst (pc := 108) dX7_level_108 ic_1 ?_
    subst h
    exact g_iret (pc := 109) dX7_level_109 rfl rfl rfl (Nat.le_refl _) (Nat.le_refl _)
  replace h := (if_neg c3).symm.trans h
  by_cases c4 : v0 = (42 : Int32)
  · replace h := (if_pos c4).symm.trans h
    refine g_lookup (tgt := 114) (off := 113) (pc := 1) dX7_level_1 (by decide) (by rw [c4]; decide) (by decide) ?_
    refine g_iconst (pc := 114) dX7_level_114 ic_4 ?_
    subst h
    exact g_iret (pc := 115) dX7_level_115 rfl rfl rfl (Nat.le_refl _) (Nat.le_refl _)
  replace h := (if_neg c4).symm.trans h
  by_cases c5 : v0 = (43 : Int32)
  · replace h := (if_pos c5).symm.trans h
    refine g_lookup (tgt := 112) (off := 111) (pc := 1) dX7_level_1 (by decide) (by rw [c5]; decide) (by decide) ?_
    refine g_iconst (pc := 112) dX7_level_112 ic_3 ?_
    subst h
    exact g_iret (pc := 113) dX7_level_113 rfl rfl rfl (Nat.le_refl _) (Nat.le_refl _)
  replace h := (if_neg c5).symm.trans h
  by_cases c6 : v0 = (45 : Int32)
  · replace h := (if_pos c6).symm.trans h
    refine g_lookup (tgt := 112) (off := 111) (pc := 1) dX7_level_1 (by decide) (by rw [c6]; decide) (by decide) ?_
    refine g_iconst (pc := 112) dX7_level_112 ic_3 ?_
    subst h
    exact g_iret (pc := 113) dX7_level_113 rfl rfl rfl (Nat.le_refl _) (Nat.le_refl _)
  replace h := (if_neg c6).symm.trans h
  by_cases c7 : v0 = (47 : Int32)
  · replace h := (if_pos c7).symm.trans h
    refine g_lookup (tgt := 114) (off := 113) (pc := 1) dX7_level_1 (by decide) (by rw [c7]; decide) (by decide) ?_
    refine g_iconst (pc := 114) dX7_level_114 ic_4 ?_
    subst h
    exact g_iret (pc := 115) dX7_level_115 rfl rfl rfl (Nat.le_refl _) (Nat.le_refl _)
  replace h := (if_neg c7).symm.trans h
  by_cases c8 : v0 = (60 : Int32)
  · replace h := (if_pos c8).symm.trans h
    refine g_lookup (tgt := 110) (off := 109) (pc := 1) dX7_level_1 (by decide) (by rw [c8]; decide) (by decide) ?_
    refine g_iconst (pc := 110) dX7_level_110 ic_2 ?_
    subst h
    exact g_iret (pc := 111) dX7_level_111 rfl rfl rfl (Nat.le_refl _) (Nat.le_refl _)
  replace h := (if_neg c8).symm.trans h
  by_cases c9 : v0 = (61 : Int32)
  · replace h := (if_pos c9).symm.trans h
    refine g_lookup (tgt := 110) (off := 109) (pc := 1) dX7_level_1 (by decide) (by rw [c9]; decide) (by decide) ?_
    refine g_iconst (pc := 110) dX7_level_110 ic_2 ?_
    subst h
    exact g_iret (pc := 111) dX7_level_111 rfl rfl rfl (Nat.le_refl _) (Nat.le_refl _)
  replace h := (if_neg c9).symm.trans h
  by_cases c10 : v0 = (62 : Int32)
  · replace h := (if_pos c10).symm.trans h
    refine g_lookup (tgt := 110) (off := 109) (pc := 1) dX7_level_1 (by decide) (by rw [c10]; decide) (by decide) ?_
    refine g_iconst (pc := 110) dX7_level_110 ic_2 ?_
    subst h
    exact g_iret (pc := 111) dX7_level_111 rfl rfl rfl (Nat.le_refl _) (Nat.le_refl _)
  replace h := (if_neg c10).symm.trans h
  by_cases c11 : v0 = (124 : Int32)
  · replace h := (if_pos c11).symm.trans h
    refine g_lookup (tgt := 108) (off := 107) (pc := 1) dX7_level_1 (by decide) (by rw [c11]; decide) (by decide) ?_
    refine g_iconst (pc := 108) dX7_level_108 ic_1 ?_
    subst h
    exact g_iret (pc := 109) dX7_level_109 rfl rfl rfl (Nat.le_refl _) (Nat.le_refl _)
  replace h := (if_neg c11).symm.trans h
  by_cases c12 : v0 = (126 : Int32)
  · replace h := (if_pos c12).symm.trans h
    refine g_lookup (tgt := 116) (off := 115) (pc := 1) dX7_level_1 (by decide) (by rw [c12]; decide) (by decide) ?_
    refine g_iconst (pc := 116) dX7_level_116 ic_5 ?_
    subst h
    exact g_iret (pc := 117) dX7_level_117 rfl rfl rfl (Nat.le_refl _) (Nat.le_refl _)
  replace h := (if_neg c12).symm.trans h
  have c1i := i32_ne c1 (m := 33) (by decide)
  have c2i := i32_ne c2 (m := 37) (by decide)
  have c3i := i32_ne c3 (m := 38) (by decide)
  have c4i := i32_ne c4 (m := 42) (by decide)
  have c5i := i32_ne c5 (m := 43) (by decide)
  have c6i := i32_ne c6 (m := 45) (by decide)
  have c7i := i32_ne c7 (m := 47) (by decide)
  have c8i := i32_ne c8 (m := 60) (by decide)
  have c9i := i32_ne c9 (m := 61) (by decide)
  have c10i := i32_ne c10 (m := 62) (by decide)
  have c11i := i32_ne c11 (m := 124) (by decide)
  have c12i := i32_ne c12 (m := 126) (by decide)
  refine g_lookup (tgt := 118) (off := 117) (pc := 1) dX7_level_1 (by decide) (x_lsw (by simp [c1i, Ne.symm c1i, c2i, Ne.symm c2i, c3i, Ne.symm c3i, c4i, Ne.symm c4i, c5i, Ne.symm c5i, c6i, Ne.symm c6i, c7i, Ne.symm c7i, c8i, Ne.symm c8i, c9i, Ne.symm c9i, c10i, Ne.symm c10i, c11i, Ne.symm c11i, c12i, Ne.symm c12i])) (by decide) ?_
  refine g_iconst (pc := 118) dX7_level_118 ic_0 ?_
  subst h
  exact g_iret (pc := 119) dX7_level_119 rfl rfl rfl (Nat.le_refl _) (Nat.le_refl _)
set_option maxRecDepth 100000 in
set_option maxHeartbeats 4000000 in
theorem M_X7_level {sc : Nat × (Nat → Int32)} {d : Nat} (hd : 0 ≤ d) {r : Int32} {u : xS} {a0 : Int32} (h : f_X7_level a0 = r) : xMt sc mX7_level d 0 0 [.int a0] (xL0, u) (some (.int r)) (xL0, u) :=
  xMt.of (by decide +kernel) (Nat.le_of_ble_eq_true rfl) (L := [some (.int a0)]) rfl ((G_X7_level_0 hd a0 h))
set_option maxRecDepth 100000 in
set_option maxHeartbeats 4000000 in
theorem G_X12_truth_0 {sc : Nat × (Nat → Int32)} {d : Nat} (hd : 0 ≤ d) {r : Int32} {u : xS} (v0 : Int32) (h : f_X12_truth v0 = r) : xG sc mX12_truth d 0 0 (xR (some (.int r)) (xL0, u) 0 0) 0 0 0 [some (.int v0)] [] (xL0, u) := by
  rw [f_X12_truth] at h
  refine g_iload_n (pc := 0) dX12_truth_0 rfl ?_
  refine g_if_eq (tgt := 8) (pc := 1) dX12_truth_1 (by decide) (fun c1 => ?_) (fun c1 => ?_)
  · replace h := (if_pos c1).symm.trans h
    refine g_iconst (pc := 8) dX12_truth_8 ic_0 ?_
    subst h
    exact g_iret (pc := 9) dX12_truth_9 rfl rfl rfl (Nat.le_refl _) (Nat.le_refl _)
  · replace h := (if_neg c1).symm.trans h
    refine g_iconst (pc := 4) dX12_truth_4 ic_1 ?_
    refine g_goto (tgt := 9) (pc := 5) dX12_truth_5 (by decide) ?_
    subst h
    exact g_iret (pc := 9) dX12_truth_9 rfl rfl rfl (Nat.le_refl _) (Nat.le_refl _)
set_option maxRecDepth 100000 in
set_option maxHeartbeats 4000000 in
theorem M_X12_truth {sc : Nat × (Nat → Int32)} {d : Nat} (hd : 0 ≤ d) {r : Int32} {u : xS} {a0 : Int32} (h : f_X12_truth a0 = r) : xMt sc mX12_truth d 0 0 [.int a0] (xL0, u) (some (.int r)) (xL0, u) :=
  xMt.of (by decide +kernel) (Nat.le_of_ble_eq_true rfl) (L := [some (.int a0)]) rfl ((G_X12_truth_0 hd a0 h))
set_option maxRecDepth 100000 in
set_option maxHeartbeats 4000000 in
theorem G_X12_lots_28 {sc : Nat × (Nat → Int32)} {d : Nat} (hd : 1 ≤ d) {r : Int32} {u : xS} {k4 : Int32 → Int32 → Option Int32} (hk4 : ∀ (v1 : Int32) (v2 : Int32), k4 v1 v2 = some r → xG sc mX12_lots d 0 0 (xR (some (.int r)) (xL0, u) 0 0) 0 0 4 [some (.ref 135), some (.int v1), some (.int v2)] [] (xL0, u)) (v2 : Int32) (s0 : Int32) (s1 : Int32) (h : f_X12_lots_28 k4 u v2 s0 s1 = some r) : xG sc mX12_lots d 0 0 (xR (some (.int r)) (xL0, u) 0 0) 0 0 28 [some (.ref 135), none, some (.int v2)] [.int s1, .int s0] (xL0, u) := by
  rw [f_X12_lots_28] at h
  refine g_cS (pc := 28) dX12_lots_28 cS_RX12_190 (M_X12_truth (Nat.le_refl _) rfl) (as := [.int s1]) (st := [.int s0]) rfl rfl (Nat.le_of_ble_eq_true rfl) (Nat.le_trans (Nat.le_of_ble_eq_true rfl) hd) rfl ?_
  refine g_iadd (pc := 31) dX12_lots_31 rfl ?_
  refine g_istore_n (pc := 32) dX12_lots_32 (Nat.le_of_ble_eq_true rfl) (L' := [some (.ref 135), some (.int (s0 + (f_X12_truth s1))), some (.int v2)]) rfl ?_
  refine g_inc (pc := 33) dX12_lots_33 (Nat.le_of_ble_eq_true rfl) rfl ic_1 (L' := [some (.ref 135), some (.int (s0 + (f_X12_truth s1))), some (.int (v2 + (1 : Int32)))]) rfl ?_
  refine g_goto (tgt := 4) (pc := 36) dX12_lots_36 (by decide) ?_
  exact hk4 (s0 + (f_X12_truth s1)) (v2 + (1 : Int32)) h
set_option maxRecDepth 100000 in
set_option maxHeartbeats 4000000 in
theorem G_X12_lots_4 {sc : Nat × (Nat → Int32)} {d : Nat} (hd : 1 ≤ d) {r : Int32} {u : xS} : ∀ (n : Nat) (v1 : Int32) (v2 : Int32), f_X12_lots_4 u n v1 v2 = some r → xG sc mX12_lots d 0 0 (xR (some (.int r)) (xL0, u) 0 0) 0 0 4 [some (.ref 135), some (.int v1), some (.int v2)] [] (xL0, u) := by
  intro n
  induction n with
  | zero =>
    intro v1 v2 h
    rw [f_X12_lots_4] at h
    cases h
  | succ n ih =>
    intro v1 v2 h
    rw [f_X12_lots_4] at h
    refine g_iload_n (pc := 4) dX12_lots_4 rfl ?_
    refine g_aload_n (pc := 5) dX12_lots_5 rfl ?_
    refine g_gR (pc := 6) dX12_lots_6 fR_RX12_43 xc_135 (v := 147) rfl ?_
    refine g_alen (pc := 9) dX12_lots_9 xc_147 (by decide) (v := (384 : Int32)) (by decide) ?_
    refine g_icmp_ge (tgt := 39) (pc := 10) dX12_lots_10 (by decide) (fun c1 => ?_) (fun c1 => ?_)
    · replace h := (if_pos c1).symm.trans h
      refine g_iload_n (pc := 39) dX12_lots_39 rfl ?_
      cases h
      exact g_iret (pc := 40) dX12_lots_40 rfl rfl rfl (Nat.le_refl _) (Nat.le_refl _)
    · replace h := (if_neg c1).symm.trans h
      refine g_iload_n (pc := 13) dX12_lots_13 rfl ?_
      refine g_aload_n (pc := 14) dX12_lots_14 rfl ?_
      refine g_gR (pc := 15) dX12_lots_15 fR_RX12_43 xc_135 (v := 147) rfl ?_
      refine g_iload_n (pc := 18) dX12_lots_18 rfl ?_
      obtain ⟨g2, h⟩ := x_gd h
      refine g_iaload (pc := 19) dX12_lots_19 xc_147 (xin_of g2) (v := (rd u 147 v2.toNatClampNeg)) rfl ?_
      refine g_if_le (tgt := 27) (pc := 20) dX12_lots_20 (by decide) (fun c3 => ?_) (fun c3 => ?_)
      · replace h := (if_pos c3).symm.trans h
        refine g_iconst (pc := 27) dX12_lots_27 ic_0 ?_
        refine g_L (L' := [some (.ref 135), none, some (.int v2)]) ⟨rfl, ⟨rfl, trivial⟩⟩ ?_
        exact G_X12_lots_28 hd ih v2 v1 (0 : Int32) h
      · replace h := (if_neg c3).symm.trans h
        refine g_iconst (pc := 23) dX12_lots_23 ic_1 ?_
        refine g_goto (tgt := 28) (pc := 24) dX12_lots_24 (by decide) ?_
        refine g_L (L' := [some (.ref 135), none, some (.int v2)]) ⟨rfl, ⟨rfl, trivial⟩⟩ ?_
        exact G_X12_lots_28 hd ih v2 v1 (1 : Int32) h
set_option maxRecDepth 100000 in
set_option maxHeartbeats 4000000 in
theorem G_X12_lots_0 {sc : Nat × (Nat → Int32)} {d : Nat} (hd : 1 ≤ d) {r : Int32} {u : xS} (h : f_X12_lots u = some r) : xG sc mX12_lots d 0 0 (xR (some (.int r)) (xL0, u) 0 0) 0 0 0 [some (.ref 135), none, none] [] (xL0, u) := by
  rw [f_X12_lots] at h
  refine g_iconst (pc := 0) dX12_lots_0 ic_0 ?_
  refine g_istore_n (pc := 1) dX12_lots_1 (Nat.le_of_ble_eq_true rfl) (L' := [some (.ref 135), some (.int (0 : Int32)), none]) rfl ?_
  refine g_iconst (pc := 2) dX12_lots_2 ic_0 ?_
  refine g_istore_n (pc := 3) dX12_lots_3 (Nat.le_of_ble_eq_true rfl) (L' := [some (.ref 135), some (.int (0 : Int32)), some (.int (0 : Int32))]) rfl ?_
  exact G_X12_lots_4 hd xN (0 : Int32) (0 : Int32) h
set_option maxRecDepth 100000 in
set_option maxHeartbeats 4000000 in
theorem M_X12_lots {sc : Nat × (Nat → Int32)} {d : Nat} (hd : 1 ≤ d) {r : Int32} {u : xS} (h : f_X12_lots u = some r) : xMt sc mX12_lots d 0 0 [.ref 135] (xL0, u) (some (.int r)) (xL0, u) :=
  xMt.of (by decide +kernel) (Nat.le_of_ble_eq_true rfl) (L := [some (.ref 135), none, none]) rfl ((G_X12_lots_0 hd h))
set_option maxRecDepth 100000 in
set_option maxHeartbeats 4000000 in
theorem G_X12_partsInAll_4 {sc : Nat × (Nat → Int32)} {d : Nat} (hd : 0 ≤ d) {r : Int32} {u : xS} : ∀ (n : Nat) (v1 : Int32) (v2 : Int32), f_X12_partsInAll_4 u n v1 v2 = some r → xG sc mX12_partsInAll d 0 0 (xR (some (.int r)) (xL0, u) 0 0) 0 0 4 [some (.ref 135), some (.int v1), some (.int v2)] [] (xL0, u) := by
  intro n
  induction n with
  | zero =>
    intro v1 v2 h
    rw [f_X12_partsInAll_4] at h
    cases h
  | succ n ih =>
    intro v1 v2 h
    rw [f_X12_partsInAll_4] at h
    refine g_iload_n (pc := 4) dX12_partsInAll_4 rfl ?_
    refine g_aload_n (pc := 5) dX12_partsInAll_5 rfl ?_
    refine g_gI (pc := 6) dX12_partsInAll_6 fI_RX12_153 xc_135 (v := (rd u 135 1)) rfl ?_
    refine g_icmp_ge (tgt := 27) (pc := 9) dX12_partsInAll_9 (by decide) (fun c1 => ?_) (fun c1 => ?_)
    · replace h := (if_pos c1).symm.trans h
      refine g_iload_n (pc := 27) dX12_partsInAll_27 rfl ?_
      cases h
      exact g_iret (pc := 28) dX12_partsInAll_28 rfl rfl rfl (Nat.le_refl _) (Nat.le_refl _)
    · replace h := (if_neg c1).symm.trans h
      refine g_iload_n (pc := 12) dX12_partsInAll_12 rfl ?_
      refine g_aload_n (pc := 13) dX12_partsInAll_13 rfl ?_
      refine g_gR (pc := 14) dX12_partsInAll_14 fR_RX12_87 xc_135 (v := 160) rfl ?_
      refine g_iload_n (pc := 17) dX12_partsInAll_17 rfl ?_
      obtain ⟨g2, h⟩ := x_gd h
      refine g_iaload (pc := 18) dX12_partsInAll_18 xc_160 (xin_of g2) (v := (rd u 160 v2.toNatClampNeg)) rfl ?_
      refine g_iadd (pc := 19) dX12_partsInAll_19 rfl ?_
      refine g_istore_n (pc := 20) dX12_partsInAll_20 (Nat.le_of_ble_eq_true rfl) (L' := [some (.ref 135), some (.int (v1 + (rd u 160 v2.toNatClampNeg))), some (.int v2)]) rfl ?_
      refine g_inc (pc := 21) dX12_partsInAll_21 (Nat.le_of_ble_eq_true rfl) rfl ic_1 (L' := [some (.ref 135), some (.int (v1 + (rd u 160 v2.toNatClampNeg))), some (.int (v2 + (1 : Int32)))]) rfl ?_
      refine g_goto (tgt := 4) (pc := 24) dX12_partsInAll_24 (by decide) ?_
      exact ih (v1 + (rd u 160 v2.toNatClampNeg)) (v2 + (1 : Int32)) h
set_option maxRecDepth 100000 in
set_option maxHeartbeats 4000000 in
theorem G_X12_partsInAll_0 {sc : Nat × (Nat → Int32)} {d : Nat} (hd : 0 ≤ d) {r : Int32} {u : xS} (h : f_X12_partsInAll u = some r) : xG sc mX12_partsInAll d 0 0 (xR (some (.int r)) (xL0, u) 0 0) 0 0 0 [some (.ref 135), none, none] [] (xL0, u) := by
  rw [f_X12_partsInAll] at h
  refine g_iconst (pc := 0) dX12_partsInAll_0 ic_0 ?_
  refine g_istore_n (pc := 1) dX12_partsInAll_1 (Nat.le_of_ble_eq_true rfl) (L' := [some (.ref 135), some (.int (0 : Int32)), none]) rfl ?_
  refine g_iconst (pc := 2) dX12_partsInAll_2 ic_0 ?_
  refine g_istore_n (pc := 3) dX12_partsInAll_3 (Nat.le_of_ble_eq_true rfl) (L' := [some (.ref 135), some (.int (0 : Int32)), some (.int (0 : Int32))]) rfl ?_
  exact G_X12_partsInAll_4 hd xN (0 : Int32) (0 : Int32) h
set_option maxRecDepth 100000 in
set_option maxHeartbeats 4000000 in
theorem M_X12_partsInAll {sc : Nat × (Nat → Int32)} {d : Nat} (hd : 0 ≤ d) {r : Int32} {u : xS} (h : f_X12_partsInAll u = some r) : xMt sc mX12_partsInAll d 0 0 [.ref 135] (xL0, u) (some (.int r)) (xL0, u) :=
  xMt.of (by decide +kernel) (Nat.le_of_ble_eq_true rfl) (L := [some (.ref 135), none, none]) rfl ((G_X12_partsInAll_0 hd h))
set_option maxRecDepth 100000 in
set_option maxHeartbeats 4000000 in
theorem G_X12_count_0 {sc : Nat × (Nat → Int32)} {d : Nat} (hd : 2 ≤ d) {r : Int32} {u' : xS} (v1 : Int32) (u : xS) (h : f_X12_count v1 u = some (r, u')) : xG sc mX12_count d 0 0 (xR (some (.int r)) (xL0, u') 0 0) 0 0 0 [some (.ref 135), some (.int v1)] [] (xL0, u) := by
  rw [f_X12_count] at h
  refine g_aload_n (pc := 0) dX12_count_0 rfl ?_
  refine g_iconst (pc := 1) dX12_count_1 ic_0 ?_
  refine g_pI (pc := 2) dX12_count_2 pI_RX12_150 xc_135 (u' := (wr u 135 0 (0 : Int32))) rfl ?_
  refine g_iload_n (pc := 5) dX12_count_5 rfl ?_
  by_cases c1 : v1 = (0 : Int32)
  · replace h := (if_pos c1).symm.trans h
    refine g_tableIn (tgt := 72) (off := 66) (pc := 6) dX12_count_6 (by rw [c1]; decide) (by rw [c1]; decide) (by rw [c1]; rfl) (by decide) ?_
    refine g_aload_n (pc := 72) dX12_count_72 rfl ?_
    refine g_gI (pc := 73) dX12_count_73 fI_RX12_153 xc_135 (v := (rd u 135 1)) rfl ?_
    cases h
    exact g_iret (pc := 76) dX12_count_76 rfl rfl rfl (Nat.le_refl _) (Nat.le_refl _)
  replace h := (if_neg c1).symm.trans h
  by_cases c2 : v1 = (1 : Int32)
  · replace h := (if_pos c2).symm.trans h
    refine g_tableIn (tgt := 77) (off := 71) (pc := 6) dX12_count_6 (by rw [c2]; decide) (by rw [c2]; decide) (by rw [c2]; rfl) (by decide) ?_
    refine g_aload_n (pc := 77) dX12_count_77 rfl ?_
    refine g_gI (pc := 78) dX12_count_78 fI_RX12_175 xc_135 (v := (rd u 135 3)) rfl ?_
    cases h
    exact g_iret (pc := 81) dX12_count_81 rfl rfl rfl (Nat.le_refl _) (Nat.le_refl _)
  replace h := (if_neg c2).symm.trans h
  by_cases c3 : v1 = (2 : Int32)
  · replace h := (if_pos c3).symm.trans h
    refine g_tableIn (tgt := 82) (off := 76) (pc := 6) dX12_count_6 (by rw [c3]; decide) (by rw [c3]; decide) (by rw [c3]; rfl) (by decide) ?_
    refine g_aload_n (pc := 82) dX12_count_82 rfl ?_
    refine g_gI (pc := 83) dX12_count_83 fI_RX12_194 xc_135 (v := (rd u 135 7)) rfl ?_
    cases h
    exact g_iret (pc := 86) dX12_count_86 rfl rfl rfl (Nat.le_refl _) (Nat.le_refl _)
  replace h := (if_neg c3).symm.trans h
  by_cases c4 : v1 = (3 : Int32)
  · replace h := (if_pos c4).symm.trans h
    refine g_tableIn (tgt := 87) (off := 81) (pc := 6) dX12_count_6 (by rw [c4]; decide) (by rw [c4]; decide) (by rw [c4]; rfl) (by decide) ?_
    refine g_aload_n (pc := 87) dX12_count_87 rfl ?_
    refine g_gI (pc := 88) dX12_count_88 fI_RX12_229 xc_135 (v := (rd u 135 18)) rfl ?_
    cases h
    exact g_iret (pc := 91) dX12_count_91 rfl rfl rfl (Nat.le_refl _) (Nat.le_refl _)
  replace h := (if_neg c4).symm.trans h
  by_cases c5 : v1 = (4 : Int32)
  · replace h := (if_pos c5).symm.trans h
    refine g_tableIn (tgt := 92) (off := 86) (pc := 6) dX12_count_6 (by rw [c5]; decide) (by rw [c5]; decide) (by rw [c5]; rfl) (by decide) ?_
    refine g_aload_n (pc := 92) dX12_count_92 rfl ?_
    refine g_gI (pc := 93) dX12_count_93 fI_RX12_320 xc_135 (v := (rd u 135 28)) rfl ?_
    cases h
    exact g_iret (pc := 96) dX12_count_96 rfl rfl rfl (Nat.le_refl _) (Nat.le_refl _)
  replace h := (if_neg c5).symm.trans h
  by_cases c6 : v1 = (5 : Int32)
  · replace h := (if_pos c6).symm.trans h
    refine g_tableIn (tgt := 97) (off := 91) (pc := 6) dX12_count_6 (by rw [c6]; decide) (by rw [c6]; decide) (by rw [c6]; rfl) (by decide) ?_
    refine g_aload_n (pc := 97) dX12_count_97 rfl ?_
    obtain ⟨x8, e7, h⟩ := x_bind h
    refine g_cV (pc := 98) dX12_count_98 cV_RX12_433 (M_X12_lots (Nat.le_refl _) e7) xc_135 (as := []) (st := []) rfl rfl (Nat.le_of_ble_eq_true rfl) (Nat.le_trans (Nat.le_of_ble_eq_true rfl) hd) rfl ?_
    cases h
    exact g_iret (pc := 101) dX12_count_101 rfl rfl rfl (Nat.le_refl _) (Nat.le_refl _)
  replace h := (if_neg c6).symm.trans h
  by_cases c9 : v1 = (6 : Int32)
  · replace h := (if_pos c9).symm.trans h
    refine g_tableIn (tgt := 102) (off := 96) (pc := 6) dX12_count_6 (by rw [c9]; decide) (by rw [c9]; decide) (by rw [c9]; rfl) (by decide) ?_
    refine g_aload_n (pc := 102) dX12_count_102 rfl ?_
    refine g_gI (pc := 103) dX12_count_103 fI_RX12_223 xc_135 (v := (rd u 135 37)) rfl ?_
    cases h
    exact g_iret (pc := 106) dX12_count_106 rfl rfl rfl (Nat.le_refl _) (Nat.le_refl _)
  replace h := (if_neg c9).symm.trans h
  by_cases c10 : v1 = (7 : Int32)
  · replace h := (if_pos c10).symm.trans h
    refine g_tableIn (tgt := 107) (off := 101) (pc := 6) dX12_count_6 (by rw [c10]; decide) (by rw [c10]; decide) (by rw [c10]; rfl) (by decide) ?_
    refine g_aload_n (pc := 107) dX12_count_107 rfl ?_
    refine g_gI (pc := 108) dX12_count_108 fI_RX12_409 xc_135 (v := (rd u 135 46)) rfl ?_
    cases h
    exact g_iret (pc := 111) dX12_count_111 rfl rfl rfl (Nat.le_refl _) (Nat.le_refl _)
  replace h := (if_neg c10).symm.trans h
  by_cases c11 : v1 = (8 : Int32)
  · replace h := (if_pos c11).symm.trans h
    refine g_tableIn (tgt := 112) (off := 106) (pc := 6) dX12_count_6 (by rw [c11]; decide) (by rw [c11]; decide) (by rw [c11]; rfl) (by decide) ?_
    refine g_aload_n (pc := 112) dX12_count_112 rfl ?_
    refine g_gI (pc := 113) dX12_count_113 fI_RX12_420 xc_135 (v := (rd u 135 54)) rfl ?_
    cases h
    exact g_iret (pc := 116) dX12_count_116 rfl rfl rfl (Nat.le_refl _) (Nat.le_refl _)
  replace h := (if_neg c11).symm.trans h
  by_cases c12 : v1 = (9 : Int32)
  · replace h := (if_pos c12).symm.trans h
    refine g_tableIn (tgt := 117) (off := 111) (pc := 6) dX12_count_6 (by rw [c12]; decide) (by rw [c12]; decide) (by rw [c12]; rfl) (by decide) ?_
    refine g_aload_n (pc := 117) dX12_count_117 rfl ?_
    refine g_gI (pc := 118) dX12_count_118 fI_RX12_388 xc_135 (v := (rd u 135 43)) rfl ?_
    cases h
    exact g_iret (pc := 121) dX12_count_121 rfl rfl rfl (Nat.le_refl _) (Nat.le_refl _)
  replace h := (if_neg c12).symm.trans h
  by_cases c13 : v1 = (10 : Int32)
  · replace h := (if_pos c13).symm.trans h
    refine g_tableIn (tgt := 122) (off := 116) (pc := 6) dX12_count_6 (by rw [c13]; decide) (by rw [c13]; decide) (by rw [c13]; rfl) (by decide) ?_
    refine g_aload_n (pc := 122) dX12_count_122 rfl ?_
    refine g_gI (pc := 123) dX12_count_123 fI_RX12_256 xc_135 (v := (rd u 135 32)) rfl ?_
    cases h
    exact g_iret (pc := 126) dX12_count_126 rfl rfl rfl (Nat.le_refl _) (Nat.le_refl _)
  replace h := (if_neg c13).symm.trans h
  by_cases c14 : v1 = (11 : Int32)
  · replace h := (if_pos c14).symm.trans h
    refine g_tableIn (tgt := 127) (off := 121) (pc := 6) dX12_count_6 (by rw [c14]; decide) (by rw [c14]; decide) (by rw [c14]; rfl) (by decide) ?_
    refine g_aload_n (pc := 127) dX12_count_127 rfl ?_
    refine g_gI (pc := 128) dX12_count_128 fI_RX12_64 xc_135 (v := (rd u 135 24)) rfl ?_
    cases h
    exact g_iret (pc := 131) dX12_count_131 rfl rfl rfl (Nat.le_refl _) (Nat.le_refl _)
  replace h := (if_neg c14).symm.trans h
  by_cases c15 : v1 = (12 : Int32)
  · replace h := (if_pos c15).symm.trans h
    refine g_tableIn (tgt := 132) (off := 126) (pc := 6) dX12_count_6 (by rw [c15]; decide) (by rw [c15]; decide) (by rw [c15]; rfl) (by decide) ?_
    refine g_aload_n (pc := 132) dX12_count_132 rfl ?_
    obtain ⟨x17, e16, h⟩ := x_bind h
    refine g_cV (pc := 133) dX12_count_133 cV_RX12_356 (M_X12_partsInAll (Nat.le_refl _) e16) xc_135 (as := []) (st := []) rfl rfl (Nat.le_of_ble_eq_true rfl) (Nat.le_trans (Nat.le_of_ble_eq_true rfl) hd) rfl ?_
    cases h
    exact g_iret (pc := 136) dX12_count_136 rfl rfl rfl (Nat.le_refl _) (Nat.le_refl _)
  replace h := (if_neg c15).symm.trans h
  have c1i := i32_ne c1 (m := 0) (by decide)
  have c2i := i32_ne c2 (m := 1) (by decide)
  have c3i := i32_ne c3 (m := 2) (by decide)
  have c4i := i32_ne c4 (m := 3) (by decide)
  have c5i := i32_ne c5 (m := 4) (by decide)
  have c6i := i32_ne c6 (m := 5) (by decide)
  have c9i := i32_ne c9 (m := 6) (by decide)
  have c10i := i32_ne c10 (m := 7) (by decide)
  have c11i := i32_ne c11 (m := 8) (by decide)
  have c12i := i32_ne c12 (m := 9) (by decide)
  have c13i := i32_ne c13 (m := 10) (by decide)
  have c14i := i32_ne c14 (m := 11) (by decide)
  have c15i := i32_ne c15 (m := 12) (by decide)
  refine g_tableOut (tgt := 137) (pc := 6) dX12_count_6 (by omega) (by decide) ?_
  refine g_iconst (pc := 137) dX12_count_137 ic_m1 ?_
  cases h
  exact g_iret (pc := 138) dX12_count_138 rfl rfl rfl (Nat.le_refl _) (Nat.le_refl _)
set_option maxRecDepth 100000 in
set_option maxHeartbeats 4000000 in
theorem M_X12_count {sc : Nat × (Nat → Int32)} {d : Nat} (hd : 2 ≤ d) {r : Int32} {u u' : xS} {a1 : Int32} (h : f_X12_count a1 u = some (r, u')) : xMt sc mX12_count d 0 0 [.ref 135, .int a1] (xL0, u) (some (.int r)) (xL0, u') :=
  xMt.of (by decide +kernel) (Nat.le_of_ble_eq_true rfl) (L := [some (.ref 135), some (.int a1)]) rfl ((G_X12_count_0 hd a1 u h))
set_option maxRecDepth 100000 in
set_option maxHeartbeats 4000000 in
theorem G_X12_enters_0 {sc : Nat × (Nat → Int32)} {d : Nat} (hd : 0 ≤ d) {u' : xS} (v1 : Int32) (u : xS) (h : f_X12_enters v1 u = some u') : xG sc mX12_enters d 0 0 (xR none (xL0, u') 0 0) 0 0 0 [some (.ref 135), some (.int v1)] [] (xL0, u) := by
  rw [f_X12_enters] at h
  refine g_aload_n (pc := 0) dX12_enters_0 rfl ?_
  refine g_gR (pc := 1) dX12_enters_1 fR_RX12_102 xc_135 (v := 165) rfl ?_
  refine g_aload_n (pc := 4) dX12_enters_4 rfl ?_
  refine g_gI (pc := 5) dX12_enters_5 fI_RX12_388 xc_135 (v := (rd u 135 43)) rfl ?_
  refine g_iload_n (pc := 8) dX12_enters_8 rfl ?_
  obtain ⟨g1, h⟩ := x_gd h
  refine g_iastore (pc := 9) dX12_enters_9 xc_165 (xin_of g1) (u' := (wr u 165 (rd u 135 43).toNatClampNeg v1)) rfl ?_
  refine g_aload_n (pc := 10) dX12_enters_10 rfl ?_
  refine g_dup (pc := 11) dX12_enters_11 rfl ?_
  refine g_gI (pc := 12) dX12_enters_12 fI_RX12_388 xc_135 (v := (rd u 135 43)) rfl ?_
  refine g_iconst (pc := 15) dX12_enters_15 ic_1 ?_
  refine g_iadd (pc := 16) dX12_enters_16 rfl ?_
  refine g_pI (pc := 17) dX12_enters_17 pI_RX12_388 xc_135 (u' := (wr (wr u 165 (rd u 135 43).toNatClampNeg v1) 135 43 ((rd u 135 43) + (1 : Int32)))) rfl ?_
  cases h
  exact g_ret (pc := 20) dX12_enters_20 rfl rfl rfl (Nat.le_refl _) (Nat.le_refl _)
set_option maxRecDepth 100000 in
set_option maxHeartbeats 4000000 in
theorem M_X12_enters {sc : Nat × (Nat → Int32)} {d : Nat} (hd : 0 ≤ d) {u u' : xS} {a1 : Int32} (h : f_X12_enters a1 u = some u') : xMt sc mX12_enters d 0 0 [.ref 135, .int a1] (xL0, u) none (xL0, u') :=
  xMt.of (by decide +kernel) (Nat.le_of_ble_eq_true rfl) (L := [some (.ref 135), some (.int a1)]) rfl ((G_X12_enters_0 hd a1 u h))
theorem zb_X12_in (v0 : Int64) (v2 : Int64) (v4 : Int64) : f_X12_in v0 v2 v4 = 0 ∨ f_X12_in v0 v2 v4 = 1 := by
  unfold f_X12_in
  (repeat' split) <;> first | exact Or.inl rfl | exact Or.inr rfl
set_option maxRecDepth 100000 in
set_option maxHeartbeats 4000000 in
theorem G_X12_in_0 {sc : Nat × (Nat → Int32)} {d : Nat} (hd : 0 ≤ d) {r : Int32} {u : xS} (v0 : Int64) (v2 : Int64) (v4 : Int64) (h : f_X12_in v0 v2 v4 = r) : xG sc mX12_in d 0 0 (xR (some (.int r)) (xL0, u) 0 0) 0 0 0 [some (.long v0), none, some (.long v2), none, some (.long v4), none] [] (xL0, u) := by
  rw [f_X12_in] at h
  refine g_lload_n (pc := 0) dX12_in_0 rfl ?_
  refine g_lload_n (pc := 1) dX12_in_1 rfl ?_
  refine g_lcmp (pc := 2) dX12_in_2 rfl ?_
  refine g_if_lt (tgt := 17) (pc := 3) dX12_in_3 (by decide) (fun c1 => ?_) (fun c1 => ?_)
  · replace h := (if_pos c1).symm.trans h
    refine g_iconst (pc := 17) dX12_in_17 ic_0 ?_
    subst h
    exact g_zret (pc := 18) dX12_in_18 rfl (Or.inl rfl) rfl rfl (Nat.le_refl _) (Nat.le_refl _)
  · replace h := (if_neg c1).symm.trans h
    refine g_lload_n (pc := 6) dX12_in_6 rfl ?_
    refine g_lload (pc := 7) dX12_in_7 rfl ?_
    refine g_lcmp (pc := 9) dX12_in_9 rfl ?_
    refine g_if_gt (tgt := 17) (pc := 10) dX12_in_10 (by decide) (fun c2 => ?_) (fun c2 => ?_)
    · replace h := (if_pos c2).symm.trans h
      refine g_iconst (pc := 17) dX12_in_17 ic_0 ?_
      subst h
      exact g_zret (pc := 18) dX12_in_18 rfl (Or.inl rfl) rfl rfl (Nat.le_refl _) (Nat.le_refl _)
    · replace h := (if_neg c2).symm.trans h
      refine g_iconst (pc := 13) dX12_in_13 ic_1 ?_
      refine g_goto (tgt := 18) (pc := 14) dX12_in_14 (by decide) ?_
      subst h
      exact g_zret (pc := 18) dX12_in_18 rfl (Or.inr rfl) rfl rfl (Nat.le_refl _) (Nat.le_refl _)
set_option maxRecDepth 100000 in
set_option maxHeartbeats 4000000 in
theorem M_X12_in {sc : Nat × (Nat → Int32)} {d : Nat} (hd : 0 ≤ d) {r : Int32} {u : xS} {a0 : Int64} {a2 : Int64} {a4 : Int64} (h : f_X12_in a0 a2 a4 = r) : xMt sc mX12_in d 0 0 [.long a0, .long a2, .long a4] (xL0, u) (some (.int r)) (xL0, u) :=
  xMt.of (by decide +kernel) (Nat.le_of_ble_eq_true rfl) (L := [some (.long a0), none, some (.long a2), none, some (.long a4), none]) rfl ((G_X12_in_0 hd a0 a2 a4 h))
theorem zb_X12_isSorter (v0 : Int32) : f_X12_isSorter v0 = 0 ∨ f_X12_isSorter v0 = 1 := by
  unfold f_X12_isSorter
  (repeat' split) <;> first | exact Or.inl rfl | exact Or.inr rfl | exact zb_X12_in _ _ _
set_option maxRecDepth 100000 in
set_option maxHeartbeats 4000000 in
theorem G_X12_isSorter_0 {sc : Nat × (Nat → Int32)} {d : Nat} (hd : 1 ≤ d) {r : Int32} {u : xS} (v0 : Int32) (h : f_X12_isSorter v0 = r) : xG sc mX12_isSorter d 0 0 (xR (some (.int r)) (xL0, u) 0 0) 0 0 0 [some (.int v0)] [] (xL0, u) := by
  rw [f_X12_isSorter] at h
  refine g_iload_n (pc := 0) dX12_isSorter_0 rfl ?_
  refine g_i2l (pc := 1) dX12_isSorter_1 rfl ?_
  refine g_lconst (v := (0 : Int64)) (pc := 2) dX12_isSorter_2 rfl ?_
  refine g_ldc2 (pc := 3) dX12_isSorter_3 kl_RX12_203 ?_
  refine g_cS (pc := 6) dX12_isSorter_6 cS_RX12_156 (M_X12_in (Nat.le_refl _) rfl) (as := [.long ((v0).toInt64), .long (0 : Int64), .long (5 : Int64)]) (st := []) rfl rfl (Nat.le_of_ble_eq_true rfl) (Nat.le_trans (Nat.le_of_ble_eq_true rfl) hd) rfl ?_
  subst h
  exact g_zret (pc := 9) dX12_isSorter_9 rfl (zb_X12_in _ _ _) rfl rfl (Nat.le_refl _) (Nat.le_refl _)
set_option maxRecDepth 100000 in
set_option maxHeartbeats 4000000 in
theorem M_X12_isSorter {sc : Nat × (Nat → Int32)} {d : Nat} (hd : 1 ≤ d) {r : Int32} {u : xS} {a0 : Int32} (h : f_X12_isSorter a0 = r) : xMt sc mX12_isSorter d 0 0 [.int a0] (xL0, u) (some (.int r)) (xL0, u) :=
  xMt.of (by decide +kernel) (Nat.le_of_ble_eq_true rfl) (L := [some (.int a0)]) rfl ((G_X12_isSorter_0 hd a0 h))
set_option maxRecDepth 100000 in
set_option maxHeartbeats 4000000 in
theorem G_X12_ring_149 {sc : Nat × (Nat → Int32)} {d : Nat} (hd : 2 ≤ d) {r : Int32} {u' : xS} {k129 : Int32 → xS → Option (Int32 × xS)} (hk129 : ∀ (v3 : Int32) (u : xS), k129 v3 u = some (r, u') → xG sc mX12_ring d 0 0 (xR (some (.int r)) (xL0, u') 0 0) 0 0 129 [some (.ref 135), none, none, some (.int v3)] [] (xL0, u)) (v3 : Int32) (u : xS) (h : f_X12_ring_149 k129 v3 u = some (r, u')) : xG sc mX12_ring d 0 0 (xR (some (.int r)) (xL0, u') 0 0) 0 0 149 [some (.ref 135), none, none, some (.int v3)] [] (xL0, u) := by
  rw [f_X12_ring_149] at h
  refine g_inc (pc := 149) dX12_ring_149 (Nat.le_of_ble_eq_true rfl) rfl ic_1 (L' := [some (.ref 135), none, none, some (.int (v3 + (1 : Int32)))]) rfl ?_
  refine g_goto (tgt := 129) (pc := 152) dX12_ring_152 (by decide) ?_
  exact hk129 (v3 + (1 : Int32)) u h
set_option maxRecDepth 100000 in
set_option maxHeartbeats 4000000 in
theorem G_X12_ring_129 {sc : Nat × (Nat → Int32)} {d : Nat} (hd : 2 ≤ d) {r : Int32} {u' : xS} : ∀ (n : Nat) (v3 : Int32) (u : xS), f_X12_ring_129 n v3 u = some (r, u') → xG sc mX12_ring d 0 0 (xR (some (.int r)) (xL0, u') 0 0) 0 0 129 [some (.ref 135), none, none, some (.int v3)] [] (xL0, u) := by
  intro n
  induction n with
  | zero =>
    intro v3 u h
    rw [f_X12_ring_129] at h
    cases h
  | succ n ih =>
    intro v3 u h
    rw [f_X12_ring_129] at h
    refine g_iload_n (pc := 129) dX12_ring_129 rfl ?_
    refine g_bipush (pc := 130) dX12_ring_130 bp_6 ?_
    refine g_icmp_ge (tgt := 155) (pc := 132) dX12_ring_132 (by decide) (fun c1 => ?_) (fun c1 => ?_)
    · replace h := (if_pos c1).symm.trans h
      refine g_aload_n (pc := 155) dX12_ring_155 rfl ?_
      refine g_gI (pc := 156) dX12_ring_156 fI_RX12_388 xc_135 (v := (rd u 135 43)) rfl ?_
      cases h
      exact g_iret (pc := 159) dX12_ring_159 rfl rfl rfl (Nat.le_refl _) (Nat.le_refl _)
    · replace h := (if_neg c1).symm.trans h
      refine g_aload_n (pc := 135) dX12_ring_135 rfl ?_
      refine g_gR (pc := 136) dX12_ring_136 fR_RX12_120 xc_135 (v := 171) rfl ?_
      refine g_iload_n (pc := 139) dX12_ring_139 rfl ?_
      obtain ⟨g2, h⟩ := x_gd h
      refine g_baload (pc := 140) dX12_ring_140 xc_171 (xin_of g2) (v := (rd u 171 v3.toNatClampNeg)) rfl ?_
      refine g_if_eq (tgt := 149) (pc := 141) dX12_ring_141 (by decide) (fun c3 => ?_) (fun c3 => ?_)
      · replace h := (if_pos c3).symm.trans h
        exact G_X12_ring_149 hd ih v3 u h
      · replace h := (if_neg c3).symm.trans h
        refine g_aload_n (pc := 144) dX12_ring_144 rfl ?_
        refine g_iload_n (pc := 145) dX12_ring_145 rfl ?_
        obtain ⟨u5, e4, h⟩ := x_bind h
        refine g_cV (pc := 146) dX12_ring_146 cV_RX12_394 (M_X12_enters (Nat.le_refl _) e4) xc_135 (as := [.int v3]) (st := []) rfl rfl (Nat.le_of_ble_eq_true rfl) (Nat.le_trans (Nat.le_of_ble_eq_true rfl) hd) rfl ?_
        exact G_X12_ring_149 hd ih v3 u5 h
set_option maxRecDepth 100000 in
set_option maxHeartbeats 4000000 in
theorem G_X12_ring_113 {sc : Nat × (Nat → Int32)} {d : Nat} (hd : 2 ≤ d) {r : Int32} {u' : xS} {k54 : Int32 → Int32 → xS → Option (Int32 × xS)} (hk54 : ∀ (v2 : Int32) (v3 : Int32) (u : xS), k54 v2 v3 u = some (r, u') → xG sc mX12_ring d 0 0 (xR (some (.int r)) (xL0, u') 0 0) 0 0 54 [some (.ref 135), none, some (.int v2), some (.int v3)] [] (xL0, u)) {k46 : Int32 → xS → Option (Int32 × xS)} (hk46 : ∀ (v2 : Int32) (u : xS), k46 v2 u = some (r, u') → xG sc mX12_ring d 0 0 (xR (some (.int r)) (xL0, u') 0 0) 0 0 46 [some (.ref 135), none, some (.int v2), none] [] (xL0, u)) (v2 : Int32) (v3 : Int32) (u : xS) (h : f_X12_ring_113 k54 k46 v2 v3 u = some (r, u')) : xG sc mX12_ring d 0 0 (xR (some (.int r)) (xL0, u') 0 0) 0 0 113 [some (.ref 135), none, some (.int v2), some (.int v3)] [] (xL0, u) := by
  rw [f_X12_ring_113] at h
  refine g_inc (pc := 113) dX12_ring_113 (Nat.le_of_ble_eq_true rfl) rfl ic_1 (L' := [some (.ref 135), none, some (.int v2), some (.int (v3 + (1 : Int32)))]) rfl ?_
  refine g_goto (tgt := 54) (pc := 116) dX12_ring_116 (by decide) ?_
  exact hk54 v2 (v3 + (1 : Int32)) u h
set_option maxRecDepth 100000 in
set_option maxHeartbeats 4000000 in
theorem G_X12_ring_54 {sc : Nat × (Nat → Int32)} {d : Nat} (hd : 2 ≤ d) {r : Int32} {u' : xS} {k46 : Int32 → xS → Option (Int32 × xS)} (hk46 : ∀ (v2 : Int32) (u : xS), k46 v2 u = some (r, u') → xG sc mX12_ring d 0 0 (xR (some (.int r)) (xL0, u') 0 0) 0 0 46 [some (.ref 135), none, some (.int v2), none] [] (xL0, u)) : ∀ (n : Nat) (v2 : Int32) (v3 : Int32) (u : xS), f_X12_ring_54 k46 n v2 v3 u = some (r, u') → xG sc mX12_ring d 0 0 (xR (some (.int r)) (xL0, u') 0 0) 0 0 54 [some (.ref 135), none, some (.int v2), some (.int v3)] [] (xL0, u) := by
  intro n
  induction n with
  | zero =>
    intro v2 v3 u h
    rw [f_X12_ring_54] at h
    cases h
  | succ n ih =>
    intro v2 v3 u h
    rw [f_X12_ring_54] at h
    refine g_iload_n (pc := 54) dX12_ring_54 rfl ?_
    refine g_aload_n (pc := 55) dX12_ring_55 rfl ?_
    refine g_gI (pc := 56) dX12_ring_56 fI_RX12_409 xc_135 (v := (rd u 135 46)) rfl ?_
    refine g_icmp_ge (tgt := 119) (pc := 59) dX12_ring_59 (by decide) (fun c1 => ?_) (fun c1 => ?_)
    · replace h := (if_pos c1).symm.trans h
      refine g_goto (tgt := 46) (pc := 119) dX12_ring_119 (by decide) ?_
      refine g_L (L' := [some (.ref 135), none, some (.int v2), none]) ⟨rfl, ⟨rfl, trivial⟩⟩ ?_
      exact hk46 v2 u h
    · replace h := (if_neg c1).symm.trans h
      refine g_aload_n (pc := 62) dX12_ring_62 rfl ?_
      refine g_gR (pc := 63) dX12_ring_63 fR_RX12_120 xc_135 (v := 171) rfl ?_
      refine g_aload_n (pc := 66) dX12_ring_66 rfl ?_
      refine g_gR (pc := 67) dX12_ring_67 fR_RX12_108 xc_135 (v := 167) rfl ?_
      refine g_iload_n (pc := 70) dX12_ring_70 rfl ?_
      obtain ⟨g2, h⟩ := x_gd h
      refine g_iaload (pc := 71) dX12_ring_71 xc_167 (xin_of g2) (v := (rd u 167 v3.toNatClampNeg)) rfl ?_
      obtain ⟨g3, h⟩ := x_gd h
      refine g_baload (pc := 72) dX12_ring_72 xc_171 (xin_of g3) (v := (rd u 171 (rd u 167 v3.toNatClampNeg).toNatClampNeg)) rfl ?_
      refine g_aload_n (pc := 73) dX12_ring_73 rfl ?_
      refine g_gR (pc := 74) dX12_ring_74 fR_RX12_120 xc_135 (v := 171) rfl ?_
      refine g_aload_n (pc := 77) dX12_ring_77 rfl ?_
      refine g_gR (pc := 78) dX12_ring_78 fR_RX12_111 xc_135 (v := 168) rfl ?_
      refine g_iload_n (pc := 81) dX12_ring_81 rfl ?_
      refine g_iaload (pc := 82) dX12_ring_82 xc_168 (xin_of g2) (v := (rd u 168 v3.toNatClampNeg)) rfl ?_
      obtain ⟨g4, h⟩ := x_gd h
      refine g_baload (pc := 83) dX12_ring_83 xc_171 (xin_of g4) (v := (rd u 171 (rd u 168 v3.toNatClampNeg).toNatClampNeg)) rfl ?_
      refine g_icmp_eq (tgt := 113) (pc := 84) dX12_ring_84 (by decide) (fun c5 => ?_) (fun c5 => ?_)
      · replace h := (if_pos c5).symm.trans h
        exact G_X12_ring_113 hd ih hk46 v2 v3 u h
      · replace h := (if_neg c5).symm.trans h
        refine g_aload_n (pc := 87) dX12_ring_87 rfl ?_
        refine g_gR (pc := 88) dX12_ring_88 fR_RX12_120 xc_135 (v := 171) rfl ?_
        refine g_aload_n (pc := 91) dX12_ring_91 rfl ?_
        refine g_gR (pc := 92) dX12_ring_92 fR_RX12_108 xc_135 (v := 167) rfl ?_
        refine g_iload_n (pc := 95) dX12_ring_95 rfl ?_
        refine g_iaload (pc := 96) dX12_ring_96 xc_167 (xin_of g2) (v := (rd u 167 v3.toNatClampNeg)) rfl ?_
        refine g_iconst (pc := 97) dX12_ring_97 ic_1 ?_
        refine g_bastoreB (pc := 98) dX12_ring_98 xc_171 (xin_of g3) (Or.inr rfl) (u' := (wr u 171 (rd u 167 v3.toNatClampNeg).toNatClampNeg (1 : Int32))) rfl ?_
        refine g_aload_n (pc := 99) dX12_ring_99 rfl ?_
        refine g_gR (pc := 100) dX12_ring_100 fR_RX12_120 xc_135 (v := 171) rfl ?_
        refine g_aload_n (pc := 103) dX12_ring_103 rfl ?_
        refine g_gR (pc := 104) dX12_ring_104 fR_RX12_111 xc_135 (v := 168) rfl ?_
        refine g_iload_n (pc := 107) dX12_ring_107 rfl ?_
        refine g_iaload (pc := 108) dX12_ring_108 xc_168 (xin_of g2) (v := (rd u 168 v3.toNatClampNeg)) rfl ?_
        refine g_iconst (pc := 109) dX12_ring_109 ic_1 ?_
        refine g_bastoreB (pc := 110) dX12_ring_110 xc_171 (xin_of g4) (Or.inr rfl) (u' := (wr (wr u 171 (rd u 167 v3.toNatClampNeg).toNatClampNeg (1 : Int32)) 171 (rd u 168 v3.toNatClampNeg).toNatClampNeg (1 : Int32))) rfl ?_
        refine g_iconst (pc := 111) dX12_ring_111 ic_1 ?_
        refine g_istore_n (pc := 112) dX12_ring_112 (Nat.le_of_ble_eq_true rfl) (L' := [some (.ref 135), none, some (.int (1 : Int32)), some (.int v3)]) rfl ?_
        exact G_X12_ring_113 hd ih hk46 (1 : Int32) v3 (wr (wr u 171 (rd u 167 v3.toNatClampNeg).toNatClampNeg (1 : Int32)) 171 (rd u 168 v3.toNatClampNeg).toNatClampNeg (1 : Int32)) h
set_option maxRecDepth 100000 in
set_option maxHeartbeats 4000000 in
theorem G_X12_ring_46 {sc : Nat × (Nat → Int32)} {d : Nat} (hd : 2 ≤ d) {r : Int32} {u' : xS} : ∀ (n : Nat) (v2 : Int32) (u : xS), f_X12_ring_46 n v2 u = some (r, u') → xG sc mX12_ring d 0 0 (xR (some (.int r)) (xL0, u') 0 0) 0 0 46 [some (.ref 135), none, some (.int v2), none] [] (xL0, u) := by
  intro n
  induction n with
  | zero =>
    intro v2 u h
    rw [f_X12_ring_46] at h
    cases h
  | succ n ih =>
    intro v2 u h
    rw [f_X12_ring_46] at h
    refine g_iload_n (pc := 46) dX12_ring_46 rfl ?_
    refine g_if_eq (tgt := 122) (pc := 47) dX12_ring_47 (by decide) (fun c1 => ?_) (fun c1 => ?_)
    · replace h := (if_pos c1).symm.trans h
      refine g_aload_n (pc := 122) dX12_ring_122 rfl ?_
      refine g_iconst (pc := 123) dX12_ring_123 ic_0 ?_
      refine g_pI (pc := 124) dX12_ring_124 pI_RX12_388 xc_135 (u' := (wr u 135 43 (0 : Int32))) rfl ?_
      refine g_iconst (pc := 127) dX12_ring_127 ic_0 ?_
      refine g_istore_n (pc := 128) dX12_ring_128 (Nat.le_of_ble_eq_true rfl) (L' := [some (.ref 135), none, some (.int v2), some (.int (0 : Int32))]) rfl ?_
      refine g_L (L' := [some (.ref 135), none, none, some (.int (0 : Int32))]) ⟨rfl, ⟨rfl, trivial⟩⟩ ?_
      exact G_X12_ring_129 hd xN (0 : Int32) (wr u 135 43 (0 : Int32)) h
    · replace h := (if_neg c1).symm.trans h
      refine g_iconst (pc := 50) dX12_ring_50 ic_0 ?_
      refine g_istore_n (pc := 51) dX12_ring_51 (Nat.le_of_ble_eq_true rfl) (L' := [some (.ref 135), none, some (.int (0 : Int32)), none]) rfl ?_
      refine g_iconst (pc := 52) dX12_ring_52 ic_0 ?_
      refine g_istore_n (pc := 53) dX12_ring_53 (Nat.le_of_ble_eq_true rfl) (L' := [some (.ref 135), none, some (.int (0 : Int32)), some (.int (0 : Int32))]) rfl ?_
      exact G_X12_ring_54 hd ih xN (0 : Int32) (0 : Int32) u h
set_option maxRecDepth 100000 in
set_option maxHeartbeats 4000000 in
theorem G_X12_ring_37 {sc : Nat × (Nat → Int32)} {d : Nat} (hd : 2 ≤ d) {r : Int32} {u' : xS} {k16 : Int32 → Int32 → xS → Option (Int32 × xS)} (hk16 : ∀ (v1 : Int32) (v2 : Int32) (u : xS), k16 v1 v2 u = some (r, u') → xG sc mX12_ring d 0 0 (xR (some (.int r)) (xL0, u') 0 0) 0 0 16 [some (.ref 135), some (.int v1), some (.int v2), none] [] (xL0, u)) (v1 : Int32) (v2 : Int32) (s1 : Int32) (s2 : Int32) (u : xS) (h : f_X12_ring_37 k16 v1 v2 s1 s2 u = some (r, u')) : xG sc mX12_ring d 0 0 (xR (some (.int r)) (xL0, u') 0 0) 0 0 37 [some (.ref 135), some (.int v1), some (.int v2), none] [.int s2, .int s1, .ref 171] (xL0, u) := by
  rw [f_X12_ring_37] at h
  obtain ⟨g1, h⟩ := x_gd h
  obtain ⟨g2, h⟩ := x_gd h
  refine g_bastoreB (pc := 37) dX12_ring_37 xc_171 (xin_of g1) (xb_of g2) (u' := (wr u 171 s1.toNatClampNeg s2)) rfl ?_
  refine g_inc (pc := 38) dX12_ring_38 (Nat.le_of_ble_eq_true rfl) rfl ic_1 (L' := [some (.ref 135), some (.int v1), some (.int (v2 + (1 : Int32))), none]) rfl ?_
  refine g_goto (tgt := 16) (pc := 41) dX12_ring_41 (by decide) ?_
  exact hk16 v1 (v2 + (1 : Int32)) (wr u 171 s1.toNatClampNeg s2) h
set_option maxRecDepth 100000 in
set_option maxHeartbeats 4000000 in
theorem G_X12_ring_16 {sc : Nat × (Nat → Int32)} {d : Nat} (hd : 2 ≤ d) {r : Int32} {u' : xS} : ∀ (n : Nat) (v1 : Int32) (v2 : Int32) (u : xS), f_X12_ring_16 n v1 v2 u = some (r, u') → xG sc mX12_ring d 0 0 (xR (some (.int r)) (xL0, u') 0 0) 0 0 16 [some (.ref 135), some (.int v1), some (.int v2), none] [] (xL0, u) := by
  intro n
  induction n with
  | zero =>
    intro v1 v2 u h
    rw [f_X12_ring_16] at h
    cases h
  | succ n ih =>
    intro v1 v2 u h
    rw [f_X12_ring_16] at h
    refine g_iload_n (pc := 16) dX12_ring_16 rfl ?_
    refine g_bipush (pc := 17) dX12_ring_17 bp_6 ?_
    refine g_icmp_ge (tgt := 44) (pc := 19) dX12_ring_19 (by decide) (fun c1 => ?_) (fun c1 => ?_)
    · replace h := (if_pos c1).symm.trans h
      refine g_iconst (pc := 44) dX12_ring_44 ic_1 ?_
      refine g_istore_n (pc := 45) dX12_ring_45 (Nat.le_of_ble_eq_true rfl) (L' := [some (.ref 135), some (.int v1), some (.int (1 : Int32)), none]) rfl ?_
      refine g_L (L' := [some (.ref 135), none, some (.int (1 : Int32)), none]) ⟨rfl, ⟨rfl, trivial⟩⟩ ?_
      exact G_X12_ring_46 hd xN (1 : Int32) u h
    · replace h := (if_neg c1).symm.trans h
      refine g_aload_n (pc := 22) dX12_ring_22 rfl ?_
      refine g_gR (pc := 23) dX12_ring_23 fR_RX12_120 xc_135 (v := 171) rfl ?_
      refine g_iload_n (pc := 26) dX12_ring_26 rfl ?_
      refine g_iload_n (pc := 27) dX12_ring_27 rfl ?_
      refine g_iload_n (pc := 28) dX12_ring_28 rfl ?_
      refine g_icmp_ne (tgt := 36) (pc := 29) dX12_ring_29 (by decide) (fun c2 => ?_) (fun c2 => ?_)
      · replace h := (if_neg c2).symm.trans h
        refine g_iconst (pc := 36) dX12_ring_36 ic_0 ?_
        exact G_X12_ring_37 hd ih v1 v2 v2 (0 : Int32) u h
      · replace h := (if_pos c2).symm.trans h
        refine g_iconst (pc := 32) dX12_ring_32 ic_1 ?_
        refine g_goto (tgt := 37) (pc := 33) dX12_ring_33 (by decide) ?_
        exact G_X12_ring_37 hd ih v1 v2 v2 (1 : Int32) u h
set_option maxRecDepth 100000 in
set_option maxHeartbeats 4000000 in
theorem G_X12_ring_0 {sc : Nat × (Nat → Int32)} {d : Nat} (hd : 2 ≤ d) {r : Int32} {u' : xS} (v1 : Int32) (u : xS) (h : f_X12_ring v1 u = some (r, u')) : xG sc mX12_ring d 0 0 (xR (some (.int r)) (xL0, u') 0 0) 0 0 0 [some (.ref 135), some (.int v1), none, none] [] (xL0, u) := by
  rw [f_X12_ring] at h
  refine g_aload_n (pc := 0) dX12_ring_0 rfl ?_
  refine g_iconst (pc := 1) dX12_ring_1 ic_0 ?_
  refine g_pI (pc := 2) dX12_ring_2 pI_RX12_150 xc_135 (u' := (wr u 135 0 (0 : Int32))) rfl ?_
  refine g_iload_n (pc := 5) dX12_ring_5 rfl ?_
  refine g_cS (pc := 6) dX12_ring_6 cS_RX12_208 (M_X12_isSorter (Nat.le_refl _) rfl) (as := [.int v1]) (st := []) rfl rfl (Nat.le_of_ble_eq_true rfl) (Nat.le_trans (Nat.le_of_ble_eq_true rfl) hd) rfl ?_
  refine g_if_ne (tgt := 14) (pc := 9) dX12_ring_9 (by decide) (fun c1 => ?_) (fun c1 => ?_)
  · replace h := (if_neg c1).symm.trans h
    refine g_iconst (pc := 14) dX12_ring_14 ic_0 ?_
    refine g_istore_n (pc := 15) dX12_ring_15 (Nat.le_of_ble_eq_true rfl) (L' := [some (.ref 135), some (.int v1), some (.int (0 : Int32)), none]) rfl ?_
    exact G_X12_ring_16 hd xN v1 (0 : Int32) (wr u 135 0 (0 : Int32)) h
  · replace h := (if_pos c1).symm.trans h
    refine g_iconst (pc := 12) dX12_ring_12 ic_m1 ?_
    cases h
    exact g_iret (pc := 13) dX12_ring_13 rfl rfl rfl (Nat.le_refl _) (Nat.le_refl _)
set_option maxRecDepth 100000 in
set_option maxHeartbeats 4000000 in
theorem M_X12_ring {sc : Nat × (Nat → Int32)} {d : Nat} (hd : 2 ≤ d) {r : Int32} {u u' : xS} {a1 : Int32} (h : f_X12_ring a1 u = some (r, u')) : xMt sc mX12_ring d 0 0 [.ref 135, .int a1] (xL0, u) (some (.int r)) (xL0, u') :=
  xMt.of (by decide +kernel) (Nat.le_of_ble_eq_true rfl) (L := [some (.ref 135), some (.int a1), none, none]) rfl ((G_X12_ring_0 hd a1 u h))
set_option maxRecDepth 100000 in
set_option maxHeartbeats 4000000 in
theorem G_X1_keepTrial_0 {sc : Nat × (Nat → Int32)} {d : Nat} (hd : 1 ≤ d) {u' : xS} (u : xS) (h : f_X1_keepTrial u = some u') : xG sc mX1_keepTrial d 0 0 (xR none (xL0, u') 0 0) 0 0 0 [some (.ref 79)] [] (xL0, u) := by
  rw [f_X1_keepTrial] at h
  refine g_aload_n (pc := 0) dX1_keepTrial_0 rfl ?_
  refine g_gR (pc := 1) dX1_keepTrial_1 fR_RX1_33 xc_79 (v := 85) rfl ?_
  refine g_iconst (pc := 4) dX1_keepTrial_4 ic_0 ?_
  refine g_aload_n (pc := 5) dX1_keepTrial_5 rfl ?_
  refine g_gR (pc := 6) dX1_keepTrial_6 fR_RX1_36 xc_79 (v := 86) rfl ?_
  refine g_iconst (pc := 9) dX1_keepTrial_9 ic_0 ?_
  refine g_bipush (pc := 10) dX1_keepTrial_10 bp_16 ?_
  obtain ⟨g1, h⟩ := x_gd h
  refine g_cp (pc := 12) dX1_keepTrial_12 kcp_RX1_45 xc_85 xc_86 (xcok_of g1) (Nat.le_of_ble_eq_true rfl) (Nat.le_trans (Nat.le_of_ble_eq_true rfl) hd) (u' := (xcpy u 85 (0 : Int32).toNatClampNeg 86 (0 : Int32).toNatClampNeg (16 : Int32).toNatClampNeg)) rfl ?_
  cases h
  exact g_ret (pc := 15) dX1_keepTrial_15 rfl rfl rfl (Nat.le_refl _) (Nat.le_refl _)
set_option maxRecDepth 100000 in
set_option maxHeartbeats 4000000 in
theorem M_X1_keepTrial {sc : Nat × (Nat → Int32)} {d : Nat} (hd : 1 ≤ d) {u u' : xS} (h : f_X1_keepTrial u = some u') : xMt sc mX1_keepTrial d 0 0 [.ref 79] (xL0, u) none (xL0, u') :=
  xMt.of (by decide +kernel) (Nat.le_of_ble_eq_true rfl) (L := [some (.ref 79)]) rfl ((G_X1_keepTrial_0 hd u h))
set_option maxRecDepth 100000 in
set_option maxHeartbeats 4000000 in
theorem G_X6_withPounds_24 {sc : Nat × (Nat → Int32)} {d : Nat} (hd : 0 ≤ d) {r : Int32} {u : xS} {k4 : Int32 → Int32 → Option Int32} (hk4 : ∀ (v1 : Int32) (v2 : Int32), k4 v1 v2 = some r → xG sc mX6_withPounds d 0 0 (xR (some (.int r)) (xL0, u) 0 0) 0 0 4 [some (.ref 74), some (.int v1), some (.int v2)] [] (xL0, u)) (v1 : Int32) (v2 : Int32) (h : f_X6_withPounds_24 k4 u v1 v2 = some r) : xG sc mX6_withPounds d 0 0 (xR (some (.int r)) (xL0, u) 0 0) 0 0 24 [some (.ref 74), some (.int v1), some (.int v2)] [] (xL0, u) := by
  rw [f_X6_withPounds_24] at h
  refine g_inc (pc := 24) dX6_withPounds_24 (Nat.le_of_ble_eq_true rfl) rfl ic_1 (L' := [some (.ref 74), some (.int v1), some (.int (v2 + (1 : Int32)))]) rfl ?_
  refine g_goto (tgt := 4) (pc := 27) dX6_withPounds_27 (by decide) ?_
  exact hk4 v1 (v2 + (1 : Int32)) h
set_option maxRecDepth 100000 in
set_option maxHeartbeats 4000000 in
theorem G_X6_withPounds_4 {sc : Nat × (Nat → Int32)} {d : Nat} (hd : 0 ≤ d) {r : Int32} {u : xS} : ∀ (n : Nat) (v1 : Int32) (v2 : Int32), f_X6_withPounds_4 u n v1 v2 = some r → xG sc mX6_withPounds d 0 0 (xR (some (.int r)) (xL0, u) 0 0) 0 0 4 [some (.ref 74), some (.int v1), some (.int v2)] [] (xL0, u) := by
  intro n
  induction n with
  | zero =>
    intro v1 v2 h
    rw [f_X6_withPounds_4] at h
    cases h
  | succ n ih =>
    intro v1 v2 h
    rw [f_X6_withPounds_4] at h
    refine g_iload_n (pc := 4) dX6_withPounds_4 rfl ?_
    refine g_aload_n (pc := 5) dX6_withPounds_5 rfl ?_
    refine g_gI (pc := 6) dX6_withPounds_6 fI_RX6_24 xc_74 (v := (rd u 74 4)) rfl ?_
    refine g_icmp_ge (tgt := 30) (pc := 9) dX6_withPounds_9 (by decide) (fun c1 => ?_) (fun c1 => ?_)
    · replace h := (if_pos c1).symm.trans h
      refine g_iload_n (pc := 30) dX6_withPounds_30 rfl ?_
      cases h
      exact g_iret (pc := 31) dX6_withPounds_31 rfl rfl rfl (Nat.le_refl _) (Nat.le_refl _)
    · replace h := (if_neg c1).symm.trans h
      refine g_aload_n (pc := 12) dX6_withPounds_12 rfl ?_
      refine g_gR (pc := 13) dX6_withPounds_13 fR_RX6_18 xc_74 (v := 77) rfl ?_
      refine g_iload_n (pc := 16) dX6_withPounds_16 rfl ?_
      obtain ⟨g2, h⟩ := x_gd h
      refine g_iaload (pc := 17) dX6_withPounds_17 xc_77 (xin_of g2) (v := (rd u 77 v2.toNatClampNeg)) rfl ?_
      refine g_if_le (tgt := 24) (pc := 18) dX6_withPounds_18 (by decide) (fun c3 => ?_) (fun c3 => ?_)
      · replace h := (if_pos c3).symm.trans h
        exact G_X6_withPounds_24 hd ih v1 v2 h
      · replace h := (if_neg c3).symm.trans h
        refine g_inc (pc := 21) dX6_withPounds_21 (Nat.le_of_ble_eq_true rfl) rfl ic_1 (L' := [some (.ref 74), some (.int (v1 + (1 : Int32))), some (.int v2)]) rfl ?_
        exact G_X6_withPounds_24 hd ih (v1 + (1 : Int32)) v2 h
set_option maxRecDepth 100000 in
set_option maxHeartbeats 4000000 in
theorem G_X6_withPounds_0 {sc : Nat × (Nat → Int32)} {d : Nat} (hd : 0 ≤ d) {r : Int32} {u : xS} (h : f_X6_withPounds u = some r) : xG sc mX6_withPounds d 0 0 (xR (some (.int r)) (xL0, u) 0 0) 0 0 0 [some (.ref 74), none, none] [] (xL0, u) := by
  rw [f_X6_withPounds] at h
  refine g_iconst (pc := 0) dX6_withPounds_0 ic_0 ?_
  refine g_istore_n (pc := 1) dX6_withPounds_1 (Nat.le_of_ble_eq_true rfl) (L' := [some (.ref 74), some (.int (0 : Int32)), none]) rfl ?_
  refine g_iconst (pc := 2) dX6_withPounds_2 ic_0 ?_
  refine g_istore_n (pc := 3) dX6_withPounds_3 (Nat.le_of_ble_eq_true rfl) (L' := [some (.ref 74), some (.int (0 : Int32)), some (.int (0 : Int32))]) rfl ?_
  exact G_X6_withPounds_4 hd xN (0 : Int32) (0 : Int32) h
set_option maxRecDepth 100000 in
set_option maxHeartbeats 4000000 in
theorem M_X6_withPounds {sc : Nat × (Nat → Int32)} {d : Nat} (hd : 0 ≤ d) {r : Int32} {u : xS} (h : f_X6_withPounds u = some r) : xMt sc mX6_withPounds d 0 0 [.ref 74] (xL0, u) (some (.int r)) (xL0, u) :=
  xMt.of (by decide +kernel) (Nat.le_of_ble_eq_true rfl) (L := [some (.ref 74), none, none]) rfl ((G_X6_withPounds_0 hd h))
set_option maxRecDepth 100000 in
set_option maxHeartbeats 4000000 in
theorem G_X1_inAll_4 {sc : Nat × (Nat → Int32)} {d : Nat} (hd : 0 ≤ d) {r : Int32} {u : xS} : ∀ (n : Nat) (v1 : Int32) (v2 : Int32), f_X1_inAll_4 u n v1 v2 = some r → xG sc mX1_inAll d 0 0 (xR (some (.int r)) (xL0, u) 0 0) 0 0 4 [some (.ref 79), some (.int v1), some (.int v2)] [] (xL0, u) := by
  intro n
  induction n with
  | zero =>
    intro v1 v2 h
    rw [f_X1_inAll_4] at h
    cases h
  | succ n ih =>
    intro v1 v2 h
    rw [f_X1_inAll_4] at h
    refine g_iload_n (pc := 4) dX1_inAll_4 rfl ?_
    refine g_bipush (pc := 5) dX1_inAll_5 bp_16 ?_
    refine g_icmp_ge (tgt := 25) (pc := 7) dX1_inAll_7 (by decide) (fun c1 => ?_) (fun c1 => ?_)
    · replace h := (if_pos c1).symm.trans h
      refine g_iload_n (pc := 25) dX1_inAll_25 rfl ?_
      cases h
      exact g_iret (pc := 26) dX1_inAll_26 rfl rfl rfl (Nat.le_refl _) (Nat.le_refl _)
    · replace h := (if_neg c1).symm.trans h
      refine g_iload_n (pc := 10) dX1_inAll_10 rfl ?_
      refine g_aload_n (pc := 11) dX1_inAll_11 rfl ?_
      refine g_gR (pc := 12) dX1_inAll_12 fR_RX1_9 xc_79 (v := 80) rfl ?_
      refine g_iload_n (pc := 15) dX1_inAll_15 rfl ?_
      obtain ⟨g2, h⟩ := x_gd h
      refine g_iaload (pc := 16) dX1_inAll_16 xc_80 (xin_of g2) (v := (rd u 80 v2.toNatClampNeg)) rfl ?_
      refine g_iadd (pc := 17) dX1_inAll_17 rfl ?_
      refine g_istore_n (pc := 18) dX1_inAll_18 (Nat.le_of_ble_eq_true rfl) (L' := [some (.ref 79), some (.int (v1 + (rd u 80 v2.toNatClampNeg))), some (.int v2)]) rfl ?_
      refine g_inc (pc := 19) dX1_inAll_19 (Nat.le_of_ble_eq_true rfl) rfl ic_1 (L' := [some (.ref 79), some (.int (v1 + (rd u 80 v2.toNatClampNeg))), some (.int (v2 + (1 : Int32)))]) rfl ?_
      refine g_goto (tgt := 4) (pc := 22) dX1_inAll_22 (by decide) ?_
      exact ih (v1 + (rd u 80 v2.toNatClampNeg)) (v2 + (1 : Int32)) h
set_option maxRecDepth 100000 in
set_option maxHeartbeats 4000000 in
theorem G_X1_inAll_0 {sc : Nat × (Nat → Int32)} {d : Nat} (hd : 0 ≤ d) {r : Int32} {u : xS} (h : f_X1_inAll u = some r) : xG sc mX1_inAll d 0 0 (xR (some (.int r)) (xL0, u) 0 0) 0 0 0 [some (.ref 79), none, none] [] (xL0, u) := by
  rw [f_X1_inAll] at h
  refine g_iconst (pc := 0) dX1_inAll_0 ic_0 ?_
  refine g_istore_n (pc := 1) dX1_inAll_1 (Nat.le_of_ble_eq_true rfl) (L' := [some (.ref 79), some (.int (0 : Int32)), none]) rfl ?_
  refine g_iconst (pc := 2) dX1_inAll_2 ic_0 ?_
  refine g_istore_n (pc := 3) dX1_inAll_3 (Nat.le_of_ble_eq_true rfl) (L' := [some (.ref 79), some (.int (0 : Int32)), some (.int (0 : Int32))]) rfl ?_
  exact G_X1_inAll_4 hd xN (0 : Int32) (0 : Int32) h
set_option maxRecDepth 100000 in
set_option maxHeartbeats 4000000 in
theorem M_X1_inAll {sc : Nat × (Nat → Int32)} {d : Nat} (hd : 0 ≤ d) {r : Int32} {u : xS} (h : f_X1_inAll u = some r) : xMt sc mX1_inAll d 0 0 [.ref 79] (xL0, u) (some (.int r)) (xL0, u) :=
  xMt.of (by decide +kernel) (Nat.le_of_ble_eq_true rfl) (L := [some (.ref 79), none, none]) rfl ((G_X1_inAll_0 hd h))
set_option maxRecDepth 100000 in
set_option maxHeartbeats 4000000 in
theorem G_X11_count_0 {sc : Nat × (Nat → Int32)} {d : Nat} (hd : 1 ≤ d) {r : Int32} {u : xS} (v1 : Int32) (h : f_X11_count u v1 = some r) : xG sc mX11_count d 0 0 (xR (some (.int r)) (xL0, u) 0 0) 0 0 0 [some (.ref 0), some (.int v1)] [] (xL0, u) := by
  rw [f_X11_count] at h
  refine g_iload_n (pc := 0) dX11_count_0 rfl ?_
  by_cases c1 : v1 = (0 : Int32)
  · replace h := (if_pos c1).symm.trans h
    refine g_tableIn (tgt := 68) (off := 67) (pc := 1) dX11_count_1 (by rw [c1]; decide) (by rw [c1]; decide) (by rw [c1]; rfl) (by decide) ?_
    refine g_aload_n (pc := 68) dX11_count_68 rfl ?_
    refine g_gR (pc := 69) dX11_count_69 fR_RX11_12 xc_0 (v := 1) rfl ?_
    refine g_gI (pc := 72) dX11_count_72 fI_RX11_102 xc_1 (v := (rd u 1 2)) rfl ?_
    cases h
    exact g_iret (pc := 75) dX11_count_75 rfl rfl rfl (Nat.le_refl _) (Nat.le_refl _)
  replace h := (if_neg c1).symm.trans h
  by_cases c2 : v1 = (1 : Int32)
  · replace h := (if_pos c2).symm.trans h
    refine g_tableIn (tgt := 76) (off := 75) (pc := 1) dX11_count_1 (by rw [c2]; decide) (by rw [c2]; decide) (by rw [c2]; rfl) (by decide) ?_
    refine g_aload_n (pc := 76) dX11_count_76 rfl ?_
    refine g_gR (pc := 77) dX11_count_77 fR_RX11_12 xc_0 (v := 1) rfl ?_
    refine g_gI (pc := 80) dX11_count_80 fI_RX11_112 xc_1 (v := (rd u 1 6)) rfl ?_
    cases h
    exact g_iret (pc := 83) dX11_count_83 rfl rfl rfl (Nat.le_refl _) (Nat.le_refl _)
  replace h := (if_neg c2).symm.trans h
  by_cases c3 : v1 = (2 : Int32)
  · replace h := (if_pos c3).symm.trans h
    refine g_tableIn (tgt := 84) (off := 83) (pc := 1) dX11_count_1 (by rw [c3]; decide) (by rw [c3]; decide) (by rw [c3]; rfl) (by decide) ?_
    refine g_aload_n (pc := 84) dX11_count_84 rfl ?_
    refine g_gR (pc := 85) dX11_count_85 fR_RX11_19 xc_0 (v := 13) rfl ?_
    refine g_gI (pc := 88) dX11_count_88 fI_RX11_133 xc_13 (v := (rd u 13 8)) rfl ?_
    cases h
    exact g_iret (pc := 91) dX11_count_91 rfl rfl rfl (Nat.le_refl _) (Nat.le_refl _)
  replace h := (if_neg c3).symm.trans h
  by_cases c4 : v1 = (3 : Int32)
  · replace h := (if_pos c4).symm.trans h
    refine g_tableIn (tgt := 92) (off := 91) (pc := 1) dX11_count_1 (by rw [c4]; decide) (by rw [c4]; decide) (by rw [c4]; rfl) (by decide) ?_
    refine g_aload_n (pc := 92) dX11_count_92 rfl ?_
    refine g_gR (pc := 93) dX11_count_93 fR_RX11_26 xc_0 (v := 46) rfl ?_
    refine g_gI (pc := 96) dX11_count_96 fI_RX11_179 xc_46 (v := (rd u 46 5)) rfl ?_
    cases h
    exact g_iret (pc := 99) dX11_count_99 rfl rfl rfl (Nat.le_refl _) (Nat.le_refl _)
  replace h := (if_neg c4).symm.trans h
  by_cases c5 : v1 = (4 : Int32)
  · replace h := (if_pos c5).symm.trans h
    refine g_tableIn (tgt := 100) (off := 99) (pc := 1) dX11_count_1 (by rw [c5]; decide) (by rw [c5]; decide) (by rw [c5]; rfl) (by decide) ?_
    refine g_aload_n (pc := 100) dX11_count_100 rfl ?_
    refine g_gR (pc := 101) dX11_count_101 fR_RX11_47 xc_0 (v := 58) rfl ?_
    refine g_gI (pc := 104) dX11_count_104 fI_RX11_238 xc_58 (v := (rd u 58 5)) rfl ?_
    cases h
    exact g_iret (pc := 107) dX11_count_107 rfl rfl rfl (Nat.le_refl _) (Nat.le_refl _)
  replace h := (if_neg c5).symm.trans h
  by_cases c6 : v1 = (5 : Int32)
  · replace h := (if_pos c6).symm.trans h
    refine g_tableIn (tgt := 108) (off := 107) (pc := 1) dX11_count_1 (by rw [c6]; decide) (by rw [c6]; decide) (by rw [c6]; rfl) (by decide) ?_
    refine g_aload_n (pc := 108) dX11_count_108 rfl ?_
    refine g_gR (pc := 109) dX11_count_109 fR_RX11_54 xc_0 (v := 74) rfl ?_
    obtain ⟨x8, e7, h⟩ := x_bind h
    refine g_cV (pc := 112) dX11_count_112 cV_RX11_415 (M_X6_withPounds (Nat.le_refl _) e7) xc_74 (as := []) (st := []) rfl rfl (Nat.le_of_ble_eq_true rfl) (Nat.le_trans (Nat.le_of_ble_eq_true rfl) hd) rfl ?_
    cases h
    exact g_iret (pc := 115) dX11_count_115 rfl rfl rfl (Nat.le_refl _) (Nat.le_refl _)
  replace h := (if_neg c6).symm.trans h
  by_cases c9 : v1 = (6 : Int32)
  · replace h := (if_pos c9).symm.trans h
    refine g_tableIn (tgt := 116) (off := 115) (pc := 1) dX11_count_1 (by rw [c9]; decide) (by rw [c9]; decide) (by rw [c9]; rfl) (by decide) ?_
    refine g_aload_n (pc := 116) dX11_count_116 rfl ?_
    refine g_gR (pc := 117) dX11_count_117 fR_RX11_68 xc_0 (v := 87) rfl ?_
    refine g_gI (pc := 120) dX11_count_120 fI_RX11_351 xc_87 (v := (rd u 87 2)) rfl ?_
    cases h
    exact g_iret (pc := 123) dX11_count_123 rfl rfl rfl (Nat.le_refl _) (Nat.le_refl _)
  replace h := (if_neg c9).symm.trans h
  by_cases c10 : v1 = (7 : Int32)
  · replace h := (if_pos c10).symm.trans h
    refine g_tableIn (tgt := 124) (off := 123) (pc := 1) dX11_count_1 (by rw [c10]; decide) (by rw [c10]; decide) (by rw [c10]; rfl) (by decide) ?_
    refine g_aload_n (pc := 124) dX11_count_124 rfl ?_
    refine g_gR (pc := 125) dX11_count_125 fR_RX11_75 xc_0 (v := 113) rfl ?_
    refine g_gI (pc := 128) dX11_count_128 fI_RX11_374 xc_113 (v := (rd u 113 3)) rfl ?_
    cases h
    exact g_iret (pc := 131) dX11_count_131 rfl rfl rfl (Nat.le_refl _) (Nat.le_refl _)
  replace h := (if_neg c10).symm.trans h
  by_cases c11 : v1 = (8 : Int32)
  · replace h := (if_pos c11).symm.trans h
    refine g_tableIn (tgt := 132) (off := 131) (pc := 1) dX11_count_1 (by rw [c11]; decide) (by rw [c11]; decide) (by rw [c11]; rfl) (by decide) ?_
    refine g_aload_n (pc := 132) dX11_count_132 rfl ?_
    refine g_gR (pc := 133) dX11_count_133 fR_RX11_82 xc_0 (v := 121) rfl ?_
    refine g_gI (pc := 136) dX11_count_136 fI_RX11_391 xc_121 (v := (rd u 121 6)) rfl ?_
    cases h
    exact g_iret (pc := 139) dX11_count_139 rfl rfl rfl (Nat.le_refl _) (Nat.le_refl _)
  replace h := (if_neg c11).symm.trans h
  by_cases c12 : v1 = (9 : Int32)
  · replace h := (if_pos c12).symm.trans h
    refine g_tableIn (tgt := 140) (off := 139) (pc := 1) dX11_count_1 (by rw [c12]; decide) (by rw [c12]; decide) (by rw [c12]; rfl) (by decide) ?_
    refine g_aload_n (pc := 140) dX11_count_140 rfl ?_
    refine g_gI (pc := 141) dX11_count_141 fI_RX11_90 xc_0 (v := (rd u 0 12)) rfl ?_
    cases h
    exact g_iret (pc := 144) dX11_count_144 rfl rfl rfl (Nat.le_refl _) (Nat.le_refl _)
  replace h := (if_neg c12).symm.trans h
  by_cases c13 : v1 = (10 : Int32)
  · replace h := (if_pos c13).symm.trans h
    refine g_tableIn (tgt := 145) (off := 144) (pc := 1) dX11_count_1 (by rw [c13]; decide) (by rw [c13]; decide) (by rw [c13]; rfl) (by decide) ?_
    refine g_aload_n (pc := 145) dX11_count_145 rfl ?_
    refine g_gR (pc := 146) dX11_count_146 fR_RX11_33 xc_0 (v := 52) rfl ?_
    refine g_gI (pc := 149) dX11_count_149 fI_RX11_233 xc_52 (v := (rd u 52 1)) rfl ?_
    cases h
    exact g_iret (pc := 152) dX11_count_152 rfl rfl rfl (Nat.le_refl _) (Nat.le_refl _)
  replace h := (if_neg c13).symm.trans h
  by_cases c14 : v1 = (11 : Int32)
  · replace h := (if_pos c14).symm.trans h
    refine g_tableIn (tgt := 153) (off := 152) (pc := 1) dX11_count_1 (by rw [c14]; decide) (by rw [c14]; decide) (by rw [c14]; rfl) (by decide) ?_
    refine g_aload_n (pc := 153) dX11_count_153 rfl ?_
    refine g_gR (pc := 154) dX11_count_154 fR_RX11_26 xc_0 (v := 46) rfl ?_
    refine g_gI (pc := 157) dX11_count_157 fI_RX11_182 xc_46 (v := (rd u 46 6)) rfl ?_
    cases h
    exact g_iret (pc := 160) dX11_count_160 rfl rfl rfl (Nat.le_refl _) (Nat.le_refl _)
  replace h := (if_neg c14).symm.trans h
  by_cases c15 : v1 = (12 : Int32)
  · replace h := (if_pos c15).symm.trans h
    refine g_tableIn (tgt := 161) (off := 160) (pc := 1) dX11_count_1 (by rw [c15]; decide) (by rw [c15]; decide) (by rw [c15]; rfl) (by decide) ?_
    refine g_aload_n (pc := 161) dX11_count_161 rfl ?_
    refine g_gR (pc := 162) dX11_count_162 fR_RX11_61 xc_0 (v := 79) rfl ?_
    obtain ⟨x17, e16, h⟩ := x_bind h
    refine g_cV (pc := 165) dX11_count_165 cV_RX11_289 (M_X1_inAll (Nat.le_refl _) e16) xc_79 (as := []) (st := []) rfl rfl (Nat.le_of_ble_eq_true rfl) (Nat.le_trans (Nat.le_of_ble_eq_true rfl) hd) rfl ?_
    cases h
    exact g_iret (pc := 168) dX11_count_168 rfl rfl rfl (Nat.le_refl _) (Nat.le_refl _)
  replace h := (if_neg c15).symm.trans h
  have c1i := i32_ne c1 (m := 0) (by decide)
  have c2i := i32_ne c2 (m := 1) (by decide)
  have c3i := i32_ne c3 (m := 2) (by decide)
  have c4i := i32_ne c4 (m := 3) (by decide)
  have c5i := i32_ne c5 (m := 4) (by decide)
  have c6i := i32_ne c6 (m := 5) (by decide)
  have c9i := i32_ne c9 (m := 6) (by decide)
  have c10i := i32_ne c10 (m := 7) (by decide)
  have c11i := i32_ne c11 (m := 8) (by decide)
  have c12i := i32_ne c12 (m := 9) (by decide)
  have c13i := i32_ne c13 (m := 10) (by decide)
  have c14i := i32_ne c14 (m := 11) (by decide)
  have c15i := i32_ne c15 (m := 12) (by decide)
  refine g_tableOut (tgt := 169) (pc := 1) dX11_count_1 (by omega) (by decide) ?_
  refine g_iconst (pc := 169) dX11_count_169 ic_m1 ?_
  cases h
  exact g_iret (pc := 170) dX11_count_170 rfl rfl rfl (Nat.le_refl _) (Nat.le_refl _)
set_option maxRecDepth 100000 in
set_option maxHeartbeats 4000000 in
theorem M_X11_count {sc : Nat × (Nat → Int32)} {d : Nat} (hd : 1 ≤ d) {r : Int32} {u : xS} {a1 : Int32} (h : f_X11_count u a1 = some r) : xMt sc mX11_count d 0 0 [.ref 0, .int a1] (xL0, u) (some (.int r)) (xL0, u) :=
  xMt.of (by decide +kernel) (Nat.le_of_ble_eq_true rfl) (L := [some (.ref 0), some (.int a1)]) rfl ((G_X11_count_0 hd a1 h))
set_option maxRecDepth 100000 in
set_option maxHeartbeats 4000000 in
theorem G_J9_max_7cf53_0 {sc : Nat × (Nat → Int32)} {d : Nat} (hd : 0 ≤ d) {r : Int32} {u : xS} (v0 : Int32) (v1 : Int32) (h : f_J9_max_7cf53 v0 v1 = r) : xG sc mJ9_max_7cf53 d 0 0 (xR (some (.int r)) (xL0, u) 0 0) 0 0 0 [some (.int v0), some (.int v1)] [] (xL0, u) := by
  rw [f_J9_max_7cf53] at h
  refine g_iload_n (pc := 0) dJ9_max_7cf53_0 rfl ?_
  refine g_iload_n (pc := 1) dJ9_max_7cf53_1 rfl ?_
  refine g_icmp_lt (tgt := 9) (pc := 2) dJ9_max_7cf53_2 (by decide) (fun c1 => ?_) (fun c1 => ?_)
  · replace h := (if_pos c1).symm.trans h
    refine g_iload_n (pc := 9) dJ9_max_7cf53_9 rfl ?_
    subst h
    exact g_iret (pc := 10) dJ9_max_7cf53_10 rfl rfl rfl (Nat.le_refl _) (Nat.le_refl _)
  · replace h := (if_neg c1).symm.trans h
    refine g_iload_n (pc := 5) dJ9_max_7cf53_5 rfl ?_
    refine g_goto (tgt := 10) (pc := 6) dJ9_max_7cf53_6 (by decide) ?_
    subst h
    exact g_iret (pc := 10) dJ9_max_7cf53_10 rfl rfl rfl (Nat.le_refl _) (Nat.le_refl _)
set_option maxRecDepth 100000 in
set_option maxHeartbeats 4000000 in
theorem M_J9_max_7cf53 {sc : Nat × (Nat → Int32)} {d : Nat} (hd : 0 ≤ d) {r : Int32} {u : xS} {a0 : Int32} {a1 : Int32} (h : f_J9_max_7cf53 a0 a1 = r) : xMt sc mJ9_max_7cf53 d 0 0 [.int a0, .int a1] (xL0, u) (some (.int r)) (xL0, u) :=
  xMt.of (by decide +kernel) (Nat.le_of_ble_eq_true rfl) (L := [some (.int a0), some (.int a1)]) rfl ((G_J9_max_7cf53_0 hd a0 a1 h))
set_option maxRecDepth 100000 in
set_option maxHeartbeats 4000000 in
theorem G_X11_poundsWithin_45 {sc : Nat × (Nat → Int32)} {d : Nat} (hd : 2 ≤ d) {r : Int32} {u : xS} {k5 : Int32 → Int32 → Int32 → Int32 → Option Int32} (hk5 : ∀ (v1 : Int32) (v2 : Int32) (v3 : Int32) (v4 : Int32), k5 v1 v2 v3 v4 = some r → xG sc mX11_poundsWithin d 0 0 (xR (some (.int r)) (xL0, u) 0 0) 0 0 5 [some (.ref 0), some (.int v1), some (.int v2), some (.int v3), some (.int v4)] [] (xL0, u)) (v1 : Int32) (v2 : Int32) (v3 : Int32) (v4 : Int32) (h : f_X11_poundsWithin_45 k5 u v1 v2 v3 v4 = some r) : xG sc mX11_poundsWithin d 0 0 (xR (some (.int r)) (xL0, u) 0 0) 0 0 45 [some (.ref 0), some (.int v1), some (.int v2), some (.int v3), some (.int v4)] [] (xL0, u) := by
  rw [f_X11_poundsWithin_45] at h
  refine g_inc (pc := 45) dX11_poundsWithin_45 (Nat.le_of_ble_eq_true rfl) rfl ic_1 (L' := [some (.ref 0), some (.int v1), some (.int v2), some (.int v3), some (.int (v4 + (1 : Int32)))]) rfl ?_
  refine g_goto (tgt := 5) (pc := 48) dX11_poundsWithin_48 (by decide) ?_
  exact hk5 v1 v2 v3 (v4 + (1 : Int32)) h
set_option maxRecDepth 100000 in
set_option maxHeartbeats 4000000 in
theorem G_X11_poundsWithin_5 {sc : Nat × (Nat → Int32)} {d : Nat} (hd : 2 ≤ d) {r : Int32} {u : xS} : ∀ (n : Nat) (v1 : Int32) (v2 : Int32) (v3 : Int32) (v4 : Int32), f_X11_poundsWithin_5 u n v1 v2 v3 v4 = some r → xG sc mX11_poundsWithin d 0 0 (xR (some (.int r)) (xL0, u) 0 0) 0 0 5 [some (.ref 0), some (.int v1), some (.int v2), some (.int v3), some (.int v4)] [] (xL0, u) := by
  intro n
  induction n with
  | zero =>
    intro v1 v2 v3 v4 h
    rw [f_X11_poundsWithin_5] at h
    cases h
  | succ n ih =>
    intro v1 v2 v3 v4 h
    rw [f_X11_poundsWithin_5] at h
    refine g_iload (pc := 5) dX11_poundsWithin_5 rfl ?_
    refine g_aload_n (pc := 7) dX11_poundsWithin_7 rfl ?_
    refine g_gR (pc := 8) dX11_poundsWithin_8 fR_RX11_12 xc_0 (v := 1) rfl ?_
    refine g_gI (pc := 11) dX11_poundsWithin_11 fI_RX11_102 xc_1 (v := (rd u 1 2)) rfl ?_
    refine g_icmp_ge (tgt := 51) (pc := 14) dX11_poundsWithin_14 (by decide) (fun c1 => ?_) (fun c1 => ?_)
    · replace h := (if_pos c1).symm.trans h
      refine g_iload_n (pc := 51) dX11_poundsWithin_51 rfl ?_
      cases h
      exact g_iret (pc := 52) dX11_poundsWithin_52 rfl rfl rfl (Nat.le_refl _) (Nat.le_refl _)
    · replace h := (if_neg c1).symm.trans h
      refine g_aload_n (pc := 17) dX11_poundsWithin_17 rfl ?_
      refine g_gR (pc := 18) dX11_poundsWithin_18 fR_RX11_12 xc_0 (v := 1) rfl ?_
      refine g_iload (pc := 21) dX11_poundsWithin_21 rfl ?_
      refine g_iload_n (pc := 23) dX11_poundsWithin_23 rfl ?_
      obtain ⟨x3, e2, h⟩ := x_bind h
      refine g_cV (pc := 24) dX11_poundsWithin_24 cV_RX11_123 (M_X8_isPart (Nat.le_refl _) e2) xc_1 (as := [.int v4, .int v2]) (st := []) rfl rfl (Nat.le_of_ble_eq_true rfl) (Nat.le_trans (Nat.le_of_ble_eq_true rfl) hd) rfl ?_
      refine g_if_eq (tgt := 45) (pc := 27) dX11_poundsWithin_27 (by decide) (fun c4 => ?_) (fun c4 => ?_)
      · replace h := (if_pos c4).symm.trans h
        exact G_X11_poundsWithin_45 hd ih v1 v2 v3 v4 h
      · replace h := (if_neg c4).symm.trans h
        refine g_iload_n (pc := 30) dX11_poundsWithin_30 rfl ?_
        refine g_aload_n (pc := 31) dX11_poundsWithin_31 rfl ?_
        refine g_gR (pc := 32) dX11_poundsWithin_32 fR_RX11_19 xc_0 (v := 13) rfl ?_
        refine g_gR (pc := 35) dX11_poundsWithin_35 fR_RX11_161 xc_13 (v := 21) rfl ?_
        refine g_iload_n (pc := 38) dX11_poundsWithin_38 rfl ?_
        obtain ⟨g5, h⟩ := x_gd h
        refine g_aaload (pc := 39) dX11_poundsWithin_39 xc_21 (xin_of g5) (v := (22 + v1.toNatClampNeg)) (xrf_21 _ (xin_lt g5)) ?_
        refine g_iload (pc := 40) dX11_poundsWithin_40 rfl ?_
        obtain ⟨g6, h⟩ := x_gd h
        refine g_iaload (pc := 42) dX11_poundsWithin_42 (xrow_21 _ (xin_lt g5)) (xin_of g6) (v := (rd u (22 + v1.toNatClampNeg) v4.toNatClampNeg)) rfl ?_
        refine g_iadd (pc := 43) dX11_poundsWithin_43 rfl ?_
        refine g_istore_n (pc := 44) dX11_poundsWithin_44 (Nat.le_of_ble_eq_true rfl) (L' := [some (.ref 0), some (.int v1), some (.int v2), some (.int (v3 + (rd u (22 + v1.toNatClampNeg) v4.toNatClampNeg))), some (.int v4)]) rfl ?_
        exact G_X11_poundsWithin_45 hd ih v1 v2 (v3 + (rd u (22 + v1.toNatClampNeg) v4.toNatClampNeg)) v4 h
set_option maxRecDepth 100000 in
set_option maxHeartbeats 4000000 in
theorem G_X11_poundsWithin_0 {sc : Nat × (Nat → Int32)} {d : Nat} (hd : 2 ≤ d) {r : Int32} {u : xS} (v1 : Int32) (v2 : Int32) (h : f_X11_poundsWithin u v1 v2 = some r) : xG sc mX11_poundsWithin d 0 0 (xR (some (.int r)) (xL0, u) 0 0) 0 0 0 [some (.ref 0), some (.int v1), some (.int v2), none, none] [] (xL0, u) := by
  rw [f_X11_poundsWithin] at h
  refine g_iconst (pc := 0) dX11_poundsWithin_0 ic_0 ?_
  refine g_istore_n (pc := 1) dX11_poundsWithin_1 (Nat.le_of_ble_eq_true rfl) (L' := [some (.ref 0), some (.int v1), some (.int v2), some (.int (0 : Int32)), none]) rfl ?_
  refine g_iconst (pc := 2) dX11_poundsWithin_2 ic_0 ?_
  refine g_istore (pc := 3) dX11_poundsWithin_3 (Nat.le_of_ble_eq_true rfl) (L' := [some (.ref 0), some (.int v1), some (.int v2), some (.int (0 : Int32)), some (.int (0 : Int32))]) rfl ?_
  exact G_X11_poundsWithin_5 hd xN v1 v2 (0 : Int32) (0 : Int32) h
set_option maxRecDepth 100000 in
set_option maxHeartbeats 4000000 in
theorem M_X11_poundsWithin {sc : Nat × (Nat → Int32)} {d : Nat} (hd : 2 ≤ d) {r : Int32} {u : xS} {a1 : Int32} {a2 : Int32} (h : f_X11_poundsWithin u a1 a2 = some r) : xMt sc mX11_poundsWithin d 0 0 [.ref 0, .int a1, .int a2] (xL0, u) (some (.int r)) (xL0, u) :=
  xMt.of (by decide +kernel) (Nat.le_of_ble_eq_true rfl) (L := [some (.ref 0), some (.int a1), some (.int a2), none, none]) rfl ((G_X11_poundsWithin_0 hd a1 a2 h))
set_option maxRecDepth 100000 in
set_option maxHeartbeats 4000000 in
theorem G_X11_inThousand_0 {sc : Nat × (Nat → Int32)} {d : Nat} (hd : 0 ≤ d) {r : Int32} {u : xS} (v0 : Int32) (v1 : Int32) (h : f_X11_inThousand v0 v1 = some r) : xG sc mX11_inThousand d 0 0 (xR (some (.int r)) (xL0, u) 0 0) 0 0 0 [some (.int v0), some (.int v1)] [] (xL0, u) := by
  rw [f_X11_inThousand] at h
  refine g_iload_n (pc := 0) dX11_inThousand_0 rfl ?_
  refine g_if_le (tgt := 17) (pc := 1) dX11_inThousand_1 (by decide) (fun c1 => ?_) (fun c1 => ?_)
  · replace h := (if_pos c1).symm.trans h
    refine g_iconst (pc := 17) dX11_inThousand_17 ic_0 ?_
    cases h
    exact g_iret (pc := 18) dX11_inThousand_18 rfl rfl rfl (Nat.le_refl _) (Nat.le_refl _)
  · replace h := (if_neg c1).symm.trans h
    refine g_iload_n (pc := 4) dX11_inThousand_4 rfl ?_
    refine g_i2l (pc := 5) dX11_inThousand_5 rfl ?_
    refine g_ldc2 (pc := 6) dX11_inThousand_6 kl_RX11_196 ?_
    refine g_lmul (pc := 9) dX11_inThousand_9 rfl ?_
    refine g_iload_n (pc := 10) dX11_inThousand_10 rfl ?_
    refine g_i2l (pc := 11) dX11_inThousand_11 rfl ?_
    obtain ⟨g2, h⟩ := x_gd h
    refine g_ldiv (pc := 12) dX11_inThousand_12 (xnzJ_of g2) rfl ?_
    refine g_l2i (pc := 13) dX11_inThousand_13 rfl ?_
    refine g_goto (tgt := 18) (pc := 14) dX11_inThousand_14 (by decide) ?_
    cases h
    exact g_iret (pc := 18) dX11_inThousand_18 rfl rfl rfl (Nat.le_refl _) (Nat.le_refl _)
set_option maxRecDepth 100000 in
set_option maxHeartbeats 4000000 in
theorem M_X11_inThousand {sc : Nat × (Nat → Int32)} {d : Nat} (hd : 0 ≤ d) {r : Int32} {u : xS} {a0 : Int32} {a1 : Int32} (h : f_X11_inThousand a0 a1 = some r) : xMt sc mX11_inThousand d 0 0 [.int a0, .int a1] (xL0, u) (some (.int r)) (xL0, u) :=
  xMt.of (by decide +kernel) (Nat.le_of_ble_eq_true rfl) (L := [some (.int a0), some (.int a1)]) rfl ((G_X11_inThousand_0 hd a0 a1 h))
set_option maxRecDepth 100000 in
set_option maxHeartbeats 4000000 in
theorem G_X11_tell_0 {sc : Nat × (Nat → Int32)} {d : Nat} (hd : 0 ≤ d) {u' : xS} (v1 : Int32) (u : xS) (h : f_X11_tell v1 u = some u') : xG sc mX11_tell d 0 0 (xR none (xL0, u') 0 0) 0 0 0 [some (.ref 0), some (.int v1)] [] (xL0, u) := by
  rw [f_X11_tell] at h
  refine g_aload_n (pc := 0) dX11_tell_0 rfl ?_
  refine g_gI (pc := 1) dX11_tell_1 fI_RX11_90 xc_0 (v := (rd u 0 12)) rfl ?_
  refine g_bipush (pc := 4) dX11_tell_4 bp_48 ?_
  refine g_icmp_ge (tgt := 29) (pc := 6) dX11_tell_6 (by decide) (fun c1 => ?_) (fun c1 => ?_)
  · replace h := (if_pos c1).symm.trans h
    cases h
    exact g_ret (pc := 29) dX11_tell_29 rfl rfl rfl (Nat.le_refl _) (Nat.le_refl _)
  · replace h := (if_neg c1).symm.trans h
    refine g_aload_n (pc := 9) dX11_tell_9 rfl ?_
    refine g_gR (pc := 10) dX11_tell_10 fR_RX11_86 xc_0 (v := 134) rfl ?_
    refine g_aload_n (pc := 13) dX11_tell_13 rfl ?_
    refine g_gI (pc := 14) dX11_tell_14 fI_RX11_90 xc_0 (v := (rd u 0 12)) rfl ?_
    refine g_iload_n (pc := 17) dX11_tell_17 rfl ?_
    obtain ⟨g2, h⟩ := x_gd h
    refine g_iastore (pc := 18) dX11_tell_18 xc_134 (xin_of g2) (u' := (wr u 134 (rd u 0 12).toNatClampNeg v1)) rfl ?_
    refine g_aload_n (pc := 19) dX11_tell_19 rfl ?_
    refine g_dup (pc := 20) dX11_tell_20 rfl ?_
    refine g_gI (pc := 21) dX11_tell_21 fI_RX11_90 xc_0 (v := (rd u 0 12)) rfl ?_
    refine g_iconst (pc := 24) dX11_tell_24 ic_1 ?_
    refine g_iadd (pc := 25) dX11_tell_25 rfl ?_
    refine g_pI (pc := 26) dX11_tell_26 pI_RX11_90 xc_0 (u' := (wr (wr u 134 (rd u 0 12).toNatClampNeg v1) 0 12 ((rd u 0 12) + (1 : Int32)))) rfl ?_
    cases h
    exact g_ret (pc := 29) dX11_tell_29 rfl rfl rfl (Nat.le_refl _) (Nat.le_refl _)
set_option maxRecDepth 100000 in
set_option maxHeartbeats 4000000 in
theorem M_X11_tell {sc : Nat × (Nat → Int32)} {d : Nat} (hd : 0 ≤ d) {u u' : xS} {a1 : Int32} (h : f_X11_tell a1 u = some u') : xMt sc mX11_tell d 0 0 [.ref 0, .int a1] (xL0, u) none (xL0, u') :=
  xMt.of (by decide +kernel) (Nat.le_of_ble_eq_true rfl) (L := [some (.ref 0), some (.int a1)]) rfl ((G_X11_tell_0 hd a1 u h))
theorem zb_X0_has (u : xS) (v1 : Int32) : f_X0_has u v1 = 0 ∨ f_X0_has u v1 = 1 := by
  unfold f_X0_has
  (repeat' split) <;> first | exact Or.inl rfl | exact Or.inr rfl
set_option maxRecDepth 100000 in
set_option maxHeartbeats 4000000 in
theorem G_X0_has_0 {sc : Nat × (Nat → Int32)} {d : Nat} (hd : 0 ≤ d) {r : Int32} {u : xS} (v1 : Int32) (h : f_X0_has u v1 = r) : xG sc mX0_has d 0 0 (xR (some (.int r)) (xL0, u) 0 0) 0 0 0 [some (.ref 13), some (.int v1)] [] (xL0, u) := by
  rw [f_X0_has] at h
  refine g_iload_n (pc := 0) dX0_has_0 rfl ?_
  refine g_if_lt (tgt := 16) (pc := 1) dX0_has_1 (by decide) (fun c1 => ?_) (fun c1 => ?_)
  · replace h := (if_pos c1).symm.trans h
    refine g_iconst (pc := 16) dX0_has_16 ic_0 ?_
    subst h
    exact g_zret (pc := 17) dX0_has_17 rfl (Or.inl rfl) rfl rfl (Nat.le_refl _) (Nat.le_refl _)
  · replace h := (if_neg c1).symm.trans h
    refine g_iload_n (pc := 4) dX0_has_4 rfl ?_
    refine g_aload_n (pc := 5) dX0_has_5 rfl ?_
    refine g_gI (pc := 6) dX0_has_6 fI_RX0_38 xc_13 (v := (rd u 13 8)) rfl ?_
    refine g_icmp_ge (tgt := 16) (pc := 9) dX0_has_9 (by decide) (fun c2 => ?_) (fun c2 => ?_)
    · replace h := (if_pos c2).symm.trans h
      refine g_iconst (pc := 16) dX0_has_16 ic_0 ?_
      subst h
      exact g_zret (pc := 17) dX0_has_17 rfl (Or.inl rfl) rfl rfl (Nat.le_refl _) (Nat.le_refl _)
    · replace h := (if_neg c2).symm.trans h
      refine g_iconst (pc := 12) dX0_has_12 ic_1 ?_
      refine g_goto (tgt := 17) (pc := 13) dX0_has_13 (by decide) ?_
      subst h
      exact g_zret (pc := 17) dX0_has_17 rfl (Or.inr rfl) rfl rfl (Nat.le_refl _) (Nat.le_refl _)
set_option maxRecDepth 100000 in
set_option maxHeartbeats 4000000 in
theorem M_X0_has {sc : Nat × (Nat → Int32)} {d : Nat} (hd : 0 ≤ d) {r : Int32} {u : xS} {a1 : Int32} (h : f_X0_has u a1 = r) : xMt sc mX0_has d 0 0 [.ref 13, .int a1] (xL0, u) (some (.int r)) (xL0, u) :=
  xMt.of (by decide +kernel) (Nat.le_of_ble_eq_true rfl) (L := [some (.ref 13), some (.int a1)]) rfl ((G_X0_has_0 hd a1 h))
set_option maxRecDepth 100000 in
set_option maxHeartbeats 4000000 in
theorem G_X0_isSorted_0 {sc : Nat × (Nat → Int32)} {d : Nat} (hd : 1 ≤ d) {r : Int32} {u : xS} (v1 : Int32) (h : f_X0_isSorted u v1 = some r) : xG sc mX0_isSorted d 0 0 (xR (some (.int r)) (xL0, u) 0 0) 0 0 0 [some (.ref 13), some (.int v1)] [] (xL0, u) := by
  rw [f_X0_isSorted] at h
  refine g_aload_n (pc := 0) dX0_isSorted_0 rfl ?_
  refine g_iload_n (pc := 1) dX0_isSorted_1 rfl ?_
  refine g_cV (pc := 2) dX0_isSorted_2 cV_RX0_42 (M_X0_has (Nat.le_refl _) rfl) xc_13 (as := [.int v1]) (st := []) rfl rfl (Nat.le_of_ble_eq_true rfl) (Nat.le_trans (Nat.le_of_ble_eq_true rfl) hd) rfl ?_
  refine g_if_eq (tgt := 22) (pc := 5) dX0_isSorted_5 (by decide) (fun c1 => ?_) (fun c1 => ?_)
  · replace h := (if_pos c1).symm.trans h
    refine g_iconst (pc := 22) dX0_isSorted_22 ic_0 ?_
    cases h
    exact g_zret (pc := 23) dX0_isSorted_23 rfl (Or.inl rfl) rfl rfl (Nat.le_refl _) (Nat.le_refl _)
  · replace h := (if_neg c1).symm.trans h
    refine g_aload_n (pc := 8) dX0_isSorted_8 rfl ?_
    refine g_gR (pc := 9) dX0_isSorted_9 fR_RX0_24 xc_13 (v := 18) rfl ?_
    refine g_iload_n (pc := 12) dX0_isSorted_12 rfl ?_
    obtain ⟨g2, h⟩ := x_gd h
    refine g_iaload (pc := 13) dX0_isSorted_13 xc_18 (xin_of g2) (v := (rd u 18 v1.toNatClampNeg)) rfl ?_
    refine g_iconst (pc := 14) dX0_isSorted_14 ic_m1 ?_
    refine g_icmp_eq (tgt := 22) (pc := 15) dX0_isSorted_15 (by decide) (fun c3 => ?_) (fun c3 => ?_)
    · replace h := (if_pos c3).symm.trans h
      refine g_iconst (pc := 22) dX0_isSorted_22 ic_0 ?_
      cases h
      exact g_zret (pc := 23) dX0_isSorted_23 rfl (Or.inl rfl) rfl rfl (Nat.le_refl _) (Nat.le_refl _)
    · replace h := (if_neg c3).symm.trans h
      refine g_iconst (pc := 18) dX0_isSorted_18 ic_1 ?_
      refine g_goto (tgt := 23) (pc := 19) dX0_isSorted_19 (by decide) ?_
      cases h
      exact g_zret (pc := 23) dX0_isSorted_23 rfl (Or.inr rfl) rfl rfl (Nat.le_refl _) (Nat.le_refl _)
set_option maxRecDepth 100000 in
set_option maxHeartbeats 4000000 in
theorem M_X0_isSorted {sc : Nat × (Nat → Int32)} {d : Nat} (hd : 1 ≤ d) {r : Int32} {u : xS} {a1 : Int32} (h : f_X0_isSorted u a1 = some r) : xMt sc mX0_isSorted d 0 0 [.ref 13, .int a1] (xL0, u) (some (.int r)) (xL0, u) :=
  xMt.of (by decide +kernel) (Nat.le_of_ble_eq_true rfl) (L := [some (.ref 13), some (.int a1)]) rfl ((G_X0_isSorted_0 hd a1 h))
theorem zb_X11_lies (v0 : Int32) (v1 : Int32) (v2 : Int32) : f_X11_lies v0 v1 v2 = 0 ∨ f_X11_lies v0 v1 v2 = 1 := by
  unfold f_X11_lies
  (repeat' split) <;> first | exact Or.inl rfl | exact Or.inr rfl
set_option maxRecDepth 100000 in
set_option maxHeartbeats 4000000 in
theorem G_X11_lies_0 {sc : Nat × (Nat → Int32)} {d : Nat} (hd : 0 ≤ d) {r : Int32} {u : xS} (v0 : Int32) (v1 : Int32) (v2 : Int32) (h : f_X11_lies v0 v1 v2 = r) : xG sc mX11_lies d 0 0 (xR (some (.int r)) (xL0, u) 0 0) 0 0 0 [some (.int v0), some (.int v1), some (.int v2)] [] (xL0, u) := by
  rw [f_X11_lies] at h
  refine g_iload_n (pc := 0) dX11_lies_0 rfl ?_
  refine g_iload_n (pc := 1) dX11_lies_1 rfl ?_
  refine g_icmp_lt (tgt := 14) (pc := 2) dX11_lies_2 (by decide) (fun c1 => ?_) (fun c1 => ?_)
  · replace h := (if_pos c1).symm.trans h
    refine g_iconst (pc := 14) dX11_lies_14 ic_0 ?_
    subst h
    exact g_zret (pc := 15) dX11_lies_15 rfl (Or.inl rfl) rfl rfl (Nat.le_refl _) (Nat.le_refl _)
  · replace h := (if_neg c1).symm.trans h
    refine g_iload_n (pc := 5) dX11_lies_5 rfl ?_
    refine g_iload_n (pc := 6) dX11_lies_6 rfl ?_
    refine g_icmp_gt (tgt := 14) (pc := 7) dX11_lies_7 (by decide) (fun c2 => ?_) (fun c2 => ?_)
    · replace h := (if_pos c2).symm.trans h
      refine g_iconst (pc := 14) dX11_lies_14 ic_0 ?_
      subst h
      exact g_zret (pc := 15) dX11_lies_15 rfl (Or.inl rfl) rfl rfl (Nat.le_refl _) (Nat.le_refl _)
    · replace h := (if_neg c2).symm.trans h
      refine g_iconst (pc := 10) dX11_lies_10 ic_1 ?_
      refine g_goto (tgt := 15) (pc := 11) dX11_lies_11 (by decide) ?_
      subst h
      exact g_zret (pc := 15) dX11_lies_15 rfl (Or.inr rfl) rfl rfl (Nat.le_refl _) (Nat.le_refl _)
set_option maxRecDepth 100000 in
set_option maxHeartbeats 4000000 in
theorem M_X11_lies {sc : Nat × (Nat → Int32)} {d : Nat} (hd : 0 ≤ d) {r : Int32} {u : xS} {a0 : Int32} {a1 : Int32} {a2 : Int32} (h : f_X11_lies a0 a1 a2 = r) : xMt sc mX11_lies d 0 0 [.int a0, .int a1, .int a2] (xL0, u) (some (.int r)) (xL0, u) :=
  xMt.of (by decide +kernel) (Nat.le_of_ble_eq_true rfl) (L := [some (.int a0), some (.int a1), some (.int a2)]) rfl ((G_X11_lies_0 hd a0 a1 a2 h))
theorem zb_X11_isSeller (v0 : Int32) : f_X11_isSeller v0 = 0 ∨ f_X11_isSeller v0 = 1 := by
  unfold f_X11_isSeller
  (repeat' split) <;> first | exact Or.inl rfl | exact Or.inr rfl | exact zb_X11_lies _ _ _
set_option maxRecDepth 100000 in
set_option maxHeartbeats 4000000 in
theorem G_X11_isSeller_0 {sc : Nat × (Nat → Int32)} {d : Nat} (hd : 1 ≤ d) {r : Int32} {u : xS} (v0 : Int32) (h : f_X11_isSeller v0 = r) : xG sc mX11_isSeller d 0 0 (xR (some (.int r)) (xL0, u) 0 0) 0 0 0 [some (.int v0)] [] (xL0, u) := by
  rw [f_X11_isSeller] at h
  refine g_iload_n (pc := 0) dX11_isSeller_0 rfl ?_
  refine g_iconst (pc := 1) dX11_isSeller_1 ic_0 ?_
  refine g_iconst (pc := 2) dX11_isSeller_2 ic_3 ?_
  refine g_cS (pc := 3) dX11_isSeller_3 cS_RX11_94 (M_X11_lies (Nat.le_refl _) rfl) (as := [.int v0, .int (0 : Int32), .int (3 : Int32)]) (st := []) rfl rfl (Nat.le_of_ble_eq_true rfl) (Nat.le_trans (Nat.le_of_ble_eq_true rfl) hd) rfl ?_
  subst h
  exact g_zret (pc := 6) dX11_isSeller_6 rfl (zb_X11_lies _ _ _) rfl rfl (Nat.le_refl _) (Nat.le_refl _)
set_option maxRecDepth 100000 in
set_option maxHeartbeats 4000000 in
theorem M_X11_isSeller {sc : Nat × (Nat → Int32)} {d : Nat} (hd : 1 ≤ d) {r : Int32} {u : xS} {a0 : Int32} (h : f_X11_isSeller a0 = r) : xMt sc mX11_isSeller d 0 0 [.int a0] (xL0, u) (some (.int r)) (xL0, u) :=
  xMt.of (by decide +kernel) (Nat.le_of_ble_eq_true rfl) (L := [some (.int a0)]) rfl ((G_X11_isSeller_0 hd a0 h))
theorem zb_X11_isMark (v0 : Int32) : f_X11_isMark v0 = 0 ∨ f_X11_isMark v0 = 1 := by
  unfold f_X11_isMark
  (repeat' split) <;> first | exact Or.inl rfl | exact Or.inr rfl | exact zb_X11_lies _ _ _
set_option maxRecDepth 100000 in
set_option maxHeartbeats 4000000 in
theorem G_X11_isMark_0 {sc : Nat × (Nat → Int32)} {d : Nat} (hd : 1 ≤ d) {r : Int32} {u : xS} (v0 : Int32) (h : f_X11_isMark v0 = r) : xG sc mX11_isMark d 0 0 (xR (some (.int r)) (xL0, u) 0 0) 0 0 0 [some (.int v0)] [] (xL0, u) := by
  rw [f_X11_isMark] at h
  refine g_iload_n (pc := 0) dX11_isMark_0 rfl ?_
  refine g_iconst (pc := 1) dX11_isMark_1 ic_0 ?_
  refine g_bipush (pc := 2) dX11_isMark_2 bp_7 ?_
  refine g_cS (pc := 4) dX11_isMark_4 cS_RX11_94 (M_X11_lies (Nat.le_refl _) rfl) (as := [.int v0, .int (0 : Int32), .int (7 : Int32)]) (st := []) rfl rfl (Nat.le_of_ble_eq_true rfl) (Nat.le_trans (Nat.le_of_ble_eq_true rfl) hd) rfl ?_
  subst h
  exact g_zret (pc := 7) dX11_isMark_7 rfl (zb_X11_lies _ _ _) rfl rfl (Nat.le_refl _) (Nat.le_refl _)
set_option maxRecDepth 100000 in
set_option maxHeartbeats 4000000 in
theorem M_X11_isMark {sc : Nat × (Nat → Int32)} {d : Nat} (hd : 1 ≤ d) {r : Int32} {u : xS} {a0 : Int32} (h : f_X11_isMark a0 = r) : xMt sc mX11_isMark d 0 0 [.int a0] (xL0, u) (some (.int r)) (xL0, u) :=
  xMt.of (by decide +kernel) (Nat.le_of_ble_eq_true rfl) (L := [some (.int a0)]) rfl ((G_X11_isMark_0 hd a0 h))
set_option maxRecDepth 100000 in
set_option maxHeartbeats 4000000 in
theorem G_X11_foretell_154 {sc : Nat × (Nat → Int32)} {d : Nat} (hd : 3 ≤ d) {r : Int32} {u' : xS} {k44 : Int32 → Int32 → Int32 → Int32 → Int32 → Int32 → Int32 → xS → Option (Int32 × xS)} (hk44 : ∀ (v1 : Int32) (v2 : Int32) (v3 : Int32) (v4 : Int32) (v5 : Int32) (v6 : Int32) (v7 : Int32) (u : xS), k44 v1 v2 v3 v4 v5 v6 v7 u = some (r, u') → xG sc mX11_foretell d 0 0 (xR (some (.int r)) (xL0, u') 0 0) 0 0 44 [some (.ref 0), some (.int v1), some (.int v2), some (.int v3), some (.int v4), some (.int v5), some (.int v6), some (.int v7), none] [] (xL0, u)) (v1 : Int32) (v2 : Int32) (v3 : Int32) (v4 : Int32) (v5 : Int32) (v6 : Int32) (v7 : Int32) (u : xS) (h : f_X11_foretell_154 k44 v1 v2 v3 v4 v5 v6 v7 u = some (r, u')) : xG sc mX11_foretell d 0 0 (xR (some (.int r)) (xL0, u') 0 0) 0 0 154 [some (.ref 0), some (.int v1), some (.int v2), some (.int v3), some (.int v4), some (.int v5), some (.int v6), some (.int v7), none] [] (xL0, u) := by
  rw [f_X11_foretell_154] at h
  refine g_inc (pc := 154) dX11_foretell_154 (Nat.le_of_ble_eq_true rfl) rfl ic_1 (L' := [some (.ref 0), some (.int v1), some (.int v2), some (.int v3), some (.int v4), some (.int v5), some (.int v6), some (.int (v7 + (1 : Int32))), none]) rfl ?_
  refine g_goto (tgt := 44) (pc := 157) dX11_foretell_157 (by decide) ?_
  exact hk44 v1 v2 v3 v4 v5 v6 (v7 + (1 : Int32)) u h
set_option maxRecDepth 100000 in
set_option maxHeartbeats 4000000 in
theorem G_X11_foretell_140 {sc : Nat × (Nat → Int32)} {d : Nat} (hd : 3 ≤ d) {r : Int32} {u' : xS} {k44 : Int32 → Int32 → Int32 → Int32 → Int32 → Int32 → Int32 → xS → Option (Int32 × xS)} (hk44 : ∀ (v1 : Int32) (v2 : Int32) (v3 : Int32) (v4 : Int32) (v5 : Int32) (v6 : Int32) (v7 : Int32) (u : xS), k44 v1 v2 v3 v4 v5 v6 v7 u = some (r, u') → xG sc mX11_foretell d 0 0 (xR (some (.int r)) (xL0, u') 0 0) 0 0 44 [some (.ref 0), some (.int v1), some (.int v2), some (.int v3), some (.int v4), some (.int v5), some (.int v6), some (.int v7), none] [] (xL0, u)) (v1 : Int32) (v2 : Int32) (v3 : Int32) (v5 : Int32) (v6 : Int32) (v7 : Int32) (v8 : Int32) (s0 : Int32) (u : xS) (h : f_X11_foretell_140 k44 v1 v2 v3 v5 v6 v7 v8 s0 u = some (r, u')) : xG sc mX11_foretell d 0 0 (xR (some (.int r)) (xL0, u') 0 0) 0 0 140 [some (.ref 0), some (.int v1), some (.int v2), some (.int v3), none, some (.int v5), some (.int v6), some (.int v7), some (.int v8)] [.int s0] (xL0, u) := by
  rw [f_X11_foretell_140] at h
  refine g_istore (pc := 140) dX11_foretell_140 (Nat.le_of_ble_eq_true rfl) (L' := [some (.ref 0), some (.int v1), some (.int v2), some (.int v3), some (.int s0), some (.int v5), some (.int v6), some (.int v7), some (.int v8)]) rfl ?_
  refine g_iload (pc := 142) dX11_foretell_142 rfl ?_
  refine g_iload (pc := 144) dX11_foretell_144 rfl ?_
  refine g_cS (pc := 146) dX11_foretell_146 cS_RX11_188 (M_J9_max_7cf53 (Nat.le_refl _) rfl) (as := [.int v5, .int v8]) (st := []) rfl rfl (Nat.le_of_ble_eq_true rfl) (Nat.le_trans (Nat.le_of_ble_eq_true rfl) hd) rfl ?_
  refine g_istore (pc := 149) dX11_foretell_149 (Nat.le_of_ble_eq_true rfl) (L' := [some (.ref 0), some (.int v1), some (.int v2), some (.int v3), some (.int s0), some (.int (f_J9_max_7cf53 v5 v8)), some (.int v6), some (.int v7), some (.int v8)]) rfl ?_
  refine g_inc (pc := 151) dX11_foretell_151 (Nat.le_of_ble_eq_true rfl) rfl ic_1 (L' := [some (.ref 0), some (.int v1), some (.int v2), some (.int v3), some (.int s0), some (.int (f_J9_max_7cf53 v5 v8)), some (.int (v6 + (1 : Int32))), some (.int v7), some (.int v8)]) rfl ?_
  refine g_L (L' := [some (.ref 0), some (.int v1), some (.int v2), some (.int v3), some (.int s0), some (.int (f_J9_max_7cf53 v5 v8)), some (.int (v6 + (1 : Int32))), some (.int v7), none]) ⟨rfl, ⟨rfl, ⟨rfl, ⟨rfl, ⟨rfl, ⟨rfl, ⟨rfl, ⟨rfl, trivial⟩⟩⟩⟩⟩⟩⟩⟩ ?_
  exact G_X11_foretell_154 hd hk44 v1 v2 v3 s0 (f_J9_max_7cf53 v5 v8) (v6 + (1 : Int32)) v7 u h
set_option maxRecDepth 100000 in
set_option maxHeartbeats 4000000 in
theorem G_X11_foretell_101 {sc : Nat × (Nat → Int32)} {d : Nat} (hd : 3 ≤ d) {r : Int32} {u' : xS} {k44 : Int32 → Int32 → Int32 → Int32 → Int32 → Int32 → Int32 → xS → Option (Int32 × xS)} (hk44 : ∀ (v1 : Int32) (v2 : Int32) (v3 : Int32) (v4 : Int32) (v5 : Int32) (v6 : Int32) (v7 : Int32) (u : xS), k44 v1 v2 v3 v4 v5 v6 v7 u = some (r, u') → xG sc mX11_foretell d 0 0 (xR (some (.int r)) (xL0, u') 0 0) 0 0 44 [some (.ref 0), some (.int v1), some (.int v2), some (.int v3), some (.int v4), some (.int v5), some (.int v6), some (.int v7), none] [] (xL0, u)) (v1 : Int32) (v2 : Int32) (v3 : Int32) (v4 : Int32) (v5 : Int32) (v6 : Int32) (v7 : Int32) (u : xS) (h : f_X11_foretell_101 k44 v1 v2 v3 v4 v5 v6 v7 u = some (r, u')) : xG sc mX11_foretell d 0 0 (xR (some (.int r)) (xL0, u') 0 0) 0 0 101 [some (.ref 0), some (.int v1), some (.int v2), some (.int v3), some (.int v4), some (.int v5), some (.int v6), some (.int v7), none] [] (xL0, u) := by
  rw [f_X11_foretell_101] at h
  refine g_aload_n (pc := 101) dX11_foretell_101 rfl ?_
  refine g_iload (pc := 102) dX11_foretell_102 rfl ?_
  refine g_iload_n (pc := 104) dX11_foretell_104 rfl ?_
  obtain ⟨x2, e1, h⟩ := x_bind h
  refine g_cV (pc := 105) dX11_foretell_105 cV_RX11_371 (M_X11_poundsWithin (Nat.le_refl _) e1) xc_0 (as := [.int v7, .int v3]) (st := []) rfl rfl (Nat.le_of_ble_eq_true rfl) (Nat.le_trans (Nat.le_of_ble_eq_true rfl) hd) rfl ?_
  refine g_aload_n (pc := 108) dX11_foretell_108 rfl ?_
  refine g_gR (pc := 109) dX11_foretell_109 fR_RX11_19 xc_0 (v := 13) rfl ?_
  refine g_gR (pc := 112) dX11_foretell_112 fR_RX11_144 xc_13 (v := 16) rfl ?_
  refine g_iload (pc := 115) dX11_foretell_115 rfl ?_
  obtain ⟨g3, h⟩ := x_gd h
  refine g_iaload (pc := 117) dX11_foretell_117 xc_16 (xin_of g3) (v := (rd u 16 v7.toNatClampNeg)) rfl ?_
  obtain ⟨x5, e4, h⟩ := x_bind h
  refine g_cS (pc := 118) dX11_foretell_118 cS_RX11_208 (M_X11_inThousand (Nat.le_refl _) e4) (as := [.int x2, .int (rd u 16 v7.toNatClampNeg)]) (st := []) rfl rfl (Nat.le_of_ble_eq_true rfl) (Nat.le_trans (Nat.le_of_ble_eq_true rfl) hd) rfl ?_
  refine g_istore (pc := 121) dX11_foretell_121 (Nat.le_of_ble_eq_true rfl) (L' := [some (.ref 0), some (.int v1), some (.int v2), some (.int v3), some (.int v4), some (.int v5), some (.int v6), some (.int v7), some (.int x5)]) rfl ?_
  refine g_iload (pc := 123) dX11_foretell_123 rfl ?_
  refine g_if_ne (tgt := 133) (pc := 125) dX11_foretell_125 (by decide) (fun c6 => ?_) (fun c6 => ?_)
  · replace h := (if_neg c6).symm.trans h
    refine g_iload (pc := 133) dX11_foretell_133 rfl ?_
    refine g_iload (pc := 135) dX11_foretell_135 rfl ?_
    refine g_cS (pc := 137) dX11_foretell_137 cS_RX11_227 (M_J9_min_7cf53 (Nat.le_refl _) rfl) (as := [.int v4, .int x5]) (st := []) rfl rfl (Nat.le_of_ble_eq_true rfl) (Nat.le_trans (Nat.le_of_ble_eq_true rfl) hd) rfl ?_
    refine g_L (L' := [some (.ref 0), some (.int v1), some (.int v2), some (.int v3), none, some (.int v5), some (.int v6), some (.int v7), some (.int x5)]) ⟨rfl, ⟨rfl, ⟨rfl, ⟨rfl, ⟨rfl, ⟨rfl, ⟨rfl, ⟨rfl, trivial⟩⟩⟩⟩⟩⟩⟩⟩ ?_
    exact G_X11_foretell_140 hd hk44 v1 v2 v3 v5 v6 v7 x5 (f_J9_min_7cf53 v4 x5) u h
  · replace h := (if_pos c6).symm.trans h
    refine g_iload (pc := 128) dX11_foretell_128 rfl ?_
    refine g_goto (tgt := 140) (pc := 130) dX11_foretell_130 (by decide) ?_
    refine g_L (L' := [some (.ref 0), some (.int v1), some (.int v2), some (.int v3), none, some (.int v5), some (.int v6), some (.int v7), some (.int x5)]) ⟨rfl, ⟨rfl, ⟨rfl, ⟨rfl, ⟨rfl, ⟨rfl, ⟨rfl, ⟨rfl, trivial⟩⟩⟩⟩⟩⟩⟩⟩ ?_
    exact G_X11_foretell_140 hd hk44 v1 v2 v3 v5 v6 v7 x5 x5 u h
set_option maxRecDepth 100000 in
set_option maxHeartbeats 4000000 in
theorem G_X11_foretell_44 {sc : Nat × (Nat → Int32)} {d : Nat} (hd : 3 ≤ d) {r : Int32} {u' : xS} : ∀ (n : Nat) (v1 : Int32) (v2 : Int32) (v3 : Int32) (v4 : Int32) (v5 : Int32) (v6 : Int32) (v7 : Int32) (u : xS), f_X11_foretell_44 n v1 v2 v3 v4 v5 v6 v7 u = some (r, u') → xG sc mX11_foretell d 0 0 (xR (some (.int r)) (xL0, u') 0 0) 0 0 44 [some (.ref 0), some (.int v1), some (.int v2), some (.int v3), some (.int v4), some (.int v5), some (.int v6), some (.int v7), none] [] (xL0, u) := by
  intro n
  induction n with
  | zero =>
    intro v1 v2 v3 v4 v5 v6 v7 u h
    rw [f_X11_foretell_44] at h
    cases h
  | succ n ih =>
    intro v1 v2 v3 v4 v5 v6 v7 u h
    rw [f_X11_foretell_44] at h
    refine g_iload (pc := 44) dX11_foretell_44 rfl ?_
    refine g_aload_n (pc := 46) dX11_foretell_46 rfl ?_
    refine g_gR (pc := 47) dX11_foretell_47 fR_RX11_19 xc_0 (v := 13) rfl ?_
    refine g_gI (pc := 50) dX11_foretell_50 fI_RX11_133 xc_13 (v := (rd u 13 8)) rfl ?_
    refine g_icmp_ge (tgt := 160) (pc := 53) dX11_foretell_53 (by decide) (fun c1 => ?_) (fun c1 => ?_)
    · replace h := (if_pos c1).symm.trans h
      refine g_iload (pc := 160) dX11_foretell_160 rfl ?_
      refine g_if_ne (tgt := 167) (pc := 162) dX11_foretell_162 (by decide) (fun c2 => ?_) (fun c2 => ?_)
      · replace h := (if_neg c2).symm.trans h
        refine g_aload_n (pc := 167) dX11_foretell_167 rfl ?_
        refine g_iconst (pc := 168) dX11_foretell_168 ic_0 ?_
        refine g_pI (pc := 169) dX11_foretell_169 pI_RX11_90 xc_0 (u' := (wr u 0 12 (0 : Int32))) rfl ?_
        refine g_aload_n (pc := 172) dX11_foretell_172 rfl ?_
        refine g_iload (pc := 173) dX11_foretell_173 rfl ?_
        obtain ⟨u4, e3, h⟩ := x_bind h
        refine g_cV (pc := 175) dX11_foretell_175 cV_RX11_359 (M_X11_tell (Nat.le_refl _) e3) xc_0 (as := [.int v4]) (st := []) rfl rfl (Nat.le_of_ble_eq_true rfl) (Nat.le_trans (Nat.le_of_ble_eq_true rfl) hd) rfl ?_
        refine g_aload_n (pc := 178) dX11_foretell_178 rfl ?_
        refine g_iload (pc := 179) dX11_foretell_179 rfl ?_
        obtain ⟨u6, e5, h⟩ := x_bind h
        refine g_cV (pc := 181) dX11_foretell_181 cV_RX11_359 (M_X11_tell (Nat.le_refl _) e5) xc_0 (as := [.int v5]) (st := []) rfl rfl (Nat.le_of_ble_eq_true rfl) (Nat.le_trans (Nat.le_of_ble_eq_true rfl) hd) rfl ?_
        refine g_aload_n (pc := 184) dX11_foretell_184 rfl ?_
        refine g_iload (pc := 185) dX11_foretell_185 rfl ?_
        obtain ⟨u8, e7, h⟩ := x_bind h
        refine g_cV (pc := 187) dX11_foretell_187 cV_RX11_359 (M_X11_tell (Nat.le_refl _) e7) xc_0 (as := [.int v6]) (st := []) rfl rfl (Nat.le_of_ble_eq_true rfl) (Nat.le_trans (Nat.le_of_ble_eq_true rfl) hd) rfl ?_
        refine g_iload (pc := 190) dX11_foretell_190 rfl ?_
        cases h
        exact g_iret (pc := 192) dX11_foretell_192 rfl rfl rfl (Nat.le_refl _) (Nat.le_refl _)
      · replace h := (if_pos c2).symm.trans h
        refine g_iconst (pc := 165) dX11_foretell_165 ic_m1 ?_
        cases h
        exact g_iret (pc := 166) dX11_foretell_166 rfl rfl rfl (Nat.le_refl _) (Nat.le_refl _)
    · replace h := (if_neg c1).symm.trans h
      refine g_aload_n (pc := 56) dX11_foretell_56 rfl ?_
      refine g_gR (pc := 57) dX11_foretell_57 fR_RX11_19 xc_0 (v := 13) rfl ?_
      refine g_iload (pc := 60) dX11_foretell_60 rfl ?_
      obtain ⟨x10, e9, h⟩ := x_bind h
      refine g_cV (pc := 62) dX11_foretell_62 cV_RX11_141 (M_X0_isSorted (Nat.le_refl _) e9) xc_13 (as := [.int v7]) (st := []) rfl rfl (Nat.le_of_ble_eq_true rfl) (Nat.le_trans (Nat.le_of_ble_eq_true rfl) hd) rfl ?_
      refine g_if_eq (tgt := 154) (pc := 65) dX11_foretell_65 (by decide) (fun c11 => ?_) (fun c11 => ?_)
      · replace h := (if_pos c11).symm.trans h
        exact G_X11_foretell_154 hd ih v1 v2 v3 v4 v5 v6 v7 u h
      · replace h := (if_neg c11).symm.trans h
        refine g_aload_n (pc := 68) dX11_foretell_68 rfl ?_
        refine g_gR (pc := 69) dX11_foretell_69 fR_RX11_19 xc_0 (v := 13) rfl ?_
        refine g_gR (pc := 72) dX11_foretell_72 fR_RX11_221 xc_13 (v := 14) rfl ?_
        refine g_iload (pc := 75) dX11_foretell_75 rfl ?_
        obtain ⟨g12, h⟩ := x_gd h
        refine g_iaload (pc := 77) dX11_foretell_77 xc_14 (xin_of g12) (v := (rd u 14 v7.toNatClampNeg)) rfl ?_
        refine g_iload_n (pc := 78) dX11_foretell_78 rfl ?_
        refine g_icmp_ne (tgt := 154) (pc := 79) dX11_foretell_79 (by decide) (fun c13 => ?_) (fun c13 => ?_)
        · replace h := (if_neg c13).symm.trans h
          exact G_X11_foretell_154 hd ih v1 v2 v3 v4 v5 v6 v7 u h
        · replace h := (if_pos c13).symm.trans h
          refine g_iload_n (pc := 82) dX11_foretell_82 rfl ?_
          refine g_iconst (pc := 83) dX11_foretell_83 ic_m1 ?_
          refine g_icmp_eq (tgt := 101) (pc := 84) dX11_foretell_84 (by decide) (fun c14 => ?_) (fun c14 => ?_)
          · replace h := (if_pos c14).symm.trans h
            exact G_X11_foretell_101 hd ih v1 v2 v3 v4 v5 v6 v7 u h
          · replace h := (if_neg c14).symm.trans h
            refine g_aload_n (pc := 87) dX11_foretell_87 rfl ?_
            refine g_gR (pc := 88) dX11_foretell_88 fR_RX11_19 xc_0 (v := 13) rfl ?_
            refine g_gR (pc := 91) dX11_foretell_91 fR_RX11_215 xc_13 (v := 15) rfl ?_
            refine g_iload (pc := 94) dX11_foretell_94 rfl ?_
            refine g_iaload (pc := 96) dX11_foretell_96 xc_15 (xin_of g12) (v := (rd u 15 v7.toNatClampNeg)) rfl ?_
            refine g_iload_n (pc := 97) dX11_foretell_97 rfl ?_
            refine g_icmp_ne (tgt := 154) (pc := 98) dX11_foretell_98 (by decide) (fun c15 => ?_) (fun c15 => ?_)
            · replace h := (if_neg c15).symm.trans h
              exact G_X11_foretell_154 hd ih v1 v2 v3 v4 v5 v6 v7 u h
            · replace h := (if_pos c15).symm.trans h
              exact G_X11_foretell_101 hd ih v1 v2 v3 v4 v5 v6 v7 u h
set_option maxRecDepth 100000 in
set_option maxHeartbeats 4000000 in
theorem G_X11_foretell_19 {sc : Nat × (Nat → Int32)} {d : Nat} (hd : 3 ≤ d) {r : Int32} {u' : xS} (v1 : Int32) (v2 : Int32) (v3 : Int32) (u : xS) (h : f_X11_foretell_19 v1 v2 v3 u = some (r, u')) : xG sc mX11_foretell d 0 0 (xR (some (.int r)) (xL0, u') 0 0) 0 0 19 [some (.ref 0), some (.int v1), some (.int v2), some (.int v3), none, none, none, none, none] [] (xL0, u) := by
  rw [f_X11_foretell_19] at h
  refine g_aload_n (pc := 19) dX11_foretell_19 rfl ?_
  refine g_gR (pc := 20) dX11_foretell_20 fR_RX11_12 xc_0 (v := 1) rfl ?_
  refine g_iload_n (pc := 23) dX11_foretell_23 rfl ?_
  refine g_cV (pc := 24) dX11_foretell_24 cV_RX11_98 (M_X8_has (Nat.le_refl _) rfl) xc_1 (as := [.int v3]) (st := []) rfl rfl (Nat.le_of_ble_eq_true rfl) (Nat.le_trans (Nat.le_of_ble_eq_true rfl) hd) rfl ?_
  refine g_if_ne (tgt := 32) (pc := 27) dX11_foretell_27 (by decide) (fun c1 => ?_) (fun c1 => ?_)
  · replace h := (if_neg c1).symm.trans h
    refine g_iconst (pc := 32) dX11_foretell_32 ic_m1 ?_
    refine g_istore (pc := 33) dX11_foretell_33 (Nat.le_of_ble_eq_true rfl) (L' := [some (.ref 0), some (.int v1), some (.int v2), some (.int v3), some (.int (-1 : Int32)), none, none, none, none]) rfl ?_
    refine g_iconst (pc := 35) dX11_foretell_35 ic_m1 ?_
    refine g_istore (pc := 36) dX11_foretell_36 (Nat.le_of_ble_eq_true rfl) (L' := [some (.ref 0), some (.int v1), some (.int v2), some (.int v3), some (.int (-1 : Int32)), some (.int (-1 : Int32)), none, none, none]) rfl ?_
    refine g_iconst (pc := 38) dX11_foretell_38 ic_0 ?_
    refine g_istore (pc := 39) dX11_foretell_39 (Nat.le_of_ble_eq_true rfl) (L' := [some (.ref 0), some (.int v1), some (.int v2), some (.int v3), some (.int (-1 : Int32)), some (.int (-1 : Int32)), some (.int (0 : Int32)), none, none]) rfl ?_
    refine g_iconst (pc := 41) dX11_foretell_41 ic_0 ?_
    refine g_istore (pc := 42) dX11_foretell_42 (Nat.le_of_ble_eq_true rfl) (L' := [some (.ref 0), some (.int v1), some (.int v2), some (.int v3), some (.int (-1 : Int32)), some (.int (-1 : Int32)), some (.int (0 : Int32)), some (.int (0 : Int32)), none]) rfl ?_
    exact G_X11_foretell_44 hd xN v1 v2 v3 (-1 : Int32) (-1 : Int32) (0 : Int32) (0 : Int32) u h
  · replace h := (if_pos c1).symm.trans h
    refine g_iconst (pc := 30) dX11_foretell_30 ic_m1 ?_
    cases h
    exact g_iret (pc := 31) dX11_foretell_31 rfl rfl rfl (Nat.le_refl _) (Nat.le_refl _)
set_option maxRecDepth 100000 in
set_option maxHeartbeats 4000000 in
theorem G_X11_foretell_0 {sc : Nat × (Nat → Int32)} {d : Nat} (hd : 3 ≤ d) {r : Int32} {u' : xS} (v1 : Int32) (v2 : Int32) (v3 : Int32) (u : xS) (h : f_X11_foretell v1 v2 v3 u = some (r, u')) : xG sc mX11_foretell d 0 0 (xR (some (.int r)) (xL0, u') 0 0) 0 0 0 [some (.ref 0), some (.int v1), some (.int v2), some (.int v3), none, none, none, none, none] [] (xL0, u) := by
  rw [f_X11_foretell] at h
  refine g_iload_n (pc := 0) dX11_foretell_0 rfl ?_
  refine g_cS (pc := 1) dX11_foretell_1 cS_RX11_127 (M_X11_isSeller (Nat.le_refl _) rfl) (as := [.int v1]) (st := []) rfl rfl (Nat.le_of_ble_eq_true rfl) (Nat.le_trans (Nat.le_of_ble_eq_true rfl) hd) rfl ?_
  refine g_if_eq (tgt := 30) (pc := 4) dX11_foretell_4 (by decide) (fun c1 => ?_) (fun c1 => ?_)
  · replace h := (if_pos c1).symm.trans h
    refine g_iconst (pc := 30) dX11_foretell_30 ic_m1 ?_
    cases h
    exact g_iret (pc := 31) dX11_foretell_31 rfl rfl rfl (Nat.le_refl _) (Nat.le_refl _)
  · replace h := (if_neg c1).symm.trans h
    refine g_iload_n (pc := 7) dX11_foretell_7 rfl ?_
    refine g_iconst (pc := 8) dX11_foretell_8 ic_m1 ?_
    refine g_icmp_eq (tgt := 19) (pc := 9) dX11_foretell_9 (by decide) (fun c2 => ?_) (fun c2 => ?_)
    · replace h := (if_pos c2).symm.trans h
      exact G_X11_foretell_19 hd v1 v2 v3 u h
    · replace h := (if_neg c2).symm.trans h
      refine g_iload_n (pc := 12) dX11_foretell_12 rfl ?_
      refine g_cS (pc := 13) dX11_foretell_13 cS_RX11_130 (M_X11_isMark (Nat.le_refl _) rfl) (as := [.int v2]) (st := []) rfl rfl (Nat.le_of_ble_eq_true rfl) (Nat.le_trans (Nat.le_of_ble_eq_true rfl) hd) rfl ?_
      refine g_if_eq (tgt := 30) (pc := 16) dX11_foretell_16 (by decide) (fun c3 => ?_) (fun c3 => ?_)
      · replace h := (if_pos c3).symm.trans h
        refine g_iconst (pc := 30) dX11_foretell_30 ic_m1 ?_
        cases h
        exact g_iret (pc := 31) dX11_foretell_31 rfl rfl rfl (Nat.le_refl _) (Nat.le_refl _)
      · replace h := (if_neg c3).symm.trans h
        exact G_X11_foretell_19 hd v1 v2 v3 u h
set_option maxRecDepth 100000 in
set_option maxHeartbeats 4000000 in
theorem M_X11_foretell {sc : Nat × (Nat → Int32)} {d : Nat} (hd : 3 ≤ d) {r : Int32} {u u' : xS} {a1 : Int32} {a2 : Int32} {a3 : Int32} (h : f_X11_foretell a1 a2 a3 u = some (r, u')) : xMt sc mX11_foretell d 0 0 [.ref 0, .int a1, .int a2, .int a3] (xL0, u) (some (.int r)) (xL0, u') :=
  xMt.of (by decide +kernel) (Nat.le_of_ble_eq_true rfl) (L := [some (.ref 0), some (.int a1), some (.int a2), some (.int a3), none, none, none, none, none]) rfl ((G_X11_foretell_0 hd a1 a2 a3 u h))
set_option maxRecDepth 100000 in
set_option maxHeartbeats 4000000 in
theorem G_J6_bitCount_0f7a4_0 {sc : Nat × (Nat → Int32)} {d : Nat} (hd : 0 ≤ d) {r : Int32} {u : xS} (v0 : Int32) (h : f_J6_bitCount_0f7a4 v0 = r) : xG sc mJ6_bitCount_0f7a4 d 0 0 (xR (some (.int r)) (xL0, u) 0 0) 0 0 0 [some (.int v0)] [] (xL0, u) := by
  rw [f_J6_bitCount_0f7a4] at h
  refine g_iload_n (pc := 0) dJ6_bitCount_0f7a4_0 rfl ?_
  refine g_iload_n (pc := 1) dJ6_bitCount_0f7a4_1 rfl ?_
  refine g_iconst (pc := 2) dJ6_bitCount_0f7a4_2 ic_1 ?_
  refine g_iushr (pc := 3) dJ6_bitCount_0f7a4_3 (v := ((v0.toUInt32 >>> ((1 : Int32).toUInt32 &&& Int32.toUInt32 31)).toInt32)) rfl ?_
  refine g_ldcw (pc := 4) dJ6_bitCount_0f7a4_4 kc_RJ6_265 ?_
  refine g_iand (pc := 7) dJ6_bitCount_0f7a4_7 rfl ?_
  refine g_isub (pc := 8) dJ6_bitCount_0f7a4_8 rfl ?_
  refine g_istore_n (pc := 9) dJ6_bitCount_0f7a4_9 (Nat.le_of_ble_eq_true rfl) (L' := [some (.int (v0 - (((v0.toUInt32 >>> ((1 : Int32).toUInt32 &&& Int32.toUInt32 31)).toInt32) &&& (1431655765 : Int32))))]) rfl ?_
  refine g_iload_n (pc := 10) dJ6_bitCount_0f7a4_10 rfl ?_
  refine g_ldcw (pc := 11) dJ6_bitCount_0f7a4_11 kc_RJ6_266 ?_
  refine g_iand (pc := 14) dJ6_bitCount_0f7a4_14 rfl ?_
  refine g_iload_n (pc := 15) dJ6_bitCount_0f7a4_15 rfl ?_
  refine g_iconst (pc := 16) dJ6_bitCount_0f7a4_16 ic_2 ?_
  refine g_iushr (pc := 17) dJ6_bitCount_0f7a4_17 (v := (((v0 - (((v0.toUInt32 >>> ((1 : Int32).toUInt32 &&& Int32.toUInt32 31)).toInt32) &&& (1431655765 : Int32))).toUInt32 >>> ((2 : Int32).toUInt32 &&& Int32.toUInt32 31)).toInt32)) rfl ?_
  refine g_ldcw (pc := 18) dJ6_bitCount_0f7a4_18 kc_RJ6_266 ?_
  refine g_iand (pc := 21) dJ6_bitCount_0f7a4_21 rfl ?_
  refine g_iadd (pc := 22) dJ6_bitCount_0f7a4_22 rfl ?_
  refine g_istore_n (pc := 23) dJ6_bitCount_0f7a4_23 (Nat.le_of_ble_eq_true rfl) (L' := [some (.int (((v0 - (((v0.toUInt32 >>> ((1 : Int32).toUInt32 &&& Int32.toUInt32 31)).toInt32) &&& (1431655765 : Int32))) &&& (858993459 : Int32)) + ((((v0 - (((v0.toUInt32 >>> ((1 : Int32).toUInt32 &&& Int32.toUInt32 31)).toInt32) &&& (1431655765 : Int32))).toUInt32 >>> ((2 : Int32).toUInt32 &&& Int32.toUInt32 31)).toInt32) &&& (858993459 : Int32))))]) rfl ?_
  refine g_iload_n (pc := 24) dJ6_bitCount_0f7a4_24 rfl ?_
  refine g_iload_n (pc := 25) dJ6_bitCount_0f7a4_25 rfl ?_
  refine g_iconst (pc := 26) dJ6_bitCount_0f7a4_26 ic_4 ?_
  refine g_iushr (pc := 27) dJ6_bitCount_0f7a4_27 (v := (((((v0 - (((v0.toUInt32 >>> ((1 : Int32).toUInt32 &&& Int32.toUInt32 31)).toInt32) &&& (1431655765 : Int32))) &&& (858993459 : Int32)) + ((((v0 - (((v0.toUInt32 >>> ((1 : Int32).toUInt32 &&& Int32.toUInt32 31)).toInt32) &&& (1431655765 : Int32))).toUInt32 >>> ((2 : Int32).toUInt32 &&& Int32.toUInt32 31)).toInt32) &&& (858993459 : Int32))).toUInt32 >>> ((4 : Int32).toUInt32 &&& Int32.toUInt32 31)).toInt32)) rfl ?_
  refine g_iadd (pc := 28) dJ6_bitCount_0f7a4_28 rfl ?_
  refine g_ldcw (pc := 29) dJ6_bitCount_0f7a4_29 kc_RJ6_267 ?_
  refine g_iand (pc := 32) dJ6_bitCount_0f7a4_32 rfl ?_
  refine g_istore_n (pc := 33) dJ6_bitCount_0f7a4_33 (Nat.le_of_ble_eq_true rfl) (L' := [some (.int (((((v0 - (((v0.toUInt32 >>> ((1 : Int32).toUInt32 &&& Int32.toUInt32 31)).toInt32) &&& (1431655765 : Int32))) &&& (858993459 : Int32)) + ((((v0 - (((v0.toUInt32 >>> ((1 : Int32).toUInt32 &&& Int32.toUInt32 31)).toInt32) &&& (1431655765 : Int32))).toUInt32 >>> ((2 : Int32).toUInt32 &&& Int32.toUInt32 31)).toInt32) &&& (858993459 : Int32))) + (((((v0 - (((v0.toUInt32 >>> ((1 : Int32).toUInt32 &&& Int32.toUInt32 31)).toInt32) &&& (1431655765 : Int32))) &&& (858993459 : Int32)) + ((((v0 - (((v0.toUInt32 >>> ((1 : Int32).toUInt32 &&& Int32.toUInt32 31)).toInt32) &&& (1431655765 : Int32))).toUInt32 >>> ((2 : Int32).toUInt32 &&& Int32.toUInt32 31)).toInt32) &&& (858993459 : Int32))).toUInt32 >>> ((4 : Int32).toUInt32 &&& Int32.toUInt32 31)).toInt32)) &&& (252645135 : Int32)))]) rfl ?_
  refine g_iload_n (pc := 34) dJ6_bitCount_0f7a4_34 rfl ?_
  refine g_iload_n (pc := 35) dJ6_bitCount_0f7a4_35 rfl ?_
  refine g_bipush (pc := 36) dJ6_bitCount_0f7a4_36 bp_8 ?_
  refine g_iushr (pc := 38) dJ6_bitCount_0f7a4_38 (v := (((((((v0 - (((v0.toUInt32 >>> ((1 : Int32).toUInt32 &&& Int32.toUInt32 31)).toInt32) &&& (1431655765 : Int32))) &&& (858993459 : Int32)) + ((((v0 - (((v0.toUInt32 >>> ((1 : Int32).toUInt32 &&& Int32.toUInt32 31)).toInt32) &&& (1431655765 : Int32))).toUInt32 >>> ((2 : Int32).toUInt32 &&& Int32.toUInt32 31)).toInt32) &&& (858993459 : Int32))) + (((((v0 - (((v0.toUInt32 >>> ((1 : Int32).toUInt32 &&& Int32.toUInt32 31)).toInt32) &&& (1431655765 : Int32))) &&& (858993459 : Int32)) + ((((v0 - (((v0.toUInt32 >>> ((1 : Int32).toUInt32 &&& Int32.toUInt32 31)).toInt32) &&& (1431655765 : Int32))).toUInt32 >>> ((2 : Int32).toUInt32 &&& Int32.toUInt32 31)).toInt32) &&& (858993459 : Int32))).toUInt32 >>> ((4 : Int32).toUInt32 &&& Int32.toUInt32 31)).toInt32)) &&& (252645135 : Int32)).toUInt32 >>> ((8 : Int32).toUInt32 &&& Int32.toUInt32 31)).toInt32)) rfl ?_
  refine g_iadd (pc := 39) dJ6_bitCount_0f7a4_39 rfl ?_
  refine g_istore_n (pc := 40) dJ6_bitCount_0f7a4_40 (Nat.le_of_ble_eq_true rfl) (L' := [some (.int ((((((v0 - (((v0.toUInt32 >>> ((1 : Int32).toUInt32 &&& Int32.toUInt32 31)).toInt32) &&& (1431655765 : Int32))) &&& (858993459 : Int32)) + ((((v0 - (((v0.toUInt32 >>> ((1 : Int32).toUInt32 &&& Int32.toUInt32 31)).toInt32) &&& (1431655765 : Int32))).toUInt32 >>> ((2 : Int32).toUInt32 &&& Int32.toUInt32 31)).toInt32) &&& (858993459 : Int32))) + (((((v0 - (((v0.toUInt32 >>> ((1 : Int32).toUInt32 &&& Int32.toUInt32 31)).toInt32) &&& (1431655765 : Int32))) &&& (858993459 : Int32)) + ((((v0 - (((v0.toUInt32 >>> ((1 : Int32).toUInt32 &&& Int32.toUInt32 31)).toInt32) &&& (1431655765 : Int32))).toUInt32 >>> ((2 : Int32).toUInt32 &&& Int32.toUInt32 31)).toInt32) &&& (858993459 : Int32))).toUInt32 >>> ((4 : Int32).toUInt32 &&& Int32.toUInt32 31)).toInt32)) &&& (252645135 : Int32)) + (((((((v0 - (((v0.toUInt32 >>> ((1 : Int32).toUInt32 &&& Int32.toUInt32 31)).toInt32) &&& (1431655765 : Int32))) &&& (858993459 : Int32)) + ((((v0 - (((v0.toUInt32 >>> ((1 : Int32).toUInt32 &&& Int32.toUInt32 31)).toInt32) &&& (1431655765 : Int32))).toUInt32 >>> ((2 : Int32).toUInt32 &&& Int32.toUInt32 31)).toInt32) &&& (858993459 : Int32))) + (((((v0 - (((v0.toUInt32 >>> ((1 : Int32).toUInt32 &&& Int32.toUInt32 31)).toInt32) &&& (1431655765 : Int32))) &&& (858993459 : Int32)) + ((((v0 - (((v0.toUInt32 >>> ((1 : Int32).toUInt32 &&& Int32.toUInt32 31)).toInt32) &&& (1431655765 : Int32))).toUInt32 >>> ((2 : Int32).toUInt32 &&& Int32.toUInt32 31)).toInt32) &&& (858993459 : Int32))).toUInt32 >>> ((4 : Int32).toUInt32 &&& Int32.toUInt32 31)).toInt32)) &&& (252645135 : Int32)).toUInt32 >>> ((8 : Int32).toUInt32 &&& Int32.toUInt32 31)).toInt32)))]) rfl ?_
  refine g_iload_n (pc := 41) dJ6_bitCount_0f7a4_41 rfl ?_
  refine g_iload_n (pc := 42) dJ6_bitCount_0f7a4_42 rfl ?_
  refine g_bipush (pc := 43) dJ6_bitCount_0f7a4_43 bp_16 ?_
  refine g_iushr (pc := 45) dJ6_bitCount_0f7a4_45 (v := ((((((((v0 - (((v0.toUInt32 >>> ((1 : Int32).toUInt32 &&& Int32.toUInt32 31)).toInt32) &&& (1431655765 : Int32))) &&& (858993459 : Int32)) + ((((v0 - (((v0.toUInt32 >>> ((1 : Int32).toUInt32 &&& Int32.toUInt32 31)).toInt32) &&& (1431655765 : Int32))).toUInt32 >>> ((2 : Int32).toUInt32 &&& Int32.toUInt32 31)).toInt32) &&& (858993459 : Int32))) + (((((v0 - (((v0.toUInt32 >>> ((1 : Int32).toUInt32 &&& Int32.toUInt32 31)).toInt32) &&& (1431655765 : Int32))) &&& (858993459 : Int32)) + ((((v0 - (((v0.toUInt32 >>> ((1 : Int32).toUInt32 &&& Int32.toUInt32 31)).toInt32) &&& (1431655765 : Int32))).toUInt32 >>> ((2 : Int32).toUInt32 &&& Int32.toUInt32 31)).toInt32) &&& (858993459 : Int32))).toUInt32 >>> ((4 : Int32).toUInt32 &&& Int32.toUInt32 31)).toInt32)) &&& (252645135 : Int32)) + (((((((v0 - (((v0.toUInt32 >>> ((1 : Int32).toUInt32 &&& Int32.toUInt32 31)).toInt32) &&& (1431655765 : Int32))) &&& (858993459 : Int32)) + ((((v0 - (((v0.toUInt32 >>> ((1 : Int32).toUInt32 &&& Int32.toUInt32 31)).toInt32) &&& (1431655765 : Int32))).toUInt32 >>> ((2 : Int32).toUInt32 &&& Int32.toUInt32 31)).toInt32) &&& (858993459 : Int32))) + (((((v0 - (((v0.toUInt32 >>> ((1 : Int32).toUInt32 &&& Int32.toUInt32 31)).toInt32) &&& (1431655765 : Int32))) &&& (858993459 : Int32)) + ((((v0 - (((v0.toUInt32 >>> ((1 : Int32).toUInt32 &&& Int32.toUInt32 31)).toInt32) &&& (1431655765 : Int32))).toUInt32 >>> ((2 : Int32).toUInt32 &&& Int32.toUInt32 31)).toInt32) &&& (858993459 : Int32))).toUInt32 >>> ((4 : Int32).toUInt32 &&& Int32.toUInt32 31)).toInt32)) &&& (252645135 : Int32)).toUInt32 >>> ((8 : Int32).toUInt32 &&& Int32.toUInt32 31)).toInt32)).toUInt32 >>> ((16 : Int32).toUInt32 &&& Int32.toUInt32 31)).toInt32)) rfl ?_
  refine g_iadd (pc := 46) dJ6_bitCount_0f7a4_46 rfl ?_
  refine g_istore_n (pc := 47) dJ6_bitCount_0f7a4_47 (Nat.le_of_ble_eq_true rfl) (L' := [some (.int (((((((v0 - (((v0.toUInt32 >>> ((1 : Int32).toUInt32 &&& Int32.toUInt32 31)).toInt32) &&& (1431655765 : Int32))) &&& (858993459 : Int32)) + ((((v0 - (((v0.toUInt32 >>> ((1 : Int32).toUInt32 &&& Int32.toUInt32 31)).toInt32) &&& (1431655765 : Int32))).toUInt32 >>> ((2 : Int32).toUInt32 &&& Int32.toUInt32 31)).toInt32) &&& (858993459 : Int32))) + (((((v0 - (((v0.toUInt32 >>> ((1 : Int32).toUInt32 &&& Int32.toUInt32 31)).toInt32) &&& (1431655765 : Int32))) &&& (858993459 : Int32)) + ((((v0 - (((v0.toUInt32 >>> ((1 : Int32).toUInt32 &&& Int32.toUInt32 31)).toInt32) &&& (1431655765 : Int32))).toUInt32 >>> ((2 : Int32).toUInt32 &&& Int32.toUInt32 31)).toInt32) &&& (858993459 : Int32))).toUInt32 >>> ((4 : Int32).toUInt32 &&& Int32.toUInt32 31)).toInt32)) &&& (252645135 : Int32)) + (((((((v0 - (((v0.toUInt32 >>> ((1 : Int32).toUInt32 &&& Int32.toUInt32 31)).toInt32) &&& (1431655765 : Int32))) &&& (858993459 : Int32)) + ((((v0 - (((v0.toUInt32 >>> ((1 : Int32).toUInt32 &&& Int32.toUInt32 31)).toInt32) &&& (1431655765 : Int32))).toUInt32 >>> ((2 : Int32).toUInt32 &&& Int32.toUInt32 31)).toInt32) &&& (858993459 : Int32))) + (((((v0 - (((v0.toUInt32 >>> ((1 : Int32).toUInt32 &&& Int32.toUInt32 31)).toInt32) &&& (1431655765 : Int32))) &&& (858993459 : Int32)) + ((((v0 - (((v0.toUInt32 >>> ((1 : Int32).toUInt32 &&& Int32.toUInt32 31)).toInt32) &&& (1431655765 : Int32))).toUInt32 >>> ((2 : Int32).toUInt32 &&& Int32.toUInt32 31)).toInt32) &&& (858993459 : Int32))).toUInt32 >>> ((4 : Int32).toUInt32 &&& Int32.toUInt32 31)).toInt32)) &&& (252645135 : Int32)).toUInt32 >>> ((8 : Int32).toUInt32 &&& Int32.toUInt32 31)).toInt32)) + ((((((((v0 - (((v0.toUInt32 >>> ((1 : Int32).toUInt32 &&& Int32.toUInt32 31)).toInt32) &&& (1431655765 : Int32))) &&& (858993459 : Int32)) + ((((v0 - (((v0.toUInt32 >>> ((1 : Int32).toUInt32 &&& Int32.toUInt32 31)).toInt32) &&& (1431655765 : Int32))).toUInt32 >>> ((2 : Int32).toUInt32 &&& Int32.toUInt32 31)).toInt32) &&& (858993459 : Int32))) + (((((v0 - (((v0.toUInt32 >>> ((1 : Int32).toUInt32 &&& Int32.toUInt32 31)).toInt32) &&& (1431655765 : Int32))) &&& (858993459 : Int32)) + ((((v0 - (((v0.toUInt32 >>> ((1 : Int32).toUInt32 &&& Int32.toUInt32 31)).toInt32) &&& (1431655765 : Int32))).toUInt32 >>> ((2 : Int32).toUInt32 &&& Int32.toUInt32 31)).toInt32) &&& (858993459 : Int32))).toUInt32 >>> ((4 : Int32).toUInt32 &&& Int32.toUInt32 31)).toInt32)) &&& (252645135 : Int32)) + (((((((v0 - (((v0.toUInt32 >>> ((1 : Int32).toUInt32 &&& Int32.toUInt32 31)).toInt32) &&& (1431655765 : Int32))) &&& (858993459 : Int32)) + ((((v0 - (((v0.toUInt32 >>> ((1 : Int32).toUInt32 &&& Int32.toUInt32 31)).toInt32) &&& (1431655765 : Int32))).toUInt32 >>> ((2 : Int32).toUInt32 &&& Int32.toUInt32 31)).toInt32) &&& (858993459 : Int32))) + (((((v0 - (((v0.toUInt32 >>> ((1 : Int32).toUInt32 &&& Int32.toUInt32 31)).toInt32) &&& (1431655765 : Int32))) &&& (858993459 : Int32)) + ((((v0 - (((v0.toUInt32 >>> ((1 : Int32).toUInt32 &&& Int32.toUInt32 31)).toInt32) &&& (1431655765 : Int32))).toUInt32 >>> ((2 : Int32).toUInt32 &&& Int32.toUInt32 31)).toInt32) &&& (858993459 : Int32))).toUInt32 >>> ((4 : Int32).toUInt32 &&& Int32.toUInt32 31)).toInt32)) &&& (252645135 : Int32)).toUInt32 >>> ((8 : Int32).toUInt32 &&& Int32.toUInt32 31)).toInt32)).toUInt32 >>> ((16 : Int32).toUInt32 &&& Int32.toUInt32 31)).toInt32)))]) rfl ?_
  refine g_iload_n (pc := 48) dJ6_bitCount_0f7a4_48 rfl ?_
  refine g_bipush (pc := 49) dJ6_bitCount_0f7a4_49 bp_63 ?_
  refine g_iand (pc := 51) dJ6_bitCount_0f7a4_51 rfl ?_
  subst h
  exact g_iret (pc := 52) dJ6_bitCount_0f7a4_52 rfl rfl rfl (Nat.le_refl _) (Nat.le_refl _)
set_option maxRecDepth 100000 in
set_option maxHeartbeats 4000000 in
theorem M_J6_bitCount_0f7a4 {sc : Nat × (Nat → Int32)} {d : Nat} (hd : 0 ≤ d) {r : Int32} {u : xS} {a0 : Int32} (h : f_J6_bitCount_0f7a4 a0 = r) : xMt sc mJ6_bitCount_0f7a4 d 0 0 [.int a0] (xL0, u) (some (.int r)) (xL0, u) :=
  xMt.of (by decide +kernel) (Nat.le_of_ble_eq_true rfl) (L := [some (.int a0)]) rfl ((G_J6_bitCount_0f7a4_0 hd a0 h))
set_option maxRecDepth 100000 in
set_option maxHeartbeats 4000000 in
theorem G_X4_given_53 {sc : Nat × (Nat → Int32)} {d : Nat} (hd : 0 ≤ d) {r : Int32} {u : xS} (h : f_X4_given_53 u = some r) : xG sc mX4_given d 0 0 (xR (some (.int r)) (xL0, u) 0 0) 0 0 53 [none, none, none, none, none] [] (xL0, u) := by
  rw [f_X4_given_53] at h
  refine g_bipush (pc := 53) dX4_given_53 bp_m2 ?_
  refine g_goto (tgt := 76) (pc := 55) dX4_given_55 (by decide) ?_
  cases h
  exact g_iret (pc := 76) dX4_given_76 rfl rfl rfl (Nat.le_refl _) (Nat.le_refl _)
set_option maxRecDepth 100000 in
set_option maxHeartbeats 4000000 in
theorem G_X4_given_40 {sc : Nat × (Nat → Int32)} {d : Nat} (hd : 0 ≤ d) {r : Int32} {u : xS} (v2 : Int32) (v3 : Int32) (s0 : Int32) (h : f_X4_given_40 u v2 v3 s0 = some r) : xG sc mX4_given d 0 0 (xR (some (.int r)) (xL0, u) 0 0) 0 0 40 [some (.ref 121), none, some (.int v2), some (.int v3), none] [.int s0] (xL0, u) := by
  rw [f_X4_given_40] at h
  refine g_istore (pc := 40) dX4_given_40 (Nat.le_of_ble_eq_true rfl) (L' := [some (.ref 121), none, some (.int v2), some (.int v3), some (.int s0)]) rfl ?_
  refine g_iload_n (pc := 42) dX4_given_42 rfl ?_
  refine g_iconst (pc := 43) dX4_given_43 ic_m1 ?_
  refine g_icmp_eq (tgt := 53) (pc := 44) dX4_given_44 (by decide) (fun c1 => ?_) (fun c1 => ?_)
  · replace h := (if_pos c1).symm.trans h
    refine g_L (L' := [none, none, none, none, none]) trivial ?_
    exact G_X4_given_53 hd h
  · replace h := (if_neg c1).symm.trans h
    refine g_iload (pc := 47) dX4_given_47 rfl ?_
    refine g_iconst (pc := 49) dX4_given_49 ic_m1 ?_
    refine g_icmp_ne (tgt := 58) (pc := 50) dX4_given_50 (by decide) (fun c2 => ?_) (fun c2 => ?_)
    · replace h := (if_neg c2).symm.trans h
      refine g_iload_n (pc := 58) dX4_given_58 rfl ?_
      refine g_aload_n (pc := 59) dX4_given_59 rfl ?_
      refine g_gR (pc := 60) dX4_given_60 fR_RX4_23 xc_121 (v := 129) rfl ?_
      refine g_iload_n (pc := 63) dX4_given_63 rfl ?_
      obtain ⟨g3, h⟩ := x_gd h
      refine g_iaload (pc := 64) dX4_given_64 xc_129 (xin_of g3) (v := (rd u 129 v2.toNatClampNeg)) rfl ?_
      refine g_imul (pc := 65) dX4_given_65 rfl ?_
      refine g_iload (pc := 66) dX4_given_66 rfl ?_
      refine g_aload_n (pc := 68) dX4_given_68 rfl ?_
      refine g_gR (pc := 69) dX4_given_69 fR_RX4_29 xc_121 (v := 131) rfl ?_
      refine g_iload_n (pc := 72) dX4_given_72 rfl ?_
      refine g_iaload (pc := 73) dX4_given_73 xc_131 (xin_of g3) (v := (rd u 131 v2.toNatClampNeg)) rfl ?_
      refine g_imul (pc := 74) dX4_given_74 rfl ?_
      refine g_iadd (pc := 75) dX4_given_75 rfl ?_
      cases h
      exact g_iret (pc := 76) dX4_given_76 rfl rfl rfl (Nat.le_refl _) (Nat.le_refl _)
    · replace h := (if_pos c2).symm.trans h
      refine g_L (L' := [none, none, none, none, none]) trivial ?_
      exact G_X4_given_53 hd h
set_option maxRecDepth 100000 in
set_option maxHeartbeats 4000000 in
theorem G_X4_given_0 {sc : Nat × (Nat → Int32)} {d : Nat} (hd : 0 ≤ d) {r : Int32} {u : xS} (v1 : Int32) (v2 : Int32) (h : f_X4_given u v1 v2 = some r) : xG sc mX4_given d 0 0 (xR (some (.int r)) (xL0, u) 0 0) 0 0 0 [some (.ref 121), some (.int v1), some (.int v2), none, none] [] (xL0, u) := by
  rw [f_X4_given] at h
  refine g_aload_n (pc := 0) dX4_given_0 rfl ?_
  refine g_gR (pc := 1) dX4_given_1 fR_RX4_11 xc_121 (v := 122) rfl ?_
  refine g_iload_n (pc := 4) dX4_given_4 rfl ?_
  obtain ⟨g1, h⟩ := x_gd h
  refine g_aaload (pc := 5) dX4_given_5 xc_122 (xin_of g1) (v := (123 + v1.toNatClampNeg)) (xrf_122 _ (xin_lt g1)) ?_
  refine g_aload_n (pc := 6) dX4_given_6 rfl ?_
  refine g_gR (pc := 7) dX4_given_7 fR_RX4_20 xc_121 (v := 128) rfl ?_
  refine g_iload_n (pc := 10) dX4_given_10 rfl ?_
  obtain ⟨g2, h⟩ := x_gd h
  refine g_iaload (pc := 11) dX4_given_11 xc_128 (xin_of g2) (v := (rd u 128 v2.toNatClampNeg)) rfl ?_
  obtain ⟨g3, h⟩ := x_gd h
  refine g_iaload (pc := 12) dX4_given_12 (xrow_122 _ (xin_lt g1)) (xin_of g3) (v := (rd u (123 + v1.toNatClampNeg) (rd u 128 v2.toNatClampNeg).toNatClampNeg)) rfl ?_
  refine g_istore_n (pc := 13) dX4_given_13 (Nat.le_of_ble_eq_true rfl) (L' := [some (.ref 121), some (.int v1), some (.int v2), some (.int (rd u (123 + v1.toNatClampNeg) (rd u 128 v2.toNatClampNeg).toNatClampNeg)), none]) rfl ?_
  refine g_aload_n (pc := 14) dX4_given_14 rfl ?_
  refine g_gR (pc := 15) dX4_given_15 fR_RX4_29 xc_121 (v := 131) rfl ?_
  refine g_iload_n (pc := 18) dX4_given_18 rfl ?_
  refine g_iaload (pc := 19) dX4_given_19 xc_131 (xin_of g2) (v := (rd u 131 v2.toNatClampNeg)) rfl ?_
  refine g_if_ne (tgt := 27) (pc := 20) dX4_given_20 (by decide) (fun c4 => ?_) (fun c4 => ?_)
  · replace h := (if_neg c4).symm.trans h
    refine g_aload_n (pc := 27) dX4_given_27 rfl ?_
    refine g_gR (pc := 28) dX4_given_28 fR_RX4_11 xc_121 (v := 122) rfl ?_
    refine g_iload_n (pc := 31) dX4_given_31 rfl ?_
    refine g_aaload (pc := 32) dX4_given_32 xc_122 (xin_of g1) (v := (123 + v1.toNatClampNeg)) (xrf_122 _ (xin_lt g1)) ?_
    refine g_aload_n (pc := 33) dX4_given_33 rfl ?_
    refine g_gR (pc := 34) dX4_given_34 fR_RX4_26 xc_121 (v := 130) rfl ?_
    refine g_iload_n (pc := 37) dX4_given_37 rfl ?_
    refine g_iaload (pc := 38) dX4_given_38 xc_130 (xin_of g2) (v := (rd u 130 v2.toNatClampNeg)) rfl ?_
    obtain ⟨g5, h⟩ := x_gd h
    refine g_iaload (pc := 39) dX4_given_39 (xrow_122 _ (xin_lt g1)) (xin_of g5) (v := (rd u (123 + v1.toNatClampNeg) (rd u 130 v2.toNatClampNeg).toNatClampNeg)) rfl ?_
    refine g_L (L' := [some (.ref 121), none, some (.int v2), some (.int (rd u (123 + v1.toNatClampNeg) (rd u 128 v2.toNatClampNeg).toNatClampNeg)), none]) ⟨rfl, ⟨rfl, ⟨rfl, trivial⟩⟩⟩ ?_
    exact G_X4_given_40 hd v2 (rd u (123 + v1.toNatClampNeg) (rd u 128 v2.toNatClampNeg).toNatClampNeg) (rd u (123 + v1.toNatClampNeg) (rd u 130 v2.toNatClampNeg).toNatClampNeg) h
  · replace h := (if_pos c4).symm.trans h
    refine g_iconst (pc := 23) dX4_given_23 ic_0 ?_
    refine g_goto (tgt := 40) (pc := 24) dX4_given_24 (by decide) ?_
    refine g_L (L' := [some (.ref 121), none, some (.int v2), some (.int (rd u (123 + v1.toNatClampNeg) (rd u 128 v2.toNatClampNeg).toNatClampNeg)), none]) ⟨rfl, ⟨rfl, ⟨rfl, trivial⟩⟩⟩ ?_
    exact G_X4_given_40 hd v2 (rd u (123 + v1.toNatClampNeg) (rd u 128 v2.toNatClampNeg).toNatClampNeg) (0 : Int32) h
set_option maxRecDepth 100000 in
set_option maxHeartbeats 4000000 in
theorem M_X4_given {sc : Nat × (Nat → Int32)} {d : Nat} (hd : 0 ≤ d) {r : Int32} {u : xS} {a1 : Int32} {a2 : Int32} (h : f_X4_given u a1 a2 = some r) : xMt sc mX4_given d 0 0 [.ref 121, .int a1, .int a2] (xL0, u) (some (.int r)) (xL0, u) :=
  xMt.of (by decide +kernel) (Nat.le_of_ble_eq_true rfl) (L := [some (.ref 121), some (.int a1), some (.int a2), none, none]) rfl ((G_X4_given_0 hd a1 a2 h))
set_option maxRecDepth 100000 in
set_option maxHeartbeats 4000000 in
theorem G_X4_weigh_126 {sc : Nat × (Nat → Int32)} {d : Nat} (hd : 1 ≤ d) {u' : xS} {k45 : Int32 → Int32 → Int32 → Int64 → Int32 → Int32 → xS → Option xS} (hk45 : ∀ (v1 : Int32) (v2 : Int32) (v3 : Int32) (v4 : Int64) (v6 : Int32) (v7 : Int32) (u : xS), k45 v1 v2 v3 v4 v6 v7 u = some u' → xG sc mX4_weigh d 0 0 (xR none (xL0, u') 0 0) 0 0 45 [some (.ref 121), some (.int v1), some (.int v2), some (.int v3), some (.long v4), none, some (.int v6), some (.int v7), none] [] (xL0, u)) {k9 : Int32 → Int32 → xS → Option xS} (hk9 : ∀ (v1 : Int32) (v2 : Int32) (u : xS), k9 v1 v2 u = some u' → xG sc mX4_weigh d 0 0 (xR none (xL0, u') 0 0) 0 0 9 [some (.ref 121), some (.int v1), some (.int v2), none, none, none, none, none, none] [] (xL0, u)) (v1 : Int32) (v2 : Int32) (v3 : Int32) (v4 : Int64) (v6 : Int32) (v7 : Int32) (s1 : Int32) (s2 : Int64) (u : xS) (h : f_X4_weigh_126 k45 k9 v1 v2 v3 v4 v6 v7 s1 s2 u = some u') : xG sc mX4_weigh d 0 0 (xR none (xL0, u') 0 0) 0 0 126 [some (.ref 121), some (.int v1), some (.int v2), some (.int v3), some (.long v4), none, some (.int v6), some (.int v7), none] [.long s2, .int s1, .ref 132] (xL0, u) := by
  rw [f_X4_weigh_126] at h
  obtain ⟨g1, h⟩ := x_gd h
  refine g_lastore (pc := 126) dX4_weigh_126 xc_132 (xin_of g1) (u' := (wl u 132 s1.toNatClampNeg s2)) rfl ?_
  refine g_inc (pc := 127) dX4_weigh_127 (Nat.le_of_ble_eq_true rfl) rfl ic_1 (L' := [some (.ref 121), some (.int v1), some (.int v2), some (.int v3), some (.long v4), none, some (.int v6), some (.int (v7 + (1 : Int32))), none]) rfl ?_
  refine g_goto (tgt := 45) (pc := 130) dX4_weigh_130 (by decide) ?_
  exact hk45 v1 v2 v3 v4 v6 (v7 + (1 : Int32)) (wl u 132 s1.toNatClampNeg s2) h
set_option maxRecDepth 100000 in
set_option maxHeartbeats 4000000 in
theorem G_X4_weigh_87 {sc : Nat × (Nat → Int32)} {d : Nat} (hd : 1 ≤ d) {u' : xS} {k45 : Int32 → Int32 → Int32 → Int64 → Int32 → Int32 → xS → Option xS} (hk45 : ∀ (v1 : Int32) (v2 : Int32) (v3 : Int32) (v4 : Int64) (v6 : Int32) (v7 : Int32) (u : xS), k45 v1 v2 v3 v4 v6 v7 u = some u' → xG sc mX4_weigh d 0 0 (xR none (xL0, u') 0 0) 0 0 45 [some (.ref 121), some (.int v1), some (.int v2), some (.int v3), some (.long v4), none, some (.int v6), some (.int v7), none] [] (xL0, u)) {k9 : Int32 → Int32 → xS → Option xS} (hk9 : ∀ (v1 : Int32) (v2 : Int32) (u : xS), k9 v1 v2 u = some u' → xG sc mX4_weigh d 0 0 (xR none (xL0, u') 0 0) 0 0 9 [some (.ref 121), some (.int v1), some (.int v2), none, none, none, none, none, none] [] (xL0, u)) (v1 : Int32) (v2 : Int32) (v3 : Int32) (v4 : Int64) (v6 : Int32) (v7 : Int32) (s0 : Int32) (u : xS) (h : f_X4_weigh_87 k45 k9 v1 v2 v3 v4 v6 v7 s0 u = some u') : xG sc mX4_weigh d 0 0 (xR none (xL0, u') 0 0) 0 0 87 [some (.ref 121), some (.int v1), some (.int v2), some (.int v3), some (.long v4), none, some (.int v6), some (.int v7), none] [.int s0] (xL0, u) := by
  rw [f_X4_weigh_87] at h
  refine g_istore (pc := 87) dX4_weigh_87 (Nat.le_of_ble_eq_true rfl) (L' := [some (.ref 121), some (.int v1), some (.int v2), some (.int v3), some (.long v4), none, some (.int v6), some (.int v7), some (.int s0)]) rfl ?_
  refine g_aload_n (pc := 89) dX4_weigh_89 rfl ?_
  refine g_gR (pc := 90) dX4_weigh_90 fR_RX4_36 xc_121 (v := 132) rfl ?_
  refine g_iload (pc := 93) dX4_weigh_93 rfl ?_
  refine g_iload (pc := 95) dX4_weigh_95 rfl ?_
  refine g_iadd (pc := 97) dX4_weigh_97 rfl ?_
  refine g_iload (pc := 98) dX4_weigh_98 rfl ?_
  refine g_if_eq (tgt := 123) (pc := 100) dX4_weigh_100 (by decide) (fun c1 => ?_) (fun c1 => ?_)
  · replace h := (if_pos c1).symm.trans h
    refine g_ldc2 (pc := 123) dX4_weigh_123 kl_RX4_72 ?_
    refine g_L (L' := [some (.ref 121), some (.int v1), some (.int v2), some (.int v3), some (.long v4), none, some (.int v6), some (.int v7), none]) ⟨rfl, ⟨rfl, ⟨rfl, ⟨rfl, ⟨rfl, ⟨rfl, ⟨rfl, trivial⟩⟩⟩⟩⟩⟩⟩ ?_
    exact G_X4_weigh_126 hd hk45 hk9 v1 v2 v3 v4 v6 v7 (v6 + v7) (-1 : Int64) u h
  · replace h := (if_neg c1).symm.trans h
    refine g_aload_n (pc := 103) dX4_weigh_103 rfl ?_
    refine g_gR (pc := 104) dX4_weigh_104 fR_RX4_36 xc_121 (v := 132) rfl ?_
    refine g_iload (pc := 107) dX4_weigh_107 rfl ?_
    obtain ⟨g2, h⟩ := x_gd h
    refine g_laload (pc := 109) dX4_weigh_109 xc_132 (xin_of g2) (v := (rl u 132 v7.toNatClampNeg)) rfl ?_
    refine g_iload_n (pc := 110) dX4_weigh_110 rfl ?_
    refine g_i2l (pc := 111) dX4_weigh_111 rfl ?_
    refine g_ldc2 (pc := 112) dX4_weigh_112 kl_RX4_70 ?_
    refine g_lmul (pc := 115) dX4_weigh_115 rfl ?_
    refine g_ladd (pc := 116) dX4_weigh_116 rfl ?_
    refine g_lload (pc := 117) dX4_weigh_117 rfl ?_
    refine g_ladd (pc := 119) dX4_weigh_119 rfl ?_
    refine g_goto (tgt := 126) (pc := 120) dX4_weigh_120 (by decide) ?_
    refine g_L (L' := [some (.ref 121), some (.int v1), some (.int v2), some (.int v3), some (.long v4), none, some (.int v6), some (.int v7), none]) ⟨rfl, ⟨rfl, ⟨rfl, ⟨rfl, ⟨rfl, ⟨rfl, ⟨rfl, trivial⟩⟩⟩⟩⟩⟩⟩ ?_
    exact G_X4_weigh_126 hd hk45 hk9 v1 v2 v3 v4 v6 v7 (v6 + v7) (((rl u 132 v7.toNatClampNeg) + (((v3).toInt64) * (390625 : Int64))) + v4) u h
set_option maxRecDepth 100000 in
set_option maxHeartbeats 4000000 in
theorem G_X4_weigh_86 {sc : Nat × (Nat → Int32)} {d : Nat} (hd : 1 ≤ d) {u' : xS} {k45 : Int32 → Int32 → Int32 → Int64 → Int32 → Int32 → xS → Option xS} (hk45 : ∀ (v1 : Int32) (v2 : Int32) (v3 : Int32) (v4 : Int64) (v6 : Int32) (v7 : Int32) (u : xS), k45 v1 v2 v3 v4 v6 v7 u = some u' → xG sc mX4_weigh d 0 0 (xR none (xL0, u') 0 0) 0 0 45 [some (.ref 121), some (.int v1), some (.int v2), some (.int v3), some (.long v4), none, some (.int v6), some (.int v7), none] [] (xL0, u)) {k9 : Int32 → Int32 → xS → Option xS} (hk9 : ∀ (v1 : Int32) (v2 : Int32) (u : xS), k9 v1 v2 u = some u' → xG sc mX4_weigh d 0 0 (xR none (xL0, u') 0 0) 0 0 9 [some (.ref 121), some (.int v1), some (.int v2), none, none, none, none, none, none] [] (xL0, u)) (v1 : Int32) (v2 : Int32) (v3 : Int32) (v4 : Int64) (v6 : Int32) (v7 : Int32) (u : xS) (h : f_X4_weigh_86 k45 k9 v1 v2 v3 v4 v6 v7 u = some u') : xG sc mX4_weigh d 0 0 (xR none (xL0, u') 0 0) 0 0 86 [some (.ref 121), some (.int v1), some (.int v2), some (.int v3), some (.long v4), none, some (.int v6), some (.int v7), none] [] (xL0, u) := by
  rw [f_X4_weigh_86] at h
  refine g_iconst (pc := 86) dX4_weigh_86 ic_0 ?_
  exact G_X4_weigh_87 hd hk45 hk9 v1 v2 v3 v4 v6 v7 (0 : Int32) u h
set_option maxRecDepth 100000 in
set_option maxHeartbeats 4000000 in
theorem G_X4_weigh_45 {sc : Nat × (Nat → Int32)} {d : Nat} (hd : 1 ≤ d) {u' : xS} {k9 : Int32 → Int32 → xS → Option xS} (hk9 : ∀ (v1 : Int32) (v2 : Int32) (u : xS), k9 v1 v2 u = some u' → xG sc mX4_weigh d 0 0 (xR none (xL0, u') 0 0) 0 0 9 [some (.ref 121), some (.int v1), some (.int v2), none, none, none, none, none, none] [] (xL0, u)) : ∀ (n : Nat) (v1 : Int32) (v2 : Int32) (v3 : Int32) (v4 : Int64) (v6 : Int32) (v7 : Int32) (u : xS), f_X4_weigh_45 k9 n v1 v2 v3 v4 v6 v7 u = some u' → xG sc mX4_weigh d 0 0 (xR none (xL0, u') 0 0) 0 0 45 [some (.ref 121), some (.int v1), some (.int v2), some (.int v3), some (.long v4), none, some (.int v6), some (.int v7), none] [] (xL0, u) := by
  intro n
  induction n with
  | zero =>
    intro v1 v2 v3 v4 v6 v7 u h
    rw [f_X4_weigh_45] at h
    cases h
  | succ n ih =>
    intro v1 v2 v3 v4 v6 v7 u h
    rw [f_X4_weigh_45] at h
    refine g_iload (pc := 45) dX4_weigh_45 rfl ?_
    refine g_iload (pc := 47) dX4_weigh_47 rfl ?_
    refine g_icmp_ge (tgt := 133) (pc := 49) dX4_weigh_49 (by decide) (fun c1 => ?_) (fun c1 => ?_)
    · replace h := (if_pos c1).symm.trans h
      refine g_inc (pc := 133) dX4_weigh_133 (Nat.le_of_ble_eq_true rfl) rfl ic_1 (L' := [some (.ref 121), some (.int v1), some (.int (v2 + (1 : Int32))), some (.int v3), some (.long v4), none, some (.int v6), some (.int v7), none]) rfl ?_
      refine g_goto (tgt := 9) (pc := 136) dX4_weigh_136 (by decide) ?_
      refine g_L (L' := [some (.ref 121), some (.int v1), some (.int (v2 + (1 : Int32))), none, none, none, none, none, none]) ⟨rfl, ⟨rfl, ⟨rfl, trivial⟩⟩⟩ ?_
      exact hk9 v1 (v2 + (1 : Int32)) u h
    · replace h := (if_neg c1).symm.trans h
      refine g_iload_n (pc := 52) dX4_weigh_52 rfl ?_
      refine g_if_lt (tgt := 86) (pc := 53) dX4_weigh_53 (by decide) (fun c2 => ?_) (fun c2 => ?_)
      · replace h := (if_pos c2).symm.trans h
        exact G_X4_weigh_86 hd ih hk9 v1 v2 v3 v4 v6 v7 u h
      · replace h := (if_neg c2).symm.trans h
        refine g_aload_n (pc := 56) dX4_weigh_56 rfl ?_
        refine g_gR (pc := 57) dX4_weigh_57 fR_RX4_36 xc_121 (v := 132) rfl ?_
        refine g_iload (pc := 60) dX4_weigh_60 rfl ?_
        obtain ⟨g3, h⟩ := x_gd h
        refine g_laload (pc := 62) dX4_weigh_62 xc_132 (xin_of g3) (v := (rl u 132 v7.toNatClampNeg)) rfl ?_
        refine g_lconst (v := (0 : Int64)) (pc := 63) dX4_weigh_63 rfl ?_
        refine g_lcmp (pc := 64) dX4_weigh_64 rfl ?_
        refine g_if_lt (tgt := 86) (pc := 65) dX4_weigh_65 (by decide) (fun c4 => ?_) (fun c4 => ?_)
        · replace h := (if_pos c4).symm.trans h
          exact G_X4_weigh_86 hd ih hk9 v1 v2 v3 v4 v6 v7 u h
        · replace h := (if_neg c4).symm.trans h
          refine g_iload (pc := 68) dX4_weigh_68 rfl ?_
          refine g_cS (pc := 70) dX4_weigh_70 cS_RX4_64 (M_J6_bitCount_0f7a4 (Nat.le_refl _) rfl) (as := [.int v7]) (st := []) rfl rfl (Nat.le_of_ble_eq_true rfl) (Nat.le_trans (Nat.le_of_ble_eq_true rfl) hd) rfl ?_
          refine g_aload_n (pc := 73) dX4_weigh_73 rfl ?_
          refine g_gR (pc := 74) dX4_weigh_74 fR_RX4_16 xc_121 (v := 127) rfl ?_
          refine g_iload_n (pc := 77) dX4_weigh_77 rfl ?_
          obtain ⟨g5, h⟩ := x_gd h
          refine g_iaload (pc := 78) dX4_weigh_78 xc_127 (xin_of g5) (v := (rd u 127 v1.toNatClampNeg)) rfl ?_
          refine g_icmp_ge (tgt := 86) (pc := 79) dX4_weigh_79 (by decide) (fun c6 => ?_) (fun c6 => ?_)
          · replace h := (if_pos c6).symm.trans h
            exact G_X4_weigh_86 hd ih hk9 v1 v2 v3 v4 v6 v7 u h
          · replace h := (if_neg c6).symm.trans h
            refine g_iconst (pc := 82) dX4_weigh_82 ic_1 ?_
            refine g_goto (tgt := 87) (pc := 83) dX4_weigh_83 (by decide) ?_
            exact G_X4_weigh_87 hd ih hk9 v1 v2 v3 v4 v6 v7 (1 : Int32) u h
set_option maxRecDepth 100000 in
set_option maxHeartbeats 4000000 in
theorem G_X4_weigh_9 {sc : Nat × (Nat → Int32)} {d : Nat} (hd : 1 ≤ d) {u' : xS} : ∀ (n : Nat) (v1 : Int32) (v2 : Int32) (u : xS), f_X4_weigh_9 n v1 v2 u = some u' → xG sc mX4_weigh d 0 0 (xR none (xL0, u') 0 0) 0 0 9 [some (.ref 121), some (.int v1), some (.int v2), none, none, none, none, none, none] [] (xL0, u) := by
  intro n
  induction n with
  | zero =>
    intro v1 v2 u h
    rw [f_X4_weigh_9] at h
    cases h
  | succ n ih =>
    intro v1 v2 u h
    rw [f_X4_weigh_9] at h
    refine g_iload_n (pc := 9) dX4_weigh_9 rfl ?_
    refine g_aload_n (pc := 10) dX4_weigh_10 rfl ?_
    refine g_gI (pc := 11) dX4_weigh_11 fI_RX4_32 xc_121 (v := (rd u 121 6)) rfl ?_
    refine g_icmp_ge (tgt := 139) (pc := 14) dX4_weigh_14 (by decide) (fun c1 => ?_) (fun c1 => ?_)
    · replace h := (if_pos c1).symm.trans h
      cases h
      exact g_ret (pc := 139) dX4_weigh_139 rfl rfl rfl (Nat.le_refl _) (Nat.le_refl _)
    · replace h := (if_neg c1).symm.trans h
      refine g_aload_n (pc := 17) dX4_weigh_17 rfl ?_
      refine g_iload_n (pc := 18) dX4_weigh_18 rfl ?_
      refine g_iload_n (pc := 19) dX4_weigh_19 rfl ?_
      obtain ⟨x3, e2, h⟩ := x_bind h
      refine g_cV (pc := 20) dX4_weigh_20 cV_RX4_57 (M_X4_given (Nat.le_refl _) e2) xc_121 (as := [.int v1, .int v2]) (st := []) rfl rfl (Nat.le_of_ble_eq_true rfl) (Nat.le_trans (Nat.le_of_ble_eq_true rfl) hd) rfl ?_
      refine g_istore_n (pc := 23) dX4_weigh_23 (Nat.le_of_ble_eq_true rfl) (L' := [some (.ref 121), some (.int v1), some (.int v2), some (.int x3), none, none, none, none, none]) rfl ?_
      refine g_iconst (pc := 24) dX4_weigh_24 ic_4 ?_
      refine g_iload_n (pc := 25) dX4_weigh_25 rfl ?_
      refine g_isub (pc := 26) dX4_weigh_26 rfl ?_
      refine g_i2l (pc := 27) dX4_weigh_27 rfl ?_
      refine g_getsW (pc := 28) dX4_weigh_28 fs_RX4_61 ?_
      refine g_iload_n (pc := 31) dX4_weigh_31 rfl ?_
      obtain ⟨g4, h⟩ := x_gd h
      refine g_wload (pc := 32) dX4_weigh_32 (xin_of g4) rfl ?_
      refine g_i2l (pc := 33) dX4_weigh_33 rfl ?_
      refine g_lmul (pc := 34) dX4_weigh_34 rfl ?_
      refine g_lstore (pc := 35) dX4_weigh_35 (Nat.le_of_ble_eq_true rfl) (Nat.le_of_ble_eq_true rfl) (L' := [some (.ref 121), some (.int v1), some (.int v2), some (.int x3), some (.long ((((4 : Int32) - v1).toInt64) * ((xWt (v2).toNatClampNeg).toInt64))), none, none, none, none]) rfl ?_
      refine g_iconst (pc := 37) dX4_weigh_37 ic_1 ?_
      refine g_iload_n (pc := 38) dX4_weigh_38 rfl ?_
      refine g_ishl (pc := 39) dX4_weigh_39 rfl ?_
      refine g_istore (pc := 40) dX4_weigh_40 (Nat.le_of_ble_eq_true rfl) (L' := [some (.ref 121), some (.int v1), some (.int v2), some (.int x3), some (.long ((((4 : Int32) - v1).toInt64) * ((xWt (v2).toNatClampNeg).toInt64))), none, some (.int ((1 : Int32) <<< (v2 &&& 31))), none, none]) rfl ?_
      refine g_iconst (pc := 42) dX4_weigh_42 ic_0 ?_
      refine g_istore (pc := 43) dX4_weigh_43 (Nat.le_of_ble_eq_true rfl) (L' := [some (.ref 121), some (.int v1), some (.int v2), some (.int x3), some (.long ((((4 : Int32) - v1).toInt64) * ((xWt (v2).toNatClampNeg).toInt64))), none, some (.int ((1 : Int32) <<< (v2 &&& 31))), some (.int (0 : Int32)), none]) rfl ?_
      exact G_X4_weigh_45 hd ih xN v1 v2 x3 ((((4 : Int32) - v1).toInt64) * ((xWt (v2).toNatClampNeg).toInt64)) ((1 : Int32) <<< (v2 &&& 31)) (0 : Int32) u h
set_option maxRecDepth 100000 in
set_option maxHeartbeats 4000000 in
theorem G_X4_weigh_0 {sc : Nat × (Nat → Int32)} {d : Nat} (hd : 1 ≤ d) {u' : xS} (v1 : Int32) (u : xS) (h : f_X4_weigh v1 u = some u') : xG sc mX4_weigh d 0 0 (xR none (xL0, u') 0 0) 0 0 0 [some (.ref 121), some (.int v1), none, none, none, none, none, none, none] [] (xL0, u) := by
  rw [f_X4_weigh] at h
  refine g_aload_n (pc := 0) dX4_weigh_0 rfl ?_
  refine g_gR (pc := 1) dX4_weigh_1 fR_RX4_36 xc_121 (v := 132) rfl ?_
  refine g_iconst (pc := 4) dX4_weigh_4 ic_0 ?_
  refine g_lconst (v := (0 : Int64)) (pc := 5) dX4_weigh_5 rfl ?_
  refine g_lastore (pc := 6) dX4_weigh_6 xc_132 vin_0_256 (u' := (wl u 132 0 (0 : Int64))) rfl ?_
  refine g_iconst (pc := 7) dX4_weigh_7 ic_0 ?_
  refine g_istore_n (pc := 8) dX4_weigh_8 (Nat.le_of_ble_eq_true rfl) (L' := [some (.ref 121), some (.int v1), some (.int (0 : Int32)), none, none, none, none, none, none]) rfl ?_
  exact G_X4_weigh_9 hd xN v1 (0 : Int32) (wl u 132 0 (0 : Int64)) h
set_option maxRecDepth 100000 in
set_option maxHeartbeats 4000000 in
theorem M_X4_weigh {sc : Nat × (Nat → Int32)} {d : Nat} (hd : 1 ≤ d) {u u' : xS} {a1 : Int32} (h : f_X4_weigh a1 u = some u') : xMt sc mX4_weigh d 0 0 [.ref 121, .int a1] (xL0, u) none (xL0, u') :=
  xMt.of (by decide +kernel) (Nat.le_of_ble_eq_true rfl) (L := [some (.ref 121), some (.int a1), none, none, none, none, none, none, none]) rfl ((G_X4_weigh_0 hd a1 u h))
