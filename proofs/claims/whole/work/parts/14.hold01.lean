theorem zb_X12_isDay (v0 : Int32) : f_X12_isDay v0 = 0 ∨ f_X12_isDay v0 = 1 := by
  unfold f_X12_isDay
  (repeat' split) <;> first | exact Or.inl rfl | exact Or.inr rfl | exact zb_X12_in _ _ _
set_option maxRecDepth 100000 in
set_option maxHeartbeats 4000000 in
theorem G_X12_isDay_0 {sc : Nat × (Nat → Int32)} {d : Nat} (hd : 1 ≤ d) {r : Int32} {u : xS} (v0 : Int32) (h : f_X12_isDay v0 = r) : xG sc mX12_isDay d 0 0 (xR (some (.int r)) (xL0, u) 0 0) 0 0 0 [some (.int v0)] [] (xL0, u) := by
  rw [f_X12_isDay] at h
  refine g_iload_n (pc := 0) dX12_isDay_0 rfl ?_
  refine g_i2l (pc := 1) dX12_isDay_1 rfl ?_
  refine g_lconst (v := (0 : Int64)) (pc := 2) dX12_isDay_2 rfl ?_
  refine g_ldc2 (pc := 3) dX12_isDay_3 kl_RX12_160 ?_
  refine g_cS (pc := 6) dX12_isDay_6 cS_RX12_156 (M_X12_in (Nat.le_refl _) rfl) (as := [.long ((v0).toInt64), .long (0 : Int64), .long (99 : Int64)]) (st := []) rfl rfl (Nat.le_of_ble_eq_true rfl) (Nat.le_trans (Nat.le_of_ble_eq_true rfl) hd) rfl ?_
  subst h
  exact g_zret (pc := 9) dX12_isDay_9 rfl (zb_X12_in _ _ _) rfl rfl (Nat.le_refl _) (Nat.le_refl _)
set_option maxRecDepth 100000 in
set_option maxHeartbeats 4000000 in
theorem M_X12_isDay {sc : Nat × (Nat → Int32)} {d : Nat} (hd : 1 ≤ d) {r : Int32} {u : xS} {a0 : Int32} (h : f_X12_isDay a0 = r) : xMt sc mX12_isDay d 0 0 [.int a0] (xL0, u) (some (.int r)) (xL0, u) :=
  xMt.of (by decide +kernel) (Nat.le_of_ble_eq_true rfl) (L := [some (.int a0)]) rfl ((G_X12_isDay_0 hd a0 h))
set_option maxRecDepth 100000 in
set_option maxHeartbeats 4000000 in
theorem G_X12_as_0 {sc : Nat × (Nat → Int32)} {d : Nat} (hd : 2 ≤ d) {r : Int32} {u' : xS} (v1 : Int32) (u : xS) (h : f_X12_as v1 u = some (r, u')) : xG sc mX12_as d 0 0 (xR (some (.int r)) (xL0, u') 0 0) 0 0 0 [some (.ref 135), some (.int v1), none] [] (xL0, u) := by
  rw [f_X12_as] at h
  refine g_aload_n (pc := 0) dX12_as_0 rfl ?_
  refine g_iconst (pc := 1) dX12_as_1 ic_0 ?_
  refine g_pI (pc := 2) dX12_as_2 pI_RX12_150 xc_135 (u' := (wr u 135 0 (0 : Int32))) rfl ?_
  refine g_iload_n (pc := 5) dX12_as_5 rfl ?_
  refine g_cS (pc := 6) dX12_as_6 cS_RX12_226 (M_X12_isDay (Nat.le_refl _) rfl) (as := [.int v1]) (st := []) rfl rfl (Nat.le_of_ble_eq_true rfl) (Nat.le_trans (Nat.le_of_ble_eq_true rfl) hd) rfl ?_
  refine g_if_ne (tgt := 14) (pc := 9) dX12_as_9 (by decide) (fun c1 => ?_) (fun c1 => ?_)
  · replace h := (if_neg c1).symm.trans h
    refine g_aload_n (pc := 14) dX12_as_14 rfl ?_
    refine g_gI (pc := 15) dX12_as_15 fI_RX12_64 xc_135 (v := (rd u 135 24)) rfl ?_
    refine g_istore_n (pc := 18) dX12_as_18 (Nat.le_of_ble_eq_true rfl) (L' := [some (.ref 135), some (.int v1), some (.int (rd u 135 24))]) rfl ?_
    refine g_aload_n (pc := 19) dX12_as_19 rfl ?_
    refine g_iload_n (pc := 20) dX12_as_20 rfl ?_
    refine g_pI (pc := 21) dX12_as_21 pI_RX12_64 xc_135 (u' := (wr (wr u 135 0 (0 : Int32)) 135 24 v1)) rfl ?_
    refine g_iload_n (pc := 24) dX12_as_24 rfl ?_
    cases h
    exact g_iret (pc := 25) dX12_as_25 rfl rfl rfl (Nat.le_refl _) (Nat.le_refl _)
  · replace h := (if_pos c1).symm.trans h
    refine g_iconst (pc := 12) dX12_as_12 ic_m1 ?_
    cases h
    exact g_iret (pc := 13) dX12_as_13 rfl rfl rfl (Nat.le_refl _) (Nat.le_refl _)
set_option maxRecDepth 100000 in
set_option maxHeartbeats 4000000 in
theorem M_X12_as {sc : Nat × (Nat → Int32)} {d : Nat} (hd : 2 ≤ d) {r : Int32} {u u' : xS} {a1 : Int32} (h : f_X12_as a1 u = some (r, u')) : xMt sc mX12_as d 0 0 [.ref 135, .int a1] (xL0, u) (some (.int r)) (xL0, u') :=
  xMt.of (by decide +kernel) (Nat.le_of_ble_eq_true rfl) (L := [some (.ref 135), some (.int a1), none]) rfl ((G_X12_as_0 hd a1 u h))
theorem zb_X12_isSort (u : xS) (v1 : Int32) : f_X12_isSort u v1 = 0 ∨ f_X12_isSort u v1 = 1 := by
  unfold f_X12_isSort
  (repeat' split) <;> first | exact Or.inl rfl | exact Or.inr rfl | exact zb_X12_in _ _ _
set_option maxRecDepth 100000 in
set_option maxHeartbeats 4000000 in
theorem G_X12_isSort_0 {sc : Nat × (Nat → Int32)} {d : Nat} (hd : 1 ≤ d) {r : Int32} {u : xS} (v1 : Int32) (h : f_X12_isSort u v1 = r) : xG sc mX12_isSort d 0 0 (xR (some (.int r)) (xL0, u) 0 0) 0 0 0 [some (.ref 135), some (.int v1)] [] (xL0, u) := by
  rw [f_X12_isSort] at h
  refine g_iload_n (pc := 0) dX12_isSort_0 rfl ?_
  refine g_i2l (pc := 1) dX12_isSort_1 rfl ?_
  refine g_lconst (v := (0 : Int64)) (pc := 2) dX12_isSort_2 rfl ?_
  refine g_aload_n (pc := 3) dX12_isSort_3 rfl ?_
  refine g_gI (pc := 4) dX12_isSort_4 fI_RX12_153 xc_135 (v := (rd u 135 1)) rfl ?_
  refine g_iconst (pc := 7) dX12_isSort_7 ic_1 ?_
  refine g_isub (pc := 8) dX12_isSort_8 rfl ?_
  refine g_i2l (pc := 9) dX12_isSort_9 rfl ?_
  refine g_cS (pc := 10) dX12_isSort_10 cS_RX12_156 (M_X12_in (Nat.le_refl _) rfl) (as := [.long ((v1).toInt64), .long (0 : Int64), .long (((rd u 135 1) - (1 : Int32)).toInt64)]) (st := []) rfl rfl (Nat.le_of_ble_eq_true rfl) (Nat.le_trans (Nat.le_of_ble_eq_true rfl) hd) rfl ?_
  subst h
  exact g_zret (pc := 13) dX12_isSort_13 rfl (zb_X12_in _ _ _) rfl rfl (Nat.le_refl _) (Nat.le_refl _)
set_option maxRecDepth 100000 in
set_option maxHeartbeats 4000000 in
theorem M_X12_isSort {sc : Nat × (Nat → Int32)} {d : Nat} (hd : 1 ≤ d) {r : Int32} {u : xS} {a1 : Int32} (h : f_X12_isSort u a1 = r) : xMt sc mX12_isSort d 0 0 [.ref 135, .int a1] (xL0, u) (some (.int r)) (xL0, u) :=
  xMt.of (by decide +kernel) (Nat.le_of_ble_eq_true rfl) (L := [some (.ref 135), some (.int a1)]) rfl ((G_X12_isSort_0 hd a1 h))
theorem zb_X12_isWeek (v0 : Int32) : f_X12_isWeek v0 = 0 ∨ f_X12_isWeek v0 = 1 := by
  unfold f_X12_isWeek
  (repeat' split) <;> first | exact Or.inl rfl | exact Or.inr rfl | exact zb_X12_in _ _ _
set_option maxRecDepth 100000 in
set_option maxHeartbeats 4000000 in
theorem G_X12_isWeek_0 {sc : Nat × (Nat → Int32)} {d : Nat} (hd : 1 ≤ d) {r : Int32} {u : xS} (v0 : Int32) (h : f_X12_isWeek v0 = r) : xG sc mX12_isWeek d 0 0 (xR (some (.int r)) (xL0, u) 0 0) 0 0 0 [some (.int v0)] [] (xL0, u) := by
  rw [f_X12_isWeek] at h
  refine g_iload_n (pc := 0) dX12_isWeek_0 rfl ?_
  refine g_i2l (pc := 1) dX12_isWeek_1 rfl ?_
  refine g_lconst (v := (0 : Int64)) (pc := 2) dX12_isWeek_2 rfl ?_
  refine g_ldc2 (pc := 3) dX12_isWeek_3 kl_RX12_160 ?_
  refine g_cS (pc := 6) dX12_isWeek_6 cS_RX12_156 (M_X12_in (Nat.le_refl _) rfl) (as := [.long ((v0).toInt64), .long (0 : Int64), .long (99 : Int64)]) (st := []) rfl rfl (Nat.le_of_ble_eq_true rfl) (Nat.le_trans (Nat.le_of_ble_eq_true rfl) hd) rfl ?_
  subst h
  exact g_zret (pc := 9) dX12_isWeek_9 rfl (zb_X12_in _ _ _) rfl rfl (Nat.le_refl _) (Nat.le_refl _)
set_option maxRecDepth 100000 in
set_option maxHeartbeats 4000000 in
theorem M_X12_isWeek {sc : Nat × (Nat → Int32)} {d : Nat} (hd : 1 ≤ d) {r : Int32} {u : xS} {a0 : Int32} (h : f_X12_isWeek a0 = r) : xMt sc mX12_isWeek d 0 0 [.int a0] (xL0, u) (some (.int r)) (xL0, u) :=
  xMt.of (by decide +kernel) (Nat.le_of_ble_eq_true rfl) (L := [some (.int a0)]) rfl ((G_X12_isWeek_0 hd a0 h))
set_option maxRecDepth 100000 in
set_option maxHeartbeats 4000000 in
theorem G_X12_priceOf_59 {sc : Nat × (Nat → Int32)} {d : Nat} (hd : 0 ≤ d) {r : Int32} {u : xS} {k5 : Int32 → Int32 → Int32 → Int32 → Option Int32} (hk5 : ∀ (v1 : Int32) (v2 : Int32) (v3 : Int32) (v4 : Int32), k5 v1 v2 v3 v4 = some r → xG sc mX12_priceOf d 0 0 (xR (some (.int r)) (xL0, u) 0 0) 0 0 5 [some (.ref 135), some (.int v1), some (.int v2), some (.int v3), some (.int v4)] [] (xL0, u)) (v1 : Int32) (v2 : Int32) (v3 : Int32) (v4 : Int32) (h : f_X12_priceOf_59 k5 u v1 v2 v3 v4 = some r) : xG sc mX12_priceOf d 0 0 (xR (some (.int r)) (xL0, u) 0 0) 0 0 59 [some (.ref 135), some (.int v1), some (.int v2), some (.int v3), some (.int v4)] [] (xL0, u) := by
  rw [f_X12_priceOf_59] at h
  refine g_inc (pc := 59) dX12_priceOf_59 (Nat.le_of_ble_eq_true rfl) rfl ic_1 (L' := [some (.ref 135), some (.int v1), some (.int v2), some (.int v3), some (.int (v4 + (1 : Int32)))]) rfl ?_
  refine g_goto (tgt := 5) (pc := 62) dX12_priceOf_62 (by decide) ?_
  exact hk5 v1 v2 v3 (v4 + (1 : Int32)) h
set_option maxRecDepth 100000 in
set_option maxHeartbeats 4000000 in
theorem G_X12_priceOf_56 {sc : Nat × (Nat → Int32)} {d : Nat} (hd : 0 ≤ d) {r : Int32} {u : xS} {k5 : Int32 → Int32 → Int32 → Int32 → Option Int32} (hk5 : ∀ (v1 : Int32) (v2 : Int32) (v3 : Int32) (v4 : Int32), k5 v1 v2 v3 v4 = some r → xG sc mX12_priceOf d 0 0 (xR (some (.int r)) (xL0, u) 0 0) 0 0 5 [some (.ref 135), some (.int v1), some (.int v2), some (.int v3), some (.int v4)] [] (xL0, u)) (v1 : Int32) (v2 : Int32) (v4 : Int32) (h : f_X12_priceOf_56 k5 u v1 v2 v4 = some r) : xG sc mX12_priceOf d 0 0 (xR (some (.int r)) (xL0, u) 0 0) 0 0 56 [some (.ref 135), some (.int v1), some (.int v2), none, some (.int v4)] [] (xL0, u) := by
  rw [f_X12_priceOf_56] at h
  refine g_iload (pc := 56) dX12_priceOf_56 rfl ?_
  refine g_istore_n (pc := 58) dX12_priceOf_58 (Nat.le_of_ble_eq_true rfl) (L' := [some (.ref 135), some (.int v1), some (.int v2), some (.int v4), some (.int v4)]) rfl ?_
  exact G_X12_priceOf_59 hd hk5 v1 v2 v4 v4 h
set_option maxRecDepth 100000 in
set_option maxHeartbeats 4000000 in
theorem G_X12_priceOf_5 {sc : Nat × (Nat → Int32)} {d : Nat} (hd : 0 ≤ d) {r : Int32} {u : xS} : ∀ (n : Nat) (v1 : Int32) (v2 : Int32) (v3 : Int32) (v4 : Int32), f_X12_priceOf_5 u n v1 v2 v3 v4 = some r → xG sc mX12_priceOf d 0 0 (xR (some (.int r)) (xL0, u) 0 0) 0 0 5 [some (.ref 135), some (.int v1), some (.int v2), some (.int v3), some (.int v4)] [] (xL0, u) := by
  intro n
  induction n with
  | zero =>
    intro v1 v2 v3 v4 h
    rw [f_X12_priceOf_5] at h
    cases h
  | succ n ih =>
    intro v1 v2 v3 v4 h
    rw [f_X12_priceOf_5] at h
    refine g_iload (pc := 5) dX12_priceOf_5 rfl ?_
    refine g_aload_n (pc := 7) dX12_priceOf_7 rfl ?_
    refine g_gI (pc := 8) dX12_priceOf_8 fI_RX12_175 xc_135 (v := (rd u 135 3)) rfl ?_
    refine g_icmp_ge (tgt := 65) (pc := 11) dX12_priceOf_11 (by decide) (fun c1 => ?_) (fun c1 => ?_)
    · replace h := (if_pos c1).symm.trans h
      refine g_iload_n (pc := 65) dX12_priceOf_65 rfl ?_
      refine g_if_ge (tgt := 73) (pc := 66) dX12_priceOf_66 (by decide) (fun c2 => ?_) (fun c2 => ?_)
      · replace h := (if_pos c2).symm.trans h
        refine g_aload_n (pc := 73) dX12_priceOf_73 rfl ?_
        refine g_gR (pc := 74) dX12_priceOf_74 fR_RX12_19 xc_135 (v := 139) rfl ?_
        refine g_iload_n (pc := 77) dX12_priceOf_77 rfl ?_
        obtain ⟨g3, h⟩ := x_gd h
        refine g_iaload (pc := 78) dX12_priceOf_78 xc_139 (xin_of g3) (v := (rd u 139 v3.toNatClampNeg)) rfl ?_
        cases h
        exact g_iret (pc := 79) dX12_priceOf_79 rfl rfl rfl (Nat.le_refl _) (Nat.le_refl _)
      · replace h := (if_neg c2).symm.trans h
        refine g_iconst (pc := 69) dX12_priceOf_69 ic_0 ?_
        refine g_goto (tgt := 79) (pc := 70) dX12_priceOf_70 (by decide) ?_
        cases h
        exact g_iret (pc := 79) dX12_priceOf_79 rfl rfl rfl (Nat.le_refl _) (Nat.le_refl _)
    · replace h := (if_neg c1).symm.trans h
      refine g_aload_n (pc := 14) dX12_priceOf_14 rfl ?_
      refine g_gR (pc := 15) dX12_priceOf_15 fR_RX12_13 xc_135 (v := 137) rfl ?_
      refine g_iload (pc := 18) dX12_priceOf_18 rfl ?_
      obtain ⟨g4, h⟩ := x_gd h
      refine g_iaload (pc := 20) dX12_priceOf_20 xc_137 (xin_of g4) (v := (rd u 137 v4.toNatClampNeg)) rfl ?_
      refine g_iload_n (pc := 21) dX12_priceOf_21 rfl ?_
      refine g_icmp_ne (tgt := 59) (pc := 22) dX12_priceOf_22 (by decide) (fun c5 => ?_) (fun c5 => ?_)
      · replace h := (if_neg c5).symm.trans h
        exact G_X12_priceOf_59 hd ih v1 v2 v3 v4 h
      · replace h := (if_pos c5).symm.trans h
        refine g_aload_n (pc := 25) dX12_priceOf_25 rfl ?_
        refine g_gR (pc := 26) dX12_priceOf_26 fR_RX12_16 xc_135 (v := 138) rfl ?_
        refine g_iload (pc := 29) dX12_priceOf_29 rfl ?_
        refine g_iaload (pc := 31) dX12_priceOf_31 xc_138 (xin_of g4) (v := (rd u 138 v4.toNatClampNeg)) rfl ?_
        refine g_iload_n (pc := 32) dX12_priceOf_32 rfl ?_
        refine g_icmp_gt (tgt := 59) (pc := 33) dX12_priceOf_33 (by decide) (fun c6 => ?_) (fun c6 => ?_)
        · replace h := (if_pos c6).symm.trans h
          exact G_X12_priceOf_59 hd ih v1 v2 v3 v4 h
        · replace h := (if_neg c6).symm.trans h
          refine g_iload_n (pc := 36) dX12_priceOf_36 rfl ?_
          refine g_if_lt (tgt := 56) (pc := 37) dX12_priceOf_37 (by decide) (fun c7 => ?_) (fun c7 => ?_)
          · replace h := (if_pos c7).symm.trans h
            refine g_L (L' := [some (.ref 135), some (.int v1), some (.int v2), none, some (.int v4)]) ⟨rfl, ⟨rfl, ⟨rfl, ⟨rfl, trivial⟩⟩⟩⟩ ?_
            exact G_X12_priceOf_56 hd ih v1 v2 v4 h
          · replace h := (if_neg c7).symm.trans h
            refine g_aload_n (pc := 40) dX12_priceOf_40 rfl ?_
            refine g_gR (pc := 41) dX12_priceOf_41 fR_RX12_16 xc_135 (v := 138) rfl ?_
            refine g_iload (pc := 44) dX12_priceOf_44 rfl ?_
            refine g_iaload (pc := 46) dX12_priceOf_46 xc_138 (xin_of g4) (v := (rd u 138 v4.toNatClampNeg)) rfl ?_
            refine g_aload_n (pc := 47) dX12_priceOf_47 rfl ?_
            refine g_gR (pc := 48) dX12_priceOf_48 fR_RX12_16 xc_135 (v := 138) rfl ?_
            refine g_iload_n (pc := 51) dX12_priceOf_51 rfl ?_
            obtain ⟨g8, h⟩ := x_gd h
            refine g_iaload (pc := 52) dX12_priceOf_52 xc_138 (xin_of g8) (v := (rd u 138 v3.toNatClampNeg)) rfl ?_
            refine g_icmp_lt (tgt := 59) (pc := 53) dX12_priceOf_53 (by decide) (fun c9 => ?_) (fun c9 => ?_)
            · replace h := (if_pos c9).symm.trans h
              exact G_X12_priceOf_59 hd ih v1 v2 v3 v4 h
            · replace h := (if_neg c9).symm.trans h
              refine g_L (L' := [some (.ref 135), some (.int v1), some (.int v2), none, some (.int v4)]) ⟨rfl, ⟨rfl, ⟨rfl, ⟨rfl, trivial⟩⟩⟩⟩ ?_
              exact G_X12_priceOf_56 hd ih v1 v2 v4 h
set_option maxRecDepth 100000 in
set_option maxHeartbeats 4000000 in
theorem G_X12_priceOf_0 {sc : Nat × (Nat → Int32)} {d : Nat} (hd : 0 ≤ d) {r : Int32} {u : xS} (v1 : Int32) (v2 : Int32) (h : f_X12_priceOf u v1 v2 = some r) : xG sc mX12_priceOf d 0 0 (xR (some (.int r)) (xL0, u) 0 0) 0 0 0 [some (.ref 135), some (.int v1), some (.int v2), none, none] [] (xL0, u) := by
  rw [f_X12_priceOf] at h
  refine g_iconst (pc := 0) dX12_priceOf_0 ic_m1 ?_
  refine g_istore_n (pc := 1) dX12_priceOf_1 (Nat.le_of_ble_eq_true rfl) (L' := [some (.ref 135), some (.int v1), some (.int v2), some (.int (-1 : Int32)), none]) rfl ?_
  refine g_iconst (pc := 2) dX12_priceOf_2 ic_0 ?_
  refine g_istore (pc := 3) dX12_priceOf_3 (Nat.le_of_ble_eq_true rfl) (L' := [some (.ref 135), some (.int v1), some (.int v2), some (.int (-1 : Int32)), some (.int (0 : Int32))]) rfl ?_
  exact G_X12_priceOf_5 hd xN v1 v2 (-1 : Int32) (0 : Int32) h
set_option maxRecDepth 100000 in
set_option maxHeartbeats 4000000 in
theorem M_X12_priceOf {sc : Nat × (Nat → Int32)} {d : Nat} (hd : 0 ≤ d) {r : Int32} {u : xS} {a1 : Int32} {a2 : Int32} (h : f_X12_priceOf u a1 a2 = some r) : xMt sc mX12_priceOf d 0 0 [.ref 135, .int a1, .int a2] (xL0, u) (some (.int r)) (xL0, u) :=
  xMt.of (by decide +kernel) (Nat.le_of_ble_eq_true rfl) (L := [some (.ref 135), some (.int a1), some (.int a2), none, none]) rfl ((G_X12_priceOf_0 hd a1 a2 h))
set_option maxRecDepth 100000 in
set_option maxHeartbeats 4000000 in
theorem G_X12_at_0 {sc : Nat × (Nat → Int32)} {d : Nat} (hd : 2 ≤ d) {r : Int32} {u' : xS} (v1 : Int32) (v2 : Int32) (u : xS) (h : f_X12_at v1 v2 u = some (r, u')) : xG sc mX12_at d 0 0 (xR (some (.int r)) (xL0, u') 0 0) 0 0 0 [some (.ref 135), some (.int v1), some (.int v2)] [] (xL0, u) := by
  rw [f_X12_at] at h
  refine g_aload_n (pc := 0) dX12_at_0 rfl ?_
  refine g_iconst (pc := 1) dX12_at_1 ic_0 ?_
  refine g_pI (pc := 2) dX12_at_2 pI_RX12_150 xc_135 (u' := (wr u 135 0 (0 : Int32))) rfl ?_
  refine g_aload_n (pc := 5) dX12_at_5 rfl ?_
  refine g_iload_n (pc := 6) dX12_at_6 rfl ?_
  refine g_cV (pc := 7) dX12_at_7 cV_RX12_166 (M_X12_isSort (Nat.le_refl _) rfl) xc_135 (as := [.int v1]) (st := []) rfl rfl (Nat.le_of_ble_eq_true rfl) (Nat.le_trans (Nat.le_of_ble_eq_true rfl) hd) rfl ?_
  refine g_if_eq (tgt := 29) (pc := 10) dX12_at_10 (by decide) (fun c1 => ?_) (fun c1 => ?_)
  · replace h := (if_pos c1).symm.trans h
    refine g_iconst (pc := 29) dX12_at_29 ic_m1 ?_
    cases h
    exact g_iret (pc := 30) dX12_at_30 rfl rfl rfl (Nat.le_refl _) (Nat.le_refl _)
  · replace h := (if_neg c1).symm.trans h
    refine g_iload_n (pc := 13) dX12_at_13 rfl ?_
    refine g_cS (pc := 14) dX12_at_14 cS_RX12_170 (M_X12_isWeek (Nat.le_refl _) rfl) (as := [.int v2]) (st := []) rfl rfl (Nat.le_of_ble_eq_true rfl) (Nat.le_trans (Nat.le_of_ble_eq_true rfl) hd) rfl ?_
    refine g_if_eq (tgt := 29) (pc := 17) dX12_at_17 (by decide) (fun c2 => ?_) (fun c2 => ?_)
    · replace h := (if_pos c2).symm.trans h
      refine g_iconst (pc := 29) dX12_at_29 ic_m1 ?_
      cases h
      exact g_iret (pc := 30) dX12_at_30 rfl rfl rfl (Nat.le_refl _) (Nat.le_refl _)
    · replace h := (if_neg c2).symm.trans h
      refine g_aload_n (pc := 20) dX12_at_20 rfl ?_
      refine g_iload_n (pc := 21) dX12_at_21 rfl ?_
      refine g_iload_n (pc := 22) dX12_at_22 rfl ?_
      obtain ⟨x4, e3, h⟩ := x_bind h
      refine g_cV (pc := 23) dX12_at_23 cV_RX12_178 (M_X12_priceOf (Nat.le_refl _) e3) xc_135 (as := [.int v1, .int v2]) (st := []) rfl rfl (Nat.le_of_ble_eq_true rfl) (Nat.le_trans (Nat.le_of_ble_eq_true rfl) hd) rfl ?_
      refine g_goto (tgt := 30) (pc := 26) dX12_at_26 (by decide) ?_
      cases h
      exact g_iret (pc := 30) dX12_at_30 rfl rfl rfl (Nat.le_refl _) (Nat.le_refl _)
set_option maxRecDepth 100000 in
set_option maxHeartbeats 4000000 in
theorem M_X12_at {sc : Nat × (Nat → Int32)} {d : Nat} (hd : 2 ≤ d) {r : Int32} {u u' : xS} {a1 : Int32} {a2 : Int32} (h : f_X12_at a1 a2 u = some (r, u')) : xMt sc mX12_at d 0 0 [.ref 135, .int a1, .int a2] (xL0, u) (some (.int r)) (xL0, u') :=
  xMt.of (by decide +kernel) (Nat.le_of_ble_eq_true rfl) (L := [some (.ref 135), some (.int a1), some (.int a2)]) rfl ((G_X12_at_0 hd a1 a2 u h))
set_option maxRecDepth 100000 in
set_option maxHeartbeats 4000000 in
theorem G_X12_bale_0 {sc : Nat × (Nat → Int32)} {d : Nat} (hd : 1 ≤ d) {r : Int32} {u' : xS} (v1 : Int32) (v2 : Int32) (v3 : Int32) (v4 : Int32) (u : xS) (h : f_X12_bale v1 v2 v3 v4 u = some (r, u')) : xG sc mX12_bale d 0 0 (xR (some (.int r)) (xL0, u') 0 0) 0 0 0 [some (.ref 135), some (.int v1), some (.int v2), some (.int v3), some (.int v4)] [] (xL0, u) := by
  rw [f_X12_bale] at h
  refine g_aload_n (pc := 0) dX12_bale_0 rfl ?_
  refine g_iconst (pc := 1) dX12_bale_1 ic_0 ?_
  refine g_pI (pc := 2) dX12_bale_2 pI_RX12_150 xc_135 (u' := (wr u 135 0 (0 : Int32))) rfl ?_
  refine g_iload_n (pc := 5) dX12_bale_5 rfl ?_
  refine g_i2l (pc := 6) dX12_bale_6 rfl ?_
  refine g_lconst (v := (0 : Int64)) (pc := 7) dX12_bale_7 rfl ?_
  refine g_ldc2 (pc := 8) dX12_bale_8 kl_RX12_197 ?_
  refine g_cS (pc := 11) dX12_bale_11 cS_RX12_156 (M_X12_in (Nat.le_refl _) rfl) (as := [.long ((v1).toInt64), .long (0 : Int64), .long (3 : Int64)]) (st := []) rfl rfl (Nat.le_of_ble_eq_true rfl) (Nat.le_trans (Nat.le_of_ble_eq_true rfl) hd) rfl ?_
  refine g_if_eq (tgt := 63) (pc := 14) dX12_bale_14 (by decide) (fun c1 => ?_) (fun c1 => ?_)
  · replace h := (if_pos c1).symm.trans h
    refine g_iconst (pc := 63) dX12_bale_63 ic_m1 ?_
    cases h
    exact g_iret (pc := 64) dX12_bale_64 rfl rfl rfl (Nat.le_refl _) (Nat.le_refl _)
  · replace h := (if_neg c1).symm.trans h
    refine g_iload_n (pc := 17) dX12_bale_17 rfl ?_
    refine g_i2l (pc := 18) dX12_bale_18 rfl ?_
    refine g_lconst (v := (0 : Int64)) (pc := 19) dX12_bale_19 rfl ?_
    refine g_ldc2 (pc := 20) dX12_bale_20 kl_RX12_199 ?_
    refine g_cS (pc := 23) dX12_bale_23 cS_RX12_156 (M_X12_in (Nat.le_refl _) rfl) (as := [.long ((v2).toInt64), .long (0 : Int64), .long (7 : Int64)]) (st := []) rfl rfl (Nat.le_of_ble_eq_true rfl) (Nat.le_trans (Nat.le_of_ble_eq_true rfl) hd) rfl ?_
    refine g_if_eq (tgt := 63) (pc := 26) dX12_bale_26 (by decide) (fun c2 => ?_) (fun c2 => ?_)
    · replace h := (if_pos c2).symm.trans h
      refine g_iconst (pc := 63) dX12_bale_63 ic_m1 ?_
      cases h
      exact g_iret (pc := 64) dX12_bale_64 rfl rfl rfl (Nat.le_refl _) (Nat.le_refl _)
    · replace h := (if_neg c2).symm.trans h
      refine g_iload_n (pc := 29) dX12_bale_29 rfl ?_
      refine g_i2l (pc := 30) dX12_bale_30 rfl ?_
      refine g_lconst (v := (1 : Int64)) (pc := 31) dX12_bale_31 rfl ?_
      refine g_ldc2 (pc := 32) dX12_bale_32 kl_RX12_201 ?_
      refine g_cS (pc := 35) dX12_bale_35 cS_RX12_156 (M_X12_in (Nat.le_refl _) rfl) (as := [.long ((v3).toInt64), .long (1 : Int64), .long (9999 : Int64)]) (st := []) rfl rfl (Nat.le_of_ble_eq_true rfl) (Nat.le_trans (Nat.le_of_ble_eq_true rfl) hd) rfl ?_
      refine g_if_eq (tgt := 63) (pc := 38) dX12_bale_38 (by decide) (fun c3 => ?_) (fun c3 => ?_)
      · replace h := (if_pos c3).symm.trans h
        refine g_iconst (pc := 63) dX12_bale_63 ic_m1 ?_
        cases h
        exact g_iret (pc := 64) dX12_bale_64 rfl rfl rfl (Nat.le_refl _) (Nat.le_refl _)
      · replace h := (if_neg c3).symm.trans h
        refine g_iload (pc := 41) dX12_bale_41 rfl ?_
        refine g_i2l (pc := 43) dX12_bale_43 rfl ?_
        refine g_lconst (v := (0 : Int64)) (pc := 44) dX12_bale_44 rfl ?_
        refine g_ldc2 (pc := 45) dX12_bale_45 kl_RX12_173 ?_
        refine g_cS (pc := 48) dX12_bale_48 cS_RX12_156 (M_X12_in (Nat.le_refl _) rfl) (as := [.long ((v4).toInt64), .long (0 : Int64), .long (999 : Int64)]) (st := []) rfl rfl (Nat.le_of_ble_eq_true rfl) (Nat.le_trans (Nat.le_of_ble_eq_true rfl) hd) rfl ?_
        refine g_if_eq (tgt := 63) (pc := 51) dX12_bale_51 (by decide) (fun c4 => ?_) (fun c4 => ?_)
        · replace h := (if_pos c4).symm.trans h
          refine g_iconst (pc := 63) dX12_bale_63 ic_m1 ?_
          cases h
          exact g_iret (pc := 64) dX12_bale_64 rfl rfl rfl (Nat.le_refl _) (Nat.le_refl _)
        · replace h := (if_neg c4).symm.trans h
          refine g_aload_n (pc := 54) dX12_bale_54 rfl ?_
          refine g_gI (pc := 55) dX12_bale_55 fI_RX12_194 xc_135 (v := (rd u 135 7)) rfl ?_
          refine g_bipush (pc := 58) dX12_bale_58 bp_24 ?_
          refine g_icmp_ne (tgt := 65) (pc := 60) dX12_bale_60 (by decide) (fun c5 => ?_) (fun c5 => ?_)
          · replace h := (if_neg c5).symm.trans h
            refine g_aload_n (pc := 65) dX12_bale_65 rfl ?_
            refine g_gR (pc := 66) dX12_bale_66 fR_RX12_22 xc_135 (v := 140) rfl ?_
            refine g_aload_n (pc := 69) dX12_bale_69 rfl ?_
            refine g_gI (pc := 70) dX12_bale_70 fI_RX12_194 xc_135 (v := (rd u 135 7)) rfl ?_
            refine g_iload_n (pc := 73) dX12_bale_73 rfl ?_
            obtain ⟨g6, h⟩ := x_gd h
            refine g_iastore (pc := 74) dX12_bale_74 xc_140 (xin_of g6) (u' := (wr (wr u 135 0 (0 : Int32)) 140 (rd u 135 7).toNatClampNeg v1)) rfl ?_
            refine g_aload_n (pc := 75) dX12_bale_75 rfl ?_
            refine g_gR (pc := 76) dX12_bale_76 fR_RX12_25 xc_135 (v := 141) rfl ?_
            refine g_aload_n (pc := 79) dX12_bale_79 rfl ?_
            refine g_gI (pc := 80) dX12_bale_80 fI_RX12_194 xc_135 (v := (rd u 135 7)) rfl ?_
            refine g_iload_n (pc := 83) dX12_bale_83 rfl ?_
            refine g_iastore (pc := 84) dX12_bale_84 xc_141 (xin_of g6) (u' := (wr (wr (wr u 135 0 (0 : Int32)) 140 (rd u 135 7).toNatClampNeg v1) 141 (rd u 135 7).toNatClampNeg v2)) rfl ?_
            refine g_aload_n (pc := 85) dX12_bale_85 rfl ?_
            refine g_gR (pc := 86) dX12_bale_86 fR_RX12_28 xc_135 (v := 142) rfl ?_
            refine g_aload_n (pc := 89) dX12_bale_89 rfl ?_
            refine g_gI (pc := 90) dX12_bale_90 fI_RX12_194 xc_135 (v := (rd u 135 7)) rfl ?_
            refine g_iload_n (pc := 93) dX12_bale_93 rfl ?_
            refine g_iastore (pc := 94) dX12_bale_94 xc_142 (xin_of g6) (u' := (wr (wr (wr (wr u 135 0 (0 : Int32)) 140 (rd u 135 7).toNatClampNeg v1) 141 (rd u 135 7).toNatClampNeg v2) 142 (rd u 135 7).toNatClampNeg v3)) rfl ?_
            refine g_aload_n (pc := 95) dX12_bale_95 rfl ?_
            refine g_gR (pc := 96) dX12_bale_96 fR_RX12_31 xc_135 (v := 143) rfl ?_
            refine g_aload_n (pc := 99) dX12_bale_99 rfl ?_
            refine g_gI (pc := 100) dX12_bale_100 fI_RX12_194 xc_135 (v := (rd u 135 7)) rfl ?_
            refine g_iload (pc := 103) dX12_bale_103 rfl ?_
            refine g_iastore (pc := 105) dX12_bale_105 xc_143 (xin_of g6) (u' := (wr (wr (wr (wr (wr u 135 0 (0 : Int32)) 140 (rd u 135 7).toNatClampNeg v1) 141 (rd u 135 7).toNatClampNeg v2) 142 (rd u 135 7).toNatClampNeg v3) 143 (rd u 135 7).toNatClampNeg v4)) rfl ?_
            refine g_aload_n (pc := 106) dX12_bale_106 rfl ?_
            refine g_gR (pc := 107) dX12_bale_107 fR_RX12_34 xc_135 (v := 144) rfl ?_
            refine g_aload_n (pc := 110) dX12_bale_110 rfl ?_
            refine g_gI (pc := 111) dX12_bale_111 fI_RX12_194 xc_135 (v := (rd u 135 7)) rfl ?_
            refine g_iconst (pc := 114) dX12_bale_114 ic_m1 ?_
            refine g_iastore (pc := 115) dX12_bale_115 xc_144 (xin_of g6) (u' := (wr (wr (wr (wr (wr (wr u 135 0 (0 : Int32)) 140 (rd u 135 7).toNatClampNeg v1) 141 (rd u 135 7).toNatClampNeg v2) 142 (rd u 135 7).toNatClampNeg v3) 143 (rd u 135 7).toNatClampNeg v4) 144 (rd u 135 7).toNatClampNeg (-1 : Int32))) rfl ?_
            refine g_aload_n (pc := 116) dX12_bale_116 rfl ?_
            refine g_dup (pc := 117) dX12_bale_117 rfl ?_
            refine g_gI (pc := 118) dX12_bale_118 fI_RX12_194 xc_135 (v := (rd u 135 7)) rfl ?_
            refine g_iconst (pc := 121) dX12_bale_121 ic_1 ?_
            refine g_iadd (pc := 122) dX12_bale_122 rfl ?_
            refine g_pI (pc := 123) dX12_bale_123 pI_RX12_194 xc_135 (u' := (wr (wr (wr (wr (wr (wr (wr u 135 0 (0 : Int32)) 140 (rd u 135 7).toNatClampNeg v1) 141 (rd u 135 7).toNatClampNeg v2) 142 (rd u 135 7).toNatClampNeg v3) 143 (rd u 135 7).toNatClampNeg v4) 144 (rd u 135 7).toNatClampNeg (-1 : Int32)) 135 7 ((rd u 135 7) + (1 : Int32)))) rfl ?_
            refine g_aload_n (pc := 126) dX12_bale_126 rfl ?_
            refine g_gI (pc := 127) dX12_bale_127 fI_RX12_194 xc_135 (v := ((rd u 135 7) + (1 : Int32))) rfl ?_
            refine g_iconst (pc := 130) dX12_bale_130 ic_1 ?_
            refine g_isub (pc := 131) dX12_bale_131 rfl ?_
            cases h
            exact g_iret (pc := 132) dX12_bale_132 rfl rfl rfl (Nat.le_refl _) (Nat.le_refl _)
          · replace h := (if_pos c5).symm.trans h
            refine g_iconst (pc := 63) dX12_bale_63 ic_m1 ?_
            cases h
            exact g_iret (pc := 64) dX12_bale_64 rfl rfl rfl (Nat.le_refl _) (Nat.le_refl _)
set_option maxRecDepth 100000 in
set_option maxHeartbeats 4000000 in
theorem M_X12_bale {sc : Nat × (Nat → Int32)} {d : Nat} (hd : 1 ≤ d) {r : Int32} {u u' : xS} {a1 : Int32} {a2 : Int32} {a3 : Int32} {a4 : Int32} (h : f_X12_bale a1 a2 a3 a4 u = some (r, u')) : xMt sc mX12_bale d 0 0 [.ref 135, .int a1, .int a2, .int a3, .int a4] (xL0, u) (some (.int r)) (xL0, u') :=
  xMt.of (by decide +kernel) (Nat.le_of_ble_eq_true rfl) (L := [some (.ref 135), some (.int a1), some (.int a2), some (.int a3), some (.int a4)]) rfl ((G_X12_bale_0 hd a1 a2 a3 a4 u h))
set_option maxRecDepth 100000 in
set_option maxHeartbeats 4000000 in
theorem G_X12_blended_4 {sc : Nat × (Nat → Int32)} {d : Nat} (hd : 0 ≤ d) {r : Int32} {u : xS} : ∀ (n : Nat) (v1 : Int32) (v2 : Int32) (v3 : Int32), f_X12_blended_4 u n v1 v2 v3 = some r → xG sc mX12_blended d 0 0 (xR (some (.int r)) (xL0, u) 0 0) 0 0 4 [some (.ref 135), some (.int v1), some (.int v2), some (.int v3)] [] (xL0, u) := by
  intro n
  induction n with
  | zero =>
    intro v1 v2 v3 h
    rw [f_X12_blended_4] at h
    cases h
  | succ n ih =>
    intro v1 v2 v3 h
    rw [f_X12_blended_4] at h
    refine g_iload_n (pc := 4) dX12_blended_4 rfl ?_
    refine g_aload_n (pc := 5) dX12_blended_5 rfl ?_
    refine g_gI (pc := 6) dX12_blended_6 fI_RX12_153 xc_135 (v := (rd u 135 1)) rfl ?_
    refine g_icmp_ge (tgt := 39) (pc := 9) dX12_blended_9 (by decide) (fun c1 => ?_) (fun c1 => ?_)
    · replace h := (if_pos c1).symm.trans h
      refine g_iload_n (pc := 39) dX12_blended_39 rfl ?_
      refine g_bipush (pc := 40) dX12_blended_40 bp_12 ?_
      refine g_idiv (pc := 42) dX12_blended_42 (by decide) rfl ?_
      cases h
      exact g_iret (pc := 43) dX12_blended_43 rfl rfl rfl (Nat.le_refl _) (Nat.le_refl _)
    · replace h := (if_neg c1).symm.trans h
      refine g_iload_n (pc := 12) dX12_blended_12 rfl ?_
      refine g_aload_n (pc := 13) dX12_blended_13 rfl ?_
      refine g_gR (pc := 14) dX12_blended_14 fR_RX12_87 xc_135 (v := 160) rfl ?_
      refine g_iload_n (pc := 17) dX12_blended_17 rfl ?_
      obtain ⟨g2, h⟩ := x_gd h
      refine g_iaload (pc := 18) dX12_blended_18 xc_160 (xin_of g2) (v := (rd u 160 v3.toNatClampNeg)) rfl ?_
      refine g_aload_n (pc := 19) dX12_blended_19 rfl ?_
      refine g_gR (pc := 20) dX12_blended_20 fR_RX12_9 xc_135 (v := 136) rfl ?_
      refine g_bipush (pc := 23) dX12_blended_23 bp_7 ?_
      refine g_iload_n (pc := 25) dX12_blended_25 rfl ?_
      refine g_imul (pc := 26) dX12_blended_26 rfl ?_
      refine g_iload_n (pc := 27) dX12_blended_27 rfl ?_
      refine g_iadd (pc := 28) dX12_blended_28 rfl ?_
      obtain ⟨g3, h⟩ := x_gd h
      refine g_iaload (pc := 29) dX12_blended_29 xc_136 (xin_of g3) (v := (rd u 136 (((7 : Int32) * v3) + v1).toNatClampNeg)) rfl ?_
      refine g_imul (pc := 30) dX12_blended_30 rfl ?_
      refine g_iadd (pc := 31) dX12_blended_31 rfl ?_
      refine g_istore_n (pc := 32) dX12_blended_32 (Nat.le_of_ble_eq_true rfl) (L' := [some (.ref 135), some (.int v1), some (.int (v2 + ((rd u 160 v3.toNatClampNeg) * (rd u 136 (((7 : Int32) * v3) + v1).toNatClampNeg)))), some (.int v3)]) rfl ?_
      refine g_inc (pc := 33) dX12_blended_33 (Nat.le_of_ble_eq_true rfl) rfl ic_1 (L' := [some (.ref 135), some (.int v1), some (.int (v2 + ((rd u 160 v3.toNatClampNeg) * (rd u 136 (((7 : Int32) * v3) + v1).toNatClampNeg)))), some (.int (v3 + (1 : Int32)))]) rfl ?_
      refine g_goto (tgt := 4) (pc := 36) dX12_blended_36 (by decide) ?_
      exact ih v1 (v2 + ((rd u 160 v3.toNatClampNeg) * (rd u 136 (((7 : Int32) * v3) + v1).toNatClampNeg))) (v3 + (1 : Int32)) h
set_option maxRecDepth 100000 in
set_option maxHeartbeats 4000000 in
theorem G_X12_blended_0 {sc : Nat × (Nat → Int32)} {d : Nat} (hd : 0 ≤ d) {r : Int32} {u : xS} (v1 : Int32) (h : f_X12_blended u v1 = some r) : xG sc mX12_blended d 0 0 (xR (some (.int r)) (xL0, u) 0 0) 0 0 0 [some (.ref 135), some (.int v1), none, none] [] (xL0, u) := by
  rw [f_X12_blended] at h
  refine g_iconst (pc := 0) dX12_blended_0 ic_0 ?_
  refine g_istore_n (pc := 1) dX12_blended_1 (Nat.le_of_ble_eq_true rfl) (L' := [some (.ref 135), some (.int v1), some (.int (0 : Int32)), none]) rfl ?_
  refine g_iconst (pc := 2) dX12_blended_2 ic_0 ?_
  refine g_istore_n (pc := 3) dX12_blended_3 (Nat.le_of_ble_eq_true rfl) (L' := [some (.ref 135), some (.int v1), some (.int (0 : Int32)), some (.int (0 : Int32))]) rfl ?_
  exact G_X12_blended_4 hd xN v1 (0 : Int32) (0 : Int32) h
set_option maxRecDepth 100000 in
set_option maxHeartbeats 4000000 in
theorem M_X12_blended {sc : Nat × (Nat → Int32)} {d : Nat} (hd : 0 ≤ d) {r : Int32} {u : xS} {a1 : Int32} (h : f_X12_blended u a1 = some r) : xMt sc mX12_blended d 0 0 [.ref 135, .int a1] (xL0, u) (some (.int r)) (xL0, u) :=
  xMt.of (by decide +kernel) (Nat.le_of_ble_eq_true rfl) (L := [some (.ref 135), some (.int a1), none, none]) rfl ((G_X12_blended_0 hd a1 h))
theorem zb_X12_isSorter (v0 : Int32) : f_X12_isSorter v0 = 0 ∨ f_X12_isSorter v0 = 1 := by
  unfold f_X12_isSorter
  (repeat' split) <;> first | exact Or.inl rfl | exact Or.inr rfl | exact zb_X12_in _ _ _
set_option maxRecDepth 100000 in
set_option maxHeartbeats 4000000 in
theorem G_X12_isSorter_0 {sc : Nat × (Nat → Int32)} {d : Nat} (hd : 1 ≤ d) {r : Int32} {u : xS} (v0 : Int32) (h : f_X12_isSorter v0 = r) : xG sc mX12_isSorter d 0 0 (xR (some (.int r)) (xL0, u) 0 0) 0 0 0 [some (.int v0)] [] (xL0, u) := by
  rw [f_X12_isSorter] at h
  refine g_iload_n (pc := 0) dX12_isSorter_0 rfl ?_
  refine g_i2l (pc := 1) dX12_isSorter_1 rfl ?_
  refine g_lconst (v := (0 : Int64)) (pc := 2) dX12_isSorter_2 rfl ?_
  refine g_ldc2 (pc := 3) dX12_isSorter_3 kl_RX12_203 ?_
  refine g_cS (pc := 6) dX12_isSorter_6 cS_RX12_156 (M_X12_in (Nat.le_refl _) rfl) (as := [.long ((v0).toInt64), .long (0 : Int64), .long (5 : Int64)]) (st := []) rfl rfl (Nat.le_of_ble_eq_true rfl) (Nat.le_trans (Nat.le_of_ble_eq_true rfl) hd) rfl ?_
  subst h
  exact g_zret (pc := 9) dX12_isSorter_9 rfl (zb_X12_in _ _ _) rfl rfl (Nat.le_refl _) (Nat.le_refl _)
set_option maxRecDepth 100000 in
set_option maxHeartbeats 4000000 in
theorem M_X12_isSorter {sc : Nat × (Nat → Int32)} {d : Nat} (hd : 1 ≤ d) {r : Int32} {u : xS} {a0 : Int32} (h : f_X12_isSorter a0 = r) : xMt sc mX12_isSorter d 0 0 [.int a0] (xL0, u) (some (.int r)) (xL0, u) :=
  xMt.of (by decide +kernel) (Nat.le_of_ble_eq_true rfl) (L := [some (.int a0)]) rfl ((G_X12_isSorter_0 hd a0 h))
set_option maxRecDepth 100000 in
set_option maxHeartbeats 4000000 in
theorem G_X12_called_164 {sc : Nat × (Nat → Int32)} {d : Nat} (hd : 2 ≤ d) {r : Int32} {u' : xS} {k30 : Int32 → Int32 → Int32 → Int32 → Int32 → xS → Option (Int32 × xS)} (hk30 : ∀ (v1 : Int32) (v2 : Int32) (v3 : Int32) (v4 : Int32) (v5 : Int32) (u : xS), k30 v1 v2 v3 v4 v5 u = some (r, u') → xG sc mX12_called d 0 0 (xR (some (.int r)) (xL0, u') 0 0) 0 0 30 [some (.ref 135), some (.int v1), some (.int v2), some (.int v3), some (.int v4), some (.int v5), none, none] [] (xL0, u)) (v1 : Int32) (v2 : Int32) (v3 : Int32) (v4 : Int32) (v5 : Int32) (u : xS) (h : f_X12_called_164 k30 v1 v2 v3 v4 v5 u = some (r, u')) : xG sc mX12_called d 0 0 (xR (some (.int r)) (xL0, u') 0 0) 0 0 164 [some (.ref 135), some (.int v1), some (.int v2), some (.int v3), some (.int v4), some (.int v5), none, none] [] (xL0, u) := by
  rw [f_X12_called_164] at h
  refine g_inc (pc := 164) dX12_called_164 (Nat.le_of_ble_eq_true rfl) rfl ic_1 (L' := [some (.ref 135), some (.int v1), some (.int v2), some (.int v3), some (.int v4), some (.int (v5 + (1 : Int32))), none, none]) rfl ?_
  refine g_goto (tgt := 30) (pc := 167) dX12_called_167 (by decide) ?_
  exact hk30 v1 v2 v3 v4 (v5 + (1 : Int32)) u h
set_option maxRecDepth 100000 in
set_option maxHeartbeats 4000000 in
theorem G_X12_called_137 {sc : Nat × (Nat → Int32)} {d : Nat} (hd : 2 ≤ d) {r : Int32} {u' : xS} {k45 : Int32 → Int32 → Int32 → Int32 → Int32 → Int32 → Int32 → xS → Option (Int32 × xS)} (hk45 : ∀ (v1 : Int32) (v2 : Int32) (v3 : Int32) (v4 : Int32) (v5 : Int32) (v6 : Int32) (v7 : Int32) (u : xS), k45 v1 v2 v3 v4 v5 v6 v7 u = some (r, u') → xG sc mX12_called d 0 0 (xR (some (.int r)) (xL0, u') 0 0) 0 0 45 [some (.ref 135), some (.int v1), some (.int v2), some (.int v3), some (.int v4), some (.int v5), some (.int v6), some (.int v7)] [] (xL0, u)) {k30 : Int32 → Int32 → Int32 → Int32 → Int32 → xS → Option (Int32 × xS)} (hk30 : ∀ (v1 : Int32) (v2 : Int32) (v3 : Int32) (v4 : Int32) (v5 : Int32) (u : xS), k30 v1 v2 v3 v4 v5 u = some (r, u') → xG sc mX12_called d 0 0 (xR (some (.int r)) (xL0, u') 0 0) 0 0 30 [some (.ref 135), some (.int v1), some (.int v2), some (.int v3), some (.int v4), some (.int v5), none, none] [] (xL0, u)) (v1 : Int32) (v2 : Int32) (v3 : Int32) (v4 : Int32) (v5 : Int32) (v7 : Int32) (s0 : Int32) (s1 : Int32) (s2 : Int32) (u : xS) (h : f_X12_called_137 k45 k30 v1 v2 v3 v4 v5 v7 s0 s1 s2 u = some (r, u')) : xG sc mX12_called d 0 0 (xR (some (.int r)) (xL0, u') 0 0) 0 0 137 [some (.ref 135), some (.int v1), some (.int v2), some (.int v3), some (.int v4), some (.int v5), none, some (.int v7)] [.int s2, .int s1, .int s0] (xL0, u) := by
  rw [f_X12_called_137] at h
  refine g_cS (pc := 137) dX12_called_137 cS_RX12_190 (M_X12_truth (Nat.le_refl _) rfl) (as := [.int s2]) (st := [.int s1, .int s0]) rfl rfl (Nat.le_of_ble_eq_true rfl) (Nat.le_trans (Nat.le_of_ble_eq_true rfl) hd) rfl ?_
  refine g_iadd (pc := 140) dX12_called_140 rfl ?_
  refine g_iadd (pc := 141) dX12_called_141 rfl ?_
  refine g_istore (pc := 142) dX12_called_142 (Nat.le_of_ble_eq_true rfl) (L' := [some (.ref 135), some (.int v1), some (.int v2), some (.int v3), some (.int v4), some (.int v5), some (.int (s0 + (s1 + (f_X12_truth s2)))), some (.int v7)]) rfl ?_
  refine g_inc (pc := 144) dX12_called_144 (Nat.le_of_ble_eq_true rfl) rfl ic_1 (L' := [some (.ref 135), some (.int v1), some (.int v2), some (.int v3), some (.int v4), some (.int v5), some (.int (s0 + (s1 + (f_X12_truth s2)))), some (.int (v7 + (1 : Int32)))]) rfl ?_
  refine g_goto (tgt := 45) (pc := 147) dX12_called_147 (by decide) ?_
  exact hk45 v1 v2 v3 v4 v5 (s0 + (s1 + (f_X12_truth s2))) (v7 + (1 : Int32)) u h
set_option maxRecDepth 100000 in
set_option maxHeartbeats 4000000 in
theorem G_X12_called_136 {sc : Nat × (Nat → Int32)} {d : Nat} (hd : 2 ≤ d) {r : Int32} {u' : xS} {k45 : Int32 → Int32 → Int32 → Int32 → Int32 → Int32 → Int32 → xS → Option (Int32 × xS)} (hk45 : ∀ (v1 : Int32) (v2 : Int32) (v3 : Int32) (v4 : Int32) (v5 : Int32) (v6 : Int32) (v7 : Int32) (u : xS), k45 v1 v2 v3 v4 v5 v6 v7 u = some (r, u') → xG sc mX12_called d 0 0 (xR (some (.int r)) (xL0, u') 0 0) 0 0 45 [some (.ref 135), some (.int v1), some (.int v2), some (.int v3), some (.int v4), some (.int v5), some (.int v6), some (.int v7)] [] (xL0, u)) {k30 : Int32 → Int32 → Int32 → Int32 → Int32 → xS → Option (Int32 × xS)} (hk30 : ∀ (v1 : Int32) (v2 : Int32) (v3 : Int32) (v4 : Int32) (v5 : Int32) (u : xS), k30 v1 v2 v3 v4 v5 u = some (r, u') → xG sc mX12_called d 0 0 (xR (some (.int r)) (xL0, u') 0 0) 0 0 30 [some (.ref 135), some (.int v1), some (.int v2), some (.int v3), some (.int v4), some (.int v5), none, none] [] (xL0, u)) (v1 : Int32) (v2 : Int32) (v3 : Int32) (v4 : Int32) (v5 : Int32) (v7 : Int32) (s0 : Int32) (s1 : Int32) (u : xS) (h : f_X12_called_136 k45 k30 v1 v2 v3 v4 v5 v7 s0 s1 u = some (r, u')) : xG sc mX12_called d 0 0 (xR (some (.int r)) (xL0, u') 0 0) 0 0 136 [some (.ref 135), some (.int v1), some (.int v2), some (.int v3), some (.int v4), some (.int v5), none, some (.int v7)] [.int s1, .int s0] (xL0, u) := by
  rw [f_X12_called_136] at h
  refine g_iconst (pc := 136) dX12_called_136 ic_0 ?_
  exact G_X12_called_137 hd hk45 hk30 v1 v2 v3 v4 v5 v7 s0 s1 (0 : Int32) u h
set_option maxRecDepth 100000 in
set_option maxHeartbeats 4000000 in
theorem G_X12_called_95 {sc : Nat × (Nat → Int32)} {d : Nat} (hd : 2 ≤ d) {r : Int32} {u' : xS} {k45 : Int32 → Int32 → Int32 → Int32 → Int32 → Int32 → Int32 → xS → Option (Int32 × xS)} (hk45 : ∀ (v1 : Int32) (v2 : Int32) (v3 : Int32) (v4 : Int32) (v5 : Int32) (v6 : Int32) (v7 : Int32) (u : xS), k45 v1 v2 v3 v4 v5 v6 v7 u = some (r, u') → xG sc mX12_called d 0 0 (xR (some (.int r)) (xL0, u') 0 0) 0 0 45 [some (.ref 135), some (.int v1), some (.int v2), some (.int v3), some (.int v4), some (.int v5), some (.int v6), some (.int v7)] [] (xL0, u)) {k30 : Int32 → Int32 → Int32 → Int32 → Int32 → xS → Option (Int32 × xS)} (hk30 : ∀ (v1 : Int32) (v2 : Int32) (v3 : Int32) (v4 : Int32) (v5 : Int32) (u : xS), k30 v1 v2 v3 v4 v5 u = some (r, u') → xG sc mX12_called d 0 0 (xR (some (.int r)) (xL0, u') 0 0) 0 0 30 [some (.ref 135), some (.int v1), some (.int v2), some (.int v3), some (.int v4), some (.int v5), none, none] [] (xL0, u)) (v1 : Int32) (v2 : Int32) (v3 : Int32) (v4 : Int32) (v5 : Int32) (v7 : Int32) (s0 : Int32) (s1 : Int32) (u : xS) (h : f_X12_called_95 k45 k30 v1 v2 v3 v4 v5 v7 s0 s1 u = some (r, u')) : xG sc mX12_called d 0 0 (xR (some (.int r)) (xL0, u') 0 0) 0 0 95 [some (.ref 135), some (.int v1), some (.int v2), some (.int v3), some (.int v4), some (.int v5), none, some (.int v7)] [.int s1, .int s0] (xL0, u) := by
  rw [f_X12_called_95] at h
  refine g_cS (pc := 95) dX12_called_95 cS_RX12_190 (M_X12_truth (Nat.le_refl _) rfl) (as := [.int s1]) (st := [.int s0]) rfl rfl (Nat.le_of_ble_eq_true rfl) (Nat.le_trans (Nat.le_of_ble_eq_true rfl) hd) rfl ?_
  refine g_aload_n (pc := 98) dX12_called_98 rfl ?_
  refine g_gR (pc := 99) dX12_called_99 fR_RX12_111 xc_135 (v := 168) rfl ?_
  refine g_iload (pc := 102) dX12_called_102 rfl ?_
  obtain ⟨g1, h⟩ := x_gd h
  refine g_iaload (pc := 104) dX12_called_104 xc_168 (xin_of g1) (v := (rd u 168 v7.toNatClampNeg)) rfl ?_
  refine g_iload_n (pc := 105) dX12_called_105 rfl ?_
  refine g_icmp_ne (tgt := 136) (pc := 106) dX12_called_106 (by decide) (fun c2 => ?_) (fun c2 => ?_)
  · replace h := (if_neg c2).symm.trans h
    exact G_X12_called_136 hd hk45 hk30 v1 v2 v3 v4 v5 v7 s0 (f_X12_truth s1) u h
  · replace h := (if_pos c2).symm.trans h
    refine g_aload_n (pc := 109) dX12_called_109 rfl ?_
    refine g_gR (pc := 110) dX12_called_110 fR_RX12_117 xc_135 (v := 170) rfl ?_
    refine g_iload (pc := 113) dX12_called_113 rfl ?_
    refine g_iaload (pc := 115) dX12_called_115 xc_170 (xin_of g1) (v := (rd u 170 v7.toNatClampNeg)) rfl ?_
    refine g_iload_n (pc := 116) dX12_called_116 rfl ?_
    refine g_icmp_ne (tgt := 136) (pc := 117) dX12_called_117 (by decide) (fun c3 => ?_) (fun c3 => ?_)
    · replace h := (if_neg c3).symm.trans h
      exact G_X12_called_136 hd hk45 hk30 v1 v2 v3 v4 v5 v7 s0 (f_X12_truth s1) u h
    · replace h := (if_pos c3).symm.trans h
      refine g_aload_n (pc := 120) dX12_called_120 rfl ?_
      refine g_gR (pc := 121) dX12_called_121 fR_RX12_114 xc_135 (v := 169) rfl ?_
      refine g_iload (pc := 124) dX12_called_124 rfl ?_
      refine g_iaload (pc := 126) dX12_called_126 xc_169 (xin_of g1) (v := (rd u 169 v7.toNatClampNeg)) rfl ?_
      refine g_iload (pc := 127) dX12_called_127 rfl ?_
      refine g_icmp_ne (tgt := 136) (pc := 129) dX12_called_129 (by decide) (fun c4 => ?_) (fun c4 => ?_)
      · replace h := (if_neg c4).symm.trans h
        exact G_X12_called_136 hd hk45 hk30 v1 v2 v3 v4 v5 v7 s0 (f_X12_truth s1) u h
      · replace h := (if_pos c4).symm.trans h
        refine g_iconst (pc := 132) dX12_called_132 ic_1 ?_
        refine g_goto (tgt := 137) (pc := 133) dX12_called_133 (by decide) ?_
        exact G_X12_called_137 hd hk45 hk30 v1 v2 v3 v4 v5 v7 s0 (f_X12_truth s1) (1 : Int32) u h
set_option maxRecDepth 100000 in
set_option maxHeartbeats 4000000 in
theorem G_X12_called_94 {sc : Nat × (Nat → Int32)} {d : Nat} (hd : 2 ≤ d) {r : Int32} {u' : xS} {k45 : Int32 → Int32 → Int32 → Int32 → Int32 → Int32 → Int32 → xS → Option (Int32 × xS)} (hk45 : ∀ (v1 : Int32) (v2 : Int32) (v3 : Int32) (v4 : Int32) (v5 : Int32) (v6 : Int32) (v7 : Int32) (u : xS), k45 v1 v2 v3 v4 v5 v6 v7 u = some (r, u') → xG sc mX12_called d 0 0 (xR (some (.int r)) (xL0, u') 0 0) 0 0 45 [some (.ref 135), some (.int v1), some (.int v2), some (.int v3), some (.int v4), some (.int v5), some (.int v6), some (.int v7)] [] (xL0, u)) {k30 : Int32 → Int32 → Int32 → Int32 → Int32 → xS → Option (Int32 × xS)} (hk30 : ∀ (v1 : Int32) (v2 : Int32) (v3 : Int32) (v4 : Int32) (v5 : Int32) (u : xS), k30 v1 v2 v3 v4 v5 u = some (r, u') → xG sc mX12_called d 0 0 (xR (some (.int r)) (xL0, u') 0 0) 0 0 30 [some (.ref 135), some (.int v1), some (.int v2), some (.int v3), some (.int v4), some (.int v5), none, none] [] (xL0, u)) (v1 : Int32) (v2 : Int32) (v3 : Int32) (v4 : Int32) (v5 : Int32) (v7 : Int32) (s0 : Int32) (u : xS) (h : f_X12_called_94 k45 k30 v1 v2 v3 v4 v5 v7 s0 u = some (r, u')) : xG sc mX12_called d 0 0 (xR (some (.int r)) (xL0, u') 0 0) 0 0 94 [some (.ref 135), some (.int v1), some (.int v2), some (.int v3), some (.int v4), some (.int v5), none, some (.int v7)] [.int s0] (xL0, u) := by
  rw [f_X12_called_94] at h
  refine g_iconst (pc := 94) dX12_called_94 ic_0 ?_
  exact G_X12_called_95 hd hk45 hk30 v1 v2 v3 v4 v5 v7 s0 (0 : Int32) u h
set_option maxRecDepth 100000 in
set_option maxHeartbeats 4000000 in
theorem G_X12_called_45 {sc : Nat × (Nat → Int32)} {d : Nat} (hd : 2 ≤ d) {r : Int32} {u' : xS} {k30 : Int32 → Int32 → Int32 → Int32 → Int32 → xS → Option (Int32 × xS)} (hk30 : ∀ (v1 : Int32) (v2 : Int32) (v3 : Int32) (v4 : Int32) (v5 : Int32) (u : xS), k30 v1 v2 v3 v4 v5 u = some (r, u') → xG sc mX12_called d 0 0 (xR (some (.int r)) (xL0, u') 0 0) 0 0 30 [some (.ref 135), some (.int v1), some (.int v2), some (.int v3), some (.int v4), some (.int v5), none, none] [] (xL0, u)) : ∀ (n : Nat) (v1 : Int32) (v2 : Int32) (v3 : Int32) (v4 : Int32) (v5 : Int32) (v6 : Int32) (v7 : Int32) (u : xS), f_X12_called_45 k30 n v1 v2 v3 v4 v5 v6 v7 u = some (r, u') → xG sc mX12_called d 0 0 (xR (some (.int r)) (xL0, u') 0 0) 0 0 45 [some (.ref 135), some (.int v1), some (.int v2), some (.int v3), some (.int v4), some (.int v5), some (.int v6), some (.int v7)] [] (xL0, u) := by
  intro n
  induction n with
  | zero =>
    intro v1 v2 v3 v4 v5 v6 v7 u h
    rw [f_X12_called_45] at h
    cases h
  | succ n ih =>
    intro v1 v2 v3 v4 v5 v6 v7 u h
    rw [f_X12_called_45] at h
    refine g_iload (pc := 45) dX12_called_45 rfl ?_
    refine g_aload_n (pc := 47) dX12_called_47 rfl ?_
    refine g_gI (pc := 48) dX12_called_48 fI_RX12_409 xc_135 (v := (rd u 135 46)) rfl ?_
    refine g_icmp_ge (tgt := 150) (pc := 51) dX12_called_51 (by decide) (fun c1 => ?_) (fun c1 => ?_)
    · replace h := (if_pos c1).symm.trans h
      refine g_iload (pc := 150) dX12_called_150 rfl ?_
      refine g_iload (pc := 152) dX12_called_152 rfl ?_
      refine g_icmp_le (tgt := 164) (pc := 154) dX12_called_154 (by decide) (fun c2 => ?_) (fun c2 => ?_)
      · replace h := (if_pos c2).symm.trans h
        refine g_L (L' := [some (.ref 135), some (.int v1), some (.int v2), some (.int v3), some (.int v4), some (.int v5), none, none]) ⟨rfl, ⟨rfl, ⟨rfl, ⟨rfl, ⟨rfl, ⟨rfl, trivial⟩⟩⟩⟩⟩⟩ ?_
        exact G_X12_called_164 hd hk30 v1 v2 v3 v4 v5 u h
      · replace h := (if_neg c2).symm.trans h
        refine g_iload (pc := 157) dX12_called_157 rfl ?_
        refine g_istore_n (pc := 159) dX12_called_159 (Nat.le_of_ble_eq_true rfl) (L' := [some (.ref 135), some (.int v1), some (.int v2), some (.int v5), some (.int v4), some (.int v5), some (.int v6), some (.int v7)]) rfl ?_
        refine g_iload (pc := 160) dX12_called_160 rfl ?_
        refine g_istore (pc := 162) dX12_called_162 (Nat.le_of_ble_eq_true rfl) (L' := [some (.ref 135), some (.int v1), some (.int v2), some (.int v5), some (.int v6), some (.int v5), some (.int v6), some (.int v7)]) rfl ?_
        refine g_L (L' := [some (.ref 135), some (.int v1), some (.int v2), some (.int v5), some (.int v6), some (.int v5), none, none]) ⟨rfl, ⟨rfl, ⟨rfl, ⟨rfl, ⟨rfl, ⟨rfl, trivial⟩⟩⟩⟩⟩⟩ ?_
        exact G_X12_called_164 hd hk30 v1 v2 v5 v6 v5 u h
    · replace h := (if_neg c1).symm.trans h
      refine g_iload (pc := 54) dX12_called_54 rfl ?_
      refine g_aload_n (pc := 56) dX12_called_56 rfl ?_
      refine g_gR (pc := 57) dX12_called_57 fR_RX12_108 xc_135 (v := 167) rfl ?_
      refine g_iload (pc := 60) dX12_called_60 rfl ?_
      obtain ⟨g3, h⟩ := x_gd h
      refine g_iaload (pc := 62) dX12_called_62 xc_167 (xin_of g3) (v := (rd u 167 v7.toNatClampNeg)) rfl ?_
      refine g_iload_n (pc := 63) dX12_called_63 rfl ?_
      refine g_icmp_ne (tgt := 94) (pc := 64) dX12_called_64 (by decide) (fun c4 => ?_) (fun c4 => ?_)
      · replace h := (if_neg c4).symm.trans h
        refine g_L (L' := [some (.ref 135), some (.int v1), some (.int v2), some (.int v3), some (.int v4), some (.int v5), none, some (.int v7)]) ⟨rfl, ⟨rfl, ⟨rfl, ⟨rfl, ⟨rfl, ⟨rfl, ⟨rfl, trivial⟩⟩⟩⟩⟩⟩⟩ ?_
        exact G_X12_called_94 hd ih hk30 v1 v2 v3 v4 v5 v7 v6 u h
      · replace h := (if_pos c4).symm.trans h
        refine g_aload_n (pc := 67) dX12_called_67 rfl ?_
        refine g_gR (pc := 68) dX12_called_68 fR_RX12_114 xc_135 (v := 169) rfl ?_
        refine g_iload (pc := 71) dX12_called_71 rfl ?_
        refine g_iaload (pc := 73) dX12_called_73 xc_169 (xin_of g3) (v := (rd u 169 v7.toNatClampNeg)) rfl ?_
        refine g_iload_n (pc := 74) dX12_called_74 rfl ?_
        refine g_icmp_ne (tgt := 94) (pc := 75) dX12_called_75 (by decide) (fun c5 => ?_) (fun c5 => ?_)
        · replace h := (if_neg c5).symm.trans h
          refine g_L (L' := [some (.ref 135), some (.int v1), some (.int v2), some (.int v3), some (.int v4), some (.int v5), none, some (.int v7)]) ⟨rfl, ⟨rfl, ⟨rfl, ⟨rfl, ⟨rfl, ⟨rfl, ⟨rfl, trivial⟩⟩⟩⟩⟩⟩⟩ ?_
          exact G_X12_called_94 hd ih hk30 v1 v2 v3 v4 v5 v7 v6 u h
        · replace h := (if_pos c5).symm.trans h
          refine g_aload_n (pc := 78) dX12_called_78 rfl ?_
          refine g_gR (pc := 79) dX12_called_79 fR_RX12_117 xc_135 (v := 170) rfl ?_
          refine g_iload (pc := 82) dX12_called_82 rfl ?_
          refine g_iaload (pc := 84) dX12_called_84 xc_170 (xin_of g3) (v := (rd u 170 v7.toNatClampNeg)) rfl ?_
          refine g_iload (pc := 85) dX12_called_85 rfl ?_
          refine g_icmp_ne (tgt := 94) (pc := 87) dX12_called_87 (by decide) (fun c6 => ?_) (fun c6 => ?_)
          · replace h := (if_neg c6).symm.trans h
            refine g_L (L' := [some (.ref 135), some (.int v1), some (.int v2), some (.int v3), some (.int v4), some (.int v5), none, some (.int v7)]) ⟨rfl, ⟨rfl, ⟨rfl, ⟨rfl, ⟨rfl, ⟨rfl, ⟨rfl, trivial⟩⟩⟩⟩⟩⟩⟩ ?_
            exact G_X12_called_94 hd ih hk30 v1 v2 v3 v4 v5 v7 v6 u h
          · replace h := (if_pos c6).symm.trans h
            refine g_iconst (pc := 90) dX12_called_90 ic_1 ?_
            refine g_goto (tgt := 95) (pc := 91) dX12_called_91 (by decide) ?_
            refine g_L (L' := [some (.ref 135), some (.int v1), some (.int v2), some (.int v3), some (.int v4), some (.int v5), none, some (.int v7)]) ⟨rfl, ⟨rfl, ⟨rfl, ⟨rfl, ⟨rfl, ⟨rfl, ⟨rfl, trivial⟩⟩⟩⟩⟩⟩⟩ ?_
            exact G_X12_called_95 hd ih hk30 v1 v2 v3 v4 v5 v7 v6 (1 : Int32) u h
set_option maxRecDepth 100000 in
set_option maxHeartbeats 4000000 in
theorem G_X12_called_30 {sc : Nat × (Nat → Int32)} {d : Nat} (hd : 2 ≤ d) {r : Int32} {u' : xS} : ∀ (n : Nat) (v1 : Int32) (v2 : Int32) (v3 : Int32) (v4 : Int32) (v5 : Int32) (u : xS), f_X12_called_30 n v1 v2 v3 v4 v5 u = some (r, u') → xG sc mX12_called d 0 0 (xR (some (.int r)) (xL0, u') 0 0) 0 0 30 [some (.ref 135), some (.int v1), some (.int v2), some (.int v3), some (.int v4), some (.int v5), none, none] [] (xL0, u) := by
  intro n
  induction n with
  | zero =>
    intro v1 v2 v3 v4 v5 u h
    rw [f_X12_called_30] at h
    cases h
  | succ n ih =>
    intro v1 v2 v3 v4 v5 u h
    rw [f_X12_called_30] at h
    refine g_iload (pc := 30) dX12_called_30 rfl ?_
    refine g_aload_n (pc := 32) dX12_called_32 rfl ?_
    refine g_gI (pc := 33) dX12_called_33 fI_RX12_153 xc_135 (v := (rd u 135 1)) rfl ?_
    refine g_icmp_ge (tgt := 170) (pc := 36) dX12_called_36 (by decide) (fun c1 => ?_) (fun c1 => ?_)
    · replace h := (if_pos c1).symm.trans h
      refine g_iload_n (pc := 170) dX12_called_170 rfl ?_
      cases h
      exact g_iret (pc := 171) dX12_called_171 rfl rfl rfl (Nat.le_refl _) (Nat.le_refl _)
    · replace h := (if_neg c1).symm.trans h
      refine g_iconst (pc := 39) dX12_called_39 ic_0 ?_
      refine g_istore (pc := 40) dX12_called_40 (Nat.le_of_ble_eq_true rfl) (L' := [some (.ref 135), some (.int v1), some (.int v2), some (.int v3), some (.int v4), some (.int v5), some (.int (0 : Int32)), none]) rfl ?_
      refine g_iconst (pc := 42) dX12_called_42 ic_0 ?_
      refine g_istore (pc := 43) dX12_called_43 (Nat.le_of_ble_eq_true rfl) (L' := [some (.ref 135), some (.int v1), some (.int v2), some (.int v3), some (.int v4), some (.int v5), some (.int (0 : Int32)), some (.int (0 : Int32))]) rfl ?_
      exact G_X12_called_45 hd ih xN v1 v2 v3 v4 v5 (0 : Int32) (0 : Int32) u h
set_option maxRecDepth 100000 in
set_option maxHeartbeats 4000000 in
theorem G_X12_called_0 {sc : Nat × (Nat → Int32)} {d : Nat} (hd : 2 ≤ d) {r : Int32} {u' : xS} (v1 : Int32) (v2 : Int32) (u : xS) (h : f_X12_called v1 v2 u = some (r, u')) : xG sc mX12_called d 0 0 (xR (some (.int r)) (xL0, u') 0 0) 0 0 0 [some (.ref 135), some (.int v1), some (.int v2), none, none, none, none, none] [] (xL0, u) := by
  rw [f_X12_called] at h
  refine g_aload_n (pc := 0) dX12_called_0 rfl ?_
  refine g_iconst (pc := 1) dX12_called_1 ic_0 ?_
  refine g_pI (pc := 2) dX12_called_2 pI_RX12_150 xc_135 (u' := (wr u 135 0 (0 : Int32))) rfl ?_
  refine g_iload_n (pc := 5) dX12_called_5 rfl ?_
  refine g_cS (pc := 6) dX12_called_6 cS_RX12_208 (M_X12_isSorter (Nat.le_refl _) rfl) (as := [.int v1]) (st := []) rfl rfl (Nat.le_of_ble_eq_true rfl) (Nat.le_trans (Nat.le_of_ble_eq_true rfl) hd) rfl ?_
  refine g_if_eq (tgt := 20) (pc := 9) dX12_called_9 (by decide) (fun c1 => ?_) (fun c1 => ?_)
  · replace h := (if_pos c1).symm.trans h
    refine g_iconst (pc := 20) dX12_called_20 ic_m1 ?_
    cases h
    exact g_iret (pc := 21) dX12_called_21 rfl rfl rfl (Nat.le_refl _) (Nat.le_refl _)
  · replace h := (if_neg c1).symm.trans h
    refine g_aload_n (pc := 12) dX12_called_12 rfl ?_
    refine g_iload_n (pc := 13) dX12_called_13 rfl ?_
    refine g_cV (pc := 14) dX12_called_14 cV_RX12_166 (M_X12_isSort (Nat.le_refl _) rfl) xc_135 (as := [.int v2]) (st := []) rfl rfl (Nat.le_of_ble_eq_true rfl) (Nat.le_trans (Nat.le_of_ble_eq_true rfl) hd) rfl ?_
    refine g_if_ne (tgt := 22) (pc := 17) dX12_called_17 (by decide) (fun c2 => ?_) (fun c2 => ?_)
    · replace h := (if_neg c2).symm.trans h
      refine g_iconst (pc := 22) dX12_called_22 ic_m1 ?_
      refine g_istore_n (pc := 23) dX12_called_23 (Nat.le_of_ble_eq_true rfl) (L' := [some (.ref 135), some (.int v1), some (.int v2), some (.int (-1 : Int32)), none, none, none, none]) rfl ?_
      refine g_iconst (pc := 24) dX12_called_24 ic_0 ?_
      refine g_istore (pc := 25) dX12_called_25 (Nat.le_of_ble_eq_true rfl) (L' := [some (.ref 135), some (.int v1), some (.int v2), some (.int (-1 : Int32)), some (.int (0 : Int32)), none, none, none]) rfl ?_
      refine g_iconst (pc := 27) dX12_called_27 ic_0 ?_
      refine g_istore (pc := 28) dX12_called_28 (Nat.le_of_ble_eq_true rfl) (L' := [some (.ref 135), some (.int v1), some (.int v2), some (.int (-1 : Int32)), some (.int (0 : Int32)), some (.int (0 : Int32)), none, none]) rfl ?_
      exact G_X12_called_30 hd xN v1 v2 (-1 : Int32) (0 : Int32) (0 : Int32) (wr u 135 0 (0 : Int32)) h
    · replace h := (if_pos c2).symm.trans h
      refine g_iconst (pc := 20) dX12_called_20 ic_m1 ?_
      cases h
      exact g_iret (pc := 21) dX12_called_21 rfl rfl rfl (Nat.le_refl _) (Nat.le_refl _)
set_option maxRecDepth 100000 in
set_option maxHeartbeats 4000000 in
theorem M_X12_called {sc : Nat × (Nat → Int32)} {d : Nat} (hd : 2 ≤ d) {r : Int32} {u u' : xS} {a1 : Int32} {a2 : Int32} (h : f_X12_called a1 a2 u = some (r, u')) : xMt sc mX12_called d 0 0 [.ref 135, .int a1, .int a2] (xL0, u) (some (.int r)) (xL0, u') :=
  xMt.of (by decide +kernel) (Nat.le_of_ble_eq_true rfl) (L := [some (.ref 135), some (.int a1), some (.int a2), none, none, none, none, none]) rfl ((G_X12_called_0 hd a1 a2 u h))
set_option maxRecDepth 100000 in
set_option maxHeartbeats 4000000 in
theorem G_X12_partsInAll_4 {sc : Nat × (Nat → Int32)} {d : Nat} (hd : 0 ≤ d) {r : Int32} {u : xS} : ∀ (n : Nat) (v1 : Int32) (v2 : Int32), f_X12_partsInAll_4 u n v1 v2 = some r → xG sc mX12_partsInAll d 0 0 (xR (some (.int r)) (xL0, u) 0 0) 0 0 4 [some (.ref 135), some (.int v1), some (.int v2)] [] (xL0, u) := by
  intro n
  induction n with
  | zero =>
    intro v1 v2 h
    rw [f_X12_partsInAll_4] at h
    cases h
  | succ n ih =>
    intro v1 v2 h
    rw [f_X12_partsInAll_4] at h
    refine g_iload_n (pc := 4) dX12_partsInAll_4 rfl ?_
    refine g_aload_n (pc := 5) dX12_partsInAll_5 rfl ?_
    refine g_gI (pc := 6) dX12_partsInAll_6 fI_RX12_153 xc_135 (v := (rd u 135 1)) rfl ?_
    refine g_icmp_ge (tgt := 27) (pc := 9) dX12_partsInAll_9 (by decide) (fun c1 => ?_) (fun c1 => ?_)
    · replace h := (if_pos c1).symm.trans h
      refine g_iload_n (pc := 27) dX12_partsInAll_27 rfl ?_
      cases h
      exact g_iret (pc := 28) dX12_partsInAll_28 rfl rfl rfl (Nat.le_refl _) (Nat.le_refl _)
    · replace h := (if_neg c1).symm.trans h
      refine g_iload_n (pc := 12) dX12_partsInAll_12 rfl ?_
      refine g_aload_n (pc := 13) dX12_partsInAll_13 rfl ?_
      refine g_gR (pc := 14) dX12_partsInAll_14 fR_RX12_87 xc_135 (v := 160) rfl ?_
      refine g_iload_n (pc := 17) dX12_partsInAll_17 rfl ?_
      obtain ⟨g2, h⟩ := x_gd h
      refine g_iaload (pc := 18) dX12_partsInAll_18 xc_160 (xin_of g2) (v := (rd u 160 v2.toNatClampNeg)) rfl ?_
      refine g_iadd (pc := 19) dX12_partsInAll_19 rfl ?_
      refine g_istore_n (pc := 20) dX12_partsInAll_20 (Nat.le_of_ble_eq_true rfl) (L' := [some (.ref 135), some (.int (v1 + (rd u 160 v2.toNatClampNeg))), some (.int v2)]) rfl ?_
      refine g_inc (pc := 21) dX12_partsInAll_21 (Nat.le_of_ble_eq_true rfl) rfl ic_1 (L' := [some (.ref 135), some (.int (v1 + (rd u 160 v2.toNatClampNeg))), some (.int (v2 + (1 : Int32)))]) rfl ?_
      refine g_goto (tgt := 4) (pc := 24) dX12_partsInAll_24 (by decide) ?_
      exact ih (v1 + (rd u 160 v2.toNatClampNeg)) (v2 + (1 : Int32)) h
set_option maxRecDepth 100000 in
set_option maxHeartbeats 4000000 in
theorem G_X12_partsInAll_0 {sc : Nat × (Nat → Int32)} {d : Nat} (hd : 0 ≤ d) {r : Int32} {u : xS} (h : f_X12_partsInAll u = some r) : xG sc mX12_partsInAll d 0 0 (xR (some (.int r)) (xL0, u) 0 0) 0 0 0 [some (.ref 135), none, none] [] (xL0, u) := by
  rw [f_X12_partsInAll] at h
  refine g_iconst (pc := 0) dX12_partsInAll_0 ic_0 ?_
  refine g_istore_n (pc := 1) dX12_partsInAll_1 (Nat.le_of_ble_eq_true rfl) (L' := [some (.ref 135), some (.int (0 : Int32)), none]) rfl ?_
  refine g_iconst (pc := 2) dX12_partsInAll_2 ic_0 ?_
  refine g_istore_n (pc := 3) dX12_partsInAll_3 (Nat.le_of_ble_eq_true rfl) (L' := [some (.ref 135), some (.int (0 : Int32)), some (.int (0 : Int32))]) rfl ?_
  exact G_X12_partsInAll_4 hd xN (0 : Int32) (0 : Int32) h
set_option maxRecDepth 100000 in
set_option maxHeartbeats 4000000 in
theorem M_X12_partsInAll {sc : Nat × (Nat → Int32)} {d : Nat} (hd : 0 ≤ d) {r : Int32} {u : xS} (h : f_X12_partsInAll u = some r) : xMt sc mX12_partsInAll d 0 0 [.ref 135] (xL0, u) (some (.int r)) (xL0, u) :=
  xMt.of (by decide +kernel) (Nat.le_of_ble_eq_true rfl) (L := [some (.ref 135), none, none]) rfl ((G_X12_partsInAll_0 hd h))
set_option maxRecDepth 100000 in
set_option maxHeartbeats 4000000 in
theorem G_X12_costOf_4 {sc : Nat × (Nat → Int32)} {d : Nat} (hd : 1 ≤ d) {r : Int32} {u : xS} : ∀ (n : Nat) (v1 : Int32) (v2 : Int32) (v3 : Int32), f_X12_costOf_4 u n v1 v2 v3 = some r → xG sc mX12_costOf d 0 0 (xR (some (.int r)) (xL0, u) 0 0) 0 0 4 [some (.ref 135), some (.int v1), some (.int v2), some (.int v3)] [] (xL0, u) := by
  intro n
  induction n with
  | zero =>
    intro v1 v2 v3 h
    rw [f_X12_costOf_4] at h
    cases h
  | succ n ih =>
    intro v1 v2 v3 h
    rw [f_X12_costOf_4] at h
    refine g_iload_n (pc := 4) dX12_costOf_4 rfl ?_
    refine g_aload_n (pc := 5) dX12_costOf_5 rfl ?_
    refine g_gI (pc := 6) dX12_costOf_6 fI_RX12_153 xc_135 (v := (rd u 135 1)) rfl ?_
    refine g_icmp_ge (tgt := 34) (pc := 9) dX12_costOf_9 (by decide) (fun c1 => ?_) (fun c1 => ?_)
    · replace h := (if_pos c1).symm.trans h
      refine g_iload_n (pc := 34) dX12_costOf_34 rfl ?_
      cases h
      exact g_iret (pc := 35) dX12_costOf_35 rfl rfl rfl (Nat.le_refl _) (Nat.le_refl _)
    · replace h := (if_neg c1).symm.trans h
      refine g_iload_n (pc := 12) dX12_costOf_12 rfl ?_
      refine g_aload_n (pc := 13) dX12_costOf_13 rfl ?_
      refine g_gR (pc := 14) dX12_costOf_14 fR_RX12_87 xc_135 (v := 160) rfl ?_
      refine g_iload_n (pc := 17) dX12_costOf_17 rfl ?_
      obtain ⟨g2, h⟩ := x_gd h
      refine g_iaload (pc := 18) dX12_costOf_18 xc_160 (xin_of g2) (v := (rd u 160 v3.toNatClampNeg)) rfl ?_
      refine g_aload_n (pc := 19) dX12_costOf_19 rfl ?_
      refine g_iload_n (pc := 20) dX12_costOf_20 rfl ?_
      refine g_iload_n (pc := 21) dX12_costOf_21 rfl ?_
      obtain ⟨x4, e3, h⟩ := x_bind h
      refine g_cV (pc := 22) dX12_costOf_22 cV_RX12_178 (M_X12_priceOf (Nat.le_refl _) e3) xc_135 (as := [.int v3, .int v1]) (st := [.int (rd u 160 v3.toNatClampNeg), .int v2]) rfl rfl (Nat.le_of_ble_eq_true rfl) (Nat.le_trans (Nat.le_of_ble_eq_true rfl) hd) rfl ?_
      refine g_imul (pc := 25) dX12_costOf_25 rfl ?_
      refine g_iadd (pc := 26) dX12_costOf_26 rfl ?_
      refine g_istore_n (pc := 27) dX12_costOf_27 (Nat.le_of_ble_eq_true rfl) (L' := [some (.ref 135), some (.int v1), some (.int (v2 + ((rd u 160 v3.toNatClampNeg) * x4))), some (.int v3)]) rfl ?_
      refine g_inc (pc := 28) dX12_costOf_28 (Nat.le_of_ble_eq_true rfl) rfl ic_1 (L' := [some (.ref 135), some (.int v1), some (.int (v2 + ((rd u 160 v3.toNatClampNeg) * x4))), some (.int (v3 + (1 : Int32)))]) rfl ?_
      refine g_goto (tgt := 4) (pc := 31) dX12_costOf_31 (by decide) ?_
      exact ih v1 (v2 + ((rd u 160 v3.toNatClampNeg) * x4)) (v3 + (1 : Int32)) h
set_option maxRecDepth 100000 in
set_option maxHeartbeats 4000000 in
theorem G_X12_costOf_0 {sc : Nat × (Nat → Int32)} {d : Nat} (hd : 1 ≤ d) {r : Int32} {u : xS} (v1 : Int32) (h : f_X12_costOf u v1 = some r) : xG sc mX12_costOf d 0 0 (xR (some (.int r)) (xL0, u) 0 0) 0 0 0 [some (.ref 135), some (.int v1), none, none] [] (xL0, u) := by
  rw [f_X12_costOf] at h
  refine g_iconst (pc := 0) dX12_costOf_0 ic_0 ?_
  refine g_istore_n (pc := 1) dX12_costOf_1 (Nat.le_of_ble_eq_true rfl) (L' := [some (.ref 135), some (.int v1), some (.int (0 : Int32)), none]) rfl ?_
  refine g_iconst (pc := 2) dX12_costOf_2 ic_0 ?_
  refine g_istore_n (pc := 3) dX12_costOf_3 (Nat.le_of_ble_eq_true rfl) (L' := [some (.ref 135), some (.int v1), some (.int (0 : Int32)), some (.int (0 : Int32))]) rfl ?_
  exact G_X12_costOf_4 hd xN v1 (0 : Int32) (0 : Int32) h
set_option maxRecDepth 100000 in
set_option maxHeartbeats 4000000 in
theorem M_X12_costOf {sc : Nat × (Nat → Int32)} {d : Nat} (hd : 1 ≤ d) {r : Int32} {u : xS} {a1 : Int32} (h : f_X12_costOf u a1 = some r) : xMt sc mX12_costOf d 0 0 [.ref 135, .int a1] (xL0, u) (some (.int r)) (xL0, u) :=
  xMt.of (by decide +kernel) (Nat.le_of_ble_eq_true rfl) (L := [some (.ref 135), some (.int a1), none, none]) rfl ((G_X12_costOf_0 hd a1 h))
set_option maxRecDepth 100000 in
set_option maxHeartbeats 4000000 in
theorem G_X12_cost_0 {sc : Nat × (Nat → Int32)} {d : Nat} (hd : 2 ≤ d) {r : Int32} {u' : xS} (v1 : Int32) (u : xS) (h : f_X12_cost v1 u = some (r, u')) : xG sc mX12_cost d 0 0 (xR (some (.int r)) (xL0, u') 0 0) 0 0 0 [some (.ref 135), some (.int v1)] [] (xL0, u) := by
  rw [f_X12_cost] at h
  refine g_aload_n (pc := 0) dX12_cost_0 rfl ?_
  refine g_iconst (pc := 1) dX12_cost_1 ic_0 ?_
  refine g_pI (pc := 2) dX12_cost_2 pI_RX12_150 xc_135 (u' := (wr u 135 0 (0 : Int32))) rfl ?_
  refine g_iload_n (pc := 5) dX12_cost_5 rfl ?_
  refine g_cS (pc := 6) dX12_cost_6 cS_RX12_170 (M_X12_isWeek (Nat.le_refl _) rfl) (as := [.int v1]) (st := []) rfl rfl (Nat.le_of_ble_eq_true rfl) (Nat.le_trans (Nat.le_of_ble_eq_true rfl) hd) rfl ?_
  refine g_if_eq (tgt := 29) (pc := 9) dX12_cost_9 (by decide) (fun c1 => ?_) (fun c1 => ?_)
  · replace h := (if_pos c1).symm.trans h
    refine g_iconst (pc := 29) dX12_cost_29 ic_m1 ?_
    cases h
    exact g_iret (pc := 30) dX12_cost_30 rfl rfl rfl (Nat.le_refl _) (Nat.le_refl _)
  · replace h := (if_neg c1).symm.trans h
    refine g_aload_n (pc := 12) dX12_cost_12 rfl ?_
    obtain ⟨x3, e2, h⟩ := x_bind h
    refine g_cV (pc := 13) dX12_cost_13 cV_RX12_356 (M_X12_partsInAll (Nat.le_refl _) e2) xc_135 (as := []) (st := []) rfl rfl (Nat.le_of_ble_eq_true rfl) (Nat.le_trans (Nat.le_of_ble_eq_true rfl) hd) rfl ?_
    refine g_bipush (pc := 16) dX12_cost_16 bp_12 ?_
    refine g_icmp_ne (tgt := 29) (pc := 18) dX12_cost_18 (by decide) (fun c4 => ?_) (fun c4 => ?_)
    · replace h := (if_neg c4).symm.trans h
      refine g_iconst (pc := 29) dX12_cost_29 ic_m1 ?_
      cases h
      exact g_iret (pc := 30) dX12_cost_30 rfl rfl rfl (Nat.le_refl _) (Nat.le_refl _)
    · replace h := (if_pos c4).symm.trans h
      refine g_aload_n (pc := 21) dX12_cost_21 rfl ?_
      refine g_iload_n (pc := 22) dX12_cost_22 rfl ?_
      obtain ⟨x6, e5, h⟩ := x_bind h
      refine g_cV (pc := 23) dX12_cost_23 cV_RX12_368 (M_X12_costOf (Nat.le_refl _) e5) xc_135 (as := [.int v1]) (st := []) rfl rfl (Nat.le_of_ble_eq_true rfl) (Nat.le_trans (Nat.le_of_ble_eq_true rfl) hd) rfl ?_
      refine g_goto (tgt := 30) (pc := 26) dX12_cost_26 (by decide) ?_
      cases h
      exact g_iret (pc := 30) dX12_cost_30 rfl rfl rfl (Nat.le_refl _) (Nat.le_refl _)
set_option maxRecDepth 100000 in
set_option maxHeartbeats 4000000 in
theorem M_X12_cost {sc : Nat × (Nat → Int32)} {d : Nat} (hd : 2 ≤ d) {r : Int32} {u u' : xS} {a1 : Int32} (h : f_X12_cost a1 u = some (r, u')) : xMt sc mX12_cost d 0 0 [.ref 135, .int a1] (xL0, u) (some (.int r)) (xL0, u') :=
  xMt.of (by decide +kernel) (Nat.le_of_ble_eq_true rfl) (L := [some (.ref 135), some (.int a1)]) rfl ((G_X12_cost_0 hd a1 u h))
set_option maxRecDepth 100000 in
set_option maxHeartbeats 4000000 in
theorem G_X12_lots_28 {sc : Nat × (Nat → Int32)} {d : Nat} (hd : 1 ≤ d) {r : Int32} {u : xS} {k4 : Int32 → Int32 → Option Int32} (hk4 : ∀ (v1 : Int32) (v2 : Int32), k4 v1 v2 = some r → xG sc mX12_lots d 0 0 (xR (some (.int r)) (xL0, u) 0 0) 0 0 4 [some (.ref 135), some (.int v1), some (.int v2)] [] (xL0, u)) (v2 : Int32) (s0 : Int32) (s1 : Int32) (h : f_X12_lots_28 k4 u v2 s0 s1 = some r) : xG sc mX12_lots d 0 0 (xR (some (.int r)) (xL0, u) 0 0) 0 0 28 [some (.ref 135), none, some (.int v2)] [.int s1, .int s0] (xL0, u) := by
  rw [f_X12_lots_28] at h
  refine g_cS (pc := 28) dX12_lots_28 cS_RX12_190 (M_X12_truth (Nat.le_refl _) rfl) (as := [.int s1]) (st := [.int s0]) rfl rfl (Nat.le_of_ble_eq_true rfl) (Nat.le_trans (Nat.le_of_ble_eq_true rfl) hd) rfl ?_
  refine g_iadd (pc := 31) dX12_lots_31 rfl ?_
  refine g_istore_n (pc := 32) dX12_lots_32 (Nat.le_of_ble_eq_true rfl) (L' := [some (.ref 135), some (.int (s0 + (f_X12_truth s1))), some (.int v2)]) rfl ?_
  refine g_inc (pc := 33) dX12_lots_33 (Nat.le_of_ble_eq_true rfl) rfl ic_1 (L' := [some (.ref 135), some (.int (s0 + (f_X12_truth s1))), some (.int (v2 + (1 : Int32)))]) rfl ?_
  refine g_goto (tgt := 4) (pc := 36) dX12_lots_36 (by decide) ?_
  exact hk4 (s0 + (f_X12_truth s1)) (v2 + (1 : Int32)) h
set_option maxRecDepth 100000 in
set_option maxHeartbeats 4000000 in
theorem G_X12_lots_4 {sc : Nat × (Nat → Int32)} {d : Nat} (hd : 1 ≤ d) {r : Int32} {u : xS} : ∀ (n : Nat) (v1 : Int32) (v2 : Int32), f_X12_lots_4 u n v1 v2 = some r → xG sc mX12_lots d 0 0 (xR (some (.int r)) (xL0, u) 0 0) 0 0 4 [some (.ref 135), some (.int v1), some (.int v2)] [] (xL0, u) := by
  intro n
  induction n with
  | zero =>
    intro v1 v2 h
    rw [f_X12_lots_4] at h
    cases h
  | succ n ih =>
    intro v1 v2 h
    rw [f_X12_lots_4] at h
    refine g_iload_n (pc := 4) dX12_lots_4 rfl ?_
    refine g_aload_n (pc := 5) dX12_lots_5 rfl ?_
    refine g_gR (pc := 6) dX12_lots_6 fR_RX12_43 xc_135 (v := 147) rfl ?_
    refine g_alen (pc := 9) dX12_lots_9 xc_147 (by decide) (v := (384 : Int32)) (by decide) ?_
    refine g_icmp_ge (tgt := 39) (pc := 10) dX12_lots_10 (by decide) (fun c1 => ?_) (fun c1 => ?_)
    · replace h := (if_pos c1).symm.trans h
      refine g_iload_n (pc := 39) dX12_lots_39 rfl ?_
      cases h
      exact g_iret (pc := 40) dX12_lots_40 rfl rfl rfl (Nat.le_refl _) (Nat.le_refl _)
    · replace h := (if_neg c1).symm.trans h
      refine g_iload_n (pc := 13) dX12_lots_13 rfl ?_
      refine g_aload_n (pc := 14) dX12_lots_14 rfl ?_
      refine g_gR (pc := 15) dX12_lots_15 fR_RX12_43 xc_135 (v := 147) rfl ?_
      refine g_iload_n (pc := 18) dX12_lots_18 rfl ?_
      obtain ⟨g2, h⟩ := x_gd h
      refine g_iaload (pc := 19) dX12_lots_19 xc_147 (xin_of g2) (v := (rd u 147 v2.toNatClampNeg)) rfl ?_
      refine g_if_le (tgt := 27) (pc := 20) dX12_lots_20 (by decide) (fun c3 => ?_) (fun c3 => ?_)
      · replace h := (if_pos c3).symm.trans h
        refine g_iconst (pc := 27) dX12_lots_27 ic_0 ?_
        refine g_L (L' := [some (.ref 135), none, some (.int v2)]) ⟨rfl, ⟨rfl, trivial⟩⟩ ?_
        exact G_X12_lots_28 hd ih v2 v1 (0 : Int32) h
      · replace h := (if_neg c3).symm.trans h
        refine g_iconst (pc := 23) dX12_lots_23 ic_1 ?_
        refine g_goto (tgt := 28) (pc := 24) dX12_lots_24 (by decide) ?_
        refine g_L (L' := [some (.ref 135), none, some (.int v2)]) ⟨rfl, ⟨rfl, trivial⟩⟩ ?_
        exact G_X12_lots_28 hd ih v2 v1 (1 : Int32) h
set_option maxRecDepth 100000 in
set_option maxHeartbeats 4000000 in
theorem G_X12_lots_0 {sc : Nat × (Nat → Int32)} {d : Nat} (hd : 1 ≤ d) {r : Int32} {u : xS} (h : f_X12_lots u = some r) : xG sc mX12_lots d 0 0 (xR (some (.int r)) (xL0, u) 0 0) 0 0 0 [some (.ref 135), none, none] [] (xL0, u) := by
  rw [f_X12_lots] at h
  refine g_iconst (pc := 0) dX12_lots_0 ic_0 ?_
  refine g_istore_n (pc := 1) dX12_lots_1 (Nat.le_of_ble_eq_true rfl) (L' := [some (.ref 135), some (.int (0 : Int32)), none]) rfl ?_
  refine g_iconst (pc := 2) dX12_lots_2 ic_0 ?_
  refine g_istore_n (pc := 3) dX12_lots_3 (Nat.le_of_ble_eq_true rfl) (L' := [some (.ref 135), some (.int (0 : Int32)), some (.int (0 : Int32))]) rfl ?_
  exact G_X12_lots_4 hd xN (0 : Int32) (0 : Int32) h
set_option maxRecDepth 100000 in
set_option maxHeartbeats 4000000 in
theorem M_X12_lots {sc : Nat × (Nat → Int32)} {d : Nat} (hd : 1 ≤ d) {r : Int32} {u : xS} (h : f_X12_lots u = some r) : xMt sc mX12_lots d 0 0 [.ref 135] (xL0, u) (some (.int r)) (xL0, u) :=
  xMt.of (by decide +kernel) (Nat.le_of_ble_eq_true rfl) (L := [some (.ref 135), none, none]) rfl ((G_X12_lots_0 hd h))
set_option maxRecDepth 100000 in
set_option maxHeartbeats 4000000 in
theorem G_X12_count_0 {sc : Nat × (Nat → Int32)} {d : Nat} (hd : 2 ≤ d) {r : Int32} {u' : xS} (v1 : Int32) (u : xS) (h : f_X12_count v1 u = some (r, u')) : xG sc mX12_count d 0 0 (xR (some (.int r)) (xL0, u') 0 0) 0 0 0 [some (.ref 135), some (.int v1)] [] (xL0, u) := by
  rw [f_X12_count] at h
  refine g_aload_n (pc := 0) dX12_count_0 rfl ?_
  refine g_iconst (pc := 1) dX12_count_1 ic_0 ?_
  refine g_pI (pc := 2) dX12_count_2 pI_RX12_150 xc_135 (u' := (wr u 135 0 (0 : Int32))) rfl ?_
  refine g_iload_n (pc := 5) dX12_count_5 rfl ?_
  by_cases c1 : v1 = (0 : Int32)
  · replace h := (if_pos c1).symm.trans h
    refine g_tableIn (tgt := 72) (off := 66) (pc := 6) dX12_count_6 (by rw [c1]; decide) (by rw [c1]; decide) (by rw [c1]; rfl) (by decide) ?_
    refine g_aload_n (pc := 72) dX12_count_72 rfl ?_
    refine g_gI (pc := 73) dX12_count_73 fI_RX12_153 xc_135 (v := (rd u 135 1)) rfl ?_
    cases h
    exact g_iret (pc := 76) dX12_count_76 rfl rfl rfl (Nat.le_refl _) (Nat.le_refl _)
  replace h := (if_neg c1).symm.trans h
  by_cases c2 : v1 = (1 : Int32)
  · replace h := (if_pos c2).symm.trans h
    refine g_tableIn (tgt := 77) (off := 71) (pc := 6) dX12_count_6 (by rw [c2]; decide) (by rw [c2]; decide) (by rw [c2]; rfl) (by decide) ?_
    refine g_aload_n (pc := 77) dX12_count_77 rfl ?_
    refine g_gI (pc := 78) dX12_count_78 fI_RX12_175 xc_135 (v := (rd u 135 3)) rfl ?_
    cases h
    exact g_iret (pc := 81) dX12_count_81 rfl rfl rfl (Nat.le_refl _) (Nat.le_refl _)
  replace h := (if_neg c2).symm.trans h
  by_cases c3 : v1 = (2 : Int32)
  · replace h := (if_pos c3).symm.trans h
    refine g_tableIn (tgt := 82) (off := 76) (pc := 6) dX12_count_6 (by rw [c3]; decide) (by rw [c3]; decide) (by rw [c3]; rfl) (by decide) ?_
    refine g_aload_n (pc := 82) dX12_count_82 rfl ?_
    refine g_gI (pc := 83) dX12_count_83 fI_RX12_194 xc_135 (v := (rd u 135 7)) rfl ?_
    cases h
    exact g_iret (pc := 86) dX12_count_86 rfl rfl rfl (Nat.le_refl _) (Nat.le_refl _)
  replace h := (if_neg c3).symm.trans h
  by_cases c4 : v1 = (3 : Int32)
  · replace h := (if_pos c4).symm.trans h
    refine g_tableIn (tgt := 87) (off := 81) (pc := 6) dX12_count_6 (by rw [c4]; decide) (by rw [c4]; decide) (by rw [c4]; rfl) (by decide) ?_
    refine g_aload_n (pc := 87) dX12_count_87 rfl ?_
    refine g_gI (pc := 88) dX12_count_88 fI_RX12_229 xc_135 (v := (rd u 135 18)) rfl ?_
    cases h
    exact g_iret (pc := 91) dX12_count_91 rfl rfl rfl (Nat.le_refl _) (Nat.le_refl _)
  replace h := (if_neg c4).symm.trans h
  by_cases c5 : v1 = (4 : Int32)
  · replace h := (if_pos c5).symm.trans h
    refine g_tableIn (tgt := 92) (off := 86) (pc := 6) dX12_count_6 (by rw [c5]; decide) (by rw [c5]; decide) (by rw [c5]; rfl) (by decide) ?_
    refine g_aload_n (pc := 92) dX12_count_92 rfl ?_
    refine g_gI (pc := 93) dX12_count_93 fI_RX12_320 xc_135 (v := (rd u 135 28)) rfl ?_
    cases h
    exact g_iret (pc := 96) dX12_count_96 rfl rfl rfl (Nat.le_refl _) (Nat.le_refl _)
  replace h := (if_neg c5).symm.trans h
  by_cases c6 : v1 = (5 : Int32)
  · replace h := (if_pos c6).symm.trans h
    refine g_tableIn (tgt := 97) (off := 91) (pc := 6) dX12_count_6 (by rw [c6]; decide) (by rw [c6]; decide) (by rw [c6]; rfl) (by decide) ?_
    refine g_aload_n (pc := 97) dX12_count_97 rfl ?_
    obtain ⟨x8, e7, h⟩ := x_bind h
    refine g_cV (pc := 98) dX12_count_98 cV_RX12_433 (M_X12_lots (Nat.le_refl _) e7) xc_135 (as := []) (st := []) rfl rfl (Nat.le_of_ble_eq_true rfl) (Nat.le_trans (Nat.le_of_ble_eq_true rfl) hd) rfl ?_
    cases h
    exact g_iret (pc := 101) dX12_count_101 rfl rfl rfl (Nat.le_refl _) (Nat.le_refl _)
  replace h := (if_neg c6).symm.trans h
  by_cases c9 : v1 = (6 : Int32)
  · replace h := (if_pos c9).symm.trans h
    refine g_tableIn (tgt := 102) (off := 96) (pc := 6) dX12_count_6 (by rw [c9]; decide) (by rw [c9]; decide) (by rw [c9]; rfl) (by decide) ?_
    refine g_aload_n (pc := 102) dX12_count_102 rfl ?_
    refine g_gI (pc := 103) dX12_count_103 fI_RX12_223 xc_135 (v := (rd u 135 37)) rfl ?_
    cases h
    exact g_iret (pc := 106) dX12_count_106 rfl rfl rfl (Nat.le_refl _) (Nat.le_refl _)
  replace h := (if_neg c9).symm.trans h
  by_cases c10 : v1 = (7 : Int32)
  · replace h := (if_pos c10).symm.trans h
    refine g_tableIn (tgt := 107) (off := 101) (pc := 6) dX12_count_6 (by rw [c10]; decide) (by rw [c10]; decide) (by rw [c10]; rfl) (by decide) ?_
    refine g_aload_n (pc := 107) dX12_count_107 rfl ?_
    refine g_gI (pc := 108) dX12_count_108 fI_RX12_409 xc_135 (v := (rd u 135 46)) rfl ?_
    cases h
    exact g_iret (pc := 111) dX12_count_111 rfl rfl rfl (Nat.le_refl _) (Nat.le_refl _)
  replace h := (if_neg c10).symm.trans h
  by_cases c11 : v1 = (8 : Int32)
  · replace h := (if_pos c11).symm.trans h
    refine g_tableIn (tgt := 112) (off := 106) (pc := 6) dX12_count_6 (by rw [c11]; decide) (by rw [c11]; decide) (by rw [c11]; rfl) (by decide) ?_
    refine g_aload_n (pc := 112) dX12_count_112 rfl ?_
    refine g_gI (pc := 113) dX12_count_113 fI_RX12_420 xc_135 (v := (rd u 135 54)) rfl ?_
    cases h
    exact g_iret (pc := 116) dX12_count_116 rfl rfl rfl (Nat.le_refl _) (Nat.le_refl _)
  replace h := (if_neg c11).symm.trans h
  by_cases c12 : v1 = (9 : Int32)
  · replace h := (if_pos c12).symm.trans h
    refine g_tableIn (tgt := 117) (off := 111) (pc := 6) dX12_count_6 (by rw [c12]; decide) (by rw [c12]; decide) (by rw [c12]; rfl) (by decide) ?_
    refine g_aload_n (pc := 117) dX12_count_117 rfl ?_
    refine g_gI (pc := 118) dX12_count_118 fI_RX12_388 xc_135 (v := (rd u 135 43)) rfl ?_
    cases h
    exact g_iret (pc := 121) dX12_count_121 rfl rfl rfl (Nat.le_refl _) (Nat.le_refl _)
  replace h := (if_neg c12).symm.trans h
  by_cases c13 : v1 = (10 : Int32)
  · replace h := (if_pos c13).symm.trans h
    refine g_tableIn (tgt := 122) (off := 116) (pc := 6) dX12_count_6 (by rw [c13]; decide) (by rw [c13]; decide) (by rw [c13]; rfl) (by decide) ?_
    refine g_aload_n (pc := 122) dX12_count_122 rfl ?_
    refine g_gI (pc := 123) dX12_count_123 fI_RX12_256 xc_135 (v := (rd u 135 32)) rfl ?_
    cases h
    exact g_iret (pc := 126) dX12_count_126 rfl rfl rfl (Nat.le_refl _) (Nat.le_refl _)
  replace h := (if_neg c13).symm.trans h
  by_cases c14 : v1 = (11 : Int32)
  · replace h := (if_pos c14).symm.trans h
    refine g_tableIn (tgt := 127) (off := 121) (pc := 6) dX12_count_6 (by rw [c14]; decide) (by rw [c14]; decide) (by rw [c14]; rfl) (by decide) ?_
    refine g_aload_n (pc := 127) dX12_count_127 rfl ?_
    refine g_gI (pc := 128) dX12_count_128 fI_RX12_64 xc_135 (v := (rd u 135 24)) rfl ?_
    cases h
    exact g_iret (pc := 131) dX12_count_131 rfl rfl rfl (Nat.le_refl _) (Nat.le_refl _)
  replace h := (if_neg c14).symm.trans h
  by_cases c15 : v1 = (12 : Int32)
  · replace h := (if_pos c15).symm.trans h
    refine g_tableIn (tgt := 132) (off := 126) (pc := 6) dX12_count_6 (by rw [c15]; decide) (by rw [c15]; decide) (by rw [c15]; rfl) (by decide) ?_
    refine g_aload_n (pc := 132) dX12_count_132 rfl ?_
    obtain ⟨x17, e16, h⟩ := x_bind h
    refine g_cV (pc := 133) dX12_count_133 cV_RX12_356 (M_X12_partsInAll (Nat.le_refl _) e16) xc_135 (as := []) (st := []) rfl rfl (Nat.le_of_ble_eq_true rfl) (Nat.le_trans (Nat.le_of_ble_eq_true rfl) hd) rfl ?_
    cases h
    exact g_iret (pc := 136) dX12_count_136 rfl rfl rfl (Nat.le_refl _) (Nat.le_refl _)
  replace h := (if_neg c15).symm.trans h
  have c1i := i32_ne c1 (m := 0) (by decide)
  have c2i := i32_ne c2 (m := 1) (by decide)
  have c3i := i32_ne c3 (m := 2) (by decide)
  have c4i := i32_ne c4 (m := 3) (by decide)
  have c5i := i32_ne c5 (m := 4) (by decide)
  have c6i := i32_ne c6 (m := 5) (by decide)
  have c9i := i32_ne c9 (m := 6) (by decide)
  have c10i := i32_ne c10 (m := 7) (by decide)
  have c11i := i32_ne c11 (m := 8) (by decide)
  have c12i := i32_ne c12 (m := 9) (by decide)
  have c13i := i32_ne c13 (m := 10) (by decide)
  have c14i := i32_ne c14 (m := 11) (by decide)
  have c15i := i32_ne c15 (m := 12) (by decide)
  refine g_tableOut (tgt := 137) (pc := 6) dX12_count_6 (by omega) (by decide) ?_
  refine g_iconst (pc := 137) dX12_count_137 ic_m1 ?_
  cases h
  exact g_iret (pc := 138) dX12_count_138 rfl rfl rfl (Nat.le_refl _) (Nat.le_refl _)
set_option maxRecDepth 100000 in
set_option maxHeartbeats 4000000 in
theorem M_X12_count {sc : Nat × (Nat → Int32)} {d : Nat} (hd : 2 ≤ d) {r : Int32} {u u' : xS} {a1 : Int32} (h : f_X12_count a1 u = some (r, u')) : xMt sc mX12_count d 0 0 [.ref 135, .int a1] (xL0, u) (some (.int r)) (xL0, u') :=
  xMt.of (by decide +kernel) (Nat.le_of_ble_eq_true rfl) (L := [some (.ref 135), some (.int a1)]) rfl ((G_X12_count_0 hd a1 u h))
theorem zb_X12_isBale (u : xS) (v1 : Int32) : f_X12_isBale u v1 = 0 ∨ f_X12_isBale u v1 = 1 := by
  unfold f_X12_isBale
  (repeat' split) <;> first | exact Or.inl rfl | exact Or.inr rfl | exact zb_X12_in _ _ _
set_option maxRecDepth 100000 in
set_option maxHeartbeats 4000000 in
theorem G_X12_isBale_0 {sc : Nat × (Nat → Int32)} {d : Nat} (hd : 1 ≤ d) {r : Int32} {u : xS} (v1 : Int32) (h : f_X12_isBale u v1 = r) : xG sc mX12_isBale d 0 0 (xR (some (.int r)) (xL0, u) 0 0) 0 0 0 [some (.ref 135), some (.int v1)] [] (xL0, u) := by
  rw [f_X12_isBale] at h
  refine g_iload_n (pc := 0) dX12_isBale_0 rfl ?_
  refine g_i2l (pc := 1) dX12_isBale_1 rfl ?_
  refine g_lconst (v := (0 : Int64)) (pc := 2) dX12_isBale_2 rfl ?_
  refine g_aload_n (pc := 3) dX12_isBale_3 rfl ?_
  refine g_gI (pc := 4) dX12_isBale_4 fI_RX12_194 xc_135 (v := (rd u 135 7)) rfl ?_
  refine g_iconst (pc := 7) dX12_isBale_7 ic_1 ?_
  refine g_isub (pc := 8) dX12_isBale_8 rfl ?_
  refine g_i2l (pc := 9) dX12_isBale_9 rfl ?_
  refine g_cS (pc := 10) dX12_isBale_10 cS_RX12_156 (M_X12_in (Nat.le_refl _) rfl) (as := [.long ((v1).toInt64), .long (0 : Int64), .long (((rd u 135 7) - (1 : Int32)).toInt64)]) (st := []) rfl rfl (Nat.le_of_ble_eq_true rfl) (Nat.le_trans (Nat.le_of_ble_eq_true rfl) hd) rfl ?_
  subst h
  exact g_zret (pc := 13) dX12_isBale_13 rfl (zb_X12_in _ _ _) rfl rfl (Nat.le_refl _) (Nat.le_refl _)
set_option maxRecDepth 100000 in
set_option maxHeartbeats 4000000 in
theorem M_X12_isBale {sc : Nat × (Nat → Int32)} {d : Nat} (hd : 1 ≤ d) {r : Int32} {u : xS} {a1 : Int32} (h : f_X12_isBale u a1 = r) : xMt sc mX12_isBale d 0 0 [.ref 135, .int a1] (xL0, u) (some (.int r)) (xL0, u) :=
  xMt.of (by decide +kernel) (Nat.le_of_ble_eq_true rfl) (L := [some (.ref 135), some (.int a1)]) rfl ((G_X12_isBale_0 hd a1 h))
set_option maxRecDepth 100000 in
set_option maxHeartbeats 4000000 in
theorem G_X12_says_0 {sc : Nat × (Nat → Int32)} {d : Nat} (hd : 4 ≤ d) {u' : xS} (v1 : Int32) (v2 : Int32) (u : xS) (h : f_X12_says v1 v2 u = some u') : xG sc mX12_says d 0 0 (xR none (xL0, u') 0 0) 0 0 0 [some (.ref 135), some (.int v1), some (.int v2)] [] (xL0, u) := by
  rw [f_X12_says] at h
  refine g_aload_n (pc := 0) dX12_says_0 rfl ?_
  refine g_gR (pc := 1) dX12_says_1 fR_RX12_81 xc_135 (v := 158) rfl ?_
  refine g_ldcS 0 (pc := 4) dX12_says_4 rfl rfl ?_
  refine g_iload_n (pc := 7) dX12_says_7 rfl ?_
  obtain ⟨x2, e1, h⟩ := x_bind h
  refine g_cT 0 (pc := 8) dX12_says_8 cT_RX12_262 (M_J0_indexOf_0f7a4_t0 (Nat.le_refl _) e1) (as := [.int v1]) (st := [.ref 158]) rfl rfl (Nat.le_of_ble_eq_true rfl) (Nat.le_trans (Nat.le_of_ble_eq_true rfl) hd) rfl ?_
  refine g_iload_n (pc := 11) dX12_says_11 rfl ?_
  obtain ⟨g3, h⟩ := x_gd h
  refine g_iastore (pc := 12) dX12_says_12 xc_158 (xin_of g3) (u' := (wr u 158 x2.toNatClampNeg v2)) rfl ?_
  cases h
  exact g_ret (pc := 13) dX12_says_13 rfl rfl rfl (Nat.le_refl _) (Nat.le_refl _)
set_option maxRecDepth 100000 in
set_option maxHeartbeats 4000000 in
theorem M_X12_says {sc : Nat × (Nat → Int32)} {d : Nat} (hd : 4 ≤ d) {u u' : xS} {a1 : Int32} {a2 : Int32} (h : f_X12_says a1 a2 u = some u') : xMt sc mX12_says d 0 0 [.ref 135, .int a1, .int a2] (xL0, u) none (xL0, u') :=
  xMt.of (by decide +kernel) (Nat.le_of_ble_eq_true rfl) (L := [some (.ref 135), some (.int a1), some (.int a2)]) rfl ((G_X12_says_0 hd a1 a2 u h))
set_option maxRecDepth 100000 in
set_option maxHeartbeats 4000000 in
theorem G_X12_worked_190 {sc : Nat × (Nat → Int32)} {d : Nat} (hd : 2 ≤ d) {r : Int32} {u' : xS} (v4 : Int32) (u : xS) (h : f_X12_worked_190 v4 u = some (r, u')) : xG sc mX12_worked d 0 0 (xR (some (.int r)) (xL0, u') 0 0) 0 0 190 [some (.ref 135), none, none, none, some (.int v4), none] [] (xL0, u) := by
  rw [f_X12_worked_190] at h
  refine g_aload_n (pc := 190) dX12_worked_190 rfl ?_
  refine g_iload (pc := 191) dX12_worked_191 rfl ?_
  refine g_pI (pc := 193) dX12_worked_193 pI_RX12_331 xc_135 (u' := (wr u 135 35 v4)) rfl ?_
  refine g_aload_n (pc := 196) dX12_worked_196 rfl ?_
  refine g_gR (pc := 197) dX12_worked_197 fR_RX12_78 xc_135 (v := 157) rfl ?_
  refine g_iconst (pc := 200) dX12_worked_200 ic_0 ?_
  refine g_iaload (pc := 201) dX12_worked_201 xc_157 vin_0_64 (v := (rd u 157 0)) rfl ?_
  cases h
  exact g_iret (pc := 202) dX12_worked_202 rfl rfl rfl (Nat.le_refl _) (Nat.le_refl _)
set_option maxRecDepth 100000 in
set_option maxHeartbeats 4000000 in
theorem G_X12_worked_184 {sc : Nat × (Nat → Int32)} {d : Nat} (hd : 2 ≤ d) {r : Int32} {u' : xS} {k5 : Int32 → Int32 → Int32 → xS → Option (Int32 × xS)} (hk5 : ∀ (v2 : Int32) (v3 : Int32) (v4 : Int32) (u : xS), k5 v2 v3 v4 u = some (r, u') → xG sc mX12_worked d 0 0 (xR (some (.int r)) (xL0, u') 0 0) 0 0 5 [some (.ref 135), none, some (.int v2), some (.int v3), some (.int v4), none] [] (xL0, u)) (v2 : Int32) (v3 : Int32) (v4 : Int32) (u : xS) (h : f_X12_worked_184 k5 v2 v3 v4 u = some (r, u')) : xG sc mX12_worked d 0 0 (xR (some (.int r)) (xL0, u') 0 0) 0 0 184 [some (.ref 135), none, some (.int v2), some (.int v3), some (.int v4), none] [] (xL0, u) := by
  rw [f_X12_worked_184] at h
  refine g_inc (pc := 184) dX12_worked_184 (Nat.le_of_ble_eq_true rfl) rfl ic_1 (L' := [some (.ref 135), none, some (.int v2), some (.int v3), some (.int (v4 + (1 : Int32))), none]) rfl ?_
  refine g_goto (tgt := 5) (pc := 187) dX12_worked_187 (by decide) ?_
  exact hk5 v2 v3 (v4 + (1 : Int32)) u h
set_option maxRecDepth 100000 in
set_option maxHeartbeats 4000000 in
theorem G_X12_worked_113 {sc : Nat × (Nat → Int32)} {d : Nat} (hd : 2 ≤ d) {r : Int32} {u' : xS} {k5 : Int32 → Int32 → Int32 → xS → Option (Int32 × xS)} (hk5 : ∀ (v2 : Int32) (v3 : Int32) (v4 : Int32) (u : xS), k5 v2 v3 v4 u = some (r, u') → xG sc mX12_worked d 0 0 (xR (some (.int r)) (xL0, u') 0 0) 0 0 5 [some (.ref 135), none, some (.int v2), some (.int v3), some (.int v4), none] [] (xL0, u)) (v2 : Int32) (v3 : Int32) (v4 : Int32) (s1 : Int32) (s2 : Int32) (u : xS) (h : f_X12_worked_113 k5 v2 v3 v4 s1 s2 u = some (r, u')) : xG sc mX12_worked d 0 0 (xR (some (.int r)) (xL0, u') 0 0) 0 0 113 [some (.ref 135), none, some (.int v2), some (.int v3), some (.int v4), none] [.int s2, .int s1, .ref 157] (xL0, u) := by
  rw [f_X12_worked_113] at h
  refine g_cS (pc := 113) dX12_worked_113 cS_RX12_190 (M_X12_truth (Nat.le_refl _) rfl) (as := [.int s2]) (st := [.int s1, .ref 157]) rfl rfl (Nat.le_of_ble_eq_true rfl) (Nat.le_trans (Nat.le_of_ble_eq_true rfl) hd) rfl ?_
  obtain ⟨g1, h⟩ := x_gd h
  refine g_iastore (pc := 116) dX12_worked_116 xc_157 (xin_of g1) (u' := (wr u 157 s1.toNatClampNeg (f_X12_truth s2))) rfl ?_
  refine g_goto (tgt := 184) (pc := 117) dX12_worked_117 (by decide) ?_
  exact G_X12_worked_184 hd hk5 v2 v3 v4 (wr u 157 s1.toNatClampNeg (f_X12_truth s2)) h
set_option maxRecDepth 100000 in
set_option maxHeartbeats 4000000 in
theorem G_X12_worked_5 {sc : Nat × (Nat → Int32)} {d : Nat} (hd : 2 ≤ d) {r : Int32} {u' : xS} : ∀ (n : Nat) (v2 : Int32) (v3 : Int32) (v4 : Int32) (u : xS), f_X12_worked_5 n v2 v3 v4 u = some (r, u') → xG sc mX12_worked d 0 0 (xR (some (.int r)) (xL0, u') 0 0) 0 0 5 [some (.ref 135), none, some (.int v2), some (.int v3), some (.int v4), none] [] (xL0, u) := by
  intro n
  induction n with
  | zero =>
    intro v2 v3 v4 u h
    rw [f_X12_worked_5] at h
    cases h
  | succ n ih =>
    intro v2 v3 v4 u h
    rw [f_X12_worked_5] at h
    refine g_iload (pc := 5) dX12_worked_5 rfl ?_
    refine g_iload_n (pc := 7) dX12_worked_7 rfl ?_
    refine g_icmp_ge (tgt := 190) (pc := 8) dX12_worked_8 (by decide) (fun c1 => ?_) (fun c1 => ?_)
    · replace h := (if_pos c1).symm.trans h
      refine g_L (L' := [some (.ref 135), none, none, none, some (.int v4), none]) ⟨rfl, ⟨rfl, trivial⟩⟩ ?_
      exact G_X12_worked_190 hd v4 u h
    · replace h := (if_neg c1).symm.trans h
      refine g_aload_n (pc := 11) dX12_worked_11 rfl ?_
      refine g_gR (pc := 12) dX12_worked_12 fR_RX12_72 xc_135 (v := 155) rfl ?_
      refine g_iload (pc := 15) dX12_worked_15 rfl ?_
      obtain ⟨g2, h⟩ := x_gd h
      refine g_iaload (pc := 17) dX12_worked_17 xc_155 (xin_of g2) (v := (rd u 155 v4.toNatClampNeg)) rfl ?_
      refine g_sipush (pc := 18) dX12_worked_18 sp_m300 ?_
      refine g_icmp_eq (tgt := 190) (pc := 21) dX12_worked_21 (by decide) (fun c3 => ?_) (fun c3 => ?_)
      · replace h := (if_pos c3).symm.trans h
        refine g_L (L' := [some (.ref 135), none, none, none, some (.int v4), none]) ⟨rfl, ⟨rfl, trivial⟩⟩ ?_
        exact G_X12_worked_190 hd v4 u h
      · replace h := (if_neg c3).symm.trans h
        refine g_aload_n (pc := 24) dX12_worked_24 rfl ?_
        refine g_gR (pc := 25) dX12_worked_25 fR_RX12_72 xc_135 (v := 155) rfl ?_
        refine g_iload (pc := 28) dX12_worked_28 rfl ?_
        refine g_iaload (pc := 30) dX12_worked_30 xc_155 (xin_of g2) (v := (rd u 155 v4.toNatClampNeg)) rfl ?_
        refine g_istore (pc := 31) dX12_worked_31 (Nat.le_of_ble_eq_true rfl) (L' := [some (.ref 135), none, some (.int v2), some (.int v3), some (.int v4), some (.int (rd u 155 v4.toNatClampNeg))]) rfl ?_
        refine g_iload (pc := 33) dX12_worked_33 rfl ?_
        refine g_if_lt (tgt := 52) (pc := 35) dX12_worked_35 (by decide) (fun c4 => ?_) (fun c4 => ?_)
        · replace h := (if_pos c4).symm.trans h
          refine g_iload (pc := 52) dX12_worked_52 rfl ?_
          refine g_bipush (pc := 54) dX12_worked_54 bp_m16 ?_
          refine g_icmp_lt (tgt := 80) (pc := 56) dX12_worked_56 (by decide) (fun c5 => ?_) (fun c5 => ?_)
          · replace h := (if_pos c5).symm.trans h
            refine g_iload (pc := 80) dX12_worked_80 rfl ?_
            refine g_bipush (pc := 82) dX12_worked_82 bp_33 ?_
            refine g_cS (pc := 84) dX12_worked_84 cS_RX12_297 (M_X12_act (Nat.le_refl _) rfl) (as := [.int (33 : Int32)]) (st := [.int (rd u 155 v4.toNatClampNeg)]) rfl rfl (Nat.le_of_ble_eq_true rfl) (Nat.le_trans (Nat.le_of_ble_eq_true rfl) hd) rfl ?_
            refine g_icmp_ne (tgt := 120) (pc := 87) dX12_worked_87 (by decide) (fun c6 => ?_) (fun c6 => ?_)
            · replace h := (if_neg c6).symm.trans h
              refine g_iload (pc := 120) dX12_worked_120 rfl ?_
              refine g_bipush (pc := 122) dX12_worked_122 bp_126 ?_
              refine g_cS (pc := 124) dX12_worked_124 cS_RX12_297 (M_X12_act (Nat.le_refl _) rfl) (as := [.int (126 : Int32)]) (st := [.int (rd u 155 v4.toNatClampNeg)]) rfl rfl (Nat.le_of_ble_eq_true rfl) (Nat.le_trans (Nat.le_of_ble_eq_true rfl) hd) rfl ?_
              refine g_icmp_ne (tgt := 150) (pc := 127) dX12_worked_127 (by decide) (fun c7 => ?_) (fun c7 => ?_)
              · replace h := (if_neg c7).symm.trans h
                refine g_inc (pc := 150) dX12_worked_150 (Nat.le_of_ble_eq_true rfl) rfl ic_m1 (L' := [some (.ref 135), none, some (.int v2), some (.int (v3 + (-1 : Int32))), some (.int v4), some (.int (rd u 155 v4.toNatClampNeg))]) rfl ?_
                refine g_aload_n (pc := 153) dX12_worked_153 rfl ?_
                refine g_gR (pc := 154) dX12_worked_154 fR_RX12_78 xc_135 (v := 157) rfl ?_
                refine g_iload_n (pc := 157) dX12_worked_157 rfl ?_
                refine g_iconst (pc := 158) dX12_worked_158 ic_1 ?_
                refine g_isub (pc := 159) dX12_worked_159 rfl ?_
                refine g_iload (pc := 160) dX12_worked_160 rfl ?_
                refine g_sipush (pc := 162) dX12_worked_162 sp_200 ?_
                refine g_iadd (pc := 165) dX12_worked_165 rfl ?_
                refine g_aload_n (pc := 166) dX12_worked_166 rfl ?_
                refine g_gR (pc := 167) dX12_worked_167 fR_RX12_78 xc_135 (v := 157) rfl ?_
                refine g_iload_n (pc := 170) dX12_worked_170 rfl ?_
                refine g_iconst (pc := 171) dX12_worked_171 ic_1 ?_
                refine g_isub (pc := 172) dX12_worked_172 rfl ?_
                obtain ⟨g8, h⟩ := x_gd h
                refine g_iaload (pc := 173) dX12_worked_173 xc_157 (xin_of g8) (v := (rd u 157 ((v3 + (-1 : Int32)) - (1 : Int32)).toNatClampNeg)) rfl ?_
                refine g_aload_n (pc := 174) dX12_worked_174 rfl ?_
                refine g_gR (pc := 175) dX12_worked_175 fR_RX12_78 xc_135 (v := 157) rfl ?_
                refine g_iload_n (pc := 178) dX12_worked_178 rfl ?_
                obtain ⟨g9, h⟩ := x_gd h
                refine g_iaload (pc := 179) dX12_worked_179 xc_157 (xin_of g9) (v := (rd u 157 (v3 + (-1 : Int32)).toNatClampNeg)) rfl ?_
                obtain ⟨x11, e10, h⟩ := x_bind h
                refine g_cS (pc := 180) dX12_worked_180 cS_RX12_327 (M_X12_acted (Nat.le_refl _) e10) (as := [.int ((rd u 155 v4.toNatClampNeg) + (200 : Int32)), .int (rd u 157 ((v3 + (-1 : Int32)) - (1 : Int32)).toNatClampNeg), .int (rd u 157 (v3 + (-1 : Int32)).toNatClampNeg)]) (st := [.int ((v3 + (-1 : Int32)) - (1 : Int32)), .ref 157]) rfl rfl (Nat.le_of_ble_eq_true rfl) (Nat.le_trans (Nat.le_of_ble_eq_true rfl) hd) rfl ?_
                refine g_iastore (pc := 183) dX12_worked_183 xc_157 (xin_of g8) (u' := (wr u 157 ((v3 + (-1 : Int32)) - (1 : Int32)).toNatClampNeg x11)) rfl ?_
                refine g_L (L' := [some (.ref 135), none, some (.int v2), some (.int (v3 + (-1 : Int32))), some (.int v4), none]) ⟨rfl, ⟨rfl, ⟨rfl, ⟨rfl, trivial⟩⟩⟩⟩ ?_
                exact G_X12_worked_184 hd ih v2 (v3 + (-1 : Int32)) v4 (wr u 157 ((v3 + (-1 : Int32)) - (1 : Int32)).toNatClampNeg x11) h
              · replace h := (if_pos c7).symm.trans h
                refine g_aload_n (pc := 130) dX12_worked_130 rfl ?_
                refine g_gR (pc := 131) dX12_worked_131 fR_RX12_78 xc_135 (v := 157) rfl ?_
                refine g_iload_n (pc := 134) dX12_worked_134 rfl ?_
                refine g_iconst (pc := 135) dX12_worked_135 ic_1 ?_
                refine g_isub (pc := 136) dX12_worked_136 rfl ?_
                refine g_aload_n (pc := 137) dX12_worked_137 rfl ?_
                refine g_gR (pc := 138) dX12_worked_138 fR_RX12_78 xc_135 (v := 157) rfl ?_
                refine g_iload_n (pc := 141) dX12_worked_141 rfl ?_
                refine g_iconst (pc := 142) dX12_worked_142 ic_1 ?_
                refine g_isub (pc := 143) dX12_worked_143 rfl ?_
                obtain ⟨g12, h⟩ := x_gd h
                refine g_iaload (pc := 144) dX12_worked_144 xc_157 (xin_of g12) (v := (rd u 157 (v3 - (1 : Int32)).toNatClampNeg)) rfl ?_
                refine g_ineg (pc := 145) dX12_worked_145 rfl ?_
                refine g_iastore (pc := 146) dX12_worked_146 xc_157 (xin_of g12) (u' := (wr u 157 (v3 - (1 : Int32)).toNatClampNeg (-(rd u 157 (v3 - (1 : Int32)).toNatClampNeg)))) rfl ?_
                refine g_goto (tgt := 184) (pc := 147) dX12_worked_147 (by decide) ?_
                refine g_L (L' := [some (.ref 135), none, some (.int v2), some (.int v3), some (.int v4), none]) ⟨rfl, ⟨rfl, ⟨rfl, ⟨rfl, trivial⟩⟩⟩⟩ ?_
                exact G_X12_worked_184 hd ih v2 v3 v4 (wr u 157 (v3 - (1 : Int32)).toNatClampNeg (-(rd u 157 (v3 - (1 : Int32)).toNatClampNeg))) h
            · replace h := (if_pos c6).symm.trans h
              refine g_aload_n (pc := 90) dX12_worked_90 rfl ?_
              refine g_gR (pc := 91) dX12_worked_91 fR_RX12_78 xc_135 (v := 157) rfl ?_
              refine g_iload_n (pc := 94) dX12_worked_94 rfl ?_
              refine g_iconst (pc := 95) dX12_worked_95 ic_1 ?_
              refine g_isub (pc := 96) dX12_worked_96 rfl ?_
              refine g_aload_n (pc := 97) dX12_worked_97 rfl ?_
              refine g_gR (pc := 98) dX12_worked_98 fR_RX12_78 xc_135 (v := 157) rfl ?_
              refine g_iload_n (pc := 101) dX12_worked_101 rfl ?_
              refine g_iconst (pc := 102) dX12_worked_102 ic_1 ?_
              refine g_isub (pc := 103) dX12_worked_103 rfl ?_
              obtain ⟨g13, h⟩ := x_gd h
              refine g_iaload (pc := 104) dX12_worked_104 xc_157 (xin_of g13) (v := (rd u 157 (v3 - (1 : Int32)).toNatClampNeg)) rfl ?_
              refine g_if_ne (tgt := 112) (pc := 105) dX12_worked_105 (by decide) (fun c14 => ?_) (fun c14 => ?_)
              · replace h := (if_neg c14).symm.trans h
                refine g_iconst (pc := 112) dX12_worked_112 ic_0 ?_
                refine g_L (L' := [some (.ref 135), none, some (.int v2), some (.int v3), some (.int v4), none]) ⟨rfl, ⟨rfl, ⟨rfl, ⟨rfl, trivial⟩⟩⟩⟩ ?_
                exact G_X12_worked_113 hd ih v2 v3 v4 (v3 - (1 : Int32)) (0 : Int32) u h
              · replace h := (if_pos c14).symm.trans h
                refine g_iconst (pc := 108) dX12_worked_108 ic_1 ?_
                refine g_goto (tgt := 113) (pc := 109) dX12_worked_109 (by decide) ?_
                refine g_L (L' := [some (.ref 135), none, some (.int v2), some (.int v3), some (.int v4), none]) ⟨rfl, ⟨rfl, ⟨rfl, ⟨rfl, trivial⟩⟩⟩⟩ ?_
                exact G_X12_worked_113 hd ih v2 v3 v4 (v3 - (1 : Int32)) (1 : Int32) u h
          · replace h := (if_neg c5).symm.trans h
            refine g_aload_n (pc := 59) dX12_worked_59 rfl ?_
            refine g_gR (pc := 60) dX12_worked_60 fR_RX12_78 xc_135 (v := 157) rfl ?_
            refine g_iload_n (pc := 63) dX12_worked_63 rfl ?_
            refine g_aload_n (pc := 64) dX12_worked_64 rfl ?_
            refine g_gR (pc := 65) dX12_worked_65 fR_RX12_81 xc_135 (v := 158) rfl ?_
            refine g_iconst (pc := 68) dX12_worked_68 ic_m1 ?_
            refine g_iload (pc := 69) dX12_worked_69 rfl ?_
            refine g_isub (pc := 71) dX12_worked_71 rfl ?_
            obtain ⟨g15, h⟩ := x_gd h
            refine g_iaload (pc := 72) dX12_worked_72 xc_158 (xin_of g15) (v := (rd u 158 ((-1 : Int32) - (rd u 155 v4.toNatClampNeg)).toNatClampNeg)) rfl ?_
            obtain ⟨g16, h⟩ := x_gd h
            refine g_iastore (pc := 73) dX12_worked_73 xc_157 (xin_of g16) (u' := (wr u 157 v3.toNatClampNeg (rd u 158 ((-1 : Int32) - (rd u 155 v4.toNatClampNeg)).toNatClampNeg))) rfl ?_
            refine g_inc (pc := 74) dX12_worked_74 (Nat.le_of_ble_eq_true rfl) rfl ic_1 (L' := [some (.ref 135), none, some (.int v2), some (.int (v3 + (1 : Int32))), some (.int v4), some (.int (rd u 155 v4.toNatClampNeg))]) rfl ?_
            refine g_goto (tgt := 184) (pc := 77) dX12_worked_77 (by decide) ?_
            refine g_L (L' := [some (.ref 135), none, some (.int v2), some (.int (v3 + (1 : Int32))), some (.int v4), none]) ⟨rfl, ⟨rfl, ⟨rfl, ⟨rfl, trivial⟩⟩⟩⟩ ?_
            exact G_X12_worked_184 hd ih v2 (v3 + (1 : Int32)) v4 (wr u 157 v3.toNatClampNeg (rd u 158 ((-1 : Int32) - (rd u 155 v4.toNatClampNeg)).toNatClampNeg)) h
        · replace h := (if_neg c4).symm.trans h
          refine g_aload_n (pc := 38) dX12_worked_38 rfl ?_
          refine g_gR (pc := 39) dX12_worked_39 fR_RX12_78 xc_135 (v := 157) rfl ?_
          refine g_iload_n (pc := 42) dX12_worked_42 rfl ?_
          refine g_iload (pc := 43) dX12_worked_43 rfl ?_
          obtain ⟨g17, h⟩ := x_gd h
          refine g_iastore (pc := 45) dX12_worked_45 xc_157 (xin_of g17) (u' := (wr u 157 v3.toNatClampNeg (rd u 155 v4.toNatClampNeg))) rfl ?_
          refine g_inc (pc := 46) dX12_worked_46 (Nat.le_of_ble_eq_true rfl) rfl ic_1 (L' := [some (.ref 135), none, some (.int v2), some (.int (v3 + (1 : Int32))), some (.int v4), some (.int (rd u 155 v4.toNatClampNeg))]) rfl ?_
          refine g_goto (tgt := 184) (pc := 49) dX12_worked_49 (by decide) ?_
          refine g_L (L' := [some (.ref 135), none, some (.int v2), some (.int (v3 + (1 : Int32))), some (.int v4), none]) ⟨rfl, ⟨rfl, ⟨rfl, ⟨rfl, trivial⟩⟩⟩⟩ ?_
          exact G_X12_worked_184 hd ih v2 (v3 + (1 : Int32)) v4 (wr u 157 v3.toNatClampNeg (rd u 155 v4.toNatClampNeg)) h
set_option maxRecDepth 100000 in
set_option maxHeartbeats 4000000 in
theorem G_X12_worked_0 {sc : Nat × (Nat → Int32)} {d : Nat} (hd : 2 ≤ d) {r : Int32} {u' : xS} (v1 : Int32) (v2 : Int32) (u : xS) (h : f_X12_worked v1 v2 u = some (r, u')) : xG sc mX12_worked d 0 0 (xR (some (.int r)) (xL0, u') 0 0) 0 0 0 [some (.ref 135), some (.int v1), some (.int v2), none, none, none] [] (xL0, u) := by
  rw [f_X12_worked] at h
  refine g_iconst (pc := 0) dX12_worked_0 ic_0 ?_
  refine g_istore_n (pc := 1) dX12_worked_1 (Nat.le_of_ble_eq_true rfl) (L' := [some (.ref 135), some (.int v1), some (.int v2), some (.int (0 : Int32)), none, none]) rfl ?_
  refine g_iload_n (pc := 2) dX12_worked_2 rfl ?_
  refine g_istore (pc := 3) dX12_worked_3 (Nat.le_of_ble_eq_true rfl) (L' := [some (.ref 135), some (.int v1), some (.int v2), some (.int (0 : Int32)), some (.int v1), none]) rfl ?_
  refine g_L (L' := [some (.ref 135), none, some (.int v2), some (.int (0 : Int32)), some (.int v1), none]) ⟨rfl, ⟨rfl, ⟨rfl, ⟨rfl, trivial⟩⟩⟩⟩ ?_
  exact G_X12_worked_5 hd xN v2 (0 : Int32) v1 u h
set_option maxRecDepth 100000 in
set_option maxHeartbeats 4000000 in
theorem M_X12_worked {sc : Nat × (Nat → Int32)} {d : Nat} (hd : 2 ≤ d) {r : Int32} {u u' : xS} {a1 : Int32} {a2 : Int32} (h : f_X12_worked a1 a2 u = some (r, u')) : xMt sc mX12_worked d 0 0 [.ref 135, .int a1, .int a2] (xL0, u) (some (.int r)) (xL0, u') :=
  xMt.of (by decide +kernel) (Nat.le_of_ble_eq_true rfl) (L := [some (.ref 135), some (.int a1), some (.int a2), none, none, none]) rfl ((G_X12_worked_0 hd a1 a2 u h))
set_option maxRecDepth 100000 in
set_option maxHeartbeats 4000000 in
theorem G_X12_value_0 {sc : Nat × (Nat → Int32)} {d : Nat} (hd : 3 ≤ d) {r : Int32} {u' : xS} (v1 : Int32) (u : xS) (h : f_X12_value v1 u = some (r, u')) : xG sc mX12_value d 0 0 (xR (some (.int r)) (xL0, u') 0 0) 0 0 0 [some (.ref 135), some (.int v1)] [] (xL0, u) := by
  rw [f_X12_value] at h
  refine g_aload_n (pc := 0) dX12_value_0 rfl ?_
  refine g_bipush (pc := 1) dX12_value_1 bp_64 ?_
  refine g_iload_n (pc := 3) dX12_value_3 rfl ?_
  refine g_imul (pc := 4) dX12_value_4 rfl ?_
  refine g_bipush (pc := 5) dX12_value_5 bp_64 ?_
  refine g_iload_n (pc := 7) dX12_value_7 rfl ?_
  refine g_imul (pc := 8) dX12_value_8 rfl ?_
  refine g_aload_n (pc := 9) dX12_value_9 rfl ?_
  refine g_gR (pc := 10) dX12_value_10 fR_RX12_75 xc_135 (v := 156) rfl ?_
  refine g_iload_n (pc := 13) dX12_value_13 rfl ?_
  obtain ⟨g1, h⟩ := x_gd h
  refine g_iaload (pc := 14) dX12_value_14 xc_156 (xin_of g1) (v := (rd u 156 v1.toNatClampNeg)) rfl ?_
  refine g_iadd (pc := 15) dX12_value_15 rfl ?_
  obtain ⟨⟨x3, u4⟩, e2, h⟩ := x_bind h
  dsimp only at h
  refine g_cV (pc := 16) dX12_value_16 cV_RX12_334 (M_X12_worked (Nat.le_refl _) e2) xc_135 (as := [.int ((64 : Int32) * v1), .int (((64 : Int32) * v1) + (rd u 156 v1.toNatClampNeg))]) (st := []) rfl rfl (Nat.le_of_ble_eq_true rfl) (Nat.le_trans (Nat.le_of_ble_eq_true rfl) hd) rfl ?_
  cases h
  exact g_iret (pc := 19) dX12_value_19 rfl rfl rfl (Nat.le_refl _) (Nat.le_refl _)
set_option maxRecDepth 100000 in
set_option maxHeartbeats 4000000 in
theorem M_X12_value {sc : Nat × (Nat → Int32)} {d : Nat} (hd : 3 ≤ d) {r : Int32} {u u' : xS} {a1 : Int32} (h : f_X12_value a1 u = some (r, u')) : xMt sc mX12_value d 0 0 [.ref 135, .int a1] (xL0, u) (some (.int r)) (xL0, u') :=
  xMt.of (by decide +kernel) (Nat.le_of_ble_eq_true rfl) (L := [some (.ref 135), some (.int a1)]) rfl ((G_X12_value_0 hd a1 u h))
set_option maxRecDepth 100000 in
set_option maxHeartbeats 4000000 in
theorem G_X12_hush_2 {sc : Nat × (Nat → Int32)} {d : Nat} (hd : 0 ≤ d) {u' : xS} : ∀ (n : Nat) (v1 : Int32) (u : xS), f_X12_hush_2 n v1 u = some u' → xG sc mX12_hush d 0 0 (xR none (xL0, u') 0 0) 0 0 2 [some (.ref 135), some (.int v1)] [] (xL0, u) := by
  intro n
  induction n with
  | zero =>
    intro v1 u h
    rw [f_X12_hush_2] at h
    cases h
  | succ n ih =>
    intro v1 u h
    rw [f_X12_hush_2] at h
    refine g_iload_n (pc := 2) dX12_hush_2 rfl ?_
    refine g_aload_n (pc := 3) dX12_hush_3 rfl ?_
    refine g_gR (pc := 4) dX12_hush_4 fR_RX12_81 xc_135 (v := 158) rfl ?_
    refine g_alen (pc := 7) dX12_hush_7 xc_158 (by decide) (v := (16 : Int32)) (by decide) ?_
    refine g_icmp_ge (tgt := 24) (pc := 8) dX12_hush_8 (by decide) (fun c1 => ?_) (fun c1 => ?_)
    · replace h := (if_pos c1).symm.trans h
      cases h
      exact g_ret (pc := 24) dX12_hush_24 rfl rfl rfl (Nat.le_refl _) (Nat.le_refl _)
    · replace h := (if_neg c1).symm.trans h
      refine g_aload_n (pc := 11) dX12_hush_11 rfl ?_
      refine g_gR (pc := 12) dX12_hush_12 fR_RX12_81 xc_135 (v := 158) rfl ?_
      refine g_iload_n (pc := 15) dX12_hush_15 rfl ?_
      refine g_iconst (pc := 16) dX12_hush_16 ic_0 ?_
      obtain ⟨g2, h⟩ := x_gd h
      refine g_iastore (pc := 17) dX12_hush_17 xc_158 (xin_of g2) (u' := (wr u 158 v1.toNatClampNeg (0 : Int32))) rfl ?_
      refine g_inc (pc := 18) dX12_hush_18 (Nat.le_of_ble_eq_true rfl) rfl ic_1 (L' := [some (.ref 135), some (.int (v1 + (1 : Int32)))]) rfl ?_
      refine g_goto (tgt := 2) (pc := 21) dX12_hush_21 (by decide) ?_
      exact ih (v1 + (1 : Int32)) (wr u 158 v1.toNatClampNeg (0 : Int32)) h
set_option maxRecDepth 100000 in
set_option maxHeartbeats 4000000 in
theorem G_X12_hush_0 {sc : Nat × (Nat → Int32)} {d : Nat} (hd : 0 ≤ d) {u' : xS} (u : xS) (h : f_X12_hush u = some u') : xG sc mX12_hush d 0 0 (xR none (xL0, u') 0 0) 0 0 0 [some (.ref 135), none] [] (xL0, u) := by
  rw [f_X12_hush] at h
  refine g_iconst (pc := 0) dX12_hush_0 ic_0 ?_
  refine g_istore_n (pc := 1) dX12_hush_1 (Nat.le_of_ble_eq_true rfl) (L' := [some (.ref 135), some (.int (0 : Int32))]) rfl ?_
  exact G_X12_hush_2 hd xN (0 : Int32) u h
set_option maxRecDepth 100000 in
set_option maxHeartbeats 4000000 in
theorem M_X12_hush {sc : Nat × (Nat → Int32)} {d : Nat} (hd : 0 ≤ d) {u u' : xS} (h : f_X12_hush u = some u') : xMt sc mX12_hush d 0 0 [.ref 135] (xL0, u) none (xL0, u') :=
  xMt.of (by decide +kernel) (Nat.le_of_ble_eq_true rfl) (L := [some (.ref 135), none]) rfl ((G_X12_hush_0 hd u h))
set_option maxRecDepth 100000 in
set_option maxHeartbeats 4000000 in
theorem G_X12_found_4 {sc : Nat × (Nat → Int32)} {d : Nat} (hd : 0 ≤ d) {r : Int32} {u : xS} : ∀ (n : Nat) (v1 : Int32) (v2 : Int32) (v3 : Int32), f_X12_found_4 u n v1 v2 v3 = some r → xG sc mX12_found d 0 0 (xR (some (.int r)) (xL0, u) 0 0) 0 0 4 [some (.ref 135), some (.int v1), some (.int v2), some (.int v3)] [] (xL0, u) := by
  intro n
  induction n with
  | zero =>
    intro v1 v2 v3 h
    rw [f_X12_found_4] at h
    cases h
  | succ n ih =>
    intro v1 v2 v3 h
    rw [f_X12_found_4] at h
    refine g_iload_n (pc := 4) dX12_found_4 rfl ?_
    refine g_aload_n (pc := 5) dX12_found_5 rfl ?_
    refine g_gI (pc := 6) dX12_found_6 fI_RX12_153 xc_135 (v := (rd u 135 1)) rfl ?_
    refine g_icmp_ge (tgt := 32) (pc := 9) dX12_found_9 (by decide) (fun c1 => ?_) (fun c1 => ?_)
    · replace h := (if_pos c1).symm.trans h
      refine g_iload_n (pc := 32) dX12_found_32 rfl ?_
      cases h
      exact g_iret (pc := 33) dX12_found_33 rfl rfl rfl (Nat.le_refl _) (Nat.le_refl _)
    · replace h := (if_neg c1).symm.trans h
      refine g_iload_n (pc := 12) dX12_found_12 rfl ?_
      refine g_aload_n (pc := 13) dX12_found_13 rfl ?_
      refine g_gR (pc := 14) dX12_found_14 fR_RX12_40 xc_135 (v := 146) rfl ?_
      refine g_bipush (pc := 17) dX12_found_17 bp_24 ?_
      refine g_iload_n (pc := 19) dX12_found_19 rfl ?_
      refine g_imul (pc := 20) dX12_found_20 rfl ?_
      refine g_iload_n (pc := 21) dX12_found_21 rfl ?_
      refine g_iadd (pc := 22) dX12_found_22 rfl ?_
      obtain ⟨g2, h⟩ := x_gd h
      refine g_iaload (pc := 23) dX12_found_23 xc_146 (xin_of g2) (v := (rd u 146 (((24 : Int32) * v3) + v1).toNatClampNeg)) rfl ?_
      refine g_iadd (pc := 24) dX12_found_24 rfl ?_
      refine g_istore_n (pc := 25) dX12_found_25 (Nat.le_of_ble_eq_true rfl) (L' := [some (.ref 135), some (.int v1), some (.int (v2 + (rd u 146 (((24 : Int32) * v3) + v1).toNatClampNeg))), some (.int v3)]) rfl ?_
      refine g_inc (pc := 26) dX12_found_26 (Nat.le_of_ble_eq_true rfl) rfl ic_1 (L' := [some (.ref 135), some (.int v1), some (.int (v2 + (rd u 146 (((24 : Int32) * v3) + v1).toNatClampNeg))), some (.int (v3 + (1 : Int32)))]) rfl ?_
      refine g_goto (tgt := 4) (pc := 29) dX12_found_29 (by decide) ?_
      exact ih v1 (v2 + (rd u 146 (((24 : Int32) * v3) + v1).toNatClampNeg)) (v3 + (1 : Int32)) h
set_option maxRecDepth 100000 in
set_option maxHeartbeats 4000000 in
theorem G_X12_found_0 {sc : Nat × (Nat → Int32)} {d : Nat} (hd : 0 ≤ d) {r : Int32} {u : xS} (v1 : Int32) (h : f_X12_found u v1 = some r) : xG sc mX12_found d 0 0 (xR (some (.int r)) (xL0, u) 0 0) 0 0 0 [some (.ref 135), some (.int v1), none, none] [] (xL0, u) := by
  rw [f_X12_found] at h
  refine g_iconst (pc := 0) dX12_found_0 ic_0 ?_
  refine g_istore_n (pc := 1) dX12_found_1 (Nat.le_of_ble_eq_true rfl) (L' := [some (.ref 135), some (.int v1), some (.int (0 : Int32)), none]) rfl ?_
  refine g_iconst (pc := 2) dX12_found_2 ic_0 ?_
  refine g_istore_n (pc := 3) dX12_found_3 (Nat.le_of_ble_eq_true rfl) (L' := [some (.ref 135), some (.int v1), some (.int (0 : Int32)), some (.int (0 : Int32))]) rfl ?_
  exact G_X12_found_4 hd xN v1 (0 : Int32) (0 : Int32) h
set_option maxRecDepth 100000 in
set_option maxHeartbeats 4000000 in
theorem M_X12_found {sc : Nat × (Nat → Int32)} {d : Nat} (hd : 0 ≤ d) {r : Int32} {u : xS} {a1 : Int32} (h : f_X12_found u a1 = some r) : xMt sc mX12_found d 0 0 [.ref 135, .int a1] (xL0, u) (some (.int r)) (xL0, u) :=
  xMt.of (by decide +kernel) (Nat.le_of_ble_eq_true rfl) (L := [some (.ref 135), some (.int a1), none, none]) rfl ((G_X12_found_0 hd a1 h))
set_option maxRecDepth 100000 in
set_option maxHeartbeats 4000000 in
theorem G_X12_dust_0 {sc : Nat × (Nat → Int32)} {d : Nat} (hd : 1 ≤ d) {r : Int32} {u : xS} (v1 : Int32) (h : f_X12_dust u v1 = some r) : xG sc mX12_dust d 0 0 (xR (some (.int r)) (xL0, u) 0 0) 0 0 0 [some (.ref 135), some (.int v1)] [] (xL0, u) := by
  rw [f_X12_dust] at h
  refine g_aload_n (pc := 0) dX12_dust_0 rfl ?_
  refine g_gR (pc := 1) dX12_dust_1 fR_RX12_28 xc_135 (v := 142) rfl ?_
  refine g_iload_n (pc := 4) dX12_dust_4 rfl ?_
  obtain ⟨g1, h⟩ := x_gd h
  refine g_iaload (pc := 5) dX12_dust_5 xc_142 (xin_of g1) (v := (rd u 142 v1.toNatClampNeg)) rfl ?_
  refine g_aload_n (pc := 6) dX12_dust_6 rfl ?_
  refine g_iload_n (pc := 7) dX12_dust_7 rfl ?_
  obtain ⟨x3, e2, h⟩ := x_bind h
  refine g_cV (pc := 8) dX12_dust_8 cV_RX12_220 (M_X12_found (Nat.le_refl _) e2) xc_135 (as := [.int v1]) (st := [.int (rd u 142 v1.toNatClampNeg)]) rfl rfl (Nat.le_of_ble_eq_true rfl) (Nat.le_trans (Nat.le_of_ble_eq_true rfl) hd) rfl ?_
  refine g_isub (pc := 11) dX12_dust_11 rfl ?_
  cases h
  exact g_iret (pc := 12) dX12_dust_12 rfl rfl rfl (Nat.le_refl _) (Nat.le_refl _)
set_option maxRecDepth 100000 in
set_option maxHeartbeats 4000000 in
theorem M_X12_dust {sc : Nat × (Nat → Int32)} {d : Nat} (hd : 1 ≤ d) {r : Int32} {u : xS} {a1 : Int32} (h : f_X12_dust u a1 = some r) : xMt sc mX12_dust d 0 0 [.ref 135, .int a1] (xL0, u) (some (.int r)) (xL0, u) :=
  xMt.of (by decide +kernel) (Nat.le_of_ble_eq_true rfl) (L := [some (.ref 135), some (.int a1)]) rfl ((G_X12_dust_0 hd a1 h))
set_option maxRecDepth 100000 in
set_option maxHeartbeats 4000000 in
theorem G_X12_lookOf_73 {sc : Nat × (Nat → Int32)} {d : Nat} (hd : 0 ≤ d) {r : Int32} {u : xS} {k5 : Int32 → Int32 → Int32 → Int32 → Option Int32} (hk5 : ∀ (v1 : Int32) (v2 : Int32) (v3 : Int32) (v4 : Int32), k5 v1 v2 v3 v4 = some r → xG sc mX12_lookOf d 0 0 (xR (some (.int r)) (xL0, u) 0 0) 0 0 5 [some (.ref 135), some (.int v1), some (.int v2), some (.int v3), some (.int v4)] [] (xL0, u)) (v1 : Int32) (v2 : Int32) (v3 : Int32) (v4 : Int32) (h : f_X12_lookOf_73 k5 u v1 v2 v3 v4 = some r) : xG sc mX12_lookOf d 0 0 (xR (some (.int r)) (xL0, u) 0 0) 0 0 73 [some (.ref 135), some (.int v1), some (.int v2), some (.int v3), some (.int v4)] [] (xL0, u) := by
  rw [f_X12_lookOf_73] at h
  refine g_inc (pc := 73) dX12_lookOf_73 (Nat.le_of_ble_eq_true rfl) rfl ic_1 (L' := [some (.ref 135), some (.int v1), some (.int v2), some (.int v3), some (.int (v4 + (1 : Int32)))]) rfl ?_
  refine g_goto (tgt := 5) (pc := 76) dX12_lookOf_76 (by decide) ?_
  exact hk5 v1 v2 v3 (v4 + (1 : Int32)) h
set_option maxRecDepth 100000 in
set_option maxHeartbeats 4000000 in
theorem G_X12_lookOf_70 {sc : Nat × (Nat → Int32)} {d : Nat} (hd : 0 ≤ d) {r : Int32} {u : xS} {k5 : Int32 → Int32 → Int32 → Int32 → Option Int32} (hk5 : ∀ (v1 : Int32) (v2 : Int32) (v3 : Int32) (v4 : Int32), k5 v1 v2 v3 v4 = some r → xG sc mX12_lookOf d 0 0 (xR (some (.int r)) (xL0, u) 0 0) 0 0 5 [some (.ref 135), some (.int v1), some (.int v2), some (.int v3), some (.int v4)] [] (xL0, u)) (v1 : Int32) (v2 : Int32) (v4 : Int32) (h : f_X12_lookOf_70 k5 u v1 v2 v4 = some r) : xG sc mX12_lookOf d 0 0 (xR (some (.int r)) (xL0, u) 0 0) 0 0 70 [some (.ref 135), some (.int v1), some (.int v2), none, some (.int v4)] [] (xL0, u) := by
  rw [f_X12_lookOf_70] at h
  refine g_iload (pc := 70) dX12_lookOf_70 rfl ?_
  refine g_istore_n (pc := 72) dX12_lookOf_72 (Nat.le_of_ble_eq_true rfl) (L' := [some (.ref 135), some (.int v1), some (.int v2), some (.int v4), some (.int v4)]) rfl ?_
  exact G_X12_lookOf_73 hd hk5 v1 v2 v4 v4 h
set_option maxRecDepth 100000 in
set_option maxHeartbeats 4000000 in
theorem G_X12_lookOf_5 {sc : Nat × (Nat → Int32)} {d : Nat} (hd : 0 ≤ d) {r : Int32} {u : xS} : ∀ (n : Nat) (v1 : Int32) (v2 : Int32) (v3 : Int32) (v4 : Int32), f_X12_lookOf_5 u n v1 v2 v3 v4 = some r → xG sc mX12_lookOf d 0 0 (xR (some (.int r)) (xL0, u) 0 0) 0 0 5 [some (.ref 135), some (.int v1), some (.int v2), some (.int v3), some (.int v4)] [] (xL0, u) := by
  intro n
  induction n with
  | zero =>
    intro v1 v2 v3 v4 h
    rw [f_X12_lookOf_5] at h
    cases h
  | succ n ih =>
    intro v1 v2 v3 v4 h
    rw [f_X12_lookOf_5] at h
    refine g_iload (pc := 5) dX12_lookOf_5 rfl ?_
    refine g_aload_n (pc := 7) dX12_lookOf_7 rfl ?_
    refine g_gI (pc := 8) dX12_lookOf_8 fI_RX12_229 xc_135 (v := (rd u 135 18)) rfl ?_
    refine g_icmp_ge (tgt := 79) (pc := 11) dX12_lookOf_11 (by decide) (fun c1 => ?_) (fun c1 => ?_)
    · replace h := (if_pos c1).symm.trans h
      refine g_iload_n (pc := 79) dX12_lookOf_79 rfl ?_
      cases h
      exact g_iret (pc := 80) dX12_lookOf_80 rfl rfl rfl (Nat.le_refl _) (Nat.le_refl _)
    · replace h := (if_neg c1).symm.trans h
      refine g_aload_n (pc := 14) dX12_lookOf_14 rfl ?_
      refine g_gR (pc := 15) dX12_lookOf_15 fR_RX12_49 xc_135 (v := 149) rfl ?_
      refine g_iload (pc := 18) dX12_lookOf_18 rfl ?_
      obtain ⟨g2, h⟩ := x_gd h
      refine g_iaload (pc := 20) dX12_lookOf_20 xc_149 (xin_of g2) (v := (rd u 149 v4.toNatClampNeg)) rfl ?_
      refine g_iload_n (pc := 21) dX12_lookOf_21 rfl ?_
      refine g_icmp_ne (tgt := 73) (pc := 22) dX12_lookOf_22 (by decide) (fun c3 => ?_) (fun c3 => ?_)
      · replace h := (if_neg c3).symm.trans h
        exact G_X12_lookOf_73 hd ih v1 v2 v3 v4 h
      · replace h := (if_pos c3).symm.trans h
        refine g_aload_n (pc := 25) dX12_lookOf_25 rfl ?_
        refine g_gR (pc := 26) dX12_lookOf_26 fR_RX12_52 xc_135 (v := 150) rfl ?_
        refine g_iload (pc := 29) dX12_lookOf_29 rfl ?_
        refine g_iaload (pc := 31) dX12_lookOf_31 xc_150 (xin_of g2) (v := (rd u 150 v4.toNatClampNeg)) rfl ?_
        refine g_iload_n (pc := 32) dX12_lookOf_32 rfl ?_
        refine g_icmp_ne (tgt := 73) (pc := 33) dX12_lookOf_33 (by decide) (fun c4 => ?_) (fun c4 => ?_)
        · replace h := (if_neg c4).symm.trans h
          exact G_X12_lookOf_73 hd ih v1 v2 v3 v4 h
        · replace h := (if_pos c4).symm.trans h
          refine g_aload_n (pc := 36) dX12_lookOf_36 rfl ?_
          refine g_gR (pc := 37) dX12_lookOf_37 fR_RX12_55 xc_135 (v := 151) rfl ?_
          refine g_iload (pc := 40) dX12_lookOf_40 rfl ?_
          refine g_iaload (pc := 42) dX12_lookOf_42 xc_151 (xin_of g2) (v := (rd u 151 v4.toNatClampNeg)) rfl ?_
          refine g_aload_n (pc := 43) dX12_lookOf_43 rfl ?_
          refine g_gI (pc := 44) dX12_lookOf_44 fI_RX12_64 xc_135 (v := (rd u 135 24)) rfl ?_
          refine g_icmp_gt (tgt := 73) (pc := 47) dX12_lookOf_47 (by decide) (fun c5 => ?_) (fun c5 => ?_)
          · replace h := (if_pos c5).symm.trans h
            exact G_X12_lookOf_73 hd ih v1 v2 v3 v4 h
          · replace h := (if_neg c5).symm.trans h
            refine g_iload_n (pc := 50) dX12_lookOf_50 rfl ?_
            refine g_if_lt (tgt := 70) (pc := 51) dX12_lookOf_51 (by decide) (fun c6 => ?_) (fun c6 => ?_)
            · replace h := (if_pos c6).symm.trans h
              refine g_L (L' := [some (.ref 135), some (.int v1), some (.int v2), none, some (.int v4)]) ⟨rfl, ⟨rfl, ⟨rfl, ⟨rfl, trivial⟩⟩⟩⟩ ?_
              exact G_X12_lookOf_70 hd ih v1 v2 v4 h
            · replace h := (if_neg c6).symm.trans h
              refine g_aload_n (pc := 54) dX12_lookOf_54 rfl ?_
              refine g_gR (pc := 55) dX12_lookOf_55 fR_RX12_55 xc_135 (v := 151) rfl ?_
              refine g_iload (pc := 58) dX12_lookOf_58 rfl ?_
              refine g_iaload (pc := 60) dX12_lookOf_60 xc_151 (xin_of g2) (v := (rd u 151 v4.toNatClampNeg)) rfl ?_
              refine g_aload_n (pc := 61) dX12_lookOf_61 rfl ?_
              refine g_gR (pc := 62) dX12_lookOf_62 fR_RX12_55 xc_135 (v := 151) rfl ?_
              refine g_iload_n (pc := 65) dX12_lookOf_65 rfl ?_
              obtain ⟨g7, h⟩ := x_gd h
              refine g_iaload (pc := 66) dX12_lookOf_66 xc_151 (xin_of g7) (v := (rd u 151 v3.toNatClampNeg)) rfl ?_
              refine g_icmp_lt (tgt := 73) (pc := 67) dX12_lookOf_67 (by decide) (fun c8 => ?_) (fun c8 => ?_)
              · replace h := (if_pos c8).symm.trans h
                exact G_X12_lookOf_73 hd ih v1 v2 v3 v4 h
              · replace h := (if_neg c8).symm.trans h
                refine g_L (L' := [some (.ref 135), some (.int v1), some (.int v2), none, some (.int v4)]) ⟨rfl, ⟨rfl, ⟨rfl, ⟨rfl, trivial⟩⟩⟩⟩ ?_
                exact G_X12_lookOf_70 hd ih v1 v2 v4 h
set_option maxRecDepth 100000 in
set_option maxHeartbeats 4000000 in
theorem G_X12_lookOf_0 {sc : Nat × (Nat → Int32)} {d : Nat} (hd : 0 ≤ d) {r : Int32} {u : xS} (v1 : Int32) (v2 : Int32) (h : f_X12_lookOf u v1 v2 = some r) : xG sc mX12_lookOf d 0 0 (xR (some (.int r)) (xL0, u) 0 0) 0 0 0 [some (.ref 135), some (.int v1), some (.int v2), none, none] [] (xL0, u) := by
  rw [f_X12_lookOf] at h
  refine g_iconst (pc := 0) dX12_lookOf_0 ic_m1 ?_
  refine g_istore_n (pc := 1) dX12_lookOf_1 (Nat.le_of_ble_eq_true rfl) (L' := [some (.ref 135), some (.int v1), some (.int v2), some (.int (-1 : Int32)), none]) rfl ?_
  refine g_iconst (pc := 2) dX12_lookOf_2 ic_0 ?_
  refine g_istore (pc := 3) dX12_lookOf_3 (Nat.le_of_ble_eq_true rfl) (L' := [some (.ref 135), some (.int v1), some (.int v2), some (.int (-1 : Int32)), some (.int (0 : Int32))]) rfl ?_
  exact G_X12_lookOf_5 hd xN v1 v2 (-1 : Int32) (0 : Int32) h
set_option maxRecDepth 100000 in
set_option maxHeartbeats 4000000 in
theorem M_X12_lookOf {sc : Nat × (Nat → Int32)} {d : Nat} (hd : 0 ≤ d) {r : Int32} {u : xS} {a1 : Int32} {a2 : Int32} (h : f_X12_lookOf u a1 a2 = some r) : xMt sc mX12_lookOf d 0 0 [.ref 135, .int a1, .int a2] (xL0, u) (some (.int r)) (xL0, u) :=
  xMt.of (by decide +kernel) (Nat.le_of_ble_eq_true rfl) (L := [some (.ref 135), some (.int a1), some (.int a2), none, none]) rfl ((G_X12_lookOf_0 hd a1 a2 h))
set_option maxRecDepth 100000 in
set_option maxHeartbeats 4000000 in
theorem G_X12_offOf_219 {sc : Nat × (Nat → Int32)} {d : Nat} (hd : 5 ≤ d) {r : Int32} {u' : xS} (v1 : Int32) (s1 : Int32) (s2 : Int32) (u : xS) (h : f_X12_offOf_219 v1 s1 s2 u = some (r, u')) : xG sc mX12_offOf d 0 0 (xR (some (.int r)) (xL0, u') 0 0) 0 0 219 [some (.ref 135), some (.int v1), none, none, none, none] [.int s2, .int s1, .ref 135] (xL0, u) := by
  rw [f_X12_offOf_219] at h
  obtain ⟨u2, e1, h⟩ := x_bind h
  refine g_cV (pc := 219) dX12_offOf_219 cV_RX12_243 (M_X12_says (Nat.le_refl _) e1) xc_135 (as := [.int s1, .int s2]) (st := []) rfl rfl (Nat.le_of_ble_eq_true rfl) (Nat.le_trans (Nat.le_of_ble_eq_true rfl) hd) rfl ?_
  refine g_aload_n (pc := 222) dX12_offOf_222 rfl ?_
  refine g_bipush (pc := 223) dX12_offOf_223 bp_113 ?_
  refine g_aload_n (pc := 225) dX12_offOf_225 rfl ?_
  refine g_gR (pc := 226) dX12_offOf_226 fR_RX12_25 xc_135 (v := 141) rfl ?_
  refine g_iload_n (pc := 229) dX12_offOf_229 rfl ?_
  obtain ⟨g3, h⟩ := x_gd h
  refine g_iaload (pc := 230) dX12_offOf_230 xc_141 (xin_of g3) (v := (rd u2 141 v1.toNatClampNeg)) rfl ?_
  obtain ⟨u5, e4, h⟩ := x_bind h
  refine g_cV (pc := 231) dX12_offOf_231 cV_RX12_243 (M_X12_says (Nat.le_refl _) e4) xc_135 (as := [.int (113 : Int32), .int (rd u2 141 v1.toNatClampNeg)]) (st := []) rfl rfl (Nat.le_of_ble_eq_true rfl) (Nat.le_trans (Nat.le_of_ble_eq_true rfl) hd) rfl ?_
  refine g_iconst (pc := 234) dX12_offOf_234 ic_0 ?_
  refine g_sipush (pc := 235) dX12_offOf_235 sp_1000 ?_
  refine g_aload_n (pc := 238) dX12_offOf_238 rfl ?_
  refine g_aload_n (pc := 239) dX12_offOf_239 rfl ?_
  refine g_gR (pc := 240) dX12_offOf_240 fR_RX12_22 xc_135 (v := 140) rfl ?_
  refine g_iload_n (pc := 243) dX12_offOf_243 rfl ?_
  refine g_iaload (pc := 244) dX12_offOf_244 xc_140 (xin_of g3) (v := (rd u5 140 v1.toNatClampNeg)) rfl ?_
  obtain ⟨⟨x7, u8⟩, e6, h⟩ := x_bind h
  dsimp only at h
  refine g_cV (pc := 245) dX12_offOf_245 cV_RX12_247 (M_X12_value (Nat.le_refl _) e6) xc_135 (as := [.int (rd u5 140 v1.toNatClampNeg)]) (st := [.int (1000 : Int32), .int (0 : Int32)]) rfl rfl (Nat.le_of_ble_eq_true rfl) (Nat.le_trans (Nat.le_of_ble_eq_true rfl) hd) rfl ?_
  refine g_min (pc := 248) dX12_offOf_248 mK_RX12_250 (Nat.le_of_ble_eq_true rfl) (Nat.le_trans (Nat.le_of_ble_eq_true rfl) hd) (Nat.le_refl _) (Nat.le_refl _) ?_
  refine g_max (pc := 251) dX12_offOf_251 mK_RX12_238 (Nat.le_of_ble_eq_true rfl) (Nat.le_trans (Nat.le_of_ble_eq_true rfl) hd) (Nat.le_refl _) (Nat.le_refl _) ?_
  cases h
  exact g_iret (pc := 254) dX12_offOf_254 rfl rfl rfl (Nat.le_refl _) (Nat.le_refl _)
set_option maxRecDepth 100000 in
set_option maxHeartbeats 4000000 in
theorem G_X12_offOf_187 {sc : Nat × (Nat → Int32)} {d : Nat} (hd : 5 ≤ d) {r : Int32} {u' : xS} (v1 : Int32) (v4 : Int32) (s1 : Int32) (s2 : Int32) (u : xS) (h : f_X12_offOf_187 v1 v4 s1 s2 u = some (r, u')) : xG sc mX12_offOf d 0 0 (xR (some (.int r)) (xL0, u') 0 0) 0 0 187 [some (.ref 135), some (.int v1), none, none, some (.int v4), none] [.int s2, .int s1, .ref 135] (xL0, u) := by
  rw [f_X12_offOf_187] at h
  obtain ⟨u2, e1, h⟩ := x_bind h
  refine g_cV (pc := 187) dX12_offOf_187 cV_RX12_243 (M_X12_says (Nat.le_refl _) e1) xc_135 (as := [.int s1, .int s2]) (st := []) rfl rfl (Nat.le_of_ble_eq_true rfl) (Nat.le_trans (Nat.le_of_ble_eq_true rfl) hd) rfl ?_
  refine g_aload_n (pc := 190) dX12_offOf_190 rfl ?_
  refine g_bipush (pc := 191) dX12_offOf_191 bp_111 ?_
  refine g_aload_n (pc := 193) dX12_offOf_193 rfl ?_
  refine g_gR (pc := 194) dX12_offOf_194 fR_RX12_34 xc_135 (v := 144) rfl ?_
  refine g_iload_n (pc := 197) dX12_offOf_197 rfl ?_
  obtain ⟨g3, h⟩ := x_gd h
  refine g_iaload (pc := 198) dX12_offOf_198 xc_144 (xin_of g3) (v := (rd u2 144 v1.toNatClampNeg)) rfl ?_
  refine g_if_ge (tgt := 206) (pc := 199) dX12_offOf_199 (by decide) (fun c4 => ?_) (fun c4 => ?_)
  · replace h := (if_pos c4).symm.trans h
    refine g_iload (pc := 206) dX12_offOf_206 rfl ?_
    refine g_sipush (pc := 208) dX12_offOf_208 sp_1000 ?_
    refine g_imul (pc := 211) dX12_offOf_211 rfl ?_
    refine g_aload_n (pc := 212) dX12_offOf_212 rfl ?_
    refine g_gR (pc := 213) dX12_offOf_213 fR_RX12_28 xc_135 (v := 142) rfl ?_
    refine g_iload_n (pc := 216) dX12_offOf_216 rfl ?_
    refine g_iaload (pc := 217) dX12_offOf_217 xc_142 (xin_of g3) (v := (rd u2 142 v1.toNatClampNeg)) rfl ?_
    obtain ⟨g5, h⟩ := x_gd h
    refine g_idiv (pc := 218) dX12_offOf_218 (xnz_of g5) rfl ?_
    refine g_L (L' := [some (.ref 135), some (.int v1), none, none, none, none]) ⟨rfl, ⟨rfl, trivial⟩⟩ ?_
    exact G_X12_offOf_219 hd v1 (111 : Int32) ((v4 * (1000 : Int32)) / (rd u2 142 v1.toNatClampNeg)) u2 h
  · replace h := (if_neg c4).symm.trans h
    refine g_iconst (pc := 202) dX12_offOf_202 ic_0 ?_
    refine g_goto (tgt := 219) (pc := 203) dX12_offOf_203 (by decide) ?_
    refine g_L (L' := [some (.ref 135), some (.int v1), none, none, none, none]) ⟨rfl, ⟨rfl, trivial⟩⟩ ?_
    exact G_X12_offOf_219 hd v1 (111 : Int32) (0 : Int32) u2 h
set_option maxRecDepth 100000 in
set_option maxHeartbeats 4000000 in
theorem G_X12_offOf_77 {sc : Nat × (Nat → Int32)} {d : Nat} (hd : 5 ≤ d) {r : Int32} {u' : xS} {k35 : Int32 → Int32 → Int32 → Int32 → xS → Option (Int32 × xS)} (hk35 : ∀ (v1 : Int32) (v3 : Int32) (v4 : Int32) (v5 : Int32) (u : xS), k35 v1 v3 v4 v5 u = some (r, u') → xG sc mX12_offOf d 0 0 (xR (some (.int r)) (xL0, u') 0 0) 0 0 35 [some (.ref 135), some (.int v1), none, some (.int v3), some (.int v4), some (.int v5)] [] (xL0, u)) (v1 : Int32) (v3 : Int32) (v5 : Int32) (s0 : Int32) (s1 : Int32) (u : xS) (h : f_X12_offOf_77 k35 v1 v3 v5 s0 s1 u = some (r, u')) : xG sc mX12_offOf d 0 0 (xR (some (.int r)) (xL0, u') 0 0) 0 0 77 [some (.ref 135), some (.int v1), none, some (.int v3), none, some (.int v5)] [.int s1, .int s0] (xL0, u) := by
  rw [f_X12_offOf_77] at h
  refine g_iadd (pc := 77) dX12_offOf_77 rfl ?_
  refine g_istore (pc := 78) dX12_offOf_78 (Nat.le_of_ble_eq_true rfl) (L' := [some (.ref 135), some (.int v1), none, some (.int v3), some (.int (s0 + s1)), some (.int v5)]) rfl ?_
  refine g_inc (pc := 80) dX12_offOf_80 (Nat.le_of_ble_eq_true rfl) rfl ic_1 (L' := [some (.ref 135), some (.int v1), none, some (.int v3), some (.int (s0 + s1)), some (.int (v5 + (1 : Int32)))]) rfl ?_
  refine g_goto (tgt := 35) (pc := 83) dX12_offOf_83 (by decide) ?_
  exact hk35 v1 v3 (s0 + s1) (v5 + (1 : Int32)) u h
set_option maxRecDepth 100000 in
set_option maxHeartbeats 4000000 in
theorem G_X12_offOf_35 {sc : Nat × (Nat → Int32)} {d : Nat} (hd : 5 ≤ d) {r : Int32} {u' : xS} : ∀ (n : Nat) (v1 : Int32) (v3 : Int32) (v4 : Int32) (v5 : Int32) (u : xS), f_X12_offOf_35 n v1 v3 v4 v5 u = some (r, u') → xG sc mX12_offOf d 0 0 (xR (some (.int r)) (xL0, u') 0 0) 0 0 35 [some (.ref 135), some (.int v1), none, some (.int v3), some (.int v4), some (.int v5)] [] (xL0, u) := by
  intro n
  induction n with
  | zero =>
    intro v1 v3 v4 v5 u h
    rw [f_X12_offOf_35] at h
    cases h
  | succ n ih =>
    intro v1 v3 v4 v5 u h
    rw [f_X12_offOf_35] at h
    refine g_iload (pc := 35) dX12_offOf_35 rfl ?_
    refine g_aload_n (pc := 37) dX12_offOf_37 rfl ?_
    refine g_gI (pc := 38) dX12_offOf_38 fI_RX12_153 xc_135 (v := (rd u 135 1)) rfl ?_
    refine g_icmp_ge (tgt := 86) (pc := 41) dX12_offOf_41 (by decide) (fun c1 => ?_) (fun c1 => ?_)
    · replace h := (if_pos c1).symm.trans h
      refine g_aload_n (pc := 86) dX12_offOf_86 rfl ?_
      refine g_gR (pc := 87) dX12_offOf_87 fR_RX12_58 xc_135 (v := 152) rfl ?_
      refine g_iload_n (pc := 90) dX12_offOf_90 rfl ?_
      obtain ⟨g2, h⟩ := x_gd h
      refine g_iaload (pc := 91) dX12_offOf_91 xc_152 (xin_of g2) (v := (rd u 152 v3.toNatClampNeg)) rfl ?_
      refine g_sipush (pc := 92) dX12_offOf_92 sp_1000 ?_
      refine g_aload_n (pc := 95) dX12_offOf_95 rfl ?_
      refine g_gR (pc := 96) dX12_offOf_96 fR_RX12_61 xc_135 (v := 153) rfl ?_
      refine g_iload_n (pc := 99) dX12_offOf_99 rfl ?_
      refine g_iaload (pc := 100) dX12_offOf_100 xc_153 (xin_of g2) (v := (rd u 153 v3.toNatClampNeg)) rfl ?_
      refine g_isub (pc := 101) dX12_offOf_101 rfl ?_
      refine g_imul (pc := 102) dX12_offOf_102 rfl ?_
      refine g_sipush (pc := 103) dX12_offOf_103 sp_1000 ?_
      refine g_idiv (pc := 106) dX12_offOf_106 (by decide) rfl ?_
      refine g_istore (pc := 107) dX12_offOf_107 (Nat.le_of_ble_eq_true rfl) (L' := [some (.ref 135), some (.int v1), none, some (.int v3), some (.int v4), some (.int (((rd u 152 v3.toNatClampNeg) * ((1000 : Int32) - (rd u 153 v3.toNatClampNeg))) / (1000 : Int32)))]) rfl ?_
      refine g_aload_n (pc := 109) dX12_offOf_109 rfl ?_
      obtain ⟨u4, e3, h⟩ := x_bind h
      refine g_cV (pc := 110) dX12_offOf_110 cV_RX12_235 (M_X12_hush (Nat.le_refl _) e3) xc_135 (as := []) (st := []) rfl rfl (Nat.le_of_ble_eq_true rfl) (Nat.le_trans (Nat.le_of_ble_eq_true rfl) hd) rfl ?_
      refine g_aload_n (pc := 113) dX12_offOf_113 rfl ?_
      refine g_bipush (pc := 114) dX12_offOf_114 bp_108 ?_
      refine g_iconst (pc := 116) dX12_offOf_116 ic_0 ?_
      refine g_aload_n (pc := 117) dX12_offOf_117 rfl ?_
      refine g_gR (pc := 118) dX12_offOf_118 fR_RX12_28 xc_135 (v := 142) rfl ?_
      refine g_iload_n (pc := 121) dX12_offOf_121 rfl ?_
      obtain ⟨g5, h⟩ := x_gd h
      refine g_iaload (pc := 122) dX12_offOf_122 xc_142 (xin_of g5) (v := (rd u4 142 v1.toNatClampNeg)) rfl ?_
      refine g_iload (pc := 123) dX12_offOf_123 rfl ?_
      refine g_isub (pc := 125) dX12_offOf_125 rfl ?_
      refine g_sipush (pc := 126) dX12_offOf_126 sp_1000 ?_
      refine g_imul (pc := 129) dX12_offOf_129 rfl ?_
      refine g_aload_n (pc := 130) dX12_offOf_130 rfl ?_
      refine g_gR (pc := 131) dX12_offOf_131 fR_RX12_28 xc_135 (v := 142) rfl ?_
      refine g_iload_n (pc := 134) dX12_offOf_134 rfl ?_
      refine g_iaload (pc := 135) dX12_offOf_135 xc_142 (xin_of g5) (v := (rd u4 142 v1.toNatClampNeg)) rfl ?_
      obtain ⟨g6, h⟩ := x_gd h
      refine g_idiv (pc := 136) dX12_offOf_136 (xnz_of g6) rfl ?_
      refine g_max (pc := 137) dX12_offOf_137 mK_RX12_238 (Nat.le_of_ble_eq_true rfl) (Nat.le_trans (Nat.le_of_ble_eq_true rfl) hd) (Nat.le_refl _) (Nat.le_refl _) ?_
      obtain ⟨u8, e7, h⟩ := x_bind h
      refine g_cV (pc := 140) dX12_offOf_140 cV_RX12_243 (M_X12_says (Nat.le_refl _) e7) xc_135 (as := [.int (108 : Int32), .int (imax (0 : Int32) ((((rd u4 142 v1.toNatClampNeg) - (((rd u 152 v3.toNatClampNeg) * ((1000 : Int32) - (rd u 153 v3.toNatClampNeg))) / (1000 : Int32))) * (1000 : Int32)) / (rd u4 142 v1.toNatClampNeg)))]) (st := []) rfl rfl (Nat.le_of_ble_eq_true rfl) (Nat.le_trans (Nat.le_of_ble_eq_true rfl) hd) rfl ?_
      refine g_aload_n (pc := 143) dX12_offOf_143 rfl ?_
      refine g_bipush (pc := 144) dX12_offOf_144 bp_100 ?_
      refine g_aload_n (pc := 146) dX12_offOf_146 rfl ?_
      refine g_gR (pc := 147) dX12_offOf_147 fR_RX12_61 xc_135 (v := 153) rfl ?_
      refine g_iload_n (pc := 150) dX12_offOf_150 rfl ?_
      refine g_iaload (pc := 151) dX12_offOf_151 xc_153 (xin_of g2) (v := (rd u8 153 v3.toNatClampNeg)) rfl ?_
      obtain ⟨u10, e9, h⟩ := x_bind h
      refine g_cV (pc := 152) dX12_offOf_152 cV_RX12_243 (M_X12_says (Nat.le_refl _) e9) xc_135 (as := [.int (100 : Int32), .int (rd u8 153 v3.toNatClampNeg)]) (st := []) rfl rfl (Nat.le_of_ble_eq_true rfl) (Nat.le_trans (Nat.le_of_ble_eq_true rfl) hd) rfl ?_
      refine g_aload_n (pc := 155) dX12_offOf_155 rfl ?_
      refine g_bipush (pc := 156) dX12_offOf_156 bp_107 ?_
      refine g_aload_n (pc := 158) dX12_offOf_158 rfl ?_
      refine g_gR (pc := 159) dX12_offOf_159 fR_RX12_34 xc_135 (v := 144) rfl ?_
      refine g_iload_n (pc := 162) dX12_offOf_162 rfl ?_
      refine g_iaload (pc := 163) dX12_offOf_163 xc_144 (xin_of g5) (v := (rd u10 144 v1.toNatClampNeg)) rfl ?_
      refine g_if_ge (tgt := 171) (pc := 164) dX12_offOf_164 (by decide) (fun c11 => ?_) (fun c11 => ?_)
      · replace h := (if_pos c11).symm.trans h
        refine g_aload_n (pc := 171) dX12_offOf_171 rfl ?_
        refine g_iload_n (pc := 172) dX12_offOf_172 rfl ?_
        obtain ⟨x13, e12, h⟩ := x_bind h
        refine g_cV (pc := 173) dX12_offOf_173 cV_RX12_217 (M_X12_dust (Nat.le_refl _) e12) xc_135 (as := [.int v1]) (st := [.int (107 : Int32), .ref 135]) rfl rfl (Nat.le_of_ble_eq_true rfl) (Nat.le_trans (Nat.le_of_ble_eq_true rfl) hd) rfl ?_
        refine g_sipush (pc := 176) dX12_offOf_176 sp_1000 ?_
        refine g_imul (pc := 179) dX12_offOf_179 rfl ?_
        refine g_aload_n (pc := 180) dX12_offOf_180 rfl ?_
        refine g_gR (pc := 181) dX12_offOf_181 fR_RX12_28 xc_135 (v := 142) rfl ?_
        refine g_iload_n (pc := 184) dX12_offOf_184 rfl ?_
        refine g_iaload (pc := 185) dX12_offOf_185 xc_142 (xin_of g5) (v := (rd u10 142 v1.toNatClampNeg)) rfl ?_
        obtain ⟨g14, h⟩ := x_gd h
        refine g_idiv (pc := 186) dX12_offOf_186 (xnz_of g14) rfl ?_
        refine g_L (L' := [some (.ref 135), some (.int v1), none, none, some (.int v4), none]) ⟨rfl, ⟨rfl, ⟨rfl, trivial⟩⟩⟩ ?_
        exact G_X12_offOf_187 hd v1 v4 (107 : Int32) ((x13 * (1000 : Int32)) / (rd u10 142 v1.toNatClampNeg)) u10 h
      · replace h := (if_neg c11).symm.trans h
        refine g_iconst (pc := 167) dX12_offOf_167 ic_0 ?_
        refine g_goto (tgt := 187) (pc := 168) dX12_offOf_168 (by decide) ?_
        refine g_L (L' := [some (.ref 135), some (.int v1), none, none, some (.int v4), none]) ⟨rfl, ⟨rfl, ⟨rfl, trivial⟩⟩⟩ ?_
        exact G_X12_offOf_187 hd v1 v4 (107 : Int32) (0 : Int32) u10 h
    · replace h := (if_neg c1).symm.trans h
      refine g_iload (pc := 44) dX12_offOf_44 rfl ?_
      refine g_aload_n (pc := 46) dX12_offOf_46 rfl ?_
      refine g_gR (pc := 47) dX12_offOf_47 fR_RX12_9 xc_135 (v := 136) rfl ?_
      refine g_bipush (pc := 50) dX12_offOf_50 bp_7 ?_
      refine g_iload (pc := 52) dX12_offOf_52 rfl ?_
      refine g_imul (pc := 54) dX12_offOf_54 rfl ?_
      refine g_iconst (pc := 55) dX12_offOf_55 ic_5 ?_
      refine g_iadd (pc := 56) dX12_offOf_56 rfl ?_
      obtain ⟨g15, h⟩ := x_gd h
      refine g_iaload (pc := 57) dX12_offOf_57 xc_136 (xin_of g15) (v := (rd u 136 (((7 : Int32) * v5) + (5 : Int32)).toNatClampNeg)) rfl ?_
      refine g_if_ne (tgt := 76) (pc := 58) dX12_offOf_58 (by decide) (fun c16 => ?_) (fun c16 => ?_)
      · replace h := (if_neg c16).symm.trans h
        refine g_iconst (pc := 76) dX12_offOf_76 ic_0 ?_
        refine g_L (L' := [some (.ref 135), some (.int v1), none, some (.int v3), none, some (.int v5)]) ⟨rfl, ⟨rfl, ⟨rfl, ⟨rfl, trivial⟩⟩⟩⟩ ?_
        exact G_X12_offOf_77 hd ih v1 v3 v5 v4 (0 : Int32) u h
      · replace h := (if_pos c16).symm.trans h
        refine g_aload_n (pc := 61) dX12_offOf_61 rfl ?_
        refine g_gR (pc := 62) dX12_offOf_62 fR_RX12_40 xc_135 (v := 146) rfl ?_
        refine g_bipush (pc := 65) dX12_offOf_65 bp_24 ?_
        refine g_iload (pc := 67) dX12_offOf_67 rfl ?_
        refine g_imul (pc := 69) dX12_offOf_69 rfl ?_
        refine g_iload_n (pc := 70) dX12_offOf_70 rfl ?_
        refine g_iadd (pc := 71) dX12_offOf_71 rfl ?_
        obtain ⟨g17, h⟩ := x_gd h
        refine g_iaload (pc := 72) dX12_offOf_72 xc_146 (xin_of g17) (v := (rd u 146 (((24 : Int32) * v5) + v1).toNatClampNeg)) rfl ?_
        refine g_goto (tgt := 77) (pc := 73) dX12_offOf_73 (by decide) ?_
        refine g_L (L' := [some (.ref 135), some (.int v1), none, some (.int v3), none, some (.int v5)]) ⟨rfl, ⟨rfl, ⟨rfl, ⟨rfl, trivial⟩⟩⟩⟩ ?_
        exact G_X12_offOf_77 hd ih v1 v3 v5 v4 (rd u 146 (((24 : Int32) * v5) + v1).toNatClampNeg) u h
set_option maxRecDepth 100000 in
set_option maxHeartbeats 4000000 in
theorem G_X12_offOf_0 {sc : Nat × (Nat → Int32)} {d : Nat} (hd : 5 ≤ d) {r : Int32} {u' : xS} (v1 : Int32) (v2 : Int32) (u : xS) (h : f_X12_offOf v1 v2 u = some (r, u')) : xG sc mX12_offOf d 0 0 (xR (some (.int r)) (xL0, u') 0 0) 0 0 0 [some (.ref 135), some (.int v1), some (.int v2), none, none, none] [] (xL0, u) := by
  rw [f_X12_offOf] at h
  refine g_aload_n (pc := 0) dX12_offOf_0 rfl ?_
  refine g_iload_n (pc := 1) dX12_offOf_1 rfl ?_
  refine g_iload_n (pc := 2) dX12_offOf_2 rfl ?_
  obtain ⟨x2, e1, h⟩ := x_bind h
  refine g_cV (pc := 3) dX12_offOf_3 cV_RX12_232 (M_X12_lookOf (Nat.le_refl _) e1) xc_135 (as := [.int v1, .int v2]) (st := []) rfl rfl (Nat.le_of_ble_eq_true rfl) (Nat.le_trans (Nat.le_of_ble_eq_true rfl) hd) rfl ?_
  refine g_istore_n (pc := 6) dX12_offOf_6 (Nat.le_of_ble_eq_true rfl) (L' := [some (.ref 135), some (.int v1), some (.int v2), some (.int x2), none, none]) rfl ?_
  refine g_iload_n (pc := 7) dX12_offOf_7 rfl ?_
  refine g_if_ge (tgt := 13) (pc := 8) dX12_offOf_8 (by decide) (fun c3 => ?_) (fun c3 => ?_)
  · replace h := (if_pos c3).symm.trans h
    refine g_aload_n (pc := 13) dX12_offOf_13 rfl ?_
    refine g_gR (pc := 14) dX12_offOf_14 fR_RX12_68 xc_135 (v := 154) rfl ?_
    refine g_aload_n (pc := 17) dX12_offOf_17 rfl ?_
    refine g_gR (pc := 18) dX12_offOf_18 fR_RX12_22 xc_135 (v := 140) rfl ?_
    refine g_iload_n (pc := 21) dX12_offOf_21 rfl ?_
    obtain ⟨g4, h⟩ := x_gd h
    refine g_iaload (pc := 22) dX12_offOf_22 xc_140 (xin_of g4) (v := (rd u 140 v1.toNatClampNeg)) rfl ?_
    obtain ⟨g5, h⟩ := x_gd h
    refine g_baload (pc := 23) dX12_offOf_23 xc_154 (xin_of g5) (v := (rd u 154 (rd u 140 v1.toNatClampNeg).toNatClampNeg)) rfl ?_
    refine g_if_ne (tgt := 29) (pc := 24) dX12_offOf_24 (by decide) (fun c6 => ?_) (fun c6 => ?_)
    · replace h := (if_neg c6).symm.trans h
      refine g_iconst (pc := 29) dX12_offOf_29 ic_0 ?_
      refine g_istore (pc := 30) dX12_offOf_30 (Nat.le_of_ble_eq_true rfl) (L' := [some (.ref 135), some (.int v1), some (.int v2), some (.int x2), some (.int (0 : Int32)), none]) rfl ?_
      refine g_iconst (pc := 32) dX12_offOf_32 ic_0 ?_
      refine g_istore (pc := 33) dX12_offOf_33 (Nat.le_of_ble_eq_true rfl) (L' := [some (.ref 135), some (.int v1), some (.int v2), some (.int x2), some (.int (0 : Int32)), some (.int (0 : Int32))]) rfl ?_
      refine g_L (L' := [some (.ref 135), some (.int v1), none, some (.int x2), some (.int (0 : Int32)), some (.int (0 : Int32))]) ⟨rfl, ⟨rfl, ⟨rfl, ⟨rfl, ⟨rfl, trivial⟩⟩⟩⟩⟩ ?_
      exact G_X12_offOf_35 hd xN v1 x2 (0 : Int32) (0 : Int32) u h
    · replace h := (if_pos c6).symm.trans h
      refine g_iconst (pc := 27) dX12_offOf_27 ic_0 ?_
      cases h
      exact g_iret (pc := 28) dX12_offOf_28 rfl rfl rfl (Nat.le_refl _) (Nat.le_refl _)
  · replace h := (if_neg c3).symm.trans h
    refine g_iconst (pc := 11) dX12_offOf_11 ic_m1 ?_
    cases h
    exact g_iret (pc := 12) dX12_offOf_12 rfl rfl rfl (Nat.le_refl _) (Nat.le_refl _)
set_option maxRecDepth 100000 in
set_option maxHeartbeats 4000000 in
theorem M_X12_offOf {sc : Nat × (Nat → Int32)} {d : Nat} (hd : 5 ≤ d) {r : Int32} {u u' : xS} {a1 : Int32} {a2 : Int32} (h : f_X12_offOf a1 a2 u = some (r, u')) : xMt sc mX12_offOf d 0 0 [.ref 135, .int a1, .int a2] (xL0, u) (some (.int r)) (xL0, u') :=
  xMt.of (by decide +kernel) (Nat.le_of_ble_eq_true rfl) (L := [some (.ref 135), some (.int a1), some (.int a2), none, none, none]) rfl ((G_X12_offOf_0 hd a1 a2 u h))
set_option maxRecDepth 100000 in
set_option maxHeartbeats 4000000 in
theorem G_X12_due_54 {sc : Nat × (Nat → Int32)} {d : Nat} (hd : 6 ≤ d) {r : Int32} {u' : xS} (v1 : Int32) (s0 : Int32) (u : xS) (h : f_X12_due_54 v1 s0 u = some (r, u')) : xG sc mX12_due d 0 0 (xR (some (.int r)) (xL0, u') 0 0) 0 0 54 [some (.ref 135), some (.int v1), none, none, none] [.int s0] (xL0, u) := by
  rw [f_X12_due_54] at h
  refine g_istore (pc := 54) dX12_due_54 (Nat.le_of_ble_eq_true rfl) (L' := [some (.ref 135), some (.int v1), none, none, some (.int s0)]) rfl ?_
  refine g_aload_n (pc := 56) dX12_due_56 rfl ?_
  refine g_gR (pc := 57) dX12_due_57 fR_RX12_28 xc_135 (v := 142) rfl ?_
  refine g_iload_n (pc := 60) dX12_due_60 rfl ?_
  obtain ⟨g1, h⟩ := x_gd h
  refine g_iaload (pc := 61) dX12_due_61 xc_142 (xin_of g1) (v := (rd u 142 v1.toNatClampNeg)) rfl ?_
  refine g_i2l (pc := 62) dX12_due_62 rfl ?_
  refine g_aload_n (pc := 63) dX12_due_63 rfl ?_
  refine g_gR (pc := 64) dX12_due_64 fR_RX12_31 xc_135 (v := 143) rfl ?_
  refine g_iload_n (pc := 67) dX12_due_67 rfl ?_
  refine g_iaload (pc := 68) dX12_due_68 xc_143 (xin_of g1) (v := (rd u 143 v1.toNatClampNeg)) rfl ?_
  refine g_i2l (pc := 69) dX12_due_69 rfl ?_
  refine g_lmul (pc := 70) dX12_due_70 rfl ?_
  refine g_sipush (pc := 71) dX12_due_71 sp_1000 ?_
  refine g_iload (pc := 74) dX12_due_74 rfl ?_
  refine g_isub (pc := 76) dX12_due_76 rfl ?_
  refine g_i2l (pc := 77) dX12_due_77 rfl ?_
  refine g_lmul (pc := 78) dX12_due_78 rfl ?_
  refine g_ldc2 (pc := 79) dX12_due_79 kl_RX12_164 ?_
  refine g_ldiv (pc := 82) dX12_due_82 (by decide) rfl ?_
  refine g_l2i (pc := 83) dX12_due_83 rfl ?_
  cases h
  exact g_iret (pc := 84) dX12_due_84 rfl rfl rfl (Nat.le_refl _) (Nat.le_refl _)
set_option maxRecDepth 100000 in
set_option maxHeartbeats 4000000 in
theorem G_X12_due_45 {sc : Nat × (Nat → Int32)} {d : Nat} (hd : 6 ≤ d) {r : Int32} {u' : xS} (v1 : Int32) (v2 : Int32) (v3 : Int32) (u : xS) (h : f_X12_due_45 v1 v2 v3 u = some (r, u')) : xG sc mX12_due d 0 0 (xR (some (.int r)) (xL0, u') 0 0) 0 0 45 [some (.ref 135), some (.int v1), some (.int v2), some (.int v3), none] [] (xL0, u) := by
  rw [f_X12_due_45] at h
  refine g_iconst (pc := 45) dX12_due_45 ic_0 ?_
  refine g_iload_n (pc := 46) dX12_due_46 rfl ?_
  refine g_iload_n (pc := 47) dX12_due_47 rfl ?_
  refine g_max (pc := 48) dX12_due_48 mK_RX12_238 (Nat.le_of_ble_eq_true rfl) (Nat.le_trans (Nat.le_of_ble_eq_true rfl) hd) (Nat.le_refl _) (Nat.le_refl _) ?_
  refine g_max (pc := 51) dX12_due_51 mK_RX12_238 (Nat.le_of_ble_eq_true rfl) (Nat.le_trans (Nat.le_of_ble_eq_true rfl) hd) (Nat.le_refl _) (Nat.le_refl _) ?_
  refine g_L (L' := [some (.ref 135), some (.int v1), none, none, none]) ⟨rfl, ⟨rfl, trivial⟩⟩ ?_
  exact G_X12_due_54 hd v1 (imax (0 : Int32) (imax v2 v3)) u h
set_option maxRecDepth 100000 in
set_option maxHeartbeats 4000000 in
theorem G_X12_due_0 {sc : Nat × (Nat → Int32)} {d : Nat} (hd : 6 ≤ d) {r : Int32} {u' : xS} (v1 : Int32) (u : xS) (h : f_X12_due v1 u = some (r, u')) : xG sc mX12_due d 0 0 (xR (some (.int r)) (xL0, u') 0 0) 0 0 0 [some (.ref 135), some (.int v1), none, none, none] [] (xL0, u) := by
  rw [f_X12_due] at h
  refine g_aload_n (pc := 0) dX12_due_0 rfl ?_
  refine g_iconst (pc := 1) dX12_due_1 ic_0 ?_
  refine g_pI (pc := 2) dX12_due_2 pI_RX12_150 xc_135 (u' := (wr u 135 0 (0 : Int32))) rfl ?_
  refine g_aload_n (pc := 5) dX12_due_5 rfl ?_
  refine g_iload_n (pc := 6) dX12_due_6 rfl ?_
  refine g_cV (pc := 7) dX12_due_7 cV_RX12_205 (M_X12_isBale (Nat.le_refl _) rfl) xc_135 (as := [.int v1]) (st := []) rfl rfl (Nat.le_of_ble_eq_true rfl) (Nat.le_trans (Nat.le_of_ble_eq_true rfl) hd) rfl ?_
  refine g_if_ne (tgt := 15) (pc := 10) dX12_due_10 (by decide) (fun c1 => ?_) (fun c1 => ?_)
  · replace h := (if_neg c1).symm.trans h
    refine g_aload_n (pc := 15) dX12_due_15 rfl ?_
    refine g_iload_n (pc := 16) dX12_due_16 rfl ?_
    refine g_iconst (pc := 17) dX12_due_17 ic_0 ?_
    obtain ⟨⟨x3, u4⟩, e2, h⟩ := x_bind h
    dsimp only at h
    refine g_cV (pc := 18) dX12_due_18 cV_RX12_253 (M_X12_offOf (Nat.le_refl _) e2) xc_135 (as := [.int v1, .int (0 : Int32)]) (st := []) rfl rfl (Nat.le_of_ble_eq_true rfl) (Nat.le_trans (Nat.le_of_ble_eq_true rfl) hd) rfl ?_
    refine g_istore_n (pc := 21) dX12_due_21 (Nat.le_of_ble_eq_true rfl) (L' := [some (.ref 135), some (.int v1), some (.int x3), none, none]) rfl ?_
    refine g_aload_n (pc := 22) dX12_due_22 rfl ?_
    refine g_iload_n (pc := 23) dX12_due_23 rfl ?_
    refine g_iconst (pc := 24) dX12_due_24 ic_1 ?_
    obtain ⟨⟨x6, u7⟩, e5, h⟩ := x_bind h
    dsimp only at h
    refine g_cV (pc := 25) dX12_due_25 cV_RX12_253 (M_X12_offOf (Nat.le_refl _) e5) xc_135 (as := [.int v1, .int (1 : Int32)]) (st := []) rfl rfl (Nat.le_of_ble_eq_true rfl) (Nat.le_trans (Nat.le_of_ble_eq_true rfl) hd) rfl ?_
    refine g_istore_n (pc := 28) dX12_due_28 (Nat.le_of_ble_eq_true rfl) (L' := [some (.ref 135), some (.int v1), some (.int x3), some (.int x6), none]) rfl ?_
    refine g_iload_n (pc := 29) dX12_due_29 rfl ?_
    refine g_if_lt (tgt := 45) (pc := 30) dX12_due_30 (by decide) (fun c8 => ?_) (fun c8 => ?_)
    · replace h := (if_pos c8).symm.trans h
      exact G_X12_due_45 hd v1 x3 x6 u7 h
    · replace h := (if_neg c8).symm.trans h
      refine g_iload_n (pc := 33) dX12_due_33 rfl ?_
      refine g_if_lt (tgt := 45) (pc := 34) dX12_due_34 (by decide) (fun c9 => ?_) (fun c9 => ?_)
      · replace h := (if_pos c9).symm.trans h
        exact G_X12_due_45 hd v1 x3 x6 u7 h
      · replace h := (if_neg c9).symm.trans h
        refine g_iload_n (pc := 37) dX12_due_37 rfl ?_
        refine g_iload_n (pc := 38) dX12_due_38 rfl ?_
        refine g_iadd (pc := 39) dX12_due_39 rfl ?_
        refine g_iconst (pc := 40) dX12_due_40 ic_2 ?_
        refine g_idiv (pc := 41) dX12_due_41 (by decide) rfl ?_
        refine g_goto (tgt := 54) (pc := 42) dX12_due_42 (by decide) ?_
        refine g_L (L' := [some (.ref 135), some (.int v1), none, none, none]) ⟨rfl, ⟨rfl, trivial⟩⟩ ?_
        exact G_X12_due_54 hd v1 ((x3 + x6) / (2 : Int32)) u7 h
  · replace h := (if_pos c1).symm.trans h
    refine g_iconst (pc := 13) dX12_due_13 ic_m1 ?_
    cases h
    exact g_iret (pc := 14) dX12_due_14 rfl rfl rfl (Nat.le_refl _) (Nat.le_refl _)
set_option maxRecDepth 100000 in
set_option maxHeartbeats 4000000 in
theorem M_X12_due {sc : Nat × (Nat → Int32)} {d : Nat} (hd : 6 ≤ d) {r : Int32} {u u' : xS} {a1 : Int32} (h : f_X12_due a1 u = some (r, u')) : xMt sc mX12_due d 0 0 [.ref 135, .int a1] (xL0, u) (some (.int r)) (xL0, u') :=
  xMt.of (by decide +kernel) (Nat.le_of_ble_eq_true rfl) (L := [some (.ref 135), some (.int a1), none, none, none]) rfl ((G_X12_due_0 hd a1 u h))
set_option maxRecDepth 100000 in
set_option maxHeartbeats 4000000 in
theorem G_X12_end_0 {sc : Nat × (Nat → Int32)} {d : Nat} (hd : 1 ≤ d) {r : Int32} {u' : xS} (v1 : Int32) (u : xS) (h : f_X12_end v1 u = some (r, u')) : xG sc mX12_end d 0 0 (xR (some (.int r)) (xL0, u') 0 0) 0 0 0 [some (.ref 135), some (.int v1)] [] (xL0, u) := by
  rw [f_X12_end] at h
  refine g_aload_n (pc := 0) dX12_end_0 rfl ?_
  refine g_iconst (pc := 1) dX12_end_1 ic_0 ?_
  refine g_pI (pc := 2) dX12_end_2 pI_RX12_150 xc_135 (u' := (wr u 135 0 (0 : Int32))) rfl ?_
  refine g_iload_n (pc := 5) dX12_end_5 rfl ?_
  refine g_i2l (pc := 6) dX12_end_6 rfl ?_
  refine g_lconst (v := (0 : Int64)) (pc := 7) dX12_end_7 rfl ?_
  refine g_aload_n (pc := 8) dX12_end_8 rfl ?_
  refine g_gI (pc := 9) dX12_end_9 fI_RX12_256 xc_135 (v := (rd u 135 32)) rfl ?_
  refine g_i2l (pc := 12) dX12_end_12 rfl ?_
  refine g_cS (pc := 13) dX12_end_13 cS_RX12_156 (M_X12_in (Nat.le_refl _) rfl) (as := [.long ((v1).toInt64), .long (0 : Int64), .long ((rd u 135 32).toInt64)]) (st := []) rfl rfl (Nat.le_of_ble_eq_true rfl) (Nat.le_trans (Nat.le_of_ble_eq_true rfl) hd) rfl ?_
  refine g_if_ne (tgt := 21) (pc := 16) dX12_end_16 (by decide) (fun c1 => ?_) (fun c1 => ?_)
  · replace h := (if_neg c1).symm.trans h
    refine g_aload_n (pc := 21) dX12_end_21 rfl ?_
    refine g_iload_n (pc := 22) dX12_end_22 rfl ?_
    refine g_pI (pc := 23) dX12_end_23 pI_RX12_256 xc_135 (u' := (wr (wr u 135 0 (0 : Int32)) 135 32 v1)) rfl ?_
    refine g_iconst (pc := 26) dX12_end_26 ic_1 ?_
    cases h
    exact g_zret (pc := 27) dX12_end_27 rfl (Or.inr rfl) rfl rfl (Nat.le_refl _) (Nat.le_refl _)
  · replace h := (if_pos c1).symm.trans h
    refine g_iconst (pc := 19) dX12_end_19 ic_0 ?_
    cases h
    exact g_zret (pc := 20) dX12_end_20 rfl (Or.inl rfl) rfl rfl (Nat.le_refl _) (Nat.le_refl _)
set_option maxRecDepth 100000 in
set_option maxHeartbeats 4000000 in
theorem M_X12_end {sc : Nat × (Nat → Int32)} {d : Nat} (hd : 1 ≤ d) {r : Int32} {u u' : xS} {a1 : Int32} (h : f_X12_end a1 u = some (r, u')) : xMt sc mX12_end d 0 0 [.ref 135, .int a1] (xL0, u) (some (.int r)) (xL0, u') :=
  xMt.of (by decide +kernel) (Nat.le_of_ble_eq_true rfl) (L := [some (.ref 135), some (.int a1)]) rfl ((G_X12_end_0 hd a1 u h))
set_option maxRecDepth 100000 in
set_option maxHeartbeats 4000000 in
theorem G_X12_enters_0 {sc : Nat × (Nat → Int32)} {d : Nat} (hd : 0 ≤ d) {u' : xS} (v1 : Int32) (u : xS) (h : f_X12_enters v1 u = some u') : xG sc mX12_enters d 0 0 (xR none (xL0, u') 0 0) 0 0 0 [some (.ref 135), some (.int v1)] [] (xL0, u) := by
  rw [f_X12_enters] at h
  refine g_aload_n (pc := 0) dX12_enters_0 rfl ?_
  refine g_gR (pc := 1) dX12_enters_1 fR_RX12_102 xc_135 (v := 165) rfl ?_
  refine g_aload_n (pc := 4) dX12_enters_4 rfl ?_
  refine g_gI (pc := 5) dX12_enters_5 fI_RX12_388 xc_135 (v := (rd u 135 43)) rfl ?_
  refine g_iload_n (pc := 8) dX12_enters_8 rfl ?_
  obtain ⟨g1, h⟩ := x_gd h
  refine g_iastore (pc := 9) dX12_enters_9 xc_165 (xin_of g1) (u' := (wr u 165 (rd u 135 43).toNatClampNeg v1)) rfl ?_
  refine g_aload_n (pc := 10) dX12_enters_10 rfl ?_
  refine g_dup (pc := 11) dX12_enters_11 rfl ?_
  refine g_gI (pc := 12) dX12_enters_12 fI_RX12_388 xc_135 (v := (rd u 135 43)) rfl ?_
  refine g_iconst (pc := 15) dX12_enters_15 ic_1 ?_
  refine g_iadd (pc := 16) dX12_enters_16 rfl ?_
  refine g_pI (pc := 17) dX12_enters_17 pI_RX12_388 xc_135 (u' := (wr (wr u 165 (rd u 135 43).toNatClampNeg v1) 135 43 ((rd u 135 43) + (1 : Int32)))) rfl ?_
  cases h
  exact g_ret (pc := 20) dX12_enters_20 rfl rfl rfl (Nat.le_refl _) (Nat.le_refl _)
set_option maxRecDepth 100000 in
set_option maxHeartbeats 4000000 in
theorem M_X12_enters {sc : Nat × (Nat → Int32)} {d : Nat} (hd : 0 ≤ d) {u u' : xS} {a1 : Int32} (h : f_X12_enters a1 u = some u') : xMt sc mX12_enters d 0 0 [.ref 135, .int a1] (xL0, u) none (xL0, u') :=
  xMt.of (by decide +kernel) (Nat.le_of_ble_eq_true rfl) (L := [some (.ref 135), some (.int a1)]) rfl ((G_X12_enters_0 hd a1 u h))
set_option maxRecDepth 100000 in
set_option maxHeartbeats 4000000 in
theorem G_X12_entry_0 {sc : Nat × (Nat → Int32)} {d : Nat} (hd : 0 ≤ d) {r : Int32} {u : xS} (v0 : Int32) (v1 : Int32) (h : f_X12_entry v0 v1 = r) : xG sc mX12_entry d 0 0 (xR (some (.int r)) (xL0, u) 0 0) 0 0 0 [some (.int v0), some (.int v1)] [] (xL0, u) := by
  rw [f_X12_entry] at h
  refine g_iload_n (pc := 0) dX12_entry_0 rfl ?_
  refine g_if_ne (tgt := 9) (pc := 1) dX12_entry_1 (by decide) (fun c1 => ?_) (fun c1 => ?_)
  · replace h := (if_neg c1).symm.trans h
    refine g_iload_n (pc := 9) dX12_entry_9 rfl ?_
    refine g_iconst (pc := 10) dX12_entry_10 ic_1 ?_
    refine g_icmp_ne (tgt := 19) (pc := 11) dX12_entry_11 (by decide) (fun c2 => ?_) (fun c2 => ?_)
    · replace h := (if_neg c2).symm.trans h
      refine g_iload_n (pc := 19) dX12_entry_19 rfl ?_
      subst h
      exact g_iret (pc := 20) dX12_entry_20 rfl rfl rfl (Nat.le_refl _) (Nat.le_refl _)
    · replace h := (if_pos c2).symm.trans h
      refine g_iload_n (pc := 14) dX12_entry_14 rfl ?_
      refine g_i2s (pc := 15) dX12_entry_15 rfl ?_
      refine g_goto (tgt := 20) (pc := 16) dX12_entry_16 (by decide) ?_
      subst h
      exact g_iret (pc := 20) dX12_entry_20 rfl rfl rfl (Nat.le_refl _) (Nat.le_refl _)
  · replace h := (if_pos c1).symm.trans h
    refine g_iload_n (pc := 4) dX12_entry_4 rfl ?_
    refine g_i2b (pc := 5) dX12_entry_5 rfl ?_
    refine g_goto (tgt := 20) (pc := 6) dX12_entry_6 (by decide) ?_
    subst h
    exact g_iret (pc := 20) dX12_entry_20 rfl rfl rfl (Nat.le_refl _) (Nat.le_refl _)
set_option maxRecDepth 100000 in
set_option maxHeartbeats 4000000 in
theorem M_X12_entry {sc : Nat × (Nat → Int32)} {d : Nat} (hd : 0 ≤ d) {r : Int32} {u : xS} {a0 : Int32} {a1 : Int32} (h : f_X12_entry a0 a1 = r) : xMt sc mX12_entry d 0 0 [.int a0, .int a1] (xL0, u) (some (.int r)) (xL0, u) :=
  xMt.of (by decide +kernel) (Nat.le_of_ble_eq_true rfl) (L := [some (.int a0), some (.int a1)]) rfl ((G_X12_entry_0 hd a0 a1 h))
set_option maxRecDepth 100000 in
set_option maxHeartbeats 4000000 in
theorem G_X12_eyeOf_0 {sc : Nat × (Nat → Int32)} {d : Nat} (hd : 2 ≤ d) {r : Int32} {u : xS} (v1 : Int32) (h : f_X12_eyeOf u v1 = some r) : xG sc mX12_eyeOf d 0 0 (xR (some (.int r)) (xL0, u) 0 0) 0 0 0 [some (.ref 135), some (.int v1)] [] (xL0, u) := by
  rw [f_X12_eyeOf] at h
  refine g_aload_n (pc := 0) dX12_eyeOf_0 rfl ?_
  refine g_iload_n (pc := 1) dX12_eyeOf_1 rfl ?_
  refine g_iconst (pc := 2) dX12_eyeOf_2 ic_m1 ?_
  obtain ⟨x2, e1, h⟩ := x_bind h
  refine g_cV (pc := 3) dX12_eyeOf_3 cV_RX12_412 (M_X12_alike (Nat.le_refl _) e1) xc_135 (as := [.int v1, .int (-1 : Int32)]) (st := []) rfl rfl (Nat.le_of_ble_eq_true rfl) (Nat.le_trans (Nat.le_of_ble_eq_true rfl) hd) rfl ?_
  cases h
  exact g_iret (pc := 6) dX12_eyeOf_6 rfl rfl rfl (Nat.le_refl _) (Nat.le_refl _)
set_option maxRecDepth 100000 in
set_option maxHeartbeats 4000000 in
theorem M_X12_eyeOf {sc : Nat × (Nat → Int32)} {d : Nat} (hd : 2 ≤ d) {r : Int32} {u : xS} {a1 : Int32} (h : f_X12_eyeOf u a1 = some r) : xMt sc mX12_eyeOf d 0 0 [.ref 135, .int a1] (xL0, u) (some (.int r)) (xL0, u) :=
  xMt.of (by decide +kernel) (Nat.le_of_ble_eq_true rfl) (L := [some (.ref 135), some (.int a1)]) rfl ((G_X12_eyeOf_0 hd a1 h))
set_option maxRecDepth 100000 in
set_option maxHeartbeats 4000000 in
theorem G_X12_eye_0 {sc : Nat × (Nat → Int32)} {d : Nat} (hd : 3 ≤ d) {r : Int32} {u' : xS} (v1 : Int32) (u : xS) (h : f_X12_eye v1 u = some (r, u')) : xG sc mX12_eye d 0 0 (xR (some (.int r)) (xL0, u') 0 0) 0 0 0 [some (.ref 135), some (.int v1)] [] (xL0, u) := by
  rw [f_X12_eye] at h
  refine g_aload_n (pc := 0) dX12_eye_0 rfl ?_
  refine g_iconst (pc := 1) dX12_eye_1 ic_0 ?_
  refine g_pI (pc := 2) dX12_eye_2 pI_RX12_150 xc_135 (u' := (wr u 135 0 (0 : Int32))) rfl ?_
  refine g_iload_n (pc := 5) dX12_eye_5 rfl ?_
  refine g_cS (pc := 6) dX12_eye_6 cS_RX12_208 (M_X12_isSorter (Nat.le_refl _) rfl) (as := [.int v1]) (st := []) rfl rfl (Nat.le_of_ble_eq_true rfl) (Nat.le_trans (Nat.le_of_ble_eq_true rfl) hd) rfl ?_
  refine g_if_eq (tgt := 20) (pc := 9) dX12_eye_9 (by decide) (fun c1 => ?_) (fun c1 => ?_)
  · replace h := (if_pos c1).symm.trans h
    refine g_iconst (pc := 20) dX12_eye_20 ic_m1 ?_
    cases h
    exact g_iret (pc := 21) dX12_eye_21 rfl rfl rfl (Nat.le_refl _) (Nat.le_refl _)
  · replace h := (if_neg c1).symm.trans h
    refine g_aload_n (pc := 12) dX12_eye_12 rfl ?_
    refine g_iload_n (pc := 13) dX12_eye_13 rfl ?_
    obtain ⟨x3, e2, h⟩ := x_bind h
    refine g_cV (pc := 14) dX12_eye_14 cV_RX12_337 (M_X12_eyeOf (Nat.le_refl _) e2) xc_135 (as := [.int v1]) (st := []) rfl rfl (Nat.le_of_ble_eq_true rfl) (Nat.le_trans (Nat.le_of_ble_eq_true rfl) hd) rfl ?_
    refine g_goto (tgt := 21) (pc := 17) dX12_eye_17 (by decide) ?_
    cases h
    exact g_iret (pc := 21) dX12_eye_21 rfl rfl rfl (Nat.le_refl _) (Nat.le_refl _)
set_option maxRecDepth 100000 in
set_option maxHeartbeats 4000000 in
theorem M_X12_eye {sc : Nat × (Nat → Int32)} {d : Nat} (hd : 3 ≤ d) {r : Int32} {u u' : xS} {a1 : Int32} (h : f_X12_eye a1 u = some (r, u')) : xMt sc mX12_eye d 0 0 [.ref 135, .int a1] (xL0, u) (some (.int r)) (xL0, u') :=
  xMt.of (by decide +kernel) (Nat.le_of_ble_eq_true rfl) (L := [some (.ref 135), some (.int a1)]) rfl ((G_X12_eye_0 hd a1 u h))
theorem zb_X12_isCloth (u : xS) (v1 : Int32) : f_X12_isCloth u v1 = 0 ∨ f_X12_isCloth u v1 = 1 := by
  unfold f_X12_isCloth
  (repeat' split) <;> first | exact Or.inl rfl | exact Or.inr rfl | exact zb_X12_in _ _ _
set_option maxRecDepth 100000 in
set_option maxHeartbeats 4000000 in
theorem G_X12_isCloth_0 {sc : Nat × (Nat → Int32)} {d : Nat} (hd : 1 ≤ d) {r : Int32} {u : xS} (v1 : Int32) (h : f_X12_isCloth u v1 = r) : xG sc mX12_isCloth d 0 0 (xR (some (.int r)) (xL0, u) 0 0) 0 0 0 [some (.ref 135), some (.int v1)] [] (xL0, u) := by
  rw [f_X12_isCloth] at h
  refine g_iload_n (pc := 0) dX12_isCloth_0 rfl ?_
  refine g_i2l (pc := 1) dX12_isCloth_1 rfl ?_
  refine g_lconst (v := (0 : Int64)) (pc := 2) dX12_isCloth_2 rfl ?_
  refine g_aload_n (pc := 3) dX12_isCloth_3 rfl ?_
  refine g_gI (pc := 4) dX12_isCloth_4 fI_RX12_223 xc_135 (v := (rd u 135 37)) rfl ?_
  refine g_iconst (pc := 7) dX12_isCloth_7 ic_1 ?_
  refine g_isub (pc := 8) dX12_isCloth_8 rfl ?_
  refine g_i2l (pc := 9) dX12_isCloth_9 rfl ?_
  refine g_cS (pc := 10) dX12_isCloth_10 cS_RX12_156 (M_X12_in (Nat.le_refl _) rfl) (as := [.long ((v1).toInt64), .long (0 : Int64), .long (((rd u 135 37) - (1 : Int32)).toInt64)]) (st := []) rfl rfl (Nat.le_of_ble_eq_true rfl) (Nat.le_trans (Nat.le_of_ble_eq_true rfl) hd) rfl ?_
  subst h
  exact g_zret (pc := 13) dX12_isCloth_13 rfl (zb_X12_in _ _ _) rfl rfl (Nat.le_refl _) (Nat.le_refl _)
set_option maxRecDepth 100000 in
set_option maxHeartbeats 4000000 in
theorem M_X12_isCloth {sc : Nat × (Nat → Int32)} {d : Nat} (hd : 1 ≤ d) {r : Int32} {u : xS} {a1 : Int32} (h : f_X12_isCloth u a1 = r) : xMt sc mX12_isCloth d 0 0 [.ref 135, .int a1] (xL0, u) (some (.int r)) (xL0, u) :=
  xMt.of (by decide +kernel) (Nat.le_of_ble_eq_true rfl) (L := [some (.ref 135), some (.int a1)]) rfl ((G_X12_isCloth_0 hd a1 h))
set_option maxRecDepth 100000 in
set_option maxHeartbeats 4000000 in
theorem G_X12_fault_0 {sc : Nat × (Nat → Int32)} {d : Nat} (hd : 2 ≤ d) {r : Int32} {u' : xS} (v1 : Int32) (v2 : Int32) (u : xS) (h : f_X12_fault v1 v2 u = some (r, u')) : xG sc mX12_fault d 0 0 (xR (some (.int r)) (xL0, u') 0 0) 0 0 0 [some (.ref 135), some (.int v1), some (.int v2), none] [] (xL0, u) := by
  rw [f_X12_fault] at h
  refine g_aload_n (pc := 0) dX12_fault_0 rfl ?_
  refine g_iconst (pc := 1) dX12_fault_1 ic_0 ?_
  refine g_pI (pc := 2) dX12_fault_2 pI_RX12_150 xc_135 (u' := (wr u 135 0 (0 : Int32))) rfl ?_
  refine g_aload_n (pc := 5) dX12_fault_5 rfl ?_
  refine g_iload_n (pc := 6) dX12_fault_6 rfl ?_
  refine g_cV (pc := 7) dX12_fault_7 cV_RX12_391 (M_X12_isCloth (Nat.le_refl _) rfl) xc_135 (as := [.int v1]) (st := []) rfl rfl (Nat.le_of_ble_eq_true rfl) (Nat.le_trans (Nat.le_of_ble_eq_true rfl) hd) rfl ?_
  refine g_if_eq (tgt := 25) (pc := 10) dX12_fault_10 (by decide) (fun c1 => ?_) (fun c1 => ?_)
  · replace h := (if_pos c1).symm.trans h
    refine g_iconst (pc := 25) dX12_fault_25 ic_m1 ?_
    cases h
    exact g_iret (pc := 26) dX12_fault_26 rfl rfl rfl (Nat.le_refl _) (Nat.le_refl _)
  · replace h := (if_neg c1).symm.trans h
    refine g_iload_n (pc := 13) dX12_fault_13 rfl ?_
    refine g_i2l (pc := 14) dX12_fault_14 rfl ?_
    refine g_lconst (v := (0 : Int64)) (pc := 15) dX12_fault_15 rfl ?_
    refine g_ldc2 (pc := 16) dX12_fault_16 kl_RX12_318 ?_
    refine g_cS (pc := 19) dX12_fault_19 cS_RX12_156 (M_X12_in (Nat.le_refl _) rfl) (as := [.long ((v2).toInt64), .long (0 : Int64), .long (2 : Int64)]) (st := []) rfl rfl (Nat.le_of_ble_eq_true rfl) (Nat.le_trans (Nat.le_of_ble_eq_true rfl) hd) rfl ?_
    refine g_if_ne (tgt := 27) (pc := 22) dX12_fault_22 (by decide) (fun c2 => ?_) (fun c2 => ?_)
    · replace h := (if_neg c2).symm.trans h
      refine g_aload_n (pc := 27) dX12_fault_27 rfl ?_
      refine g_gR (pc := 28) dX12_fault_28 fR_RX12_93 xc_135 (v := 162) rfl ?_
      refine g_iload_n (pc := 31) dX12_fault_31 rfl ?_
      obtain ⟨g3, h⟩ := x_gd h
      refine g_iaload (pc := 32) dX12_fault_32 xc_162 (xin_of g3) (v := (rd u 162 v1.toNatClampNeg)) rfl ?_
      refine g_istore_n (pc := 33) dX12_fault_33 (Nat.le_of_ble_eq_true rfl) (L' := [some (.ref 135), some (.int v1), some (.int v2), some (.int (rd u 162 v1.toNatClampNeg))]) rfl ?_
      refine g_aload_n (pc := 34) dX12_fault_34 rfl ?_
      refine g_gR (pc := 35) dX12_fault_35 fR_RX12_93 xc_135 (v := 162) rfl ?_
      refine g_iload_n (pc := 38) dX12_fault_38 rfl ?_
      refine g_iload_n (pc := 39) dX12_fault_39 rfl ?_
      refine g_iastore (pc := 40) dX12_fault_40 xc_162 (xin_of g3) (u' := (wr (wr u 135 0 (0 : Int32)) 162 v1.toNatClampNeg v2)) rfl ?_
      refine g_iload_n (pc := 41) dX12_fault_41 rfl ?_
      cases h
      exact g_iret (pc := 42) dX12_fault_42 rfl rfl rfl (Nat.le_refl _) (Nat.le_refl _)
    · replace h := (if_pos c2).symm.trans h
      refine g_iconst (pc := 25) dX12_fault_25 ic_m1 ?_
      cases h
      exact g_iret (pc := 26) dX12_fault_26 rfl rfl rfl (Nat.le_refl _) (Nat.le_refl _)
set_option maxRecDepth 100000 in
set_option maxHeartbeats 4000000 in
theorem M_X12_fault {sc : Nat × (Nat → Int32)} {d : Nat} (hd : 2 ≤ d) {r : Int32} {u u' : xS} {a1 : Int32} {a2 : Int32} (h : f_X12_fault a1 a2 u = some (r, u')) : xMt sc mX12_fault d 0 0 [.ref 135, .int a1, .int a2] (xL0, u) (some (.int r)) (xL0, u') :=
  xMt.of (by decide +kernel) (Nat.le_of_ble_eq_true rfl) (L := [some (.ref 135), some (.int a1), some (.int a2), none]) rfl ((G_X12_fault_0 hd a1 a2 u h))
set_option maxRecDepth 100000 in
set_option maxHeartbeats 4000000 in
theorem G_X12_fire_34 {sc : Nat × (Nat → Int32)} {d : Nat} (hd : 1 ≤ d) {r : Int32} {u' : xS} {k23 : Int32 → Int32 → Int32 → xS → Option (Int32 × xS)} (hk23 : ∀ (v1 : Int32) (v2 : Int32) (v3 : Int32) (u : xS), k23 v1 v2 v3 u = some (r, u') → xG sc mX12_fire d 0 0 (xR (some (.int r)) (xL0, u') 0 0) 0 0 23 [some (.ref 135), some (.int v1), some (.int v2), some (.int v3), none, none, none] [] (xL0, u)) : ∀ (n : Nat) (v1 : Int32) (v2 : Int32) (v3 : Int32) (v4 : Int32) (u : xS), f_X12_fire_34 k23 n v1 v2 v3 v4 u = some (r, u') → xG sc mX12_fire d 0 0 (xR (some (.int r)) (xL0, u') 0 0) 0 0 34 [some (.ref 135), some (.int v1), some (.int v2), some (.int v3), some (.int v4), none, none] [] (xL0, u) := by
  intro n
  induction n with
  | zero =>
    intro v1 v2 v3 v4 u h
    rw [f_X12_fire_34] at h
    cases h
  | succ n ih =>
    intro v1 v2 v3 v4 u h
    rw [f_X12_fire_34] at h
    refine g_iload (pc := 34) dX12_fire_34 rfl ?_
    refine g_aload_n (pc := 36) dX12_fire_36 rfl ?_
    refine g_gI (pc := 37) dX12_fire_37 fI_RX12_194 xc_135 (v := (rd u 135 7)) rfl ?_
    refine g_icmp_ge (tgt := 108) (pc := 40) dX12_fire_40 (by decide) (fun c1 => ?_) (fun c1 => ?_)
    · replace h := (if_pos c1).symm.trans h
      refine g_inc (pc := 108) dX12_fire_108 (Nat.le_of_ble_eq_true rfl) rfl ic_1 (L' := [some (.ref 135), some (.int v1), some (.int v2), some (.int (v3 + (1 : Int32))), some (.int v4), none, none]) rfl ?_
      refine g_goto (tgt := 23) (pc := 111) dX12_fire_111 (by decide) ?_
      refine g_L (L' := [some (.ref 135), some (.int v1), some (.int v2), some (.int (v3 + (1 : Int32))), none, none, none]) ⟨rfl, ⟨rfl, ⟨rfl, ⟨rfl, trivial⟩⟩⟩⟩ ?_
      exact hk23 v1 v2 (v3 + (1 : Int32)) u h
    · replace h := (if_neg c1).symm.trans h
      refine g_bipush (pc := 43) dX12_fire_43 bp_24 ?_
      refine g_iload_n (pc := 45) dX12_fire_45 rfl ?_
      refine g_imul (pc := 46) dX12_fire_46 rfl ?_
      refine g_iload (pc := 47) dX12_fire_47 rfl ?_
      refine g_iadd (pc := 49) dX12_fire_49 rfl ?_
      refine g_istore (pc := 50) dX12_fire_50 (Nat.le_of_ble_eq_true rfl) (L' := [some (.ref 135), some (.int v1), some (.int v2), some (.int v3), some (.int v4), some (.int (((24 : Int32) * v3) + v4)), none]) rfl ?_
      refine g_aload_n (pc := 52) dX12_fire_52 rfl ?_
      refine g_gR (pc := 53) dX12_fire_53 fR_RX12_43 xc_135 (v := 147) rfl ?_
      refine g_iload (pc := 56) dX12_fire_56 rfl ?_
      obtain ⟨g2, h⟩ := x_gd h
      refine g_iaload (pc := 58) dX12_fire_58 xc_147 (xin_of g2) (v := (rd u 147 (((24 : Int32) * v3) + v4).toNatClampNeg)) rfl ?_
      refine g_iload_n (pc := 59) dX12_fire_59 rfl ?_
      refine g_imul (pc := 60) dX12_fire_60 rfl ?_
      refine g_sipush (pc := 61) dX12_fire_61 sp_1000 ?_
      refine g_iadd (pc := 64) dX12_fire_64 rfl ?_
      refine g_iconst (pc := 65) dX12_fire_65 ic_1 ?_
      refine g_isub (pc := 66) dX12_fire_66 rfl ?_
      refine g_sipush (pc := 67) dX12_fire_67 sp_1000 ?_
      refine g_idiv (pc := 70) dX12_fire_70 (by decide) rfl ?_
      refine g_istore (pc := 71) dX12_fire_71 (Nat.le_of_ble_eq_true rfl) (L' := [some (.ref 135), some (.int v1), some (.int v2), some (.int v3), some (.int v4), some (.int (((24 : Int32) * v3) + v4)), some (.int (((((rd u 147 (((24 : Int32) * v3) + v4).toNatClampNeg) * v1) + (1000 : Int32)) - (1 : Int32)) / (1000 : Int32)))]) rfl ?_
      refine g_aload_n (pc := 73) dX12_fire_73 rfl ?_
      refine g_gR (pc := 74) dX12_fire_74 fR_RX12_43 xc_135 (v := 147) rfl ?_
      refine g_iload (pc := 77) dX12_fire_77 rfl ?_
      refine g_dup2 (pc := 79) dX12_fire_79 rfl rfl ?_
      refine g_iaload (pc := 80) dX12_fire_80 xc_147 (xin_of g2) (v := (rd u 147 (((24 : Int32) * v3) + v4).toNatClampNeg)) rfl ?_
      refine g_iload (pc := 81) dX12_fire_81 rfl ?_
      refine g_isub (pc := 83) dX12_fire_83 rfl ?_
      refine g_iastore (pc := 84) dX12_fire_84 xc_147 (xin_of g2) (u' := (wr u 147 (((24 : Int32) * v3) + v4).toNatClampNeg ((rd u 147 (((24 : Int32) * v3) + v4).toNatClampNeg) - (((((rd u 147 (((24 : Int32) * v3) + v4).toNatClampNeg) * v1) + (1000 : Int32)) - (1 : Int32)) / (1000 : Int32))))) rfl ?_
      refine g_aload_n (pc := 85) dX12_fire_85 rfl ?_
      refine g_gR (pc := 86) dX12_fire_86 fR_RX12_37 xc_135 (v := 145) rfl ?_
      refine g_iload (pc := 89) dX12_fire_89 rfl ?_
      refine g_dup2 (pc := 91) dX12_fire_91 rfl rfl ?_
      obtain ⟨g3, h⟩ := x_gd h
      refine g_iaload (pc := 92) dX12_fire_92 xc_145 (xin_of g3) (v := (rd u 145 v4.toNatClampNeg)) rfl ?_
      refine g_iload (pc := 93) dX12_fire_93 rfl ?_
      refine g_iadd (pc := 95) dX12_fire_95 rfl ?_
      refine g_iastore (pc := 96) dX12_fire_96 xc_145 (xin_of g3) (u' := (wr (wr u 147 (((24 : Int32) * v3) + v4).toNatClampNeg ((rd u 147 (((24 : Int32) * v3) + v4).toNatClampNeg) - (((((rd u 147 (((24 : Int32) * v3) + v4).toNatClampNeg) * v1) + (1000 : Int32)) - (1 : Int32)) / (1000 : Int32)))) 145 v4.toNatClampNeg ((rd u 145 v4.toNatClampNeg) + (((((rd u 147 (((24 : Int32) * v3) + v4).toNatClampNeg) * v1) + (1000 : Int32)) - (1 : Int32)) / (1000 : Int32))))) rfl ?_
      refine g_iload_n (pc := 97) dX12_fire_97 rfl ?_
      refine g_iload (pc := 98) dX12_fire_98 rfl ?_
      refine g_iadd (pc := 100) dX12_fire_100 rfl ?_
      refine g_istore_n (pc := 101) dX12_fire_101 (Nat.le_of_ble_eq_true rfl) (L' := [some (.ref 135), some (.int v1), some (.int (v2 + (((((rd u 147 (((24 : Int32) * v3) + v4).toNatClampNeg) * v1) + (1000 : Int32)) - (1 : Int32)) / (1000 : Int32)))), some (.int v3), some (.int v4), some (.int (((24 : Int32) * v3) + v4)), some (.int (((((rd u 147 (((24 : Int32) * v3) + v4).toNatClampNeg) * v1) + (1000 : Int32)) - (1 : Int32)) / (1000 : Int32)))]) rfl ?_
      refine g_inc (pc := 102) dX12_fire_102 (Nat.le_of_ble_eq_true rfl) rfl ic_1 (L' := [some (.ref 135), some (.int v1), some (.int (v2 + (((((rd u 147 (((24 : Int32) * v3) + v4).toNatClampNeg) * v1) + (1000 : Int32)) - (1 : Int32)) / (1000 : Int32)))), some (.int v3), some (.int (v4 + (1 : Int32))), some (.int (((24 : Int32) * v3) + v4)), some (.int (((((rd u 147 (((24 : Int32) * v3) + v4).toNatClampNeg) * v1) + (1000 : Int32)) - (1 : Int32)) / (1000 : Int32)))]) rfl ?_
      refine g_goto (tgt := 34) (pc := 105) dX12_fire_105 (by decide) ?_
      refine g_L (L' := [some (.ref 135), some (.int v1), some (.int (v2 + (((((rd u 147 (((24 : Int32) * v3) + v4).toNatClampNeg) * v1) + (1000 : Int32)) - (1 : Int32)) / (1000 : Int32)))), some (.int v3), some (.int (v4 + (1 : Int32))), none, none]) ⟨rfl, ⟨rfl, ⟨rfl, ⟨rfl, ⟨rfl, trivial⟩⟩⟩⟩⟩ ?_
      exact ih v1 (v2 + (((((rd u 147 (((24 : Int32) * v3) + v4).toNatClampNeg) * v1) + (1000 : Int32)) - (1 : Int32)) / (1000 : Int32))) v3 (v4 + (1 : Int32)) (wr (wr u 147 (((24 : Int32) * v3) + v4).toNatClampNeg ((rd u 147 (((24 : Int32) * v3) + v4).toNatClampNeg) - (((((rd u 147 (((24 : Int32) * v3) + v4).toNatClampNeg) * v1) + (1000 : Int32)) - (1 : Int32)) / (1000 : Int32)))) 145 v4.toNatClampNeg ((rd u 145 v4.toNatClampNeg) + (((((rd u 147 (((24 : Int32) * v3) + v4).toNatClampNeg) * v1) + (1000 : Int32)) - (1 : Int32)) / (1000 : Int32)))) h
set_option maxRecDepth 100000 in
set_option maxHeartbeats 4000000 in
theorem G_X12_fire_23 {sc : Nat × (Nat → Int32)} {d : Nat} (hd : 1 ≤ d) {r : Int32} {u' : xS} : ∀ (n : Nat) (v1 : Int32) (v2 : Int32) (v3 : Int32) (u : xS), f_X12_fire_23 n v1 v2 v3 u = some (r, u') → xG sc mX12_fire d 0 0 (xR (some (.int r)) (xL0, u') 0 0) 0 0 23 [some (.ref 135), some (.int v1), some (.int v2), some (.int v3), none, none, none] [] (xL0, u) := by
  intro n
  induction n with
  | zero =>
    intro v1 v2 v3 u h
    rw [f_X12_fire_23] at h
    cases h
  | succ n ih =>
    intro v1 v2 v3 u h
    rw [f_X12_fire_23] at h
    refine g_iload_n (pc := 23) dX12_fire_23 rfl ?_
    refine g_aload_n (pc := 24) dX12_fire_24 rfl ?_
    refine g_gI (pc := 25) dX12_fire_25 fI_RX12_153 xc_135 (v := (rd u 135 1)) rfl ?_
    refine g_icmp_ge (tgt := 114) (pc := 28) dX12_fire_28 (by decide) (fun c1 => ?_) (fun c1 => ?_)
    · replace h := (if_pos c1).symm.trans h
      refine g_iload_n (pc := 114) dX12_fire_114 rfl ?_
      cases h
      exact g_iret (pc := 115) dX12_fire_115 rfl rfl rfl (Nat.le_refl _) (Nat.le_refl _)
    · replace h := (if_neg c1).symm.trans h
      refine g_iconst (pc := 31) dX12_fire_31 ic_0 ?_
      refine g_istore (pc := 32) dX12_fire_32 (Nat.le_of_ble_eq_true rfl) (L' := [some (.ref 135), some (.int v1), some (.int v2), some (.int v3), some (.int (0 : Int32)), none, none]) rfl ?_
      exact G_X12_fire_34 hd ih xN v1 v2 v3 (0 : Int32) u h
set_option maxRecDepth 100000 in
set_option maxHeartbeats 4000000 in
theorem G_X12_fire_0 {sc : Nat × (Nat → Int32)} {d : Nat} (hd : 1 ≤ d) {r : Int32} {u' : xS} (v1 : Int32) (u : xS) (h : f_X12_fire v1 u = some (r, u')) : xG sc mX12_fire d 0 0 (xR (some (.int r)) (xL0, u') 0 0) 0 0 0 [some (.ref 135), some (.int v1), none, none, none, none, none] [] (xL0, u) := by
  rw [f_X12_fire] at h
  refine g_aload_n (pc := 0) dX12_fire_0 rfl ?_
  refine g_iconst (pc := 1) dX12_fire_1 ic_0 ?_
  refine g_pI (pc := 2) dX12_fire_2 pI_RX12_150 xc_135 (u' := (wr u 135 0 (0 : Int32))) rfl ?_
  refine g_iload_n (pc := 5) dX12_fire_5 rfl ?_
  refine g_i2l (pc := 6) dX12_fire_6 rfl ?_
  refine g_lconst (v := (0 : Int64)) (pc := 7) dX12_fire_7 rfl ?_
  refine g_ldc2 (pc := 8) dX12_fire_8 kl_RX12_164 ?_
  refine g_cS (pc := 11) dX12_fire_11 cS_RX12_156 (M_X12_in (Nat.le_refl _) rfl) (as := [.long ((v1).toInt64), .long (0 : Int64), .long (1000 : Int64)]) (st := []) rfl rfl (Nat.le_of_ble_eq_true rfl) (Nat.le_trans (Nat.le_of_ble_eq_true rfl) hd) rfl ?_
  refine g_if_ne (tgt := 19) (pc := 14) dX12_fire_14 (by decide) (fun c1 => ?_) (fun c1 => ?_)
  · replace h := (if_neg c1).symm.trans h
    refine g_iconst (pc := 19) dX12_fire_19 ic_0 ?_
    refine g_istore_n (pc := 20) dX12_fire_20 (Nat.le_of_ble_eq_true rfl) (L' := [some (.ref 135), some (.int v1), some (.int (0 : Int32)), none, none, none, none]) rfl ?_
    refine g_iconst (pc := 21) dX12_fire_21 ic_0 ?_
    refine g_istore_n (pc := 22) dX12_fire_22 (Nat.le_of_ble_eq_true rfl) (L' := [some (.ref 135), some (.int v1), some (.int (0 : Int32)), some (.int (0 : Int32)), none, none, none]) rfl ?_
    exact G_X12_fire_23 hd xN v1 (0 : Int32) (0 : Int32) (wr u 135 0 (0 : Int32)) h
  · replace h := (if_pos c1).symm.trans h
    refine g_iconst (pc := 17) dX12_fire_17 ic_m1 ?_
    cases h
    exact g_iret (pc := 18) dX12_fire_18 rfl rfl rfl (Nat.le_refl _) (Nat.le_refl _)
set_option maxRecDepth 100000 in
set_option maxHeartbeats 4000000 in
theorem M_X12_fire {sc : Nat × (Nat → Int32)} {d : Nat} (hd : 1 ≤ d) {r : Int32} {u u' : xS} {a1 : Int32} (h : f_X12_fire a1 u = some (r, u')) : xMt sc mX12_fire d 0 0 [.ref 135, .int a1] (xL0, u) (some (.int r)) (xL0, u') :=
  xMt.of (by decide +kernel) (Nat.le_of_ble_eq_true rfl) (L := [some (.ref 135), some (.int a1), none, none, none, none, none]) rfl ((G_X12_fire_0 hd a1 u h))
set_option maxRecDepth 100000 in
set_option maxHeartbeats 4000000 in
theorem G_X12_parent_0 {sc : Nat × (Nat → Int32)} {d : Nat} (hd : 0 ≤ d) {r : Int32} {u : xS} (v1 : Int32) (h : f_X12_parent u v1 = some r) : xG sc mX12_parent d 0 0 (xR (some (.int r)) (xL0, u) 0 0) 0 0 0 [some (.ref 135), some (.int v1)] [] (xL0, u) := by
  rw [f_X12_parent] at h
  refine g_aload_n (pc := 0) dX12_parent_0 rfl ?_
  refine g_gR (pc := 1) dX12_parent_1 fR_RX12_9 xc_135 (v := 136) rfl ?_
  refine g_bipush (pc := 4) dX12_parent_4 bp_7 ?_
  refine g_iload_n (pc := 6) dX12_parent_6 rfl ?_
  refine g_imul (pc := 7) dX12_parent_7 rfl ?_
  refine g_bipush (pc := 8) dX12_parent_8 bp_6 ?_
  refine g_iadd (pc := 10) dX12_parent_10 rfl ?_
  obtain ⟨g1, h⟩ := x_gd h
  refine g_iaload (pc := 11) dX12_parent_11 xc_136 (xin_of g1) (v := (rd u 136 (((7 : Int32) * v1) + (6 : Int32)).toNatClampNeg)) rfl ?_
  cases h
  exact g_iret (pc := 12) dX12_parent_12 rfl rfl rfl (Nat.le_refl _) (Nat.le_refl _)
set_option maxRecDepth 100000 in
set_option maxHeartbeats 4000000 in
theorem M_X12_parent {sc : Nat × (Nat → Int32)} {d : Nat} (hd : 0 ≤ d) {r : Int32} {u : xS} {a1 : Int32} (h : f_X12_parent u a1 = some r) : xMt sc mX12_parent d 0 0 [.ref 135, .int a1] (xL0, u) (some (.int r)) (xL0, u) :=
  xMt.of (by decide +kernel) (Nat.le_of_ble_eq_true rfl) (L := [some (.ref 135), some (.int a1)]) rfl ((G_X12_parent_0 hd a1 h))
set_option maxRecDepth 100000 in
set_option maxHeartbeats 4000000 in
theorem G_X12_isWithin_20 {sc : Nat × (Nat → Int32)} {d : Nat} (hd : 1 ≤ d) {r : Int32} {u : xS} (v2 : Int32) (v3 : Int32) (h : f_X12_isWithin_20 u v2 v3 = some r) : xG sc mX12_isWithin d 0 0 (xR (some (.int r)) (xL0, u) 0 0) 0 0 20 [none, none, some (.int v2), some (.int v3)] [] (xL0, u) := by
  rw [f_X12_isWithin_20] at h
  refine g_iload_n (pc := 20) dX12_isWithin_20 rfl ?_
  refine g_iload_n (pc := 21) dX12_isWithin_21 rfl ?_
  refine g_icmp_ne (tgt := 29) (pc := 22) dX12_isWithin_22 (by decide) (fun c1 => ?_) (fun c1 => ?_)
  · replace h := (if_neg c1).symm.trans h
    refine g_iconst (pc := 29) dX12_isWithin_29 ic_0 ?_
    cases h
    exact g_zret (pc := 30) dX12_isWithin_30 rfl (Or.inl rfl) rfl rfl (Nat.le_refl _) (Nat.le_refl _)
  · replace h := (if_pos c1).symm.trans h
    refine g_iconst (pc := 25) dX12_isWithin_25 ic_1 ?_
    refine g_goto (tgt := 30) (pc := 26) dX12_isWithin_26 (by decide) ?_
    cases h
    exact g_zret (pc := 30) dX12_isWithin_30 rfl (Or.inr rfl) rfl rfl (Nat.le_refl _) (Nat.le_refl _)
set_option maxRecDepth 100000 in
set_option maxHeartbeats 4000000 in
theorem G_X12_isWithin_2 {sc : Nat × (Nat → Int32)} {d : Nat} (hd : 1 ≤ d) {r : Int32} {u : xS} : ∀ (n : Nat) (v2 : Int32) (v3 : Int32), f_X12_isWithin_2 u n v2 v3 = some r → xG sc mX12_isWithin d 0 0 (xR (some (.int r)) (xL0, u) 0 0) 0 0 2 [some (.ref 135), none, some (.int v2), some (.int v3)] [] (xL0, u) := by
  intro n
  induction n with
  | zero =>
    intro v2 v3 h
    rw [f_X12_isWithin_2] at h
    cases h
  | succ n ih =>
    intro v2 v3 h
    rw [f_X12_isWithin_2] at h
    refine g_iload_n (pc := 2) dX12_isWithin_2 rfl ?_
    refine g_if_lt (tgt := 20) (pc := 3) dX12_isWithin_3 (by decide) (fun c1 => ?_) (fun c1 => ?_)
    · replace h := (if_pos c1).symm.trans h
      refine g_L (L' := [none, none, some (.int v2), some (.int v3)]) ⟨rfl, ⟨rfl, trivial⟩⟩ ?_
      exact G_X12_isWithin_20 hd v2 v3 h
    · replace h := (if_neg c1).symm.trans h
      refine g_iload_n (pc := 6) dX12_isWithin_6 rfl ?_
      refine g_iload_n (pc := 7) dX12_isWithin_7 rfl ?_
      refine g_icmp_eq (tgt := 20) (pc := 8) dX12_isWithin_8 (by decide) (fun c2 => ?_) (fun c2 => ?_)
      · replace h := (if_pos c2).symm.trans h
        refine g_L (L' := [none, none, some (.int v2), some (.int v3)]) ⟨rfl, ⟨rfl, trivial⟩⟩ ?_
        exact G_X12_isWithin_20 hd v2 v3 h
      · replace h := (if_neg c2).symm.trans h
        refine g_aload_n (pc := 11) dX12_isWithin_11 rfl ?_
        refine g_iload_n (pc := 12) dX12_isWithin_12 rfl ?_
        obtain ⟨x4, e3, h⟩ := x_bind h
        refine g_cV (pc := 13) dX12_isWithin_13 cV_RX12_182 (M_X12_parent (Nat.le_refl _) e3) xc_135 (as := [.int v3]) (st := []) rfl rfl (Nat.le_of_ble_eq_true rfl) (Nat.le_trans (Nat.le_of_ble_eq_true rfl) hd) rfl ?_
        refine g_istore_n (pc := 16) dX12_isWithin_16 (Nat.le_of_ble_eq_true rfl) (L' := [some (.ref 135), none, some (.int v2), some (.int x4)]) rfl ?_
        refine g_goto (tgt := 2) (pc := 17) dX12_isWithin_17 (by decide) ?_
        exact ih v2 x4 h
set_option maxRecDepth 100000 in
set_option maxHeartbeats 4000000 in
theorem G_X12_isWithin_0 {sc : Nat × (Nat → Int32)} {d : Nat} (hd : 1 ≤ d) {r : Int32} {u : xS} (v1 : Int32) (v2 : Int32) (h : f_X12_isWithin u v1 v2 = some r) : xG sc mX12_isWithin d 0 0 (xR (some (.int r)) (xL0, u) 0 0) 0 0 0 [some (.ref 135), some (.int v1), some (.int v2), none] [] (xL0, u) := by
  rw [f_X12_isWithin] at h
  refine g_iload_n (pc := 0) dX12_isWithin_0 rfl ?_
  refine g_istore_n (pc := 1) dX12_isWithin_1 (Nat.le_of_ble_eq_true rfl) (L' := [some (.ref 135), some (.int v1), some (.int v2), some (.int v1)]) rfl ?_
  refine g_L (L' := [some (.ref 135), none, some (.int v2), some (.int v1)]) ⟨rfl, ⟨rfl, ⟨rfl, trivial⟩⟩⟩ ?_
  exact G_X12_isWithin_2 hd xN v2 v1 h
set_option maxRecDepth 100000 in
set_option maxHeartbeats 4000000 in
theorem M_X12_isWithin {sc : Nat × (Nat → Int32)} {d : Nat} (hd : 1 ≤ d) {r : Int32} {u : xS} {a1 : Int32} {a2 : Int32} (h : f_X12_isWithin u a1 a2 = some r) : xMt sc mX12_isWithin d 0 0 [.ref 135, .int a1, .int a2] (xL0, u) (some (.int r)) (xL0, u) :=
  xMt.of (by decide +kernel) (Nat.le_of_ble_eq_true rfl) (L := [some (.ref 135), some (.int a1), some (.int a2), none]) rfl ((G_X12_isWithin_0 hd a1 a2 h))
set_option maxRecDepth 100000 in
set_option maxHeartbeats 4000000 in
theorem G_X12_foretell_212 {sc : Nat × (Nat → Int32)} {d : Nat} (hd : 2 ≤ d) {r : Int32} {u' : xS} {k53 : Int32 → Int32 → Int32 → Int32 → Int32 → Int32 → Int32 → xS → Option (Int32 × xS)} (hk53 : ∀ (v1 : Int32) (v2 : Int32) (v3 : Int32) (v4 : Int32) (v5 : Int32) (v6 : Int32) (v7 : Int32) (u : xS), k53 v1 v2 v3 v4 v5 v6 v7 u = some (r, u') → xG sc mX12_foretell d 0 0 (xR (some (.int r)) (xL0, u') 0 0) 0 0 53 [some (.ref 135), some (.int v1), some (.int v2), some (.int v3), some (.int v4), some (.int v5), some (.int v6), some (.int v7), none, none] [] (xL0, u)) (v1 : Int32) (v2 : Int32) (v3 : Int32) (v4 : Int32) (v5 : Int32) (v6 : Int32) (v7 : Int32) (u : xS) (h : f_X12_foretell_212 k53 v1 v2 v3 v4 v5 v6 v7 u = some (r, u')) : xG sc mX12_foretell d 0 0 (xR (some (.int r)) (xL0, u') 0 0) 0 0 212 [some (.ref 135), some (.int v1), some (.int v2), some (.int v3), some (.int v4), some (.int v5), some (.int v6), some (.int v7), none, none] [] (xL0, u) := by
  rw [f_X12_foretell_212] at h
  refine g_inc (pc := 212) dX12_foretell_212 (Nat.le_of_ble_eq_true rfl) rfl ic_1 (L' := [some (.ref 135), some (.int v1), some (.int v2), some (.int v3), some (.int v4), some (.int v5), some (.int v6), some (.int (v7 + (1 : Int32))), none, none]) rfl ?_
  refine g_goto (tgt := 53) (pc := 215) dX12_foretell_215 (by decide) ?_
  exact hk53 v1 v2 v3 v4 v5 v6 (v7 + (1 : Int32)) u h
set_option maxRecDepth 100000 in
set_option maxHeartbeats 4000000 in
theorem G_X12_foretell_207 {sc : Nat × (Nat → Int32)} {d : Nat} (hd : 2 ≤ d) {r : Int32} {u' : xS} {k53 : Int32 → Int32 → Int32 → Int32 → Int32 → Int32 → Int32 → xS → Option (Int32 × xS)} (hk53 : ∀ (v1 : Int32) (v2 : Int32) (v3 : Int32) (v4 : Int32) (v5 : Int32) (v6 : Int32) (v7 : Int32) (u : xS), k53 v1 v2 v3 v4 v5 v6 v7 u = some (r, u') → xG sc mX12_foretell d 0 0 (xR (some (.int r)) (xL0, u') 0 0) 0 0 53 [some (.ref 135), some (.int v1), some (.int v2), some (.int v3), some (.int v4), some (.int v5), some (.int v6), some (.int v7), none, none] [] (xL0, u)) (v1 : Int32) (v2 : Int32) (v3 : Int32) (v4 : Int32) (v6 : Int32) (v7 : Int32) (s0 : Int32) (u : xS) (h : f_X12_foretell_207 k53 v1 v2 v3 v4 v6 v7 s0 u = some (r, u')) : xG sc mX12_foretell d 0 0 (xR (some (.int r)) (xL0, u') 0 0) 0 0 207 [some (.ref 135), some (.int v1), some (.int v2), some (.int v3), some (.int v4), none, some (.int v6), some (.int v7), none, none] [.int s0] (xL0, u) := by
  rw [f_X12_foretell_207] at h
  refine g_istore (pc := 207) dX12_foretell_207 (Nat.le_of_ble_eq_true rfl) (L' := [some (.ref 135), some (.int v1), some (.int v2), some (.int v3), some (.int v4), some (.int s0), some (.int v6), some (.int v7), none, none]) rfl ?_
  refine g_inc (pc := 209) dX12_foretell_209 (Nat.le_of_ble_eq_true rfl) rfl ic_1 (L' := [some (.ref 135), some (.int v1), some (.int v2), some (.int v3), some (.int v4), some (.int s0), some (.int (v6 + (1 : Int32))), some (.int v7), none, none]) rfl ?_
  exact G_X12_foretell_212 hd hk53 v1 v2 v3 v4 s0 (v6 + (1 : Int32)) v7 u h
set_option maxRecDepth 100000 in
set_option maxHeartbeats 4000000 in
theorem G_X12_foretell_188 {sc : Nat × (Nat → Int32)} {d : Nat} (hd : 2 ≤ d) {r : Int32} {u' : xS} {k53 : Int32 → Int32 → Int32 → Int32 → Int32 → Int32 → Int32 → xS → Option (Int32 × xS)} (hk53 : ∀ (v1 : Int32) (v2 : Int32) (v3 : Int32) (v4 : Int32) (v5 : Int32) (v6 : Int32) (v7 : Int32) (u : xS), k53 v1 v2 v3 v4 v5 v6 v7 u = some (r, u') → xG sc mX12_foretell d 0 0 (xR (some (.int r)) (xL0, u') 0 0) 0 0 53 [some (.ref 135), some (.int v1), some (.int v2), some (.int v3), some (.int v4), some (.int v5), some (.int v6), some (.int v7), none, none] [] (xL0, u)) (v1 : Int32) (v2 : Int32) (v3 : Int32) (v5 : Int32) (v6 : Int32) (v7 : Int32) (v9 : Int32) (s0 : Int32) (u : xS) (h : f_X12_foretell_188 k53 v1 v2 v3 v5 v6 v7 v9 s0 u = some (r, u')) : xG sc mX12_foretell d 0 0 (xR (some (.int r)) (xL0, u') 0 0) 0 0 188 [some (.ref 135), some (.int v1), some (.int v2), some (.int v3), none, some (.int v5), some (.int v6), some (.int v7), none, some (.int v9)] [.int s0] (xL0, u) := by
  rw [f_X12_foretell_188] at h
  refine g_istore (pc := 188) dX12_foretell_188 (Nat.le_of_ble_eq_true rfl) (L' := [some (.ref 135), some (.int v1), some (.int v2), some (.int v3), some (.int s0), some (.int v5), some (.int v6), some (.int v7), none, some (.int v9)]) rfl ?_
  refine g_iload (pc := 190) dX12_foretell_190 rfl ?_
  refine g_if_ne (tgt := 200) (pc := 192) dX12_foretell_192 (by decide) (fun c1 => ?_) (fun c1 => ?_)
  · replace h := (if_neg c1).symm.trans h
    refine g_iload (pc := 200) dX12_foretell_200 rfl ?_
    refine g_iload (pc := 202) dX12_foretell_202 rfl ?_
    refine g_max (pc := 204) dX12_foretell_204 mK_RX12_238 (Nat.le_of_ble_eq_true rfl) (Nat.le_trans (Nat.le_of_ble_eq_true rfl) hd) (Nat.le_refl _) (Nat.le_refl _) ?_
    refine g_L (L' := [some (.ref 135), some (.int v1), some (.int v2), some (.int v3), some (.int s0), none, some (.int v6), some (.int v7), none, none]) ⟨rfl, ⟨rfl, ⟨rfl, ⟨rfl, ⟨rfl, ⟨rfl, ⟨rfl, trivial⟩⟩⟩⟩⟩⟩⟩ ?_
    exact G_X12_foretell_207 hd hk53 v1 v2 v3 s0 v6 v7 (imax v5 v9) u h
  · replace h := (if_pos c1).symm.trans h
    refine g_iload (pc := 195) dX12_foretell_195 rfl ?_
    refine g_goto (tgt := 207) (pc := 197) dX12_foretell_197 (by decide) ?_
    refine g_L (L' := [some (.ref 135), some (.int v1), some (.int v2), some (.int v3), some (.int s0), none, some (.int v6), some (.int v7), none, none]) ⟨rfl, ⟨rfl, ⟨rfl, ⟨rfl, ⟨rfl, ⟨rfl, ⟨rfl, trivial⟩⟩⟩⟩⟩⟩⟩ ?_
    exact G_X12_foretell_207 hd hk53 v1 v2 v3 s0 v6 v7 v9 u h
set_option maxRecDepth 100000 in
set_option maxHeartbeats 4000000 in
theorem G_X12_foretell_146 {sc : Nat × (Nat → Int32)} {d : Nat} (hd : 2 ≤ d) {r : Int32} {u' : xS} {k108 : Int32 → Int32 → Int32 → Int32 → Int32 → Int32 → Int32 → Int32 → Int32 → xS → Option (Int32 × xS)} (hk108 : ∀ (v1 : Int32) (v2 : Int32) (v3 : Int32) (v4 : Int32) (v5 : Int32) (v6 : Int32) (v7 : Int32) (v8 : Int32) (v9 : Int32) (u : xS), k108 v1 v2 v3 v4 v5 v6 v7 v8 v9 u = some (r, u') → xG sc mX12_foretell d 0 0 (xR (some (.int r)) (xL0, u') 0 0) 0 0 108 [some (.ref 135), some (.int v1), some (.int v2), some (.int v3), some (.int v4), some (.int v5), some (.int v6), some (.int v7), some (.int v8), some (.int v9)] [] (xL0, u)) {k53 : Int32 → Int32 → Int32 → Int32 → Int32 → Int32 → Int32 → xS → Option (Int32 × xS)} (hk53 : ∀ (v1 : Int32) (v2 : Int32) (v3 : Int32) (v4 : Int32) (v5 : Int32) (v6 : Int32) (v7 : Int32) (u : xS), k53 v1 v2 v3 v4 v5 v6 v7 u = some (r, u') → xG sc mX12_foretell d 0 0 (xR (some (.int r)) (xL0, u') 0 0) 0 0 53 [some (.ref 135), some (.int v1), some (.int v2), some (.int v3), some (.int v4), some (.int v5), some (.int v6), some (.int v7), none, none] [] (xL0, u)) (v1 : Int32) (v2 : Int32) (v3 : Int32) (v4 : Int32) (v5 : Int32) (v6 : Int32) (v7 : Int32) (v9 : Int32) (s0 : Int32) (s1 : Int32) (u : xS) (h : f_X12_foretell_146 k108 k53 v1 v2 v3 v4 v5 v6 v7 v9 s0 s1 u = some (r, u')) : xG sc mX12_foretell d 0 0 (xR (some (.int r)) (xL0, u') 0 0) 0 0 146 [some (.ref 135), some (.int v1), some (.int v2), some (.int v3), some (.int v4), some (.int v5), some (.int v6), some (.int v7), none, some (.int v9)] [.int s1, .int s0] (xL0, u) := by
  rw [f_X12_foretell_146] at h
  refine g_iadd (pc := 146) dX12_foretell_146 rfl ?_
  refine g_istore (pc := 147) dX12_foretell_147 (Nat.le_of_ble_eq_true rfl) (L' := [some (.ref 135), some (.int v1), some (.int v2), some (.int v3), some (.int v4), some (.int v5), some (.int v6), some (.int v7), some (.int (s0 + s1)), some (.int v9)]) rfl ?_
  refine g_inc (pc := 149) dX12_foretell_149 (Nat.le_of_ble_eq_true rfl) rfl ic_1 (L' := [some (.ref 135), some (.int v1), some (.int v2), some (.int v3), some (.int v4), some (.int v5), some (.int v6), some (.int v7), some (.int (s0 + s1)), some (.int (v9 + (1 : Int32)))]) rfl ?_
  refine g_goto (tgt := 108) (pc := 152) dX12_foretell_152 (by decide) ?_
  exact hk108 v1 v2 v3 v4 v5 v6 v7 (s0 + s1) (v9 + (1 : Int32)) u h
set_option maxRecDepth 100000 in
set_option maxHeartbeats 4000000 in
theorem G_X12_foretell_108 {sc : Nat × (Nat → Int32)} {d : Nat} (hd : 2 ≤ d) {r : Int32} {u' : xS} {k53 : Int32 → Int32 → Int32 → Int32 → Int32 → Int32 → Int32 → xS → Option (Int32 × xS)} (hk53 : ∀ (v1 : Int32) (v2 : Int32) (v3 : Int32) (v4 : Int32) (v5 : Int32) (v6 : Int32) (v7 : Int32) (u : xS), k53 v1 v2 v3 v4 v5 v6 v7 u = some (r, u') → xG sc mX12_foretell d 0 0 (xR (some (.int r)) (xL0, u') 0 0) 0 0 53 [some (.ref 135), some (.int v1), some (.int v2), some (.int v3), some (.int v4), some (.int v5), some (.int v6), some (.int v7), none, none] [] (xL0, u)) : ∀ (n : Nat) (v1 : Int32) (v2 : Int32) (v3 : Int32) (v4 : Int32) (v5 : Int32) (v6 : Int32) (v7 : Int32) (v8 : Int32) (v9 : Int32) (u : xS), f_X12_foretell_108 k53 n v1 v2 v3 v4 v5 v6 v7 v8 v9 u = some (r, u') → xG sc mX12_foretell d 0 0 (xR (some (.int r)) (xL0, u') 0 0) 0 0 108 [some (.ref 135), some (.int v1), some (.int v2), some (.int v3), some (.int v4), some (.int v5), some (.int v6), some (.int v7), some (.int v8), some (.int v9)] [] (xL0, u) := by
  intro n
  induction n with
  | zero =>
    intro v1 v2 v3 v4 v5 v6 v7 v8 v9 u h
    rw [f_X12_foretell_108] at h
    cases h
  | succ n ih =>
    intro v1 v2 v3 v4 v5 v6 v7 v8 v9 u h
    rw [f_X12_foretell_108] at h
    refine g_iload (pc := 108) dX12_foretell_108 rfl ?_
    refine g_aload_n (pc := 110) dX12_foretell_110 rfl ?_
    refine g_gI (pc := 111) dX12_foretell_111 fI_RX12_153 xc_135 (v := (rd u 135 1)) rfl ?_
    refine g_icmp_ge (tgt := 155) (pc := 114) dX12_foretell_114 (by decide) (fun c1 => ?_) (fun c1 => ?_)
    · replace h := (if_pos c1).symm.trans h
      refine g_iload (pc := 155) dX12_foretell_155 rfl ?_
      refine g_sipush (pc := 157) dX12_foretell_157 sp_1000 ?_
      refine g_imul (pc := 160) dX12_foretell_160 rfl ?_
      refine g_aload_n (pc := 161) dX12_foretell_161 rfl ?_
      refine g_gR (pc := 162) dX12_foretell_162 fR_RX12_28 xc_135 (v := 142) rfl ?_
      refine g_iload (pc := 165) dX12_foretell_165 rfl ?_
      obtain ⟨g2, h⟩ := x_gd h
      refine g_iaload (pc := 167) dX12_foretell_167 xc_142 (xin_of g2) (v := (rd u 142 v7.toNatClampNeg)) rfl ?_
      obtain ⟨g3, h⟩ := x_gd h
      refine g_idiv (pc := 168) dX12_foretell_168 (xnz_of g3) rfl ?_
      refine g_istore (pc := 169) dX12_foretell_169 (Nat.le_of_ble_eq_true rfl) (L' := [some (.ref 135), some (.int v1), some (.int v2), some (.int v3), some (.int v4), some (.int v5), some (.int v6), some (.int v7), some (.int v8), some (.int ((v8 * (1000 : Int32)) / (rd u 142 v7.toNatClampNeg)))]) rfl ?_
      refine g_iload (pc := 171) dX12_foretell_171 rfl ?_
      refine g_if_ne (tgt := 181) (pc := 173) dX12_foretell_173 (by decide) (fun c4 => ?_) (fun c4 => ?_)
      · replace h := (if_neg c4).symm.trans h
        refine g_iload (pc := 181) dX12_foretell_181 rfl ?_
        refine g_iload (pc := 183) dX12_foretell_183 rfl ?_
        refine g_min (pc := 185) dX12_foretell_185 mK_RX12_250 (Nat.le_of_ble_eq_true rfl) (Nat.le_trans (Nat.le_of_ble_eq_true rfl) hd) (Nat.le_refl _) (Nat.le_refl _) ?_
        refine g_L (L' := [some (.ref 135), some (.int v1), some (.int v2), some (.int v3), none, some (.int v5), some (.int v6), some (.int v7), none, some (.int ((v8 * (1000 : Int32)) / (rd u 142 v7.toNatClampNeg)))]) ⟨rfl, ⟨rfl, ⟨rfl, ⟨rfl, ⟨rfl, ⟨rfl, ⟨rfl, ⟨rfl, trivial⟩⟩⟩⟩⟩⟩⟩⟩ ?_
        exact G_X12_foretell_188 hd hk53 v1 v2 v3 v5 v6 v7 ((v8 * (1000 : Int32)) / (rd u 142 v7.toNatClampNeg)) (imin v4 ((v8 * (1000 : Int32)) / (rd u 142 v7.toNatClampNeg))) u h
      · replace h := (if_pos c4).symm.trans h
        refine g_iload (pc := 176) dX12_foretell_176 rfl ?_
        refine g_goto (tgt := 188) (pc := 178) dX12_foretell_178 (by decide) ?_
        refine g_L (L' := [some (.ref 135), some (.int v1), some (.int v2), some (.int v3), none, some (.int v5), some (.int v6), some (.int v7), none, some (.int ((v8 * (1000 : Int32)) / (rd u 142 v7.toNatClampNeg)))]) ⟨rfl, ⟨rfl, ⟨rfl, ⟨rfl, ⟨rfl, ⟨rfl, ⟨rfl, ⟨rfl, trivial⟩⟩⟩⟩⟩⟩⟩⟩ ?_
        exact G_X12_foretell_188 hd hk53 v1 v2 v3 v5 v6 v7 ((v8 * (1000 : Int32)) / (rd u 142 v7.toNatClampNeg)) ((v8 * (1000 : Int32)) / (rd u 142 v7.toNatClampNeg)) u h
    · replace h := (if_neg c1).symm.trans h
      refine g_iload (pc := 117) dX12_foretell_117 rfl ?_
      refine g_aload_n (pc := 119) dX12_foretell_119 rfl ?_
      refine g_iload (pc := 120) dX12_foretell_120 rfl ?_
      refine g_iload_n (pc := 122) dX12_foretell_122 rfl ?_
      obtain ⟨x6, e5, h⟩ := x_bind h
      refine g_cV (pc := 123) dX12_foretell_123 cV_RX12_186 (M_X12_isWithin (Nat.le_refl _) e5) xc_135 (as := [.int v9, .int v3]) (st := [.int v8]) rfl rfl (Nat.le_of_ble_eq_true rfl) (Nat.le_trans (Nat.le_of_ble_eq_true rfl) hd) rfl ?_
      refine g_if_eq (tgt := 145) (pc := 126) dX12_foretell_126 (by decide) (fun c7 => ?_) (fun c7 => ?_)
      · replace h := (if_pos c7).symm.trans h
        refine g_iconst (pc := 145) dX12_foretell_145 ic_0 ?_
        refine g_L (L' := [some (.ref 135), some (.int v1), some (.int v2), some (.int v3), some (.int v4), some (.int v5), some (.int v6), some (.int v7), none, some (.int v9)]) ⟨rfl, ⟨rfl, ⟨rfl, ⟨rfl, ⟨rfl, ⟨rfl, ⟨rfl, ⟨rfl, ⟨rfl, trivial⟩⟩⟩⟩⟩⟩⟩⟩⟩ ?_
        exact G_X12_foretell_146 hd ih hk53 v1 v2 v3 v4 v5 v6 v7 v9 v8 (0 : Int32) u h
      · replace h := (if_neg c7).symm.trans h
        refine g_aload_n (pc := 129) dX12_foretell_129 rfl ?_
        refine g_gR (pc := 130) dX12_foretell_130 fR_RX12_40 xc_135 (v := 146) rfl ?_
        refine g_bipush (pc := 133) dX12_foretell_133 bp_24 ?_
        refine g_iload (pc := 135) dX12_foretell_135 rfl ?_
        refine g_imul (pc := 137) dX12_foretell_137 rfl ?_
        refine g_iload (pc := 138) dX12_foretell_138 rfl ?_
        refine g_iadd (pc := 140) dX12_foretell_140 rfl ?_
        obtain ⟨g8, h⟩ := x_gd h
        refine g_iaload (pc := 141) dX12_foretell_141 xc_146 (xin_of g8) (v := (rd u 146 (((24 : Int32) * v9) + v7).toNatClampNeg)) rfl ?_
        refine g_goto (tgt := 146) (pc := 142) dX12_foretell_142 (by decide) ?_
        refine g_L (L' := [some (.ref 135), some (.int v1), some (.int v2), some (.int v3), some (.int v4), some (.int v5), some (.int v6), some (.int v7), none, some (.int v9)]) ⟨rfl, ⟨rfl, ⟨rfl, ⟨rfl, ⟨rfl, ⟨rfl, ⟨rfl, ⟨rfl, ⟨rfl, trivial⟩⟩⟩⟩⟩⟩⟩⟩⟩ ?_
        exact G_X12_foretell_146 hd ih hk53 v1 v2 v3 v4 v5 v6 v7 v9 v8 (rd u 146 (((24 : Int32) * v9) + v7).toNatClampNeg) u h
set_option maxRecDepth 100000 in
set_option maxHeartbeats 4000000 in
theorem G_X12_foretell_102 {sc : Nat × (Nat → Int32)} {d : Nat} (hd : 2 ≤ d) {r : Int32} {u' : xS} {k53 : Int32 → Int32 → Int32 → Int32 → Int32 → Int32 → Int32 → xS → Option (Int32 × xS)} (hk53 : ∀ (v1 : Int32) (v2 : Int32) (v3 : Int32) (v4 : Int32) (v5 : Int32) (v6 : Int32) (v7 : Int32) (u : xS), k53 v1 v2 v3 v4 v5 v6 v7 u = some (r, u') → xG sc mX12_foretell d 0 0 (xR (some (.int r)) (xL0, u') 0 0) 0 0 53 [some (.ref 135), some (.int v1), some (.int v2), some (.int v3), some (.int v4), some (.int v5), some (.int v6), some (.int v7), none, none] [] (xL0, u)) (v1 : Int32) (v2 : Int32) (v3 : Int32) (v4 : Int32) (v5 : Int32) (v6 : Int32) (v7 : Int32) (u : xS) (h : f_X12_foretell_102 k53 v1 v2 v3 v4 v5 v6 v7 u = some (r, u')) : xG sc mX12_foretell d 0 0 (xR (some (.int r)) (xL0, u') 0 0) 0 0 102 [some (.ref 135), some (.int v1), some (.int v2), some (.int v3), some (.int v4), some (.int v5), some (.int v6), some (.int v7), none, none] [] (xL0, u) := by
  rw [f_X12_foretell_102] at h
  refine g_iconst (pc := 102) dX12_foretell_102 ic_0 ?_
  refine g_istore (pc := 103) dX12_foretell_103 (Nat.le_of_ble_eq_true rfl) (L' := [some (.ref 135), some (.int v1), some (.int v2), some (.int v3), some (.int v4), some (.int v5), some (.int v6), some (.int v7), some (.int (0 : Int32)), none]) rfl ?_
  refine g_iconst (pc := 105) dX12_foretell_105 ic_0 ?_
  refine g_istore (pc := 106) dX12_foretell_106 (Nat.le_of_ble_eq_true rfl) (L' := [some (.ref 135), some (.int v1), some (.int v2), some (.int v3), some (.int v4), some (.int v5), some (.int v6), some (.int v7), some (.int (0 : Int32)), some (.int (0 : Int32))]) rfl ?_
  exact G_X12_foretell_108 hd hk53 xN v1 v2 v3 v4 v5 v6 v7 (0 : Int32) (0 : Int32) u h
set_option maxRecDepth 100000 in
set_option maxHeartbeats 4000000 in
theorem G_X12_foretell_53 {sc : Nat × (Nat → Int32)} {d : Nat} (hd : 2 ≤ d) {r : Int32} {u' : xS} : ∀ (n : Nat) (v1 : Int32) (v2 : Int32) (v3 : Int32) (v4 : Int32) (v5 : Int32) (v6 : Int32) (v7 : Int32) (u : xS), f_X12_foretell_53 n v1 v2 v3 v4 v5 v6 v7 u = some (r, u') → xG sc mX12_foretell d 0 0 (xR (some (.int r)) (xL0, u') 0 0) 0 0 53 [some (.ref 135), some (.int v1), some (.int v2), some (.int v3), some (.int v4), some (.int v5), some (.int v6), some (.int v7), none, none] [] (xL0, u) := by
  intro n
  induction n with
  | zero =>
    intro v1 v2 v3 v4 v5 v6 v7 u h
    rw [f_X12_foretell_53] at h
    cases h
  | succ n ih =>
    intro v1 v2 v3 v4 v5 v6 v7 u h
    rw [f_X12_foretell_53] at h
    refine g_iload (pc := 53) dX12_foretell_53 rfl ?_
    refine g_aload_n (pc := 55) dX12_foretell_55 rfl ?_
    refine g_gI (pc := 56) dX12_foretell_56 fI_RX12_194 xc_135 (v := (rd u 135 7)) rfl ?_
    refine g_icmp_ge (tgt := 218) (pc := 59) dX12_foretell_59 (by decide) (fun c1 => ?_) (fun c1 => ?_)
    · replace h := (if_pos c1).symm.trans h
      refine g_iload (pc := 218) dX12_foretell_218 rfl ?_
      refine g_if_ne (tgt := 225) (pc := 220) dX12_foretell_220 (by decide) (fun c2 => ?_) (fun c2 => ?_)
      · replace h := (if_neg c2).symm.trans h
        refine g_aload_n (pc := 225) dX12_foretell_225 rfl ?_
        refine g_iconst (pc := 226) dX12_foretell_226 ic_0 ?_
        refine g_pI (pc := 227) dX12_foretell_227 pI_RX12_388 xc_135 (u' := (wr u 135 43 (0 : Int32))) rfl ?_
        refine g_aload_n (pc := 230) dX12_foretell_230 rfl ?_
        refine g_iload (pc := 231) dX12_foretell_231 rfl ?_
        obtain ⟨u4, e3, h⟩ := x_bind h
        refine g_cV (pc := 233) dX12_foretell_233 cV_RX12_394 (M_X12_enters (Nat.le_refl _) e3) xc_135 (as := [.int v4]) (st := []) rfl rfl (Nat.le_of_ble_eq_true rfl) (Nat.le_trans (Nat.le_of_ble_eq_true rfl) hd) rfl ?_
        refine g_aload_n (pc := 236) dX12_foretell_236 rfl ?_
        refine g_iload (pc := 237) dX12_foretell_237 rfl ?_
        obtain ⟨u6, e5, h⟩ := x_bind h
        refine g_cV (pc := 239) dX12_foretell_239 cV_RX12_394 (M_X12_enters (Nat.le_refl _) e5) xc_135 (as := [.int v5]) (st := []) rfl rfl (Nat.le_of_ble_eq_true rfl) (Nat.le_trans (Nat.le_of_ble_eq_true rfl) hd) rfl ?_
        refine g_aload_n (pc := 242) dX12_foretell_242 rfl ?_
        refine g_iload (pc := 243) dX12_foretell_243 rfl ?_
        obtain ⟨u8, e7, h⟩ := x_bind h
        refine g_cV (pc := 245) dX12_foretell_245 cV_RX12_394 (M_X12_enters (Nat.le_refl _) e7) xc_135 (as := [.int v6]) (st := []) rfl rfl (Nat.le_of_ble_eq_true rfl) (Nat.le_trans (Nat.le_of_ble_eq_true rfl) hd) rfl ?_
        refine g_iload (pc := 248) dX12_foretell_248 rfl ?_
        cases h
        exact g_iret (pc := 250) dX12_foretell_250 rfl rfl rfl (Nat.le_refl _) (Nat.le_refl _)
      · replace h := (if_pos c2).symm.trans h
        refine g_iconst (pc := 223) dX12_foretell_223 ic_m1 ?_
        cases h
        exact g_iret (pc := 224) dX12_foretell_224 rfl rfl rfl (Nat.le_refl _) (Nat.le_refl _)
    · replace h := (if_neg c1).symm.trans h
      refine g_aload_n (pc := 62) dX12_foretell_62 rfl ?_
      refine g_gR (pc := 63) dX12_foretell_63 fR_RX12_34 xc_135 (v := 144) rfl ?_
      refine g_iload (pc := 66) dX12_foretell_66 rfl ?_
      obtain ⟨g9, h⟩ := x_gd h
      refine g_iaload (pc := 68) dX12_foretell_68 xc_144 (xin_of g9) (v := (rd u 144 v7.toNatClampNeg)) rfl ?_
      refine g_if_lt (tgt := 212) (pc := 69) dX12_foretell_69 (by decide) (fun c10 => ?_) (fun c10 => ?_)
      · replace h := (if_pos c10).symm.trans h
        exact G_X12_foretell_212 hd ih v1 v2 v3 v4 v5 v6 v7 u h
      · replace h := (if_neg c10).symm.trans h
        refine g_aload_n (pc := 72) dX12_foretell_72 rfl ?_
        refine g_gR (pc := 73) dX12_foretell_73 fR_RX12_22 xc_135 (v := 140) rfl ?_
        refine g_iload (pc := 76) dX12_foretell_76 rfl ?_
        refine g_iaload (pc := 78) dX12_foretell_78 xc_140 (xin_of g9) (v := (rd u 140 v7.toNatClampNeg)) rfl ?_
        refine g_iload_n (pc := 79) dX12_foretell_79 rfl ?_
        refine g_icmp_ne (tgt := 212) (pc := 80) dX12_foretell_80 (by decide) (fun c11 => ?_) (fun c11 => ?_)
        · replace h := (if_neg c11).symm.trans h
          exact G_X12_foretell_212 hd ih v1 v2 v3 v4 v5 v6 v7 u h
        · replace h := (if_pos c11).symm.trans h
          refine g_iload_n (pc := 83) dX12_foretell_83 rfl ?_
          refine g_iconst (pc := 84) dX12_foretell_84 ic_m1 ?_
          refine g_icmp_eq (tgt := 102) (pc := 85) dX12_foretell_85 (by decide) (fun c12 => ?_) (fun c12 => ?_)
          · replace h := (if_pos c12).symm.trans h
            exact G_X12_foretell_102 hd ih v1 v2 v3 v4 v5 v6 v7 u h
          · replace h := (if_neg c12).symm.trans h
            refine g_aload_n (pc := 88) dX12_foretell_88 rfl ?_
            refine g_gR (pc := 89) dX12_foretell_89 fR_RX12_25 xc_135 (v := 141) rfl ?_
            refine g_iload (pc := 92) dX12_foretell_92 rfl ?_
            refine g_iaload (pc := 94) dX12_foretell_94 xc_141 (xin_of g9) (v := (rd u 141 v7.toNatClampNeg)) rfl ?_
            refine g_iload_n (pc := 95) dX12_foretell_95 rfl ?_
            refine g_icmp_eq (tgt := 102) (pc := 96) dX12_foretell_96 (by decide) (fun c13 => ?_) (fun c13 => ?_)
            · replace h := (if_pos c13).symm.trans h
              exact G_X12_foretell_102 hd ih v1 v2 v3 v4 v5 v6 v7 u h
            · replace h := (if_neg c13).symm.trans h
              refine g_goto (tgt := 212) (pc := 99) dX12_foretell_99 (by decide) ?_
              exact G_X12_foretell_212 hd ih v1 v2 v3 v4 v5 v6 v7 u h
set_option maxRecDepth 100000 in
set_option maxHeartbeats 4000000 in
theorem G_X12_foretell_0 {sc : Nat × (Nat → Int32)} {d : Nat} (hd : 2 ≤ d) {r : Int32} {u' : xS} (v1 : Int32) (v2 : Int32) (v3 : Int32) (u : xS) (h : f_X12_foretell v1 v2 v3 u = some (r, u')) : xG sc mX12_foretell d 0 0 (xR (some (.int r)) (xL0, u') 0 0) 0 0 0 [some (.ref 135), some (.int v1), some (.int v2), some (.int v3), none, none, none, none, none, none] [] (xL0, u) := by
  rw [f_X12_foretell] at h
  refine g_aload_n (pc := 0) dX12_foretell_0 rfl ?_
  refine g_iconst (pc := 1) dX12_foretell_1 ic_0 ?_
  refine g_pI (pc := 2) dX12_foretell_2 pI_RX12_150 xc_135 (u' := (wr u 135 0 (0 : Int32))) rfl ?_
  refine g_iload_n (pc := 5) dX12_foretell_5 rfl ?_
  refine g_i2l (pc := 6) dX12_foretell_6 rfl ?_
  refine g_lconst (v := (0 : Int64)) (pc := 7) dX12_foretell_7 rfl ?_
  refine g_ldc2 (pc := 8) dX12_foretell_8 kl_RX12_197 ?_
  refine g_cS (pc := 11) dX12_foretell_11 cS_RX12_156 (M_X12_in (Nat.le_refl _) rfl) (as := [.long ((v1).toInt64), .long (0 : Int64), .long (3 : Int64)]) (st := []) rfl rfl (Nat.le_of_ble_eq_true rfl) (Nat.le_trans (Nat.le_of_ble_eq_true rfl) hd) rfl ?_
  refine g_if_eq (tgt := 39) (pc := 14) dX12_foretell_14 (by decide) (fun c1 => ?_) (fun c1 => ?_)
  · replace h := (if_pos c1).symm.trans h
    refine g_iconst (pc := 39) dX12_foretell_39 ic_m1 ?_
    cases h
    exact g_iret (pc := 40) dX12_foretell_40 rfl rfl rfl (Nat.le_refl _) (Nat.le_refl _)
  · replace h := (if_neg c1).symm.trans h
    refine g_iload_n (pc := 17) dX12_foretell_17 rfl ?_
    refine g_i2l (pc := 18) dX12_foretell_18 rfl ?_
    refine g_ldc2 (pc := 19) dX12_foretell_19 kl_RX12_407 ?_
    refine g_ldc2 (pc := 22) dX12_foretell_22 kl_RX12_199 ?_
    refine g_cS (pc := 25) dX12_foretell_25 cS_RX12_156 (M_X12_in (Nat.le_refl _) rfl) (as := [.long ((v2).toInt64), .long (-1 : Int64), .long (7 : Int64)]) (st := []) rfl rfl (Nat.le_of_ble_eq_true rfl) (Nat.le_trans (Nat.le_of_ble_eq_true rfl) hd) rfl ?_
    refine g_if_eq (tgt := 39) (pc := 28) dX12_foretell_28 (by decide) (fun c2 => ?_) (fun c2 => ?_)
    · replace h := (if_pos c2).symm.trans h
      refine g_iconst (pc := 39) dX12_foretell_39 ic_m1 ?_
      cases h
      exact g_iret (pc := 40) dX12_foretell_40 rfl rfl rfl (Nat.le_refl _) (Nat.le_refl _)
    · replace h := (if_neg c2).symm.trans h
      refine g_aload_n (pc := 31) dX12_foretell_31 rfl ?_
      refine g_iload_n (pc := 32) dX12_foretell_32 rfl ?_
      refine g_cV (pc := 33) dX12_foretell_33 cV_RX12_166 (M_X12_isSort (Nat.le_refl _) rfl) xc_135 (as := [.int v3]) (st := []) rfl rfl (Nat.le_of_ble_eq_true rfl) (Nat.le_trans (Nat.le_of_ble_eq_true rfl) hd) rfl ?_
      refine g_if_ne (tgt := 41) (pc := 36) dX12_foretell_36 (by decide) (fun c3 => ?_) (fun c3 => ?_)
      · replace h := (if_neg c3).symm.trans h
        refine g_iconst (pc := 41) dX12_foretell_41 ic_0 ?_
        refine g_istore (pc := 42) dX12_foretell_42 (Nat.le_of_ble_eq_true rfl) (L' := [some (.ref 135), some (.int v1), some (.int v2), some (.int v3), some (.int (0 : Int32)), none, none, none, none, none]) rfl ?_
        refine g_iconst (pc := 44) dX12_foretell_44 ic_0 ?_
        refine g_istore (pc := 45) dX12_foretell_45 (Nat.le_of_ble_eq_true rfl) (L' := [some (.ref 135), some (.int v1), some (.int v2), some (.int v3), some (.int (0 : Int32)), some (.int (0 : Int32)), none, none, none, none]) rfl ?_
        refine g_iconst (pc := 47) dX12_foretell_47 ic_0 ?_
        refine g_istore (pc := 48) dX12_foretell_48 (Nat.le_of_ble_eq_true rfl) (L' := [some (.ref 135), some (.int v1), some (.int v2), some (.int v3), some (.int (0 : Int32)), some (.int (0 : Int32)), some (.int (0 : Int32)), none, none, none]) rfl ?_
        refine g_iconst (pc := 50) dX12_foretell_50 ic_0 ?_
        refine g_istore (pc := 51) dX12_foretell_51 (Nat.le_of_ble_eq_true rfl) (L' := [some (.ref 135), some (.int v1), some (.int v2), some (.int v3), some (.int (0 : Int32)), some (.int (0 : Int32)), some (.int (0 : Int32)), some (.int (0 : Int32)), none, none]) rfl ?_
        exact G_X12_foretell_53 hd xN v1 v2 v3 (0 : Int32) (0 : Int32) (0 : Int32) (0 : Int32) (wr u 135 0 (0 : Int32)) h
      · replace h := (if_pos c3).symm.trans h
        refine g_iconst (pc := 39) dX12_foretell_39 ic_m1 ?_
        cases h
        exact g_iret (pc := 40) dX12_foretell_40 rfl rfl rfl (Nat.le_refl _) (Nat.le_refl _)
set_option maxRecDepth 100000 in
set_option maxHeartbeats 4000000 in
theorem M_X12_foretell {sc : Nat × (Nat → Int32)} {d : Nat} (hd : 2 ≤ d) {r : Int32} {u u' : xS} {a1 : Int32} {a2 : Int32} {a3 : Int32} (h : f_X12_foretell a1 a2 a3 u = some (r, u')) : xMt sc mX12_foretell d 0 0 [.ref 135, .int a1, .int a2, .int a3] (xL0, u) (some (.int r)) (xL0, u') :=
  xMt.of (by decide +kernel) (Nat.le_of_ble_eq_true rfl) (L := [some (.ref 135), some (.int a1), some (.int a2), some (.int a3), none, none, none, none, none, none]) rfl ((G_X12_foretell_0 hd a1 a2 a3 u h))
set_option maxRecDepth 100000 in
set_option maxHeartbeats 4000000 in
theorem G_X12_given_44 {sc : Nat × (Nat → Int32)} {d : Nat} (hd : 0 ≤ d) {r : Int32} {u : xS} (h : f_X12_given_44 u = some r) : xG sc mX12_given d 0 0 (xR (some (.int r)) (xL0, u) 0 0) 0 0 44 [none, none, none, none, none] [] (xL0, u) := by
  rw [f_X12_given_44] at h
  refine g_bipush (pc := 44) dX12_given_44 bp_m2 ?_
  refine g_goto (tgt := 67) (pc := 46) dX12_given_46 (by decide) ?_
  cases h
  exact g_iret (pc := 67) dX12_given_67 rfl rfl rfl (Nat.le_refl _) (Nat.le_refl _)
set_option maxRecDepth 100000 in
set_option maxHeartbeats 4000000 in
theorem G_X12_given_0 {sc : Nat × (Nat → Int32)} {d : Nat} (hd : 0 ≤ d) {r : Int32} {u : xS} (v1 : Int32) (v2 : Int32) (h : f_X12_given u v1 v2 = some r) : xG sc mX12_given d 0 0 (xR (some (.int r)) (xL0, u) 0 0) 0 0 0 [some (.ref 135), some (.int v1), some (.int v2), none, none] [] (xL0, u) := by
  rw [f_X12_given] at h
  refine g_aload_n (pc := 0) dX12_given_0 rfl ?_
  refine g_gR (pc := 1) dX12_given_1 fR_RX12_123 xc_135 (v := 172) rfl ?_
  refine g_bipush (pc := 4) dX12_given_4 bp_16 ?_
  refine g_iload_n (pc := 6) dX12_given_6 rfl ?_
  refine g_imul (pc := 7) dX12_given_7 rfl ?_
  refine g_aload_n (pc := 8) dX12_given_8 rfl ?_
  refine g_gR (pc := 9) dX12_given_9 fR_RX12_129 xc_135 (v := 174) rfl ?_
  refine g_iload_n (pc := 12) dX12_given_12 rfl ?_
  obtain ⟨g1, h⟩ := x_gd h
  refine g_iaload (pc := 13) dX12_given_13 xc_174 (xin_of g1) (v := (rd u 174 v2.toNatClampNeg)) rfl ?_
  refine g_iadd (pc := 14) dX12_given_14 rfl ?_
  obtain ⟨g2, h⟩ := x_gd h
  refine g_iaload (pc := 15) dX12_given_15 xc_172 (xin_of g2) (v := (rd u 172 (((16 : Int32) * v1) + (rd u 174 v2.toNatClampNeg)).toNatClampNeg)) rfl ?_
  refine g_istore_n (pc := 16) dX12_given_16 (Nat.le_of_ble_eq_true rfl) (L' := [some (.ref 135), some (.int v1), some (.int v2), some (.int (rd u 172 (((16 : Int32) * v1) + (rd u 174 v2.toNatClampNeg)).toNatClampNeg)), none]) rfl ?_
  refine g_aload_n (pc := 17) dX12_given_17 rfl ?_
  refine g_gR (pc := 18) dX12_given_18 fR_RX12_123 xc_135 (v := 172) rfl ?_
  refine g_bipush (pc := 21) dX12_given_21 bp_16 ?_
  refine g_iload_n (pc := 23) dX12_given_23 rfl ?_
  refine g_imul (pc := 24) dX12_given_24 rfl ?_
  refine g_aload_n (pc := 25) dX12_given_25 rfl ?_
  refine g_gR (pc := 26) dX12_given_26 fR_RX12_135 xc_135 (v := 176) rfl ?_
  refine g_iload_n (pc := 29) dX12_given_29 rfl ?_
  refine g_iaload (pc := 30) dX12_given_30 xc_176 (xin_of g1) (v := (rd u 176 v2.toNatClampNeg)) rfl ?_
  refine g_iadd (pc := 31) dX12_given_31 rfl ?_
  obtain ⟨g3, h⟩ := x_gd h
  refine g_iaload (pc := 32) dX12_given_32 xc_172 (xin_of g3) (v := (rd u 172 (((16 : Int32) * v1) + (rd u 176 v2.toNatClampNeg)).toNatClampNeg)) rfl ?_
  refine g_istore (pc := 33) dX12_given_33 (Nat.le_of_ble_eq_true rfl) (L' := [some (.ref 135), some (.int v1), some (.int v2), some (.int (rd u 172 (((16 : Int32) * v1) + (rd u 174 v2.toNatClampNeg)).toNatClampNeg)), some (.int (rd u 172 (((16 : Int32) * v1) + (rd u 176 v2.toNatClampNeg)).toNatClampNeg))]) rfl ?_
  refine g_iload_n (pc := 35) dX12_given_35 rfl ?_
  refine g_if_lt (tgt := 44) (pc := 36) dX12_given_36 (by decide) (fun c4 => ?_) (fun c4 => ?_)
  · replace h := (if_pos c4).symm.trans h
    refine g_L (L' := [none, none, none, none, none]) trivial ?_
    exact G_X12_given_44 hd h
  · replace h := (if_neg c4).symm.trans h
    refine g_iload (pc := 39) dX12_given_39 rfl ?_
    refine g_if_ge (tgt := 49) (pc := 41) dX12_given_41 (by decide) (fun c5 => ?_) (fun c5 => ?_)
    · replace h := (if_pos c5).symm.trans h
      refine g_iload_n (pc := 49) dX12_given_49 rfl ?_
      refine g_aload_n (pc := 50) dX12_given_50 rfl ?_
      refine g_gR (pc := 51) dX12_given_51 fR_RX12_132 xc_135 (v := 175) rfl ?_
      refine g_iload_n (pc := 54) dX12_given_54 rfl ?_
      refine g_iaload (pc := 55) dX12_given_55 xc_175 (xin_of g1) (v := (rd u 175 v2.toNatClampNeg)) rfl ?_
      refine g_imul (pc := 56) dX12_given_56 rfl ?_
      refine g_iload (pc := 57) dX12_given_57 rfl ?_
      refine g_aload_n (pc := 59) dX12_given_59 rfl ?_
      refine g_gR (pc := 60) dX12_given_60 fR_RX12_138 xc_135 (v := 177) rfl ?_
      refine g_iload_n (pc := 63) dX12_given_63 rfl ?_
      refine g_iaload (pc := 64) dX12_given_64 xc_177 (xin_of g1) (v := (rd u 177 v2.toNatClampNeg)) rfl ?_
      refine g_imul (pc := 65) dX12_given_65 rfl ?_
      refine g_iadd (pc := 66) dX12_given_66 rfl ?_
      cases h
      exact g_iret (pc := 67) dX12_given_67 rfl rfl rfl (Nat.le_refl _) (Nat.le_refl _)
    · replace h := (if_neg c5).symm.trans h
      refine g_L (L' := [none, none, none, none, none]) trivial ?_
      exact G_X12_given_44 hd h
set_option maxRecDepth 100000 in
set_option maxHeartbeats 4000000 in
theorem M_X12_given {sc : Nat × (Nat → Int32)} {d : Nat} (hd : 0 ≤ d) {r : Int32} {u : xS} {a1 : Int32} {a2 : Int32} (h : f_X12_given u a1 a2 = some r) : xMt sc mX12_given d 0 0 [.ref 135, .int a1, .int a2] (xL0, u) (some (.int r)) (xL0, u) :=
  xMt.of (by decide +kernel) (Nat.le_of_ble_eq_true rfl) (L := [some (.ref 135), some (.int a1), some (.int a2), none, none]) rfl ((G_X12_given_0 hd a1 a2 h))
theorem zb_X12_isLand (v0 : Int32) : f_X12_isLand v0 = 0 ∨ f_X12_isLand v0 = 1 := by
  unfold f_X12_isLand
  (repeat' split) <;> first | exact Or.inl rfl | exact Or.inr rfl | exact zb_X12_in _ _ _
set_option maxRecDepth 100000 in
set_option maxHeartbeats 4000000 in
theorem G_X12_isLand_0 {sc : Nat × (Nat → Int32)} {d : Nat} (hd : 1 ≤ d) {r : Int32} {u : xS} (v0 : Int32) (h : f_X12_isLand v0 = r) : xG sc mX12_isLand d 0 0 (xR (some (.int r)) (xL0, u) 0 0) 0 0 0 [some (.int v0)] [] (xL0, u) := by
  rw [f_X12_isLand] at h
  refine g_iload_n (pc := 0) dX12_isLand_0 rfl ?_
  refine g_i2l (pc := 1) dX12_isLand_1 rfl ?_
  refine g_lconst (v := (0 : Int64)) (pc := 2) dX12_isLand_2 rfl ?_
  refine g_ldc2 (pc := 3) dX12_isLand_3 kl_RX12_197 ?_
  refine g_cS (pc := 6) dX12_isLand_6 cS_RX12_156 (M_X12_in (Nat.le_refl _) rfl) (as := [.long ((v0).toInt64), .long (0 : Int64), .long (3 : Int64)]) (st := []) rfl rfl (Nat.le_of_ble_eq_true rfl) (Nat.le_trans (Nat.le_of_ble_eq_true rfl) hd) rfl ?_
  subst h
  exact g_zret (pc := 9) dX12_isLand_9 rfl (zb_X12_in _ _ _) rfl rfl (Nat.le_refl _) (Nat.le_refl _)
set_option maxRecDepth 100000 in
set_option maxHeartbeats 4000000 in
theorem M_X12_isLand {sc : Nat × (Nat → Int32)} {d : Nat} (hd : 1 ≤ d) {r : Int32} {u : xS} {a0 : Int32} (h : f_X12_isLand a0 = r) : xMt sc mX12_isLand d 0 0 [.int a0] (xL0, u) (some (.int r)) (xL0, u) :=
  xMt.of (by decide +kernel) (Nat.le_of_ble_eq_true rfl) (L := [some (.int a0)]) rfl ((G_X12_isLand_0 hd a0 h))
set_option maxRecDepth 100000 in
set_option maxHeartbeats 4000000 in
theorem G_X12_gives_0 {sc : Nat × (Nat → Int32)} {d : Nat} (hd : 2 ≤ d) {r : Int32} {u' : xS} (v1 : Int32) (v2 : Int32) (u : xS) (h : f_X12_gives v1 v2 u = some (r, u')) : xG sc mX12_gives d 0 0 (xR (some (.int r)) (xL0, u') 0 0) 0 0 0 [some (.ref 135), some (.int v1), some (.int v2)] [] (xL0, u) := by
  rw [f_X12_gives] at h
  refine g_aload_n (pc := 0) dX12_gives_0 rfl ?_
  refine g_iconst (pc := 1) dX12_gives_1 ic_0 ?_
  refine g_pI (pc := 2) dX12_gives_2 pI_RX12_150 xc_135 (u' := (wr u 135 0 (0 : Int32))) rfl ?_
  refine g_iload_n (pc := 5) dX12_gives_5 rfl ?_
  refine g_cS (pc := 6) dX12_gives_6 cS_RX12_415 (M_X12_isLand (Nat.le_refl _) rfl) (as := [.int v1]) (st := []) rfl rfl (Nat.le_of_ble_eq_true rfl) (Nat.le_trans (Nat.le_of_ble_eq_true rfl) hd) rfl ?_
  refine g_if_eq (tgt := 37) (pc := 9) dX12_gives_9 (by decide) (fun c1 => ?_) (fun c1 => ?_)
  · replace h := (if_pos c1).symm.trans h
    refine g_iconst (pc := 37) dX12_gives_37 ic_m1 ?_
    cases h
    exact g_iret (pc := 38) dX12_gives_38 rfl rfl rfl (Nat.le_refl _) (Nat.le_refl _)
  · replace h := (if_neg c1).symm.trans h
    refine g_iload_n (pc := 12) dX12_gives_12 rfl ?_
    refine g_i2l (pc := 13) dX12_gives_13 rfl ?_
    refine g_lconst (v := (0 : Int64)) (pc := 14) dX12_gives_14 rfl ?_
    refine g_aload_n (pc := 15) dX12_gives_15 rfl ?_
    refine g_gI (pc := 16) dX12_gives_16 fI_RX12_420 xc_135 (v := (rd u 135 54)) rfl ?_
    refine g_iconst (pc := 19) dX12_gives_19 ic_1 ?_
    refine g_isub (pc := 20) dX12_gives_20 rfl ?_
    refine g_i2l (pc := 21) dX12_gives_21 rfl ?_
    refine g_cS (pc := 22) dX12_gives_22 cS_RX12_156 (M_X12_in (Nat.le_refl _) rfl) (as := [.long ((v2).toInt64), .long (0 : Int64), .long (((rd u 135 54) - (1 : Int32)).toInt64)]) (st := []) rfl rfl (Nat.le_of_ble_eq_true rfl) (Nat.le_trans (Nat.le_of_ble_eq_true rfl) hd) rfl ?_
    refine g_if_eq (tgt := 37) (pc := 25) dX12_gives_25 (by decide) (fun c2 => ?_) (fun c2 => ?_)
    · replace h := (if_pos c2).symm.trans h
      refine g_iconst (pc := 37) dX12_gives_37 ic_m1 ?_
      cases h
      exact g_iret (pc := 38) dX12_gives_38 rfl rfl rfl (Nat.le_refl _) (Nat.le_refl _)
    · replace h := (if_neg c2).symm.trans h
      refine g_aload_n (pc := 28) dX12_gives_28 rfl ?_
      refine g_iload_n (pc := 29) dX12_gives_29 rfl ?_
      refine g_iload_n (pc := 30) dX12_gives_30 rfl ?_
      obtain ⟨x4, e3, h⟩ := x_bind h
      refine g_cV (pc := 31) dX12_gives_31 cV_RX12_423 (M_X12_given (Nat.le_refl _) e3) xc_135 (as := [.int v1, .int v2]) (st := []) rfl rfl (Nat.le_of_ble_eq_true rfl) (Nat.le_trans (Nat.le_of_ble_eq_true rfl) hd) rfl ?_
      refine g_goto (tgt := 38) (pc := 34) dX12_gives_34 (by decide) ?_
      cases h
      exact g_iret (pc := 38) dX12_gives_38 rfl rfl rfl (Nat.le_refl _) (Nat.le_refl _)
set_option maxRecDepth 100000 in
set_option maxHeartbeats 4000000 in
theorem M_X12_gives {sc : Nat × (Nat → Int32)} {d : Nat} (hd : 2 ≤ d) {r : Int32} {u u' : xS} {a1 : Int32} {a2 : Int32} (h : f_X12_gives a1 a2 u = some (r, u')) : xMt sc mX12_gives d 0 0 [.ref 135, .int a1, .int a2] (xL0, u) (some (.int r)) (xL0, u') :=
  xMt.of (by decide +kernel) (Nat.le_of_ble_eq_true rfl) (L := [some (.ref 135), some (.int a1), some (.int a2)]) rfl ((G_X12_gives_0 hd a1 a2 u h))
set_option maxRecDepth 100000 in
set_option maxHeartbeats 4000000 in
theorem G_X12_hadOf_4 {sc : Nat × (Nat → Int32)} {d : Nat} (hd : 0 ≤ d) {r : Int32} {u : xS} : ∀ (n : Nat) (v1 : Int32) (v2 : Int32) (v3 : Int32), f_X12_hadOf_4 u n v1 v2 v3 = some r → xG sc mX12_hadOf d 0 0 (xR (some (.int r)) (xL0, u) 0 0) 0 0 4 [some (.ref 135), some (.int v1), some (.int v2), some (.int v3)] [] (xL0, u) := by
  intro n
  induction n with
  | zero =>
    intro v1 v2 v3 h
    rw [f_X12_hadOf_4] at h
    cases h
  | succ n ih =>
    intro v1 v2 v3 h
    rw [f_X12_hadOf_4] at h
    refine g_iload_n (pc := 4) dX12_hadOf_4 rfl ?_
    refine g_aload_n (pc := 5) dX12_hadOf_5 rfl ?_
    refine g_gI (pc := 6) dX12_hadOf_6 fI_RX12_194 xc_135 (v := (rd u 135 7)) rfl ?_
    refine g_icmp_ge (tgt := 32) (pc := 9) dX12_hadOf_9 (by decide) (fun c1 => ?_) (fun c1 => ?_)
    · replace h := (if_pos c1).symm.trans h
      refine g_iload_n (pc := 32) dX12_hadOf_32 rfl ?_
      cases h
      exact g_iret (pc := 33) dX12_hadOf_33 rfl rfl rfl (Nat.le_refl _) (Nat.le_refl _)
    · replace h := (if_neg c1).symm.trans h
      refine g_iload_n (pc := 12) dX12_hadOf_12 rfl ?_
      refine g_aload_n (pc := 13) dX12_hadOf_13 rfl ?_
      refine g_gR (pc := 14) dX12_hadOf_14 fR_RX12_40 xc_135 (v := 146) rfl ?_
      refine g_bipush (pc := 17) dX12_hadOf_17 bp_24 ?_
      refine g_iload_n (pc := 19) dX12_hadOf_19 rfl ?_
      refine g_imul (pc := 20) dX12_hadOf_20 rfl ?_
      refine g_iload_n (pc := 21) dX12_hadOf_21 rfl ?_
      refine g_iadd (pc := 22) dX12_hadOf_22 rfl ?_
      obtain ⟨g2, h⟩ := x_gd h
      refine g_iaload (pc := 23) dX12_hadOf_23 xc_146 (xin_of g2) (v := (rd u 146 (((24 : Int32) * v1) + v3).toNatClampNeg)) rfl ?_
      refine g_iadd (pc := 24) dX12_hadOf_24 rfl ?_
      refine g_istore_n (pc := 25) dX12_hadOf_25 (Nat.le_of_ble_eq_true rfl) (L' := [some (.ref 135), some (.int v1), some (.int (v2 + (rd u 146 (((24 : Int32) * v1) + v3).toNatClampNeg))), some (.int v3)]) rfl ?_
      refine g_inc (pc := 26) dX12_hadOf_26 (Nat.le_of_ble_eq_true rfl) rfl ic_1 (L' := [some (.ref 135), some (.int v1), some (.int (v2 + (rd u 146 (((24 : Int32) * v1) + v3).toNatClampNeg))), some (.int (v3 + (1 : Int32)))]) rfl ?_
      refine g_goto (tgt := 4) (pc := 29) dX12_hadOf_29 (by decide) ?_
      exact ih v1 (v2 + (rd u 146 (((24 : Int32) * v1) + v3).toNatClampNeg)) (v3 + (1 : Int32)) h
set_option maxRecDepth 100000 in
set_option maxHeartbeats 4000000 in
theorem G_X12_hadOf_0 {sc : Nat × (Nat → Int32)} {d : Nat} (hd : 0 ≤ d) {r : Int32} {u : xS} (v1 : Int32) (h : f_X12_hadOf u v1 = some r) : xG sc mX12_hadOf d 0 0 (xR (some (.int r)) (xL0, u) 0 0) 0 0 0 [some (.ref 135), some (.int v1), none, none] [] (xL0, u) := by
  rw [f_X12_hadOf] at h
  refine g_iconst (pc := 0) dX12_hadOf_0 ic_0 ?_
  refine g_istore_n (pc := 1) dX12_hadOf_1 (Nat.le_of_ble_eq_true rfl) (L' := [some (.ref 135), some (.int v1), some (.int (0 : Int32)), none]) rfl ?_
  refine g_iconst (pc := 2) dX12_hadOf_2 ic_0 ?_
  refine g_istore_n (pc := 3) dX12_hadOf_3 (Nat.le_of_ble_eq_true rfl) (L' := [some (.ref 135), some (.int v1), some (.int (0 : Int32)), some (.int (0 : Int32))]) rfl ?_
  exact G_X12_hadOf_4 hd xN v1 (0 : Int32) (0 : Int32) h
set_option maxRecDepth 100000 in
set_option maxHeartbeats 4000000 in
theorem M_X12_hadOf {sc : Nat × (Nat → Int32)} {d : Nat} (hd : 0 ≤ d) {r : Int32} {u : xS} {a1 : Int32} (h : f_X12_hadOf u a1 = some r) : xMt sc mX12_hadOf d 0 0 [.ref 135, .int a1] (xL0, u) (some (.int r)) (xL0, u) :=
  xMt.of (by decide +kernel) (Nat.le_of_ble_eq_true rfl) (L := [some (.ref 135), some (.int a1), none, none]) rfl ((G_X12_hadOf_0 hd a1 h))
set_option maxRecDepth 100000 in
set_option maxHeartbeats 4000000 in
theorem G_X12_isClean_44 {sc : Nat × (Nat → Int32)} {d : Nat} (hd : 0 ≤ d) {r : Int32} {u : xS} {k4 : Int32 → Int32 → Int32 → Option Int32} (hk4 : ∀ (v1 : Int32) (v2 : Int32) (v3 : Int32), k4 v1 v2 v3 = some r → xG sc mX12_isClean d 0 0 (xR (some (.int r)) (xL0, u) 0 0) 0 0 4 [some (.ref 135), some (.int v1), some (.int v2), some (.int v3)] [] (xL0, u)) (v1 : Int32) (v3 : Int32) (s0 : Int32) (h : f_X12_isClean_44 k4 u v1 v3 s0 = some r) : xG sc mX12_isClean d 0 0 (xR (some (.int r)) (xL0, u) 0 0) 0 0 44 [some (.ref 135), some (.int v1), none, some (.int v3)] [.int s0] (xL0, u) := by
  rw [f_X12_isClean_44] at h
  refine g_istore_n (pc := 44) dX12_isClean_44 (Nat.le_of_ble_eq_true rfl) (L' := [some (.ref 135), some (.int v1), some (.int s0), some (.int v3)]) rfl ?_
  refine g_inc (pc := 45) dX12_isClean_45 (Nat.le_of_ble_eq_true rfl) rfl ic_1 (L' := [some (.ref 135), some (.int v1), some (.int s0), some (.int (v3 + (1 : Int32)))]) rfl ?_
  refine g_goto (tgt := 4) (pc := 48) dX12_isClean_48 (by decide) ?_
  exact hk4 v1 s0 (v3 + (1 : Int32)) h
set_option maxRecDepth 100000 in
set_option maxHeartbeats 4000000 in
theorem G_X12_isClean_43 {sc : Nat × (Nat → Int32)} {d : Nat} (hd : 0 ≤ d) {r : Int32} {u : xS} {k4 : Int32 → Int32 → Int32 → Option Int32} (hk4 : ∀ (v1 : Int32) (v2 : Int32) (v3 : Int32), k4 v1 v2 v3 = some r → xG sc mX12_isClean d 0 0 (xR (some (.int r)) (xL0, u) 0 0) 0 0 4 [some (.ref 135), some (.int v1), some (.int v2), some (.int v3)] [] (xL0, u)) (v1 : Int32) (v3 : Int32) (h : f_X12_isClean_43 k4 u v1 v3 = some r) : xG sc mX12_isClean d 0 0 (xR (some (.int r)) (xL0, u) 0 0) 0 0 43 [some (.ref 135), some (.int v1), none, some (.int v3)] [] (xL0, u) := by
  rw [f_X12_isClean_43] at h
  refine g_iconst (pc := 43) dX12_isClean_43 ic_0 ?_
  exact G_X12_isClean_44 hd hk4 v1 v3 (0 : Int32) h
set_option maxRecDepth 100000 in
set_option maxHeartbeats 4000000 in
theorem G_X12_isClean_39 {sc : Nat × (Nat → Int32)} {d : Nat} (hd : 0 ≤ d) {r : Int32} {u : xS} {k4 : Int32 → Int32 → Int32 → Option Int32} (hk4 : ∀ (v1 : Int32) (v2 : Int32) (v3 : Int32), k4 v1 v2 v3 = some r → xG sc mX12_isClean d 0 0 (xR (some (.int r)) (xL0, u) 0 0) 0 0 4 [some (.ref 135), some (.int v1), some (.int v2), some (.int v3)] [] (xL0, u)) (v1 : Int32) (v3 : Int32) (h : f_X12_isClean_39 k4 u v1 v3 = some r) : xG sc mX12_isClean d 0 0 (xR (some (.int r)) (xL0, u) 0 0) 0 0 39 [some (.ref 135), some (.int v1), none, some (.int v3)] [] (xL0, u) := by
  rw [f_X12_isClean_39] at h
  refine g_iconst (pc := 39) dX12_isClean_39 ic_1 ?_
  refine g_goto (tgt := 44) (pc := 40) dX12_isClean_40 (by decide) ?_
  exact G_X12_isClean_44 hd hk4 v1 v3 (1 : Int32) h
set_option maxRecDepth 100000 in
set_option maxHeartbeats 4000000 in
theorem G_X12_isClean_4 {sc : Nat × (Nat → Int32)} {d : Nat} (hd : 0 ≤ d) {r : Int32} {u : xS} : ∀ (n : Nat) (v1 : Int32) (v2 : Int32) (v3 : Int32), f_X12_isClean_4 u n v1 v2 v3 = some r → xG sc mX12_isClean d 0 0 (xR (some (.int r)) (xL0, u) 0 0) 0 0 4 [some (.ref 135), some (.int v1), some (.int v2), some (.int v3)] [] (xL0, u) := by
  intro n
  induction n with
  | zero =>
    intro v1 v2 v3 h
    rw [f_X12_isClean_4] at h
    cases h
  | succ n ih =>
    intro v1 v2 v3 h
    rw [f_X12_isClean_4] at h
    refine g_iload_n (pc := 4) dX12_isClean_4 rfl ?_
    refine g_aload_n (pc := 5) dX12_isClean_5 rfl ?_
    refine g_gI (pc := 6) dX12_isClean_6 fI_RX12_223 xc_135 (v := (rd u 135 37)) rfl ?_
    refine g_icmp_ge (tgt := 51) (pc := 9) dX12_isClean_9 (by decide) (fun c1 => ?_) (fun c1 => ?_)
    · replace h := (if_pos c1).symm.trans h
      refine g_iload_n (pc := 51) dX12_isClean_51 rfl ?_
      obtain ⟨g2, h⟩ := x_gd h
      cases h
      exact g_zret (pc := 52) dX12_isClean_52 rfl (xb_of g2) rfl rfl (Nat.le_refl _) (Nat.le_refl _)
    · replace h := (if_neg c1).symm.trans h
      refine g_iload_n (pc := 12) dX12_isClean_12 rfl ?_
      refine g_if_eq (tgt := 43) (pc := 13) dX12_isClean_13 (by decide) (fun c3 => ?_) (fun c3 => ?_)
      · replace h := (if_pos c3).symm.trans h
        refine g_L (L' := [some (.ref 135), some (.int v1), none, some (.int v3)]) ⟨rfl, ⟨rfl, ⟨rfl, trivial⟩⟩⟩ ?_
        exact G_X12_isClean_43 hd ih v1 v3 h
      · replace h := (if_neg c3).symm.trans h
        refine g_aload_n (pc := 16) dX12_isClean_16 rfl ?_
        refine g_gR (pc := 17) dX12_isClean_17 fR_RX12_93 xc_135 (v := 162) rfl ?_
        refine g_iload_n (pc := 20) dX12_isClean_20 rfl ?_
        obtain ⟨g4, h⟩ := x_gd h
        refine g_iaload (pc := 21) dX12_isClean_21 xc_162 (xin_of g4) (v := (rd u 162 v3.toNatClampNeg)) rfl ?_
        refine g_if_ne (tgt := 39) (pc := 22) dX12_isClean_22 (by decide) (fun c5 => ?_) (fun c5 => ?_)
        · replace h := (if_neg c5).symm.trans h
          refine g_L (L' := [some (.ref 135), some (.int v1), none, some (.int v3)]) ⟨rfl, ⟨rfl, ⟨rfl, trivial⟩⟩⟩ ?_
          exact G_X12_isClean_39 hd ih v1 v3 h
        · replace h := (if_pos c5).symm.trans h
          refine g_aload_n (pc := 25) dX12_isClean_25 rfl ?_
          refine g_gR (pc := 26) dX12_isClean_26 fR_RX12_90 xc_135 (v := 161) rfl ?_
          refine g_bipush (pc := 29) dX12_isClean_29 bp_24 ?_
          refine g_iload_n (pc := 31) dX12_isClean_31 rfl ?_
          refine g_imul (pc := 32) dX12_isClean_32 rfl ?_
          refine g_iload_n (pc := 33) dX12_isClean_33 rfl ?_
          refine g_iadd (pc := 34) dX12_isClean_34 rfl ?_
          obtain ⟨g6, h⟩ := x_gd h
          refine g_iaload (pc := 35) dX12_isClean_35 xc_161 (xin_of g6) (v := (rd u 161 (((24 : Int32) * v3) + v1).toNatClampNeg)) rfl ?_
          refine g_if_ne (tgt := 43) (pc := 36) dX12_isClean_36 (by decide) (fun c7 => ?_) (fun c7 => ?_)
          · replace h := (if_neg c7).symm.trans h
            refine g_L (L' := [some (.ref 135), some (.int v1), none, some (.int v3)]) ⟨rfl, ⟨rfl, ⟨rfl, trivial⟩⟩⟩ ?_
            exact G_X12_isClean_43 hd ih v1 v3 h
          · replace h := (if_pos c7).symm.trans h
            refine g_L (L' := [some (.ref 135), some (.int v1), none, some (.int v3)]) ⟨rfl, ⟨rfl, ⟨rfl, trivial⟩⟩⟩ ?_
            exact G_X12_isClean_39 hd ih v1 v3 h
set_option maxRecDepth 100000 in
set_option maxHeartbeats 4000000 in
theorem G_X12_isClean_0 {sc : Nat × (Nat → Int32)} {d : Nat} (hd : 0 ≤ d) {r : Int32} {u : xS} (v1 : Int32) (h : f_X12_isClean u v1 = some r) : xG sc mX12_isClean d 0 0 (xR (some (.int r)) (xL0, u) 0 0) 0 0 0 [some (.ref 135), some (.int v1), none, none] [] (xL0, u) := by
  rw [f_X12_isClean] at h
  refine g_iconst (pc := 0) dX12_isClean_0 ic_1 ?_
  refine g_istore_n (pc := 1) dX12_isClean_1 (Nat.le_of_ble_eq_true rfl) (L' := [some (.ref 135), some (.int v1), some (.int (1 : Int32)), none]) rfl ?_
  refine g_iconst (pc := 2) dX12_isClean_2 ic_0 ?_
  refine g_istore_n (pc := 3) dX12_isClean_3 (Nat.le_of_ble_eq_true rfl) (L' := [some (.ref 135), some (.int v1), some (.int (1 : Int32)), some (.int (0 : Int32))]) rfl ?_
  exact G_X12_isClean_4 hd xN v1 (1 : Int32) (0 : Int32) h
set_option maxRecDepth 100000 in
set_option maxHeartbeats 4000000 in
theorem M_X12_isClean {sc : Nat × (Nat → Int32)} {d : Nat} (hd : 0 ≤ d) {r : Int32} {u : xS} {a1 : Int32} (h : f_X12_isClean u a1 = some r) : xMt sc mX12_isClean d 0 0 [.ref 135, .int a1] (xL0, u) (some (.int r)) (xL0, u) :=
  xMt.of (by decide +kernel) (Nat.le_of_ble_eq_true rfl) (L := [some (.ref 135), some (.int a1), none, none]) rfl ((G_X12_isClean_0 hd a1 h))
set_option maxRecDepth 100000 in
set_option maxHeartbeats 4000000 in
theorem G_X12_stored_4 {sc : Nat × (Nat → Int32)} {d : Nat} (hd : 0 ≤ d) {r : Int32} {u : xS} : ∀ (n : Nat) (v1 : Int32) (v2 : Int32) (v3 : Int32), f_X12_stored_4 u n v1 v2 v3 = some r → xG sc mX12_stored d 0 0 (xR (some (.int r)) (xL0, u) 0 0) 0 0 4 [some (.ref 135), some (.int v1), some (.int v2), some (.int v3)] [] (xL0, u) := by
  intro n
  induction n with
  | zero =>
    intro v1 v2 v3 h
    rw [f_X12_stored_4] at h
    cases h
  | succ n ih =>
    intro v1 v2 v3 h
    rw [f_X12_stored_4] at h
    refine g_iload_n (pc := 4) dX12_stored_4 rfl ?_
    refine g_aload_n (pc := 5) dX12_stored_5 rfl ?_
    refine g_gI (pc := 6) dX12_stored_6 fI_RX12_194 xc_135 (v := (rd u 135 7)) rfl ?_
    refine g_icmp_ge (tgt := 32) (pc := 9) dX12_stored_9 (by decide) (fun c1 => ?_) (fun c1 => ?_)
    · replace h := (if_pos c1).symm.trans h
      refine g_iload_n (pc := 32) dX12_stored_32 rfl ?_
      cases h
      exact g_iret (pc := 33) dX12_stored_33 rfl rfl rfl (Nat.le_refl _) (Nat.le_refl _)
    · replace h := (if_neg c1).symm.trans h
      refine g_iload_n (pc := 12) dX12_stored_12 rfl ?_
      refine g_aload_n (pc := 13) dX12_stored_13 rfl ?_
      refine g_gR (pc := 14) dX12_stored_14 fR_RX12_43 xc_135 (v := 147) rfl ?_
      refine g_bipush (pc := 17) dX12_stored_17 bp_24 ?_
      refine g_iload_n (pc := 19) dX12_stored_19 rfl ?_
      refine g_imul (pc := 20) dX12_stored_20 rfl ?_
      refine g_iload_n (pc := 21) dX12_stored_21 rfl ?_
      refine g_iadd (pc := 22) dX12_stored_22 rfl ?_
      obtain ⟨g2, h⟩ := x_gd h
      refine g_iaload (pc := 23) dX12_stored_23 xc_147 (xin_of g2) (v := (rd u 147 (((24 : Int32) * v1) + v3).toNatClampNeg)) rfl ?_
      refine g_iadd (pc := 24) dX12_stored_24 rfl ?_
      refine g_istore_n (pc := 25) dX12_stored_25 (Nat.le_of_ble_eq_true rfl) (L' := [some (.ref 135), some (.int v1), some (.int (v2 + (rd u 147 (((24 : Int32) * v1) + v3).toNatClampNeg))), some (.int v3)]) rfl ?_
      refine g_inc (pc := 26) dX12_stored_26 (Nat.le_of_ble_eq_true rfl) rfl ic_1 (L' := [some (.ref 135), some (.int v1), some (.int (v2 + (rd u 147 (((24 : Int32) * v1) + v3).toNatClampNeg))), some (.int (v3 + (1 : Int32)))]) rfl ?_
      refine g_goto (tgt := 4) (pc := 29) dX12_stored_29 (by decide) ?_
      exact ih v1 (v2 + (rd u 147 (((24 : Int32) * v1) + v3).toNatClampNeg)) (v3 + (1 : Int32)) h
set_option maxRecDepth 100000 in
set_option maxHeartbeats 4000000 in
theorem G_X12_stored_0 {sc : Nat × (Nat → Int32)} {d : Nat} (hd : 0 ≤ d) {r : Int32} {u : xS} (v1 : Int32) (h : f_X12_stored u v1 = some r) : xG sc mX12_stored d 0 0 (xR (some (.int r)) (xL0, u) 0 0) 0 0 0 [some (.ref 135), some (.int v1), none, none] [] (xL0, u) := by
  rw [f_X12_stored] at h
  refine g_iconst (pc := 0) dX12_stored_0 ic_0 ?_
  refine g_istore_n (pc := 1) dX12_stored_1 (Nat.le_of_ble_eq_true rfl) (L' := [some (.ref 135), some (.int v1), some (.int (0 : Int32)), none]) rfl ?_
  refine g_iconst (pc := 2) dX12_stored_2 ic_0 ?_
  refine g_istore_n (pc := 3) dX12_stored_3 (Nat.le_of_ble_eq_true rfl) (L' := [some (.ref 135), some (.int v1), some (.int (0 : Int32)), some (.int (0 : Int32))]) rfl ?_
  exact G_X12_stored_4 hd xN v1 (0 : Int32) (0 : Int32) h
set_option maxRecDepth 100000 in
set_option maxHeartbeats 4000000 in
theorem M_X12_stored {sc : Nat × (Nat → Int32)} {d : Nat} (hd : 0 ≤ d) {r : Int32} {u : xS} {a1 : Int32} (h : f_X12_stored u a1 = some r) : xMt sc mX12_stored d 0 0 [.ref 135, .int a1] (xL0, u) (some (.int r)) (xL0, u) :=
  xMt.of (by decide +kernel) (Nat.le_of_ble_eq_true rfl) (L := [some (.ref 135), some (.int a1), none, none]) rfl ((G_X12_stored_0 hd a1 h))
set_option maxRecDepth 100000 in
set_option maxHeartbeats 4000000 in
theorem G_X12_isEnough_40 {sc : Nat × (Nat → Int32)} {d : Nat} (hd : 1 ≤ d) {r : Int32} {u : xS} {k4 : Int32 → Int32 → Int32 → Option Int32} (hk4 : ∀ (v1 : Int32) (v2 : Int32) (v3 : Int32), k4 v1 v2 v3 = some r → xG sc mX12_isEnough d 0 0 (xR (some (.int r)) (xL0, u) 0 0) 0 0 4 [some (.ref 135), some (.int v1), some (.int v2), some (.int v3)] [] (xL0, u)) (v1 : Int32) (v3 : Int32) (s0 : Int32) (h : f_X12_isEnough_40 k4 u v1 v3 s0 = some r) : xG sc mX12_isEnough d 0 0 (xR (some (.int r)) (xL0, u) 0 0) 0 0 40 [some (.ref 135), some (.int v1), none, some (.int v3)] [.int s0] (xL0, u) := by
  rw [f_X12_isEnough_40] at h
  refine g_istore_n (pc := 40) dX12_isEnough_40 (Nat.le_of_ble_eq_true rfl) (L' := [some (.ref 135), some (.int v1), some (.int s0), some (.int v3)]) rfl ?_
  refine g_inc (pc := 41) dX12_isEnough_41 (Nat.le_of_ble_eq_true rfl) rfl ic_1 (L' := [some (.ref 135), some (.int v1), some (.int s0), some (.int (v3 + (1 : Int32)))]) rfl ?_
  refine g_goto (tgt := 4) (pc := 44) dX12_isEnough_44 (by decide) ?_
  exact hk4 v1 s0 (v3 + (1 : Int32)) h
set_option maxRecDepth 100000 in
set_option maxHeartbeats 4000000 in
theorem G_X12_isEnough_39 {sc : Nat × (Nat → Int32)} {d : Nat} (hd : 1 ≤ d) {r : Int32} {u : xS} {k4 : Int32 → Int32 → Int32 → Option Int32} (hk4 : ∀ (v1 : Int32) (v2 : Int32) (v3 : Int32), k4 v1 v2 v3 = some r → xG sc mX12_isEnough d 0 0 (xR (some (.int r)) (xL0, u) 0 0) 0 0 4 [some (.ref 135), some (.int v1), some (.int v2), some (.int v3)] [] (xL0, u)) (v1 : Int32) (v3 : Int32) (h : f_X12_isEnough_39 k4 u v1 v3 = some r) : xG sc mX12_isEnough d 0 0 (xR (some (.int r)) (xL0, u) 0 0) 0 0 39 [some (.ref 135), some (.int v1), none, some (.int v3)] [] (xL0, u) := by
  rw [f_X12_isEnough_39] at h
  refine g_iconst (pc := 39) dX12_isEnough_39 ic_0 ?_
  exact G_X12_isEnough_40 hd hk4 v1 v3 (0 : Int32) h
set_option maxRecDepth 100000 in
set_option maxHeartbeats 4000000 in
theorem G_X12_isEnough_4 {sc : Nat × (Nat → Int32)} {d : Nat} (hd : 1 ≤ d) {r : Int32} {u : xS} : ∀ (n : Nat) (v1 : Int32) (v2 : Int32) (v3 : Int32), f_X12_isEnough_4 u n v1 v2 v3 = some r → xG sc mX12_isEnough d 0 0 (xR (some (.int r)) (xL0, u) 0 0) 0 0 4 [some (.ref 135), some (.int v1), some (.int v2), some (.int v3)] [] (xL0, u) := by
  intro n
  induction n with
  | zero =>
    intro v1 v2 v3 h
    rw [f_X12_isEnough_4] at h
    cases h
  | succ n ih =>
    intro v1 v2 v3 h
    rw [f_X12_isEnough_4] at h
    refine g_iload_n (pc := 4) dX12_isEnough_4 rfl ?_
    refine g_aload_n (pc := 5) dX12_isEnough_5 rfl ?_
    refine g_gI (pc := 6) dX12_isEnough_6 fI_RX12_153 xc_135 (v := (rd u 135 1)) rfl ?_
    refine g_icmp_ge (tgt := 47) (pc := 9) dX12_isEnough_9 (by decide) (fun c1 => ?_) (fun c1 => ?_)
    · replace h := (if_pos c1).symm.trans h
      refine g_iload_n (pc := 47) dX12_isEnough_47 rfl ?_
      obtain ⟨g2, h⟩ := x_gd h
      cases h
      exact g_zret (pc := 48) dX12_isEnough_48 rfl (xb_of g2) rfl rfl (Nat.le_refl _) (Nat.le_refl _)
    · replace h := (if_neg c1).symm.trans h
      refine g_iload_n (pc := 12) dX12_isEnough_12 rfl ?_
      refine g_if_eq (tgt := 39) (pc := 13) dX12_isEnough_13 (by decide) (fun c3 => ?_) (fun c3 => ?_)
      · replace h := (if_pos c3).symm.trans h
        refine g_L (L' := [some (.ref 135), some (.int v1), none, some (.int v3)]) ⟨rfl, ⟨rfl, ⟨rfl, trivial⟩⟩⟩ ?_
        exact G_X12_isEnough_39 hd ih v1 v3 h
      · replace h := (if_neg c3).symm.trans h
        refine g_aload_n (pc := 16) dX12_isEnough_16 rfl ?_
        refine g_iload_n (pc := 17) dX12_isEnough_17 rfl ?_
        obtain ⟨x5, e4, h⟩ := x_bind h
        refine g_cV (pc := 18) dX12_isEnough_18 cV_RX12_340 (M_X12_stored (Nat.le_refl _) e4) xc_135 (as := [.int v3]) (st := []) rfl rfl (Nat.le_of_ble_eq_true rfl) (Nat.le_trans (Nat.le_of_ble_eq_true rfl) hd) rfl ?_
        refine g_aload_n (pc := 21) dX12_isEnough_21 rfl ?_
        refine g_gR (pc := 22) dX12_isEnough_22 fR_RX12_87 xc_135 (v := 160) rfl ?_
        refine g_iload_n (pc := 25) dX12_isEnough_25 rfl ?_
        obtain ⟨g6, h⟩ := x_gd h
        refine g_iaload (pc := 26) dX12_isEnough_26 xc_160 (xin_of g6) (v := (rd u 160 v3.toNatClampNeg)) rfl ?_
        refine g_iload_n (pc := 27) dX12_isEnough_27 rfl ?_
        refine g_bipush (pc := 28) dX12_isEnough_28 bp_12 ?_
        refine g_idiv (pc := 30) dX12_isEnough_30 (by decide) rfl ?_
        refine g_imul (pc := 31) dX12_isEnough_31 rfl ?_
        refine g_icmp_lt (tgt := 39) (pc := 32) dX12_isEnough_32 (by decide) (fun c7 => ?_) (fun c7 => ?_)
        · replace h := (if_pos c7).symm.trans h
          refine g_L (L' := [some (.ref 135), some (.int v1), none, some (.int v3)]) ⟨rfl, ⟨rfl, ⟨rfl, trivial⟩⟩⟩ ?_
          exact G_X12_isEnough_39 hd ih v1 v3 h
        · replace h := (if_neg c7).symm.trans h
          refine g_iconst (pc := 35) dX12_isEnough_35 ic_1 ?_
          refine g_goto (tgt := 40) (pc := 36) dX12_isEnough_36 (by decide) ?_
          refine g_L (L' := [some (.ref 135), some (.int v1), none, some (.int v3)]) ⟨rfl, ⟨rfl, ⟨rfl, trivial⟩⟩⟩ ?_
          exact G_X12_isEnough_40 hd ih v1 v3 (1 : Int32) h
set_option maxRecDepth 100000 in
set_option maxHeartbeats 4000000 in
theorem G_X12_isEnough_0 {sc : Nat × (Nat → Int32)} {d : Nat} (hd : 1 ≤ d) {r : Int32} {u : xS} (v1 : Int32) (h : f_X12_isEnough u v1 = some r) : xG sc mX12_isEnough d 0 0 (xR (some (.int r)) (xL0, u) 0 0) 0 0 0 [some (.ref 135), some (.int v1), none, none] [] (xL0, u) := by
  rw [f_X12_isEnough] at h
  refine g_iconst (pc := 0) dX12_isEnough_0 ic_1 ?_
  refine g_istore_n (pc := 1) dX12_isEnough_1 (Nat.le_of_ble_eq_true rfl) (L' := [some (.ref 135), some (.int v1), some (.int (1 : Int32)), none]) rfl ?_
  refine g_iconst (pc := 2) dX12_isEnough_2 ic_0 ?_
  refine g_istore_n (pc := 3) dX12_isEnough_3 (Nat.le_of_ble_eq_true rfl) (L' := [some (.ref 135), some (.int v1), some (.int (1 : Int32)), some (.int (0 : Int32))]) rfl ?_
  exact G_X12_isEnough_4 hd xN v1 (1 : Int32) (0 : Int32) h
set_option maxRecDepth 100000 in
set_option maxHeartbeats 4000000 in
theorem M_X12_isEnough {sc : Nat × (Nat → Int32)} {d : Nat} (hd : 1 ≤ d) {r : Int32} {u : xS} {a1 : Int32} (h : f_X12_isEnough u a1 = some r) : xMt sc mX12_isEnough d 0 0 [.ref 135, .int a1] (xL0, u) (some (.int r)) (xL0, u) :=
  xMt.of (by decide +kernel) (Nat.le_of_ble_eq_true rfl) (L := [some (.ref 135), some (.int a1), none, none]) rfl ((G_X12_isEnough_0 hd a1 h))
theorem zb_X12_isRecipe (u : xS) (v1 : Int32) : f_X12_isRecipe u v1 = 0 ∨ f_X12_isRecipe u v1 = 1 := by
  unfold f_X12_isRecipe
  (repeat' split) <;> first | exact Or.inl rfl | exact Or.inr rfl | exact zb_X12_in _ _ _
set_option maxRecDepth 100000 in
set_option maxHeartbeats 4000000 in
theorem G_X12_isRecipe_0 {sc : Nat × (Nat → Int32)} {d : Nat} (hd : 1 ≤ d) {r : Int32} {u : xS} (v1 : Int32) (h : f_X12_isRecipe u v1 = r) : xG sc mX12_isRecipe d 0 0 (xR (some (.int r)) (xL0, u) 0 0) 0 0 0 [some (.ref 135), some (.int v1)] [] (xL0, u) := by
  rw [f_X12_isRecipe] at h
  refine g_iload_n (pc := 0) dX12_isRecipe_0 rfl ?_
  refine g_i2l (pc := 1) dX12_isRecipe_1 rfl ?_
  refine g_lconst (v := (0 : Int64)) (pc := 2) dX12_isRecipe_2 rfl ?_
  refine g_aload_n (pc := 3) dX12_isRecipe_3 rfl ?_
  refine g_gI (pc := 4) dX12_isRecipe_4 fI_RX12_320 xc_135 (v := (rd u 135 28)) rfl ?_
  refine g_iconst (pc := 7) dX12_isRecipe_7 ic_1 ?_
  refine g_isub (pc := 8) dX12_isRecipe_8 rfl ?_
  refine g_i2l (pc := 9) dX12_isRecipe_9 rfl ?_
  refine g_cS (pc := 10) dX12_isRecipe_10 cS_RX12_156 (M_X12_in (Nat.le_refl _) rfl) (as := [.long ((v1).toInt64), .long (0 : Int64), .long (((rd u 135 28) - (1 : Int32)).toInt64)]) (st := []) rfl rfl (Nat.le_of_ble_eq_true rfl) (Nat.le_trans (Nat.le_of_ble_eq_true rfl) hd) rfl ?_
  subst h
  exact g_zret (pc := 13) dX12_isRecipe_13 rfl (zb_X12_in _ _ _) rfl rfl (Nat.le_refl _) (Nat.le_refl _)
set_option maxRecDepth 100000 in
set_option maxHeartbeats 4000000 in
theorem M_X12_isRecipe {sc : Nat × (Nat → Int32)} {d : Nat} (hd : 1 ≤ d) {r : Int32} {u : xS} {a1 : Int32} (h : f_X12_isRecipe u a1 = r) : xMt sc mX12_isRecipe d 0 0 [.ref 135, .int a1] (xL0, u) (some (.int r)) (xL0, u) :=
  xMt.of (by decide +kernel) (Nat.le_of_ble_eq_true rfl) (L := [some (.ref 135), some (.int a1)]) rfl ((G_X12_isRecipe_0 hd a1 h))
set_option maxRecDepth 100000 in
set_option maxHeartbeats 4000000 in
theorem G_X12_judged_163 {sc : Nat × (Nat → Int32)} {d : Nat} (hd : 5 ≤ d) {r : Int32} {u' : xS} : ∀ (n : Nat) (v4 : Int32) (v5 : Int32) (v6 : Int32) (u : xS), f_X12_judged_163 n v4 v5 v6 u = some (r, u') → xG sc mX12_judged d 0 0 (xR (some (.int r)) (xL0, u') 0 0) 0 0 163 [some (.ref 135), none, none, none, some (.int v4), some (.int v5), some (.int v6)] [] (xL0, u) := by
  intro n
  induction n with
  | zero =>
    intro v4 v5 v6 u h
    rw [f_X12_judged_163] at h
    cases h
  | succ n ih =>
    intro v4 v5 v6 u h
    rw [f_X12_judged_163] at h
    refine g_iload (pc := 163) dX12_judged_163 rfl ?_
    refine g_iload (pc := 165) dX12_judged_165 rfl ?_
    refine g_icmp_ge (tgt := 198) (pc := 167) dX12_judged_167 (by decide) (fun c1 => ?_) (fun c1 => ?_)
    · replace h := (if_pos c1).symm.trans h
      refine g_iconst (pc := 198) dX12_judged_198 ic_m1 ?_
      cases h
      exact g_iret (pc := 199) dX12_judged_199 rfl rfl rfl (Nat.le_refl _) (Nat.le_refl _)
    · replace h := (if_neg c1).symm.trans h
      refine g_aload_n (pc := 170) dX12_judged_170 rfl ?_
      refine g_iload (pc := 171) dX12_judged_171 rfl ?_
      refine g_iload (pc := 173) dX12_judged_173 rfl ?_
      obtain ⟨⟨x3, u4⟩, e2, h⟩ := x_bind h
      dsimp only at h
      refine g_cV (pc := 175) dX12_judged_175 cV_RX12_334 (M_X12_worked (Nat.le_refl _) e2) xc_135 (as := [.int v4, .int v5]) (st := []) rfl rfl (Nat.le_of_ble_eq_true rfl) (Nat.le_trans (Nat.le_of_ble_eq_true rfl) hd) rfl ?_
      refine g_if_ne (tgt := 184) (pc := 178) dX12_judged_178 (by decide) (fun c5 => ?_) (fun c5 => ?_)
      · replace h := (if_neg c5).symm.trans h
        refine g_aload_n (pc := 184) dX12_judged_184 rfl ?_
        refine g_gI (pc := 185) dX12_judged_185 fI_RX12_331 xc_135 (v := (rd u4 135 35)) rfl ?_
        refine g_iconst (pc := 188) dX12_judged_188 ic_1 ?_
        refine g_iadd (pc := 189) dX12_judged_189 rfl ?_
        refine g_istore (pc := 190) dX12_judged_190 (Nat.le_of_ble_eq_true rfl) (L' := [some (.ref 135), none, none, none, some (.int ((rd u4 135 35) + (1 : Int32))), some (.int v5), some (.int v6)]) rfl ?_
        refine g_inc (pc := 192) dX12_judged_192 (Nat.le_of_ble_eq_true rfl) rfl ic_1 (L' := [some (.ref 135), none, none, none, some (.int ((rd u4 135 35) + (1 : Int32))), some (.int v5), some (.int (v6 + (1 : Int32)))]) rfl ?_
        refine g_goto (tgt := 163) (pc := 195) dX12_judged_195 (by decide) ?_
        exact ih ((rd u4 135 35) + (1 : Int32)) v5 (v6 + (1 : Int32)) u4 h
      · replace h := (if_pos c5).symm.trans h
        refine g_iload (pc := 181) dX12_judged_181 rfl ?_
        cases h
        exact g_iret (pc := 183) dX12_judged_183 rfl rfl rfl (Nat.le_refl _) (Nat.le_refl _)
set_option maxRecDepth 100000 in
set_option maxHeartbeats 4000000 in
theorem G_X12_judged_32 {sc : Nat × (Nat → Int32)} {d : Nat} (hd : 5 ≤ d) {r : Int32} {u' : xS} {k7 : Int32 → Int32 → Int32 → Int32 → xS → Option (Int32 × xS)} (hk7 : ∀ (v1 : Int32) (v2 : Int32) (v3 : Int32) (v4 : Int32) (u : xS), k7 v1 v2 v3 v4 u = some (r, u') → xG sc mX12_judged d 0 0 (xR (some (.int r)) (xL0, u') 0 0) 0 0 7 [some (.ref 135), some (.int v1), some (.int v2), some (.int v3), some (.int v4), none, none] [] (xL0, u)) (v1 : Int32) (v3 : Int32) (v4 : Int32) (s0 : Int32) (s1 : Int32) (u : xS) (h : f_X12_judged_32 k7 v1 v3 v4 s0 s1 u = some (r, u')) : xG sc mX12_judged d 0 0 (xR (some (.int r)) (xL0, u') 0 0) 0 0 32 [some (.ref 135), some (.int v1), none, some (.int v3), some (.int v4), none, none] [.int s1, .int s0] (xL0, u) := by
  rw [f_X12_judged_32] at h
  refine g_cS (pc := 32) dX12_judged_32 cS_RX12_190 (M_X12_truth (Nat.le_refl _) rfl) (as := [.int s1]) (st := [.int s0]) rfl rfl (Nat.le_of_ble_eq_true rfl) (Nat.le_trans (Nat.le_of_ble_eq_true rfl) hd) rfl ?_
  refine g_iadd (pc := 35) dX12_judged_35 rfl ?_
  refine g_istore_n (pc := 36) dX12_judged_36 (Nat.le_of_ble_eq_true rfl) (L' := [some (.ref 135), some (.int v1), some (.int (s0 + (f_X12_truth s1))), some (.int v3), some (.int v4), none, none]) rfl ?_
  refine g_iload_n (pc := 37) dX12_judged_37 rfl ?_
  refine g_aload_n (pc := 38) dX12_judged_38 rfl ?_
  refine g_gR (pc := 39) dX12_judged_39 fR_RX12_87 xc_135 (v := 160) rfl ?_
  refine g_iload (pc := 42) dX12_judged_42 rfl ?_
  obtain ⟨g1, h⟩ := x_gd h
  refine g_iaload (pc := 44) dX12_judged_44 xc_160 (xin_of g1) (v := (rd u 160 v4.toNatClampNeg)) rfl ?_
  refine g_max (pc := 45) dX12_judged_45 mK_RX12_238 (Nat.le_of_ble_eq_true rfl) (Nat.le_trans (Nat.le_of_ble_eq_true rfl) hd) (Nat.le_refl _) (Nat.le_refl _) ?_
  refine g_istore_n (pc := 48) dX12_judged_48 (Nat.le_of_ble_eq_true rfl) (L' := [some (.ref 135), some (.int v1), some (.int (s0 + (f_X12_truth s1))), some (.int (imax v3 (rd u 160 v4.toNatClampNeg))), some (.int v4), none, none]) rfl ?_
  refine g_inc (pc := 49) dX12_judged_49 (Nat.le_of_ble_eq_true rfl) rfl ic_1 (L' := [some (.ref 135), some (.int v1), some (.int (s0 + (f_X12_truth s1))), some (.int (imax v3 (rd u 160 v4.toNatClampNeg))), some (.int (v4 + (1 : Int32))), none, none]) rfl ?_
  refine g_goto (tgt := 7) (pc := 52) dX12_judged_52 (by decide) ?_
  exact hk7 v1 (s0 + (f_X12_truth s1)) (imax v3 (rd u 160 v4.toNatClampNeg)) (v4 + (1 : Int32)) u h
set_option maxRecDepth 100000 in
set_option maxHeartbeats 4000000 in
theorem G_X12_judged_7 {sc : Nat × (Nat → Int32)} {d : Nat} (hd : 5 ≤ d) {r : Int32} {u' : xS} : ∀ (n : Nat) (v1 : Int32) (v2 : Int32) (v3 : Int32) (v4 : Int32) (u : xS), f_X12_judged_7 n v1 v2 v3 v4 u = some (r, u') → xG sc mX12_judged d 0 0 (xR (some (.int r)) (xL0, u') 0 0) 0 0 7 [some (.ref 135), some (.int v1), some (.int v2), some (.int v3), some (.int v4), none, none] [] (xL0, u) := by
  intro n
  induction n with
  | zero =>
    intro v1 v2 v3 v4 u h
    rw [f_X12_judged_7] at h
    cases h
  | succ n ih =>
    intro v1 v2 v3 v4 u h
    rw [f_X12_judged_7] at h
    refine g_iload (pc := 7) dX12_judged_7 rfl ?_
    refine g_aload_n (pc := 9) dX12_judged_9 rfl ?_
    refine g_gI (pc := 10) dX12_judged_10 fI_RX12_153 xc_135 (v := (rd u 135 1)) rfl ?_
    refine g_icmp_ge (tgt := 55) (pc := 13) dX12_judged_13 (by decide) (fun c1 => ?_) (fun c1 => ?_)
    · replace h := (if_pos c1).symm.trans h
      refine g_aload_n (pc := 55) dX12_judged_55 rfl ?_
      obtain ⟨u3, e2, h⟩ := x_bind h
      refine g_cV (pc := 56) dX12_judged_56 cV_RX12_235 (M_X12_hush (Nat.le_refl _) e2) xc_135 (as := []) (st := []) rfl rfl (Nat.le_of_ble_eq_true rfl) (Nat.le_trans (Nat.le_of_ble_eq_true rfl) hd) rfl ?_
      refine g_aload_n (pc := 59) dX12_judged_59 rfl ?_
      refine g_bipush (pc := 60) dX12_judged_60 bp_114 ?_
      refine g_aload_n (pc := 62) dX12_judged_62 rfl ?_
      refine g_iconst (pc := 63) dX12_judged_63 ic_0 ?_
      obtain ⟨x5, e4, h⟩ := x_bind h
      refine g_cV (pc := 64) dX12_judged_64 cV_RX12_359 (M_X12_blended (Nat.le_refl _) e4) xc_135 (as := [.int (0 : Int32)]) (st := [.int (114 : Int32), .ref 135]) rfl rfl (Nat.le_of_ble_eq_true rfl) (Nat.le_trans (Nat.le_of_ble_eq_true rfl) hd) rfl ?_
      obtain ⟨u7, e6, h⟩ := x_bind h
      refine g_cV (pc := 67) dX12_judged_67 cV_RX12_243 (M_X12_says (Nat.le_refl _) e6) xc_135 (as := [.int (114 : Int32), .int x5]) (st := []) rfl rfl (Nat.le_of_ble_eq_true rfl) (Nat.le_trans (Nat.le_of_ble_eq_true rfl) hd) rfl ?_
      refine g_aload_n (pc := 70) dX12_judged_70 rfl ?_
      refine g_bipush (pc := 71) dX12_judged_71 bp_103 ?_
      refine g_aload_n (pc := 73) dX12_judged_73 rfl ?_
      refine g_iconst (pc := 74) dX12_judged_74 ic_1 ?_
      obtain ⟨x9, e8, h⟩ := x_bind h
      refine g_cV (pc := 75) dX12_judged_75 cV_RX12_359 (M_X12_blended (Nat.le_refl _) e8) xc_135 (as := [.int (1 : Int32)]) (st := [.int (103 : Int32), .ref 135]) rfl rfl (Nat.le_of_ble_eq_true rfl) (Nat.le_trans (Nat.le_of_ble_eq_true rfl) hd) rfl ?_
      obtain ⟨u11, e10, h⟩ := x_bind h
      refine g_cV (pc := 78) dX12_judged_78 cV_RX12_243 (M_X12_says (Nat.le_refl _) e10) xc_135 (as := [.int (103 : Int32), .int x9]) (st := []) rfl rfl (Nat.le_of_ble_eq_true rfl) (Nat.le_trans (Nat.le_of_ble_eq_true rfl) hd) rfl ?_
      refine g_aload_n (pc := 81) dX12_judged_81 rfl ?_
      refine g_bipush (pc := 82) dX12_judged_82 bp_98 ?_
      refine g_aload_n (pc := 84) dX12_judged_84 rfl ?_
      refine g_iconst (pc := 85) dX12_judged_85 ic_2 ?_
      obtain ⟨x13, e12, h⟩ := x_bind h
      refine g_cV (pc := 86) dX12_judged_86 cV_RX12_359 (M_X12_blended (Nat.le_refl _) e12) xc_135 (as := [.int (2 : Int32)]) (st := [.int (98 : Int32), .ref 135]) rfl rfl (Nat.le_of_ble_eq_true rfl) (Nat.le_trans (Nat.le_of_ble_eq_true rfl) hd) rfl ?_
      obtain ⟨u15, e14, h⟩ := x_bind h
      refine g_cV (pc := 89) dX12_judged_89 cV_RX12_243 (M_X12_says (Nat.le_refl _) e14) xc_135 (as := [.int (98 : Int32), .int x13]) (st := []) rfl rfl (Nat.le_of_ble_eq_true rfl) (Nat.le_trans (Nat.le_of_ble_eq_true rfl) hd) rfl ?_
      refine g_aload_n (pc := 92) dX12_judged_92 rfl ?_
      refine g_bipush (pc := 93) dX12_judged_93 bp_115 ?_
      refine g_aload_n (pc := 95) dX12_judged_95 rfl ?_
      refine g_iconst (pc := 96) dX12_judged_96 ic_3 ?_
      obtain ⟨x17, e16, h⟩ := x_bind h
      refine g_cV (pc := 97) dX12_judged_97 cV_RX12_359 (M_X12_blended (Nat.le_refl _) e16) xc_135 (as := [.int (3 : Int32)]) (st := [.int (115 : Int32), .ref 135]) rfl rfl (Nat.le_of_ble_eq_true rfl) (Nat.le_trans (Nat.le_of_ble_eq_true rfl) hd) rfl ?_
      obtain ⟨u19, e18, h⟩ := x_bind h
      refine g_cV (pc := 100) dX12_judged_100 cV_RX12_243 (M_X12_says (Nat.le_refl _) e18) xc_135 (as := [.int (115 : Int32), .int x17]) (st := []) rfl rfl (Nat.le_of_ble_eq_true rfl) (Nat.le_trans (Nat.le_of_ble_eq_true rfl) hd) rfl ?_
      refine g_aload_n (pc := 103) dX12_judged_103 rfl ?_
      refine g_bipush (pc := 104) dX12_judged_104 bp_119 ?_
      refine g_aload_n (pc := 106) dX12_judged_106 rfl ?_
      refine g_iconst (pc := 107) dX12_judged_107 ic_4 ?_
      obtain ⟨x21, e20, h⟩ := x_bind h
      refine g_cV (pc := 108) dX12_judged_108 cV_RX12_359 (M_X12_blended (Nat.le_refl _) e20) xc_135 (as := [.int (4 : Int32)]) (st := [.int (119 : Int32), .ref 135]) rfl rfl (Nat.le_of_ble_eq_true rfl) (Nat.le_trans (Nat.le_of_ble_eq_true rfl) hd) rfl ?_
      obtain ⟨u23, e22, h⟩ := x_bind h
      refine g_cV (pc := 111) dX12_judged_111 cV_RX12_243 (M_X12_says (Nat.le_refl _) e22) xc_135 (as := [.int (119 : Int32), .int x21]) (st := []) rfl rfl (Nat.le_of_ble_eq_true rfl) (Nat.le_trans (Nat.le_of_ble_eq_true rfl) hd) rfl ?_
      refine g_aload_n (pc := 114) dX12_judged_114 rfl ?_
      refine g_bipush (pc := 115) dX12_judged_115 bp_118 ?_
      refine g_aload_n (pc := 117) dX12_judged_117 rfl ?_
      refine g_iconst (pc := 118) dX12_judged_118 ic_5 ?_
      obtain ⟨x25, e24, h⟩ := x_bind h
      refine g_cV (pc := 119) dX12_judged_119 cV_RX12_359 (M_X12_blended (Nat.le_refl _) e24) xc_135 (as := [.int (5 : Int32)]) (st := [.int (118 : Int32), .ref 135]) rfl rfl (Nat.le_of_ble_eq_true rfl) (Nat.le_trans (Nat.le_of_ble_eq_true rfl) hd) rfl ?_
      obtain ⟨u27, e26, h⟩ := x_bind h
      refine g_cV (pc := 122) dX12_judged_122 cV_RX12_243 (M_X12_says (Nat.le_refl _) e26) xc_135 (as := [.int (118 : Int32), .int x25]) (st := []) rfl rfl (Nat.le_of_ble_eq_true rfl) (Nat.le_trans (Nat.le_of_ble_eq_true rfl) hd) rfl ?_
      refine g_aload_n (pc := 125) dX12_judged_125 rfl ?_
      refine g_bipush (pc := 126) dX12_judged_126 bp_110 ?_
      refine g_iload_n (pc := 128) dX12_judged_128 rfl ?_
      obtain ⟨u29, e28, h⟩ := x_bind h
      refine g_cV (pc := 129) dX12_judged_129 cV_RX12_243 (M_X12_says (Nat.le_refl _) e28) xc_135 (as := [.int (110 : Int32), .int v2]) (st := []) rfl rfl (Nat.le_of_ble_eq_true rfl) (Nat.le_trans (Nat.le_of_ble_eq_true rfl) hd) rfl ?_
      refine g_aload_n (pc := 132) dX12_judged_132 rfl ?_
      refine g_bipush (pc := 133) dX12_judged_133 bp_109 ?_
      refine g_iload_n (pc := 135) dX12_judged_135 rfl ?_
      obtain ⟨u31, e30, h⟩ := x_bind h
      refine g_cV (pc := 136) dX12_judged_136 cV_RX12_243 (M_X12_says (Nat.le_refl _) e30) xc_135 (as := [.int (109 : Int32), .int v3]) (st := []) rfl rfl (Nat.le_of_ble_eq_true rfl) (Nat.le_trans (Nat.le_of_ble_eq_true rfl) hd) rfl ?_
      refine g_bipush (pc := 139) dX12_judged_139 bp_64 ?_
      refine g_iconst (pc := 141) dX12_judged_141 ic_4 ?_
      refine g_iload_n (pc := 142) dX12_judged_142 rfl ?_
      refine g_iadd (pc := 143) dX12_judged_143 rfl ?_
      refine g_imul (pc := 144) dX12_judged_144 rfl ?_
      refine g_istore (pc := 145) dX12_judged_145 (Nat.le_of_ble_eq_true rfl) (L' := [some (.ref 135), some (.int v1), some (.int v2), some (.int v3), some (.int ((64 : Int32) * ((4 : Int32) + v1))), none, none]) rfl ?_
      refine g_iload (pc := 147) dX12_judged_147 rfl ?_
      refine g_aload_n (pc := 149) dX12_judged_149 rfl ?_
      refine g_gR (pc := 150) dX12_judged_150 fR_RX12_75 xc_135 (v := 156) rfl ?_
      refine g_iconst (pc := 153) dX12_judged_153 ic_4 ?_
      refine g_iload_n (pc := 154) dX12_judged_154 rfl ?_
      refine g_iadd (pc := 155) dX12_judged_155 rfl ?_
      obtain ⟨g32, h⟩ := x_gd h
      refine g_iaload (pc := 156) dX12_judged_156 xc_156 (xin_of g32) (v := (rd u31 156 ((4 : Int32) + v1).toNatClampNeg)) rfl ?_
      refine g_iadd (pc := 157) dX12_judged_157 rfl ?_
      refine g_istore (pc := 158) dX12_judged_158 (Nat.le_of_ble_eq_true rfl) (L' := [some (.ref 135), some (.int v1), some (.int v2), some (.int v3), some (.int ((64 : Int32) * ((4 : Int32) + v1))), some (.int (((64 : Int32) * ((4 : Int32) + v1)) + (rd u31 156 ((4 : Int32) + v1).toNatClampNeg))), none]) rfl ?_
      refine g_iconst (pc := 160) dX12_judged_160 ic_0 ?_
      refine g_istore (pc := 161) dX12_judged_161 (Nat.le_of_ble_eq_true rfl) (L' := [some (.ref 135), some (.int v1), some (.int v2), some (.int v3), some (.int ((64 : Int32) * ((4 : Int32) + v1))), some (.int (((64 : Int32) * ((4 : Int32) + v1)) + (rd u31 156 ((4 : Int32) + v1).toNatClampNeg))), some (.int (0 : Int32))]) rfl ?_
      refine g_L (L' := [some (.ref 135), none, none, none, some (.int ((64 : Int32) * ((4 : Int32) + v1))), some (.int (((64 : Int32) * ((4 : Int32) + v1)) + (rd u31 156 ((4 : Int32) + v1).toNatClampNeg))), some (.int (0 : Int32))]) ⟨rfl, ⟨rfl, ⟨rfl, ⟨rfl, trivial⟩⟩⟩⟩ ?_
      exact G_X12_judged_163 hd xN ((64 : Int32) * ((4 : Int32) + v1)) (((64 : Int32) * ((4 : Int32) + v1)) + (rd u31 156 ((4 : Int32) + v1).toNatClampNeg)) (0 : Int32) u31 h
    · replace h := (if_neg c1).symm.trans h
      refine g_iload_n (pc := 16) dX12_judged_16 rfl ?_
      refine g_aload_n (pc := 17) dX12_judged_17 rfl ?_
      refine g_gR (pc := 18) dX12_judged_18 fR_RX12_87 xc_135 (v := 160) rfl ?_
      refine g_iload (pc := 21) dX12_judged_21 rfl ?_
      obtain ⟨g33, h⟩ := x_gd h
      refine g_iaload (pc := 23) dX12_judged_23 xc_160 (xin_of g33) (v := (rd u 160 v4.toNatClampNeg)) rfl ?_
      refine g_if_le (tgt := 31) (pc := 24) dX12_judged_24 (by decide) (fun c34 => ?_) (fun c34 => ?_)
      · replace h := (if_pos c34).symm.trans h
        refine g_iconst (pc := 31) dX12_judged_31 ic_0 ?_
        refine g_L (L' := [some (.ref 135), some (.int v1), none, some (.int v3), some (.int v4), none, none]) ⟨rfl, ⟨rfl, ⟨rfl, ⟨rfl, trivial⟩⟩⟩⟩ ?_
        exact G_X12_judged_32 hd ih v1 v3 v4 v2 (0 : Int32) u h
      · replace h := (if_neg c34).symm.trans h
        refine g_iconst (pc := 27) dX12_judged_27 ic_1 ?_
        refine g_goto (tgt := 32) (pc := 28) dX12_judged_28 (by decide) ?_
        refine g_L (L' := [some (.ref 135), some (.int v1), none, some (.int v3), some (.int v4), none, none]) ⟨rfl, ⟨rfl, ⟨rfl, ⟨rfl, trivial⟩⟩⟩⟩ ?_
        exact G_X12_judged_32 hd ih v1 v3 v4 v2 (1 : Int32) u h
set_option maxRecDepth 100000 in
set_option maxHeartbeats 4000000 in
theorem G_X12_judged_0 {sc : Nat × (Nat → Int32)} {d : Nat} (hd : 5 ≤ d) {r : Int32} {u' : xS} (v1 : Int32) (u : xS) (h : f_X12_judged v1 u = some (r, u')) : xG sc mX12_judged d 0 0 (xR (some (.int r)) (xL0, u') 0 0) 0 0 0 [some (.ref 135), some (.int v1), none, none, none, none, none] [] (xL0, u) := by
  rw [f_X12_judged] at h
  refine g_iconst (pc := 0) dX12_judged_0 ic_0 ?_
  refine g_istore_n (pc := 1) dX12_judged_1 (Nat.le_of_ble_eq_true rfl) (L' := [some (.ref 135), some (.int v1), some (.int (0 : Int32)), none, none, none, none]) rfl ?_
  refine g_iconst (pc := 2) dX12_judged_2 ic_0 ?_
  refine g_istore_n (pc := 3) dX12_judged_3 (Nat.le_of_ble_eq_true rfl) (L' := [some (.ref 135), some (.int v1), some (.int (0 : Int32)), some (.int (0 : Int32)), none, none, none]) rfl ?_
  refine g_iconst (pc := 4) dX12_judged_4 ic_0 ?_
  refine g_istore (pc := 5) dX12_judged_5 (Nat.le_of_ble_eq_true rfl) (L' := [some (.ref 135), some (.int v1), some (.int (0 : Int32)), some (.int (0 : Int32)), some (.int (0 : Int32)), none, none]) rfl ?_
  exact G_X12_judged_7 hd xN v1 (0 : Int32) (0 : Int32) (0 : Int32) u h
set_option maxRecDepth 100000 in
set_option maxHeartbeats 4000000 in
theorem M_X12_judged {sc : Nat × (Nat → Int32)} {d : Nat} (hd : 5 ≤ d) {r : Int32} {u u' : xS} {a1 : Int32} (h : f_X12_judged a1 u = some (r, u')) : xMt sc mX12_judged d 0 0 [.ref 135, .int a1] (xL0, u) (some (.int r)) (xL0, u') :=
  xMt.of (by decide +kernel) (Nat.le_of_ble_eq_true rfl) (L := [some (.ref 135), some (.int a1), none, none, none, none, none]) rfl ((G_X12_judged_0 hd a1 u h))
set_option maxRecDepth 100000 in
set_option maxHeartbeats 4000000 in
theorem G_X12_judge_0 {sc : Nat × (Nat → Int32)} {d : Nat} (hd : 6 ≤ d) {r : Int32} {u' : xS} (v1 : Int32) (u : xS) (h : f_X12_judge v1 u = some (r, u')) : xG sc mX12_judge d 0 0 (xR (some (.int r)) (xL0, u') 0 0) 0 0 0 [some (.ref 135), some (.int v1), none] [] (xL0, u) := by
  rw [f_X12_judge] at h
  refine g_aload_n (pc := 0) dX12_judge_0 rfl ?_
  refine g_iconst (pc := 1) dX12_judge_1 ic_0 ?_
  refine g_pI (pc := 2) dX12_judge_2 pI_RX12_150 xc_135 (u' := (wr u 135 0 (0 : Int32))) rfl ?_
  refine g_aload_n (pc := 5) dX12_judge_5 rfl ?_
  refine g_iload_n (pc := 6) dX12_judge_6 rfl ?_
  refine g_cV (pc := 7) dX12_judge_7 cV_RX12_362 (M_X12_isRecipe (Nat.le_refl _) rfl) xc_135 (as := [.int v1]) (st := []) rfl rfl (Nat.le_of_ble_eq_true rfl) (Nat.le_trans (Nat.le_of_ble_eq_true rfl) hd) rfl ?_
  refine g_if_eq (tgt := 22) (pc := 10) dX12_judge_10 (by decide) (fun c1 => ?_) (fun c1 => ?_)
  · replace h := (if_pos c1).symm.trans h
    refine g_iconst (pc := 22) dX12_judge_22 ic_m1 ?_
    cases h
    exact g_iret (pc := 23) dX12_judge_23 rfl rfl rfl (Nat.le_refl _) (Nat.le_refl _)
  · replace h := (if_neg c1).symm.trans h
    refine g_aload_n (pc := 13) dX12_judge_13 rfl ?_
    obtain ⟨x3, e2, h⟩ := x_bind h
    refine g_cV (pc := 14) dX12_judge_14 cV_RX12_356 (M_X12_partsInAll (Nat.le_refl _) e2) xc_135 (as := []) (st := []) rfl rfl (Nat.le_of_ble_eq_true rfl) (Nat.le_trans (Nat.le_of_ble_eq_true rfl) hd) rfl ?_
    refine g_bipush (pc := 17) dX12_judge_17 bp_12 ?_
    refine g_icmp_eq (tgt := 24) (pc := 19) dX12_judge_19 (by decide) (fun c4 => ?_) (fun c4 => ?_)
    · replace h := (if_pos c4).symm.trans h
      refine g_aload_n (pc := 24) dX12_judge_24 rfl ?_
      refine g_iload_n (pc := 25) dX12_judge_25 rfl ?_
      obtain ⟨⟨x6, u7⟩, e5, h⟩ := x_bind h
      dsimp only at h
      refine g_cV (pc := 26) dX12_judge_26 cV_RX12_365 (M_X12_judged (Nat.le_refl _) e5) xc_135 (as := [.int v1]) (st := []) rfl rfl (Nat.le_of_ble_eq_true rfl) (Nat.le_trans (Nat.le_of_ble_eq_true rfl) hd) rfl ?_
      refine g_istore_n (pc := 29) dX12_judge_29 (Nat.le_of_ble_eq_true rfl) (L' := [some (.ref 135), some (.int v1), some (.int x6)]) rfl ?_
      refine g_iload_n (pc := 30) dX12_judge_30 rfl ?_
      refine g_if_ge (tgt := 39) (pc := 31) dX12_judge_31 (by decide) (fun c8 => ?_) (fun c8 => ?_)
      · replace h := (if_pos c8).symm.trans h
        refine g_iload_n (pc := 39) dX12_judge_39 rfl ?_
        cases h
        exact g_iret (pc := 40) dX12_judge_40 rfl rfl rfl (Nat.le_refl _) (Nat.le_refl _)
      · replace h := (if_neg c8).symm.trans h
        refine g_bipush (pc := 34) dX12_judge_34 bp_m2 ?_
        refine g_goto (tgt := 40) (pc := 36) dX12_judge_36 (by decide) ?_
        cases h
        exact g_iret (pc := 40) dX12_judge_40 rfl rfl rfl (Nat.le_refl _) (Nat.le_refl _)
    · replace h := (if_neg c4).symm.trans h
      refine g_iconst (pc := 22) dX12_judge_22 ic_m1 ?_
      cases h
      exact g_iret (pc := 23) dX12_judge_23 rfl rfl rfl (Nat.le_refl _) (Nat.le_refl _)
set_option maxRecDepth 100000 in
set_option maxHeartbeats 4000000 in
theorem M_X12_judge {sc : Nat × (Nat → Int32)} {d : Nat} (hd : 6 ≤ d) {r : Int32} {u u' : xS} {a1 : Int32} (h : f_X12_judge a1 u = some (r, u')) : xMt sc mX12_judge d 0 0 [.ref 135, .int a1] (xL0, u) (some (.int r)) (xL0, u') :=
  xMt.of (by decide +kernel) (Nat.le_of_ble_eq_true rfl) (L := [some (.ref 135), some (.int a1), none]) rfl ((G_X12_judge_0 hd a1 u h))
