set_option maxRecDepth 100000 in
set_option maxHeartbeats 4000000 in
theorem G_X8_isPart_5 {sc : Nat × (Nat → Int32)} {d : Nat} (hd : 1 ≤ d) {r : Int32} {u : xS} : ∀ (n : Nat) (v2 : Int32) (v3 : Int32) (v4 : Int32), f_X8_isPart_5 u n v2 v3 v4 = some r → xG sc mX8_isPart d 0 0 (xR (some (.int r)) (xL0, u) 0 0) 0 0 5 [some (.ref 1), none, some (.int v2), some (.int v3), some (.int v4)] [] (xL0, u) := by
  intro n
  induction n with
  | zero =>
    intro v2 v3 v4 h
    rw [f_X8_isPart_5] at h
    cases h
  | succ n ih =>
    intro v2 v3 v4 h
    rw [f_X8_isPart_5] at h
    refine g_iload (pc := 5) dX8_isPart_5 rfl ?_
    refine g_bipush (pc := 7) dX8_isPart_7 bp_16 ?_
    refine g_icmp_ge (tgt := 40) (pc := 9) dX8_isPart_9 (by decide) (fun c1 => ?_) (fun c1 => ?_)
    · replace h := (if_pos c1).symm.trans h
      refine g_iconst (pc := 40) dX8_isPart_40 ic_0 ?_
      replace h := Option.some.inj h
      subst h
      exact g_zret (pc := 41) dX8_isPart_41 rfl (Or.inl rfl) rfl rfl (Nat.le_refl _) (Nat.le_refl _)
    · replace h := (if_neg c1).symm.trans h
      refine g_aload_n (pc := 12) dX8_isPart_12 rfl ?_
      refine g_iload_n (pc := 13) dX8_isPart_13 rfl ?_
      refine g_cV (pc := 14) dX8_isPart_14 cV_RX8_36 (M_X8_has (Nat.le_refl _) rfl) xc_1 (as := [.int v3]) (st := []) rfl rfl (Nat.le_of_ble_eq_true rfl) (Nat.le_trans (Nat.le_of_ble_eq_true rfl) hd) rfl ?_
      refine g_if_eq (tgt := 40) (pc := 17) dX8_isPart_17 (by decide) (fun c2 => ?_) (fun c2 => ?_)
      · replace h := (if_pos c2).symm.trans h
        refine g_iconst (pc := 40) dX8_isPart_40 ic_0 ?_
        replace h := Option.some.inj h
        subst h
        exact g_zret (pc := 41) dX8_isPart_41 rfl (Or.inl rfl) rfl rfl (Nat.le_refl _) (Nat.le_refl _)
      · replace h := (if_neg c2).symm.trans h
        refine g_iload_n (pc := 20) dX8_isPart_20 rfl ?_
        refine g_iload_n (pc := 21) dX8_isPart_21 rfl ?_
        refine g_icmp_ne (tgt := 27) (pc := 22) dX8_isPart_22 (by decide) (fun c3 => ?_) (fun c3 => ?_)
        · replace h := (if_neg c3).symm.trans h
          refine g_aload_n (pc := 27) dX8_isPart_27 rfl ?_
          refine g_gR (pc := 28) dX8_isPart_28 fR_RX8_16 xc_1 (v := 9) rfl ?_
          refine g_iload_n (pc := 31) dX8_isPart_31 rfl ?_
          obtain ⟨g4, h⟩ := x_gd h
          refine g_iaload (pc := 32) dX8_isPart_32 xc_9 (xin_of g4) (v := (rd u 9 v3.toNatClampNeg)) rfl ?_
          refine g_istore_n (pc := 33) dX8_isPart_33 (Nat.le_of_ble_eq_true rfl) (L' := [some (.ref 1), none, some (.int v2), some (.int (rd u 9 v3.toNatClampNeg)), some (.int v4)]) rfl ?_
          refine g_inc (pc := 34) dX8_isPart_34 (Nat.le_of_ble_eq_true rfl) rfl ic_1 (L' := [some (.ref 1), none, some (.int v2), some (.int (rd u 9 v3.toNatClampNeg)), some (.int (v4 + (1 : Int32)))]) rfl ?_
          refine g_goto (tgt := 5) (pc := 37) dX8_isPart_37 (by decide) ?_
          exact ih v2 (rd u 9 v3.toNatClampNeg) (v4 + (1 : Int32)) h
        · replace h := (if_pos c3).symm.trans h
          refine g_iconst (pc := 25) dX8_isPart_25 ic_1 ?_
          replace h := Option.some.inj h
          subst h
          exact g_zret (pc := 26) dX8_isPart_26 rfl (Or.inr rfl) rfl rfl (Nat.le_refl _) (Nat.le_refl _)
set_option maxRecDepth 100000 in
set_option maxHeartbeats 4000000 in
theorem G_X8_isPart_0 {sc : Nat × (Nat → Int32)} {d : Nat} (hd : 1 ≤ d) {r : Int32} {u : xS} (v1 : Int32) (v2 : Int32) (h : f_X8_isPart u v1 v2 = some r) : xG sc mX8_isPart d 0 0 (xR (some (.int r)) (xL0, u) 0 0) 0 0 0 [some (.ref 1), some (.int v1), some (.int v2), none, none] [] (xL0, u) := by
  rw [f_X8_isPart] at h
  refine g_iload_n (pc := 0) dX8_isPart_0 rfl ?_
  refine g_istore_n (pc := 1) dX8_isPart_1 (Nat.le_of_ble_eq_true rfl) (L' := [some (.ref 1), some (.int v1), some (.int v2), some (.int v1), none]) rfl ?_
  refine g_iconst (pc := 2) dX8_isPart_2 ic_0 ?_
  refine g_istore (pc := 3) dX8_isPart_3 (Nat.le_of_ble_eq_true rfl) (L' := [some (.ref 1), some (.int v1), some (.int v2), some (.int v1), some (.int (0 : Int32))]) rfl ?_
  refine g_L (L' := [some (.ref 1), none, some (.int v2), some (.int v1), some (.int (0 : Int32))]) ⟨rfl, ⟨rfl, ⟨rfl, ⟨rfl, trivial⟩⟩⟩⟩ ?_
  exact G_X8_isPart_5 hd xN v2 v1 (0 : Int32) h
set_option maxRecDepth 100000 in
set_option maxHeartbeats 4000000 in
theorem M_X8_isPart {sc : Nat × (Nat → Int32)} {d : Nat} (hd : 1 ≤ d) {r : Int32} {u : xS} {a1 : Int32} {a2 : Int32} (h : f_X8_isPart u a1 a2 = some r) : xMt sc mX8_isPart d 0 0 [.ref 1, .int a1, .int a2] (xL0, u) (some (.int r)) (xL0, u) :=
  xMt.of (by decide +kernel) (by decide +kernel) (Nat.le_of_ble_eq_true rfl) (L := [some (.ref 1), some (.int a1), some (.int a2), none, none]) rfl ((G_X8_isPart_0 hd a1 a2 h))
set_option maxRecDepth 100000 in
set_option maxHeartbeats 4000000 in
theorem G_X11_poundsWithin_45 {sc : Nat × (Nat → Int32)} {d : Nat} (hd : 2 ≤ d) {r : Int32} {u : xS} {k5 : Int32 → Int32 → Int32 → Int32 → Option Int32} (hk5 : ∀ (v1 : Int32) (v2 : Int32) (v3 : Int32) (v4 : Int32), k5 v1 v2 v3 v4 = some r → xG sc mX11_poundsWithin d 0 0 (xR (some (.int r)) (xL0, u) 0 0) 0 0 5 [some (.ref 0), some (.int v1), some (.int v2), some (.int v3), some (.int v4)] [] (xL0, u)) (v1 : Int32) (v2 : Int32) (v3 : Int32) (v4 : Int32) (h : f_X11_poundsWithin_45 k5 u v1 v2 v3 v4 = some r) : xG sc mX11_poundsWithin d 0 0 (xR (some (.int r)) (xL0, u) 0 0) 0 0 45 [some (.ref 0), some (.int v1), some (.int v2), some (.int v3), some (.int v4)] [] (xL0, u) := by
  rw [f_X11_poundsWithin_45] at h
  refine g_inc (pc := 45) dX11_poundsWithin_45 (Nat.le_of_ble_eq_true rfl) rfl ic_1 (L' := [some (.ref 0), some (.int v1), some (.int v2), some (.int v3), some (.int (v4 + (1 : Int32)))]) rfl ?_
  refine g_goto (tgt := 5) (pc := 48) dX11_poundsWithin_48 (by decide) ?_
  exact hk5 v1 v2 v3 (v4 + (1 : Int32)) h
set_option maxRecDepth 100000 in
set_option maxHeartbeats 4000000 in
theorem G_X11_poundsWithin_5 {sc : Nat × (Nat → Int32)} {d : Nat} (hd : 2 ≤ d) {r : Int32} {u : xS} : ∀ (n : Nat) (v1 : Int32) (v2 : Int32) (v3 : Int32) (v4 : Int32), f_X11_poundsWithin_5 u n v1 v2 v3 v4 = some r → xG sc mX11_poundsWithin d 0 0 (xR (some (.int r)) (xL0, u) 0 0) 0 0 5 [some (.ref 0), some (.int v1), some (.int v2), some (.int v3), some (.int v4)] [] (xL0, u) := by
  intro n
  induction n with
  | zero =>
    intro v1 v2 v3 v4 h
    rw [f_X11_poundsWithin_5] at h
    cases h
  | succ n ih =>
    intro v1 v2 v3 v4 h
    rw [f_X11_poundsWithin_5] at h
    refine g_iload (pc := 5) dX11_poundsWithin_5 rfl ?_
    refine g_aload_n (pc := 7) dX11_poundsWithin_7 rfl ?_
    refine g_gR (pc := 8) dX11_poundsWithin_8 fR_RX11_12 xc_0 (v := 1) rfl ?_
    refine g_gI (pc := 11) dX11_poundsWithin_11 fI_RX11_102 xc_1 (v := (rd u 1 2)) rfl ?_
    refine g_icmp_ge (tgt := 51) (pc := 14) dX11_poundsWithin_14 (by decide) (fun c1 => ?_) (fun c1 => ?_)
    · replace h := (if_pos c1).symm.trans h
      refine g_iload_n (pc := 51) dX11_poundsWithin_51 rfl ?_
      replace h := Option.some.inj h
      subst h
      exact g_iret (pc := 52) dX11_poundsWithin_52 rfl rfl rfl (Nat.le_refl _) (Nat.le_refl _)
    · replace h := (if_neg c1).symm.trans h
      refine g_aload_n (pc := 17) dX11_poundsWithin_17 rfl ?_
      refine g_gR (pc := 18) dX11_poundsWithin_18 fR_RX11_12 xc_0 (v := 1) rfl ?_
      refine g_iload (pc := 21) dX11_poundsWithin_21 rfl ?_
      refine g_iload_n (pc := 23) dX11_poundsWithin_23 rfl ?_
      obtain ⟨x3, e2, h⟩ := x_bind h
      refine g_cV (pc := 24) dX11_poundsWithin_24 cV_RX11_123 (M_X8_isPart (Nat.le_refl _) e2) xc_1 (as := [.int v4, .int v2]) (st := []) rfl rfl (Nat.le_of_ble_eq_true rfl) (Nat.le_trans (Nat.le_of_ble_eq_true rfl) hd) rfl ?_
      refine g_if_eq (tgt := 45) (pc := 27) dX11_poundsWithin_27 (by decide) (fun c4 => ?_) (fun c4 => ?_)
      · replace h := (if_pos c4).symm.trans h
        exact G_X11_poundsWithin_45 hd ih v1 v2 v3 v4 h
      · replace h := (if_neg c4).symm.trans h
        refine g_iload_n (pc := 30) dX11_poundsWithin_30 rfl ?_
        refine g_aload_n (pc := 31) dX11_poundsWithin_31 rfl ?_
        refine g_gR (pc := 32) dX11_poundsWithin_32 fR_RX11_19 xc_0 (v := 13) rfl ?_
        refine g_gR (pc := 35) dX11_poundsWithin_35 fR_RX11_161 xc_13 (v := 21) rfl ?_
        refine g_iload_n (pc := 38) dX11_poundsWithin_38 rfl ?_
        obtain ⟨g5, h⟩ := x_gd h
        refine g_aaload (pc := 39) dX11_poundsWithin_39 xc_21 (xin_of g5) (v := (22 + v1.toNatClampNeg)) (xrf_21 _ (xin_lt g5)) ?_
        refine g_iload (pc := 40) dX11_poundsWithin_40 rfl ?_
        obtain ⟨g6, h⟩ := x_gd h
        refine g_iaload (pc := 42) dX11_poundsWithin_42 (xrow_21 _ (xin_lt g5)) (xin_of g6) (v := (rd u (22 + v1.toNatClampNeg) v4.toNatClampNeg)) rfl ?_
        refine g_iadd (pc := 43) dX11_poundsWithin_43 rfl ?_
        refine g_istore_n (pc := 44) dX11_poundsWithin_44 (Nat.le_of_ble_eq_true rfl) (L' := [some (.ref 0), some (.int v1), some (.int v2), some (.int (v3 + (rd u (22 + v1.toNatClampNeg) v4.toNatClampNeg))), some (.int v4)]) rfl ?_
        exact G_X11_poundsWithin_45 hd ih v1 v2 (v3 + (rd u (22 + v1.toNatClampNeg) v4.toNatClampNeg)) v4 h
set_option maxRecDepth 100000 in
set_option maxHeartbeats 4000000 in
theorem G_X11_poundsWithin_0 {sc : Nat × (Nat → Int32)} {d : Nat} (hd : 2 ≤ d) {r : Int32} {u : xS} (v1 : Int32) (v2 : Int32) (h : f_X11_poundsWithin u v1 v2 = some r) : xG sc mX11_poundsWithin d 0 0 (xR (some (.int r)) (xL0, u) 0 0) 0 0 0 [some (.ref 0), some (.int v1), some (.int v2), none, none] [] (xL0, u) := by
  rw [f_X11_poundsWithin] at h
  refine g_iconst (pc := 0) dX11_poundsWithin_0 ic_0 ?_
  refine g_istore_n (pc := 1) dX11_poundsWithin_1 (Nat.le_of_ble_eq_true rfl) (L' := [some (.ref 0), some (.int v1), some (.int v2), some (.int (0 : Int32)), none]) rfl ?_
  refine g_iconst (pc := 2) dX11_poundsWithin_2 ic_0 ?_
  refine g_istore (pc := 3) dX11_poundsWithin_3 (Nat.le_of_ble_eq_true rfl) (L' := [some (.ref 0), some (.int v1), some (.int v2), some (.int (0 : Int32)), some (.int (0 : Int32))]) rfl ?_
  exact G_X11_poundsWithin_5 hd xN v1 v2 (0 : Int32) (0 : Int32) h
set_option maxRecDepth 100000 in
set_option maxHeartbeats 4000000 in
theorem M_X11_poundsWithin {sc : Nat × (Nat → Int32)} {d : Nat} (hd : 2 ≤ d) {r : Int32} {u : xS} {a1 : Int32} {a2 : Int32} (h : f_X11_poundsWithin u a1 a2 = some r) : xMt sc mX11_poundsWithin d 0 0 [.ref 0, .int a1, .int a2] (xL0, u) (some (.int r)) (xL0, u) :=
  xMt.of (by decide +kernel) (by decide +kernel) (Nat.le_of_ble_eq_true rfl) (L := [some (.ref 0), some (.int a1), some (.int a2), none, none]) rfl ((G_X11_poundsWithin_0 hd a1 a2 h))
set_option maxRecDepth 100000 in
set_option maxHeartbeats 4000000 in
theorem G_X11_tell_0 {sc : Nat × (Nat → Int32)} {d : Nat} (hd : 0 ≤ d) {u' : xS} (v1 : Int32) (u : xS) (h : f_X11_tell v1 u = some u') : xG sc mX11_tell d 0 0 (xR none (xL0, u') 0 0) 0 0 0 [some (.ref 0), some (.int v1)] [] (xL0, u) := by
  rw [f_X11_tell] at h
  refine g_aload_n (pc := 0) dX11_tell_0 rfl ?_
  refine g_gI (pc := 1) dX11_tell_1 fI_RX11_90 xc_0 (v := (rd u 0 12)) rfl ?_
  refine g_bipush (pc := 4) dX11_tell_4 bp_48 ?_
  refine g_icmp_ge (tgt := 29) (pc := 6) dX11_tell_6 (by decide) (fun c1 => ?_) (fun c1 => ?_)
  · replace h := (if_pos c1).symm.trans h
    replace h := Option.some.inj h
    subst h
    exact g_ret (pc := 29) dX11_tell_29 rfl rfl rfl (Nat.le_refl _) (Nat.le_refl _)
  · replace h := (if_neg c1).symm.trans h
    refine g_aload_n (pc := 9) dX11_tell_9 rfl ?_
    refine g_gR (pc := 10) dX11_tell_10 fR_RX11_86 xc_0 (v := 134) rfl ?_
    refine g_aload_n (pc := 13) dX11_tell_13 rfl ?_
    refine g_gI (pc := 14) dX11_tell_14 fI_RX11_90 xc_0 (v := (rd u 0 12)) rfl ?_
    refine g_iload_n (pc := 17) dX11_tell_17 rfl ?_
    obtain ⟨g2, h⟩ := x_gd h
    refine g_iastore (pc := 18) dX11_tell_18 xc_134 (xin_of g2) (u' := (wr u 134 (rd u 0 12).toNatClampNeg v1)) rfl ?_
    refine g_aload_n (pc := 19) dX11_tell_19 rfl ?_
    refine g_dup (pc := 20) dX11_tell_20 rfl ?_
    refine g_gI (pc := 21) dX11_tell_21 fI_RX11_90 xc_0 (v := (rd u 0 12)) rfl ?_
    refine g_iconst (pc := 24) dX11_tell_24 ic_1 ?_
    refine g_iadd (pc := 25) dX11_tell_25 rfl ?_
    refine g_pI (pc := 26) dX11_tell_26 pI_RX11_90 xc_0 (u' := (wr (wr u 134 (rd u 0 12).toNatClampNeg v1) 0 12 ((rd u 0 12) + (1 : Int32)))) rfl ?_
    replace h := Option.some.inj h
    subst h
    exact g_ret (pc := 29) dX11_tell_29 rfl rfl rfl (Nat.le_refl _) (Nat.le_refl _)
set_option maxRecDepth 100000 in
set_option maxHeartbeats 4000000 in
theorem M_X11_tell {sc : Nat × (Nat → Int32)} {d : Nat} (hd : 0 ≤ d) {u u' : xS} {a1 : Int32} (h : f_X11_tell a1 u = some u') : xMt sc mX11_tell d 0 0 [.ref 0, .int a1] (xL0, u) none (xL0, u') :=
  xMt.of (by decide +kernel) (by decide +kernel) (Nat.le_of_ble_eq_true rfl) (L := [some (.ref 0), some (.int a1)]) rfl ((G_X11_tell_0 hd a1 u h))
set_option maxRecDepth 100000 in
set_option maxHeartbeats 4000000 in
theorem G_X11_foretell_154 {sc : Nat × (Nat → Int32)} {d : Nat} (hd : 3 ≤ d) {r : Int32} {u' : xS} {k44 : Int32 → Int32 → Int32 → Int32 → Int32 → Int32 → Int32 → xS → Option (Int32 × xS)} (hk44 : ∀ (v1 : Int32) (v2 : Int32) (v3 : Int32) (v4 : Int32) (v5 : Int32) (v6 : Int32) (v7 : Int32) (u : xS), k44 v1 v2 v3 v4 v5 v6 v7 u = some (r, u') → xG sc mX11_foretell d 0 0 (xR (some (.int r)) (xL0, u') 0 0) 0 0 44 [some (.ref 0), some (.int v1), some (.int v2), some (.int v3), some (.int v4), some (.int v5), some (.int v6), some (.int v7), none] [] (xL0, u)) (v1 : Int32) (v2 : Int32) (v3 : Int32) (v4 : Int32) (v5 : Int32) (v6 : Int32) (v7 : Int32) (u : xS) (h : f_X11_foretell_154 k44 v1 v2 v3 v4 v5 v6 v7 u = some (r, u')) : xG sc mX11_foretell d 0 0 (xR (some (.int r)) (xL0, u') 0 0) 0 0 154 [some (.ref 0), some (.int v1), some (.int v2), some (.int v3), some (.int v4), some (.int v5), some (.int v6), some (.int v7), none] [] (xL0, u) := by
  rw [f_X11_foretell_154] at h
  refine g_inc (pc := 154) dX11_foretell_154 (Nat.le_of_ble_eq_true rfl) rfl ic_1 (L' := [some (.ref 0), some (.int v1), some (.int v2), some (.int v3), some (.int v4), some (.int v5), some (.int v6), some (.int (v7 + (1 : Int32))), none]) rfl ?_
  refine g_goto (tgt := 44) (pc := 157) dX11_foretell_157 (by decide) ?_
  exact hk44 v1 v2 v3 v4 v5 v6 (v7 + (1 : Int32)) u h
set_option maxRecDepth 100000 in
set_option maxHeartbeats 4000000 in
theorem G_X11_foretell_140 {sc : Nat × (Nat → Int32)} {d : Nat} (hd : 3 ≤ d) {r : Int32} {u' : xS} {k44 : Int32 → Int32 → Int32 → Int32 → Int32 → Int32 → Int32 → xS → Option (Int32 × xS)} (hk44 : ∀ (v1 : Int32) (v2 : Int32) (v3 : Int32) (v4 : Int32) (v5 : Int32) (v6 : Int32) (v7 : Int32) (u : xS), k44 v1 v2 v3 v4 v5 v6 v7 u = some (r, u') → xG sc mX11_foretell d 0 0 (xR (some (.int r)) (xL0, u') 0 0) 0 0 44 [some (.ref 0), some (.int v1), some (.int v2), some (.int v3), some (.int v4), some (.int v5), some (.int v6), some (.int v7), none] [] (xL0, u)) (v1 : Int32) (v2 : Int32) (v3 : Int32) (v5 : Int32) (v6 : Int32) (v7 : Int32) (v8 : Int32) (s0 : Int32) (u : xS) (h : f_X11_foretell_140 k44 v1 v2 v3 v5 v6 v7 v8 s0 u = some (r, u')) : xG sc mX11_foretell d 0 0 (xR (some (.int r)) (xL0, u') 0 0) 0 0 140 [some (.ref 0), some (.int v1), some (.int v2), some (.int v3), none, some (.int v5), some (.int v6), some (.int v7), some (.int v8)] [.int s0] (xL0, u) := by
  rw [f_X11_foretell_140] at h
  refine g_istore (pc := 140) dX11_foretell_140 (Nat.le_of_ble_eq_true rfl) (L' := [some (.ref 0), some (.int v1), some (.int v2), some (.int v3), some (.int s0), some (.int v5), some (.int v6), some (.int v7), some (.int v8)]) rfl ?_
  refine g_iload (pc := 142) dX11_foretell_142 rfl ?_
  refine g_iload (pc := 144) dX11_foretell_144 rfl ?_
  refine g_max (pc := 146) dX11_foretell_146 mK_RX11_188 (Nat.le_of_ble_eq_true rfl) (Nat.le_trans (Nat.le_of_ble_eq_true rfl) hd) (Nat.zero_le _) (Nat.zero_le _) ?_
  refine g_istore (pc := 149) dX11_foretell_149 (Nat.le_of_ble_eq_true rfl) (L' := [some (.ref 0), some (.int v1), some (.int v2), some (.int v3), some (.int s0), some (.int (imax v5 v8)), some (.int v6), some (.int v7), some (.int v8)]) rfl ?_
  refine g_inc (pc := 151) dX11_foretell_151 (Nat.le_of_ble_eq_true rfl) rfl ic_1 (L' := [some (.ref 0), some (.int v1), some (.int v2), some (.int v3), some (.int s0), some (.int (imax v5 v8)), some (.int (v6 + (1 : Int32))), some (.int v7), some (.int v8)]) rfl ?_
  refine g_L (L' := [some (.ref 0), some (.int v1), some (.int v2), some (.int v3), some (.int s0), some (.int (imax v5 v8)), some (.int (v6 + (1 : Int32))), some (.int v7), none]) ⟨rfl, ⟨rfl, ⟨rfl, ⟨rfl, ⟨rfl, ⟨rfl, ⟨rfl, ⟨rfl, trivial⟩⟩⟩⟩⟩⟩⟩⟩ ?_
  exact G_X11_foretell_154 hd hk44 v1 v2 v3 s0 (imax v5 v8) (v6 + (1 : Int32)) v7 u h
set_option maxRecDepth 100000 in
set_option maxHeartbeats 4000000 in
theorem G_X11_foretell_101 {sc : Nat × (Nat → Int32)} {d : Nat} (hd : 3 ≤ d) {r : Int32} {u' : xS} {k44 : Int32 → Int32 → Int32 → Int32 → Int32 → Int32 → Int32 → xS → Option (Int32 × xS)} (hk44 : ∀ (v1 : Int32) (v2 : Int32) (v3 : Int32) (v4 : Int32) (v5 : Int32) (v6 : Int32) (v7 : Int32) (u : xS), k44 v1 v2 v3 v4 v5 v6 v7 u = some (r, u') → xG sc mX11_foretell d 0 0 (xR (some (.int r)) (xL0, u') 0 0) 0 0 44 [some (.ref 0), some (.int v1), some (.int v2), some (.int v3), some (.int v4), some (.int v5), some (.int v6), some (.int v7), none] [] (xL0, u)) (v1 : Int32) (v2 : Int32) (v3 : Int32) (v4 : Int32) (v5 : Int32) (v6 : Int32) (v7 : Int32) (u : xS) (h : f_X11_foretell_101 k44 v1 v2 v3 v4 v5 v6 v7 u = some (r, u')) : xG sc mX11_foretell d 0 0 (xR (some (.int r)) (xL0, u') 0 0) 0 0 101 [some (.ref 0), some (.int v1), some (.int v2), some (.int v3), some (.int v4), some (.int v5), some (.int v6), some (.int v7), none] [] (xL0, u) := by
  rw [f_X11_foretell_101] at h
  refine g_aload_n (pc := 101) dX11_foretell_101 rfl ?_
  refine g_iload (pc := 102) dX11_foretell_102 rfl ?_
  refine g_iload_n (pc := 104) dX11_foretell_104 rfl ?_
  obtain ⟨x2, e1, h⟩ := x_bind h
  refine g_cV (pc := 105) dX11_foretell_105 cV_RX11_371 (M_X11_poundsWithin (Nat.le_refl _) e1) xc_0 (as := [.int v7, .int v3]) (st := []) rfl rfl (Nat.le_of_ble_eq_true rfl) (Nat.le_trans (Nat.le_of_ble_eq_true rfl) hd) rfl ?_
  refine g_aload_n (pc := 108) dX11_foretell_108 rfl ?_
  refine g_gR (pc := 109) dX11_foretell_109 fR_RX11_19 xc_0 (v := 13) rfl ?_
  refine g_gR (pc := 112) dX11_foretell_112 fR_RX11_144 xc_13 (v := 16) rfl ?_
  refine g_iload (pc := 115) dX11_foretell_115 rfl ?_
  obtain ⟨g3, h⟩ := x_gd h
  refine g_iaload (pc := 117) dX11_foretell_117 xc_16 (xin_of g3) (v := (rd u 16 v7.toNatClampNeg)) rfl ?_
  obtain ⟨x5, e4, h⟩ := x_bind h
  refine g_cS (pc := 118) dX11_foretell_118 cS_RX11_208 (M_X11_inThousand (Nat.le_refl _) e4) (as := [.int x2, .int (rd u 16 v7.toNatClampNeg)]) (st := []) rfl rfl (Nat.le_of_ble_eq_true rfl) (Nat.le_trans (Nat.le_of_ble_eq_true rfl) hd) rfl ?_
  refine g_istore (pc := 121) dX11_foretell_121 (Nat.le_of_ble_eq_true rfl) (L' := [some (.ref 0), some (.int v1), some (.int v2), some (.int v3), some (.int v4), some (.int v5), some (.int v6), some (.int v7), some (.int x5)]) rfl ?_
  refine g_iload (pc := 123) dX11_foretell_123 rfl ?_
  refine g_if_ne (tgt := 133) (pc := 125) dX11_foretell_125 (by decide) (fun c6 => ?_) (fun c6 => ?_)
  · replace h := (if_neg c6).symm.trans h
    refine g_iload (pc := 133) dX11_foretell_133 rfl ?_
    refine g_iload (pc := 135) dX11_foretell_135 rfl ?_
    refine g_min (pc := 137) dX11_foretell_137 mK_RX11_227 (Nat.le_of_ble_eq_true rfl) (Nat.le_trans (Nat.le_of_ble_eq_true rfl) hd) (Nat.zero_le _) (Nat.zero_le _) ?_
    refine g_L (L' := [some (.ref 0), some (.int v1), some (.int v2), some (.int v3), none, some (.int v5), some (.int v6), some (.int v7), some (.int x5)]) ⟨rfl, ⟨rfl, ⟨rfl, ⟨rfl, ⟨rfl, ⟨rfl, ⟨rfl, ⟨rfl, trivial⟩⟩⟩⟩⟩⟩⟩⟩ ?_
    exact G_X11_foretell_140 hd hk44 v1 v2 v3 v5 v6 v7 x5 (imin v4 x5) u h
  · replace h := (if_pos c6).symm.trans h
    refine g_iload (pc := 128) dX11_foretell_128 rfl ?_
    refine g_goto (tgt := 140) (pc := 130) dX11_foretell_130 (by decide) ?_
    refine g_L (L' := [some (.ref 0), some (.int v1), some (.int v2), some (.int v3), none, some (.int v5), some (.int v6), some (.int v7), some (.int x5)]) ⟨rfl, ⟨rfl, ⟨rfl, ⟨rfl, ⟨rfl, ⟨rfl, ⟨rfl, ⟨rfl, trivial⟩⟩⟩⟩⟩⟩⟩⟩ ?_
    exact G_X11_foretell_140 hd hk44 v1 v2 v3 v5 v6 v7 x5 x5 u h
set_option maxRecDepth 100000 in
set_option maxHeartbeats 4000000 in
theorem G_X11_foretell_44 {sc : Nat × (Nat → Int32)} {d : Nat} (hd : 3 ≤ d) {r : Int32} {u' : xS} : ∀ (n : Nat) (v1 : Int32) (v2 : Int32) (v3 : Int32) (v4 : Int32) (v5 : Int32) (v6 : Int32) (v7 : Int32) (u : xS), f_X11_foretell_44 n v1 v2 v3 v4 v5 v6 v7 u = some (r, u') → xG sc mX11_foretell d 0 0 (xR (some (.int r)) (xL0, u') 0 0) 0 0 44 [some (.ref 0), some (.int v1), some (.int v2), some (.int v3), some (.int v4), some (.int v5), some (.int v6), some (.int v7), none] [] (xL0, u) := by
  intro n
  induction n with
  | zero =>
    intro v1 v2 v3 v4 v5 v6 v7 u h
    rw [f_X11_foretell_44] at h
    cases h
  | succ n ih =>
    intro v1 v2 v3 v4 v5 v6 v7 u h
    rw [f_X11_foretell_44] at h
    refine g_iload (pc := 44) dX11_foretell_44 rfl ?_
    refine g_aload_n (pc := 46) dX11_foretell_46 rfl ?_
    refine g_gR (pc := 47) dX11_foretell_47 fR_RX11_19 xc_0 (v := 13) rfl ?_
    refine g_gI (pc := 50) dX11_foretell_50 fI_RX11_133 xc_13 (v := (rd u 13 8)) rfl ?_
    refine g_icmp_ge (tgt := 160) (pc := 53) dX11_foretell_53 (by decide) (fun c1 => ?_) (fun c1 => ?_)
    · replace h := (if_pos c1).symm.trans h
      refine g_iload (pc := 160) dX11_foretell_160 rfl ?_
      refine g_if_ne (tgt := 167) (pc := 162) dX11_foretell_162 (by decide) (fun c2 => ?_) (fun c2 => ?_)
      · replace h := (if_neg c2).symm.trans h
        refine g_aload_n (pc := 167) dX11_foretell_167 rfl ?_
        refine g_iconst (pc := 168) dX11_foretell_168 ic_0 ?_
        refine g_pI (pc := 169) dX11_foretell_169 pI_RX11_90 xc_0 (u' := (wr u 0 12 (0 : Int32))) rfl ?_
        refine g_aload_n (pc := 172) dX11_foretell_172 rfl ?_
        refine g_iload (pc := 173) dX11_foretell_173 rfl ?_
        obtain ⟨u4, e3, h⟩ := x_bind h
        refine g_cV (pc := 175) dX11_foretell_175 cV_RX11_359 (M_X11_tell (Nat.le_refl _) e3) xc_0 (as := [.int v4]) (st := []) rfl rfl (Nat.le_of_ble_eq_true rfl) (Nat.le_trans (Nat.le_of_ble_eq_true rfl) hd) rfl ?_
        refine g_aload_n (pc := 178) dX11_foretell_178 rfl ?_
        refine g_iload (pc := 179) dX11_foretell_179 rfl ?_
        obtain ⟨u6, e5, h⟩ := x_bind h
        refine g_cV (pc := 181) dX11_foretell_181 cV_RX11_359 (M_X11_tell (Nat.le_refl _) e5) xc_0 (as := [.int v5]) (st := []) rfl rfl (Nat.le_of_ble_eq_true rfl) (Nat.le_trans (Nat.le_of_ble_eq_true rfl) hd) rfl ?_
        refine g_aload_n (pc := 184) dX11_foretell_184 rfl ?_
        refine g_iload (pc := 185) dX11_foretell_185 rfl ?_
        obtain ⟨u8, e7, h⟩ := x_bind h
        refine g_cV (pc := 187) dX11_foretell_187 cV_RX11_359 (M_X11_tell (Nat.le_refl _) e7) xc_0 (as := [.int v6]) (st := []) rfl rfl (Nat.le_of_ble_eq_true rfl) (Nat.le_trans (Nat.le_of_ble_eq_true rfl) hd) rfl ?_
        refine g_iload (pc := 190) dX11_foretell_190 rfl ?_
        obtain ⟨h1, h2⟩ := x_inj2 h
        subst h1
        subst h2
        exact g_iret (pc := 192) dX11_foretell_192 rfl rfl rfl (Nat.le_refl _) (Nat.le_refl _)
      · replace h := (if_pos c2).symm.trans h
        refine g_iconst (pc := 165) dX11_foretell_165 ic_m1 ?_
        obtain ⟨h1, h2⟩ := x_inj2 h
        subst h1
        subst h2
        exact g_iret (pc := 166) dX11_foretell_166 rfl rfl rfl (Nat.le_refl _) (Nat.le_refl _)
    · replace h := (if_neg c1).symm.trans h
      refine g_aload_n (pc := 56) dX11_foretell_56 rfl ?_
      refine g_gR (pc := 57) dX11_foretell_57 fR_RX11_19 xc_0 (v := 13) rfl ?_
      refine g_iload (pc := 60) dX11_foretell_60 rfl ?_
      obtain ⟨x10, e9, h⟩ := x_bind h
      refine g_cV (pc := 62) dX11_foretell_62 cV_RX11_141 (M_X0_isSorted (Nat.le_refl _) e9) xc_13 (as := [.int v7]) (st := []) rfl rfl (Nat.le_of_ble_eq_true rfl) (Nat.le_trans (Nat.le_of_ble_eq_true rfl) hd) rfl ?_
      refine g_if_eq (tgt := 154) (pc := 65) dX11_foretell_65 (by decide) (fun c11 => ?_) (fun c11 => ?_)
      · replace h := (if_pos c11).symm.trans h
        exact G_X11_foretell_154 hd ih v1 v2 v3 v4 v5 v6 v7 u h
      · replace h := (if_neg c11).symm.trans h
        refine g_aload_n (pc := 68) dX11_foretell_68 rfl ?_
        refine g_gR (pc := 69) dX11_foretell_69 fR_RX11_19 xc_0 (v := 13) rfl ?_
        refine g_gR (pc := 72) dX11_foretell_72 fR_RX11_221 xc_13 (v := 14) rfl ?_
        refine g_iload (pc := 75) dX11_foretell_75 rfl ?_
        obtain ⟨g12, h⟩ := x_gd h
        refine g_iaload (pc := 77) dX11_foretell_77 xc_14 (xin_of g12) (v := (rd u 14 v7.toNatClampNeg)) rfl ?_
        refine g_iload_n (pc := 78) dX11_foretell_78 rfl ?_
        refine g_icmp_ne (tgt := 154) (pc := 79) dX11_foretell_79 (by decide) (fun c13 => ?_) (fun c13 => ?_)
        · replace h := (if_neg c13).symm.trans h
          exact G_X11_foretell_154 hd ih v1 v2 v3 v4 v5 v6 v7 u h
        · replace h := (if_pos c13).symm.trans h
          refine g_iload_n (pc := 82) dX11_foretell_82 rfl ?_
          refine g_iconst (pc := 83) dX11_foretell_83 ic_m1 ?_
          refine g_icmp_eq (tgt := 101) (pc := 84) dX11_foretell_84 (by decide) (fun c14 => ?_) (fun c14 => ?_)
          · replace h := (if_pos c14).symm.trans h
            exact G_X11_foretell_101 hd ih v1 v2 v3 v4 v5 v6 v7 u h
          · replace h := (if_neg c14).symm.trans h
            refine g_aload_n (pc := 87) dX11_foretell_87 rfl ?_
            refine g_gR (pc := 88) dX11_foretell_88 fR_RX11_19 xc_0 (v := 13) rfl ?_
            refine g_gR (pc := 91) dX11_foretell_91 fR_RX11_215 xc_13 (v := 15) rfl ?_
            refine g_iload (pc := 94) dX11_foretell_94 rfl ?_
            refine g_iaload (pc := 96) dX11_foretell_96 xc_15 (xin_of g12) (v := (rd u 15 v7.toNatClampNeg)) rfl ?_
            refine g_iload_n (pc := 97) dX11_foretell_97 rfl ?_
            refine g_icmp_ne (tgt := 154) (pc := 98) dX11_foretell_98 (by decide) (fun c15 => ?_) (fun c15 => ?_)
            · replace h := (if_neg c15).symm.trans h
              exact G_X11_foretell_154 hd ih v1 v2 v3 v4 v5 v6 v7 u h
            · replace h := (if_pos c15).symm.trans h
              exact G_X11_foretell_101 hd ih v1 v2 v3 v4 v5 v6 v7 u h
set_option maxRecDepth 100000 in
set_option maxHeartbeats 4000000 in
theorem G_X11_foretell_19 {sc : Nat × (Nat → Int32)} {d : Nat} (hd : 3 ≤ d) {r : Int32} {u' : xS} (v1 : Int32) (v2 : Int32) (v3 : Int32) (u : xS) (h : f_X11_foretell_19 v1 v2 v3 u = some (r, u')) : xG sc mX11_foretell d 0 0 (xR (some (.int r)) (xL0, u') 0 0) 0 0 19 [some (.ref 0), some (.int v1), some (.int v2), some (.int v3), none, none, none, none, none] [] (xL0, u) := by
  rw [f_X11_foretell_19] at h
  refine g_aload_n (pc := 19) dX11_foretell_19 rfl ?_
  refine g_gR (pc := 20) dX11_foretell_20 fR_RX11_12 xc_0 (v := 1) rfl ?_
  refine g_iload_n (pc := 23) dX11_foretell_23 rfl ?_
  refine g_cV (pc := 24) dX11_foretell_24 cV_RX11_98 (M_X8_has (Nat.le_refl _) rfl) xc_1 (as := [.int v3]) (st := []) rfl rfl (Nat.le_of_ble_eq_true rfl) (Nat.le_trans (Nat.le_of_ble_eq_true rfl) hd) rfl ?_
  refine g_if_ne (tgt := 32) (pc := 27) dX11_foretell_27 (by decide) (fun c1 => ?_) (fun c1 => ?_)
  · replace h := (if_neg c1).symm.trans h
    refine g_iconst (pc := 32) dX11_foretell_32 ic_m1 ?_
    refine g_istore (pc := 33) dX11_foretell_33 (Nat.le_of_ble_eq_true rfl) (L' := [some (.ref 0), some (.int v1), some (.int v2), some (.int v3), some (.int (-1 : Int32)), none, none, none, none]) rfl ?_
    refine g_iconst (pc := 35) dX11_foretell_35 ic_m1 ?_
    refine g_istore (pc := 36) dX11_foretell_36 (Nat.le_of_ble_eq_true rfl) (L' := [some (.ref 0), some (.int v1), some (.int v2), some (.int v3), some (.int (-1 : Int32)), some (.int (-1 : Int32)), none, none, none]) rfl ?_
    refine g_iconst (pc := 38) dX11_foretell_38 ic_0 ?_
    refine g_istore (pc := 39) dX11_foretell_39 (Nat.le_of_ble_eq_true rfl) (L' := [some (.ref 0), some (.int v1), some (.int v2), some (.int v3), some (.int (-1 : Int32)), some (.int (-1 : Int32)), some (.int (0 : Int32)), none, none]) rfl ?_
    refine g_iconst (pc := 41) dX11_foretell_41 ic_0 ?_
    refine g_istore (pc := 42) dX11_foretell_42 (Nat.le_of_ble_eq_true rfl) (L' := [some (.ref 0), some (.int v1), some (.int v2), some (.int v3), some (.int (-1 : Int32)), some (.int (-1 : Int32)), some (.int (0 : Int32)), some (.int (0 : Int32)), none]) rfl ?_
    exact G_X11_foretell_44 hd xN v1 v2 v3 (-1 : Int32) (-1 : Int32) (0 : Int32) (0 : Int32) u h
  · replace h := (if_pos c1).symm.trans h
    refine g_iconst (pc := 30) dX11_foretell_30 ic_m1 ?_
    obtain ⟨h1, h2⟩ := x_inj2 h
    subst h1
    subst h2
    exact g_iret (pc := 31) dX11_foretell_31 rfl rfl rfl (Nat.le_refl _) (Nat.le_refl _)
set_option maxRecDepth 100000 in
set_option maxHeartbeats 4000000 in
theorem G_X11_foretell_0 {sc : Nat × (Nat → Int32)} {d : Nat} (hd : 3 ≤ d) {r : Int32} {u' : xS} (v1 : Int32) (v2 : Int32) (v3 : Int32) (u : xS) (h : f_X11_foretell v1 v2 v3 u = some (r, u')) : xG sc mX11_foretell d 0 0 (xR (some (.int r)) (xL0, u') 0 0) 0 0 0 [some (.ref 0), some (.int v1), some (.int v2), some (.int v3), none, none, none, none, none] [] (xL0, u) := by
  rw [f_X11_foretell] at h
  refine g_iload_n (pc := 0) dX11_foretell_0 rfl ?_
  refine g_cS (pc := 1) dX11_foretell_1 cS_RX11_127 (M_X11_isSeller (Nat.le_refl _) rfl) (as := [.int v1]) (st := []) rfl rfl (Nat.le_of_ble_eq_true rfl) (Nat.le_trans (Nat.le_of_ble_eq_true rfl) hd) rfl ?_
  refine g_if_eq (tgt := 30) (pc := 4) dX11_foretell_4 (by decide) (fun c1 => ?_) (fun c1 => ?_)
  · replace h := (if_pos c1).symm.trans h
    refine g_iconst (pc := 30) dX11_foretell_30 ic_m1 ?_
    obtain ⟨h1, h2⟩ := x_inj2 h
    subst h1
    subst h2
    exact g_iret (pc := 31) dX11_foretell_31 rfl rfl rfl (Nat.le_refl _) (Nat.le_refl _)
  · replace h := (if_neg c1).symm.trans h
    refine g_iload_n (pc := 7) dX11_foretell_7 rfl ?_
    refine g_iconst (pc := 8) dX11_foretell_8 ic_m1 ?_
    refine g_icmp_eq (tgt := 19) (pc := 9) dX11_foretell_9 (by decide) (fun c2 => ?_) (fun c2 => ?_)
    · replace h := (if_pos c2).symm.trans h
      exact G_X11_foretell_19 hd v1 v2 v3 u h
    · replace h := (if_neg c2).symm.trans h
      refine g_iload_n (pc := 12) dX11_foretell_12 rfl ?_
      refine g_cS (pc := 13) dX11_foretell_13 cS_RX11_130 (M_X11_isMark (Nat.le_refl _) rfl) (as := [.int v2]) (st := []) rfl rfl (Nat.le_of_ble_eq_true rfl) (Nat.le_trans (Nat.le_of_ble_eq_true rfl) hd) rfl ?_
      refine g_if_eq (tgt := 30) (pc := 16) dX11_foretell_16 (by decide) (fun c3 => ?_) (fun c3 => ?_)
      · replace h := (if_pos c3).symm.trans h
        refine g_iconst (pc := 30) dX11_foretell_30 ic_m1 ?_
        obtain ⟨h1, h2⟩ := x_inj2 h
        subst h1
        subst h2
        exact g_iret (pc := 31) dX11_foretell_31 rfl rfl rfl (Nat.le_refl _) (Nat.le_refl _)
      · replace h := (if_neg c3).symm.trans h
        exact G_X11_foretell_19 hd v1 v2 v3 u h
set_option maxRecDepth 100000 in
set_option maxHeartbeats 4000000 in
theorem M_X11_foretell {sc : Nat × (Nat → Int32)} {d : Nat} (hd : 3 ≤ d) {r : Int32} {u u' : xS} {a1 : Int32} {a2 : Int32} {a3 : Int32} (h : f_X11_foretell a1 a2 a3 u = some (r, u')) : xMt sc mX11_foretell d 0 0 [.ref 0, .int a1, .int a2, .int a3] (xL0, u) (some (.int r)) (xL0, u') :=
  xMt.of (by decide +kernel) (by decide +kernel) (Nat.le_of_ble_eq_true rfl) (L := [some (.ref 0), some (.int a1), some (.int a2), some (.int a3), none, none, none, none, none]) rfl ((G_X11_foretell_0 hd a1 a2 a3 u h))
theorem zb_X11_isLand (v0 : Int32) : f_X11_isLand v0 = 0 ∨ f_X11_isLand v0 = 1 := by
  unfold f_X11_isLand
  repeat' first | exact Or.inl rfl | exact Or.inr rfl | exact zb_X11_lies _ _ _ | apply x_ite
set_option maxRecDepth 100000 in
set_option maxHeartbeats 4000000 in
theorem G_X11_isLand_0 {sc : Nat × (Nat → Int32)} {d : Nat} (hd : 1 ≤ d) {r : Int32} {u : xS} (v0 : Int32) (h : f_X11_isLand v0 = r) : xG sc mX11_isLand d 0 0 (xR (some (.int r)) (xL0, u) 0 0) 0 0 0 [some (.int v0)] [] (xL0, u) := by
  rw [f_X11_isLand] at h
  refine g_iload_n (pc := 0) dX11_isLand_0 rfl ?_
  refine g_iconst (pc := 1) dX11_isLand_1 ic_0 ?_
  refine g_iconst (pc := 2) dX11_isLand_2 ic_3 ?_
  refine g_cS (pc := 3) dX11_isLand_3 cS_RX11_94 (M_X11_lies (Nat.le_refl _) rfl) (as := [.int v0, .int (0 : Int32), .int (3 : Int32)]) (st := []) rfl rfl (Nat.le_of_ble_eq_true rfl) (Nat.le_trans (Nat.le_of_ble_eq_true rfl) hd) rfl ?_
  subst h
  exact g_zret (pc := 6) dX11_isLand_6 rfl (zb_X11_lies _ _ _) rfl rfl (Nat.le_refl _) (Nat.le_refl _)
set_option maxRecDepth 100000 in
set_option maxHeartbeats 4000000 in
theorem M_X11_isLand {sc : Nat × (Nat → Int32)} {d : Nat} (hd : 1 ≤ d) {r : Int32} {u : xS} {a0 : Int32} (h : f_X11_isLand a0 = r) : xMt sc mX11_isLand d 0 0 [.int a0] (xL0, u) (some (.int r)) (xL0, u) :=
  xMt.of (by decide +kernel) (by decide +kernel) (Nat.le_of_ble_eq_true rfl) (L := [some (.int a0)]) rfl ((G_X11_isLand_0 hd a0 h))
theorem zb_X4_hasPack (u : xS) (v1 : Int32) : f_X4_hasPack u v1 = 0 ∨ f_X4_hasPack u v1 = 1 := by
  unfold f_X4_hasPack
  repeat' first | exact Or.inl rfl | exact Or.inr rfl | apply x_ite
set_option maxRecDepth 100000 in
set_option maxHeartbeats 4000000 in
theorem G_X4_hasPack_0 {sc : Nat × (Nat → Int32)} {d : Nat} (hd : 0 ≤ d) {r : Int32} {u : xS} (v1 : Int32) (h : f_X4_hasPack u v1 = r) : xG sc mX4_hasPack d 0 0 (xR (some (.int r)) (xL0, u) 0 0) 0 0 0 [some (.ref 121), some (.int v1)] [] (xL0, u) := by
  rw [f_X4_hasPack] at h
  refine g_iload_n (pc := 0) dX4_hasPack_0 rfl ?_
  refine g_if_lt (tgt := 16) (pc := 1) dX4_hasPack_1 (by decide) (fun c1 => ?_) (fun c1 => ?_)
  · replace h := (if_pos c1).symm.trans h
    refine g_iconst (pc := 16) dX4_hasPack_16 ic_0 ?_
    subst h
    exact g_zret (pc := 17) dX4_hasPack_17 rfl (Or.inl rfl) rfl rfl (Nat.le_refl _) (Nat.le_refl _)
  · replace h := (if_neg c1).symm.trans h
    refine g_iload_n (pc := 4) dX4_hasPack_4 rfl ?_
    refine g_aload_n (pc := 5) dX4_hasPack_5 rfl ?_
    refine g_gI (pc := 6) dX4_hasPack_6 fI_RX4_32 xc_121 (v := (rd u 121 6)) rfl ?_
    refine g_icmp_ge (tgt := 16) (pc := 9) dX4_hasPack_9 (by decide) (fun c2 => ?_) (fun c2 => ?_)
    · replace h := (if_pos c2).symm.trans h
      refine g_iconst (pc := 16) dX4_hasPack_16 ic_0 ?_
      subst h
      exact g_zret (pc := 17) dX4_hasPack_17 rfl (Or.inl rfl) rfl rfl (Nat.le_refl _) (Nat.le_refl _)
    · replace h := (if_neg c2).symm.trans h
      refine g_iconst (pc := 12) dX4_hasPack_12 ic_1 ?_
      refine g_goto (tgt := 17) (pc := 13) dX4_hasPack_13 (by decide) ?_
      subst h
      exact g_zret (pc := 17) dX4_hasPack_17 rfl (Or.inr rfl) rfl rfl (Nat.le_refl _) (Nat.le_refl _)
set_option maxRecDepth 100000 in
set_option maxHeartbeats 4000000 in
theorem M_X4_hasPack {sc : Nat × (Nat → Int32)} {d : Nat} (hd : 0 ≤ d) {r : Int32} {u : xS} {a1 : Int32} (h : f_X4_hasPack u a1 = r) : xMt sc mX4_hasPack d 0 0 [.ref 121, .int a1] (xL0, u) (some (.int r)) (xL0, u) :=
  xMt.of (by decide +kernel) (by decide +kernel) (Nat.le_of_ble_eq_true rfl) (L := [some (.ref 121), some (.int a1)]) rfl ((G_X4_hasPack_0 hd a1 h))
set_option maxRecDepth 100000 in
set_option maxHeartbeats 4000000 in
theorem G_X4_given_53 {sc : Nat × (Nat → Int32)} {d : Nat} (hd : 0 ≤ d) {r : Int32} {u : xS} (h : f_X4_given_53 u = some r) : xG sc mX4_given d 0 0 (xR (some (.int r)) (xL0, u) 0 0) 0 0 53 [none, none, none, none, none] [] (xL0, u) := by
  rw [f_X4_given_53] at h
  refine g_bipush (pc := 53) dX4_given_53 bp_m2 ?_
  refine g_goto (tgt := 76) (pc := 55) dX4_given_55 (by decide) ?_
  replace h := Option.some.inj h
  subst h
  exact g_iret (pc := 76) dX4_given_76 rfl rfl rfl (Nat.le_refl _) (Nat.le_refl _)
set_option maxRecDepth 100000 in
set_option maxHeartbeats 4000000 in
theorem G_X4_given_40 {sc : Nat × (Nat → Int32)} {d : Nat} (hd : 0 ≤ d) {r : Int32} {u : xS} (v2 : Int32) (v3 : Int32) (s0 : Int32) (h : f_X4_given_40 u v2 v3 s0 = some r) : xG sc mX4_given d 0 0 (xR (some (.int r)) (xL0, u) 0 0) 0 0 40 [some (.ref 121), none, some (.int v2), some (.int v3), none] [.int s0] (xL0, u) := by
  rw [f_X4_given_40] at h
  refine g_istore (pc := 40) dX4_given_40 (Nat.le_of_ble_eq_true rfl) (L' := [some (.ref 121), none, some (.int v2), some (.int v3), some (.int s0)]) rfl ?_
  refine g_iload_n (pc := 42) dX4_given_42 rfl ?_
  refine g_iconst (pc := 43) dX4_given_43 ic_m1 ?_
  refine g_icmp_eq (tgt := 53) (pc := 44) dX4_given_44 (by decide) (fun c1 => ?_) (fun c1 => ?_)
  · replace h := (if_pos c1).symm.trans h
    refine g_L (L' := [none, none, none, none, none]) trivial ?_
    exact G_X4_given_53 hd h
  · replace h := (if_neg c1).symm.trans h
    refine g_iload (pc := 47) dX4_given_47 rfl ?_
    refine g_iconst (pc := 49) dX4_given_49 ic_m1 ?_
    refine g_icmp_ne (tgt := 58) (pc := 50) dX4_given_50 (by decide) (fun c2 => ?_) (fun c2 => ?_)
    · replace h := (if_neg c2).symm.trans h
      refine g_iload_n (pc := 58) dX4_given_58 rfl ?_
      refine g_aload_n (pc := 59) dX4_given_59 rfl ?_
      refine g_gR (pc := 60) dX4_given_60 fR_RX4_23 xc_121 (v := 129) rfl ?_
      refine g_iload_n (pc := 63) dX4_given_63 rfl ?_
      obtain ⟨g3, h⟩ := x_gd h
      refine g_iaload (pc := 64) dX4_given_64 xc_129 (xin_of g3) (v := (rd u 129 v2.toNatClampNeg)) rfl ?_
      refine g_imul (pc := 65) dX4_given_65 rfl ?_
      refine g_iload (pc := 66) dX4_given_66 rfl ?_
      refine g_aload_n (pc := 68) dX4_given_68 rfl ?_
      refine g_gR (pc := 69) dX4_given_69 fR_RX4_29 xc_121 (v := 131) rfl ?_
      refine g_iload_n (pc := 72) dX4_given_72 rfl ?_
      refine g_iaload (pc := 73) dX4_given_73 xc_131 (xin_of g3) (v := (rd u 131 v2.toNatClampNeg)) rfl ?_
      refine g_imul (pc := 74) dX4_given_74 rfl ?_
      refine g_iadd (pc := 75) dX4_given_75 rfl ?_
      replace h := Option.some.inj h
      subst h
      exact g_iret (pc := 76) dX4_given_76 rfl rfl rfl (Nat.le_refl _) (Nat.le_refl _)
    · replace h := (if_pos c2).symm.trans h
      refine g_L (L' := [none, none, none, none, none]) trivial ?_
      exact G_X4_given_53 hd h
set_option maxRecDepth 100000 in
set_option maxHeartbeats 4000000 in
theorem G_X4_given_0 {sc : Nat × (Nat → Int32)} {d : Nat} (hd : 0 ≤ d) {r : Int32} {u : xS} (v1 : Int32) (v2 : Int32) (h : f_X4_given u v1 v2 = some r) : xG sc mX4_given d 0 0 (xR (some (.int r)) (xL0, u) 0 0) 0 0 0 [some (.ref 121), some (.int v1), some (.int v2), none, none] [] (xL0, u) := by
  rw [f_X4_given] at h
  refine g_aload_n (pc := 0) dX4_given_0 rfl ?_
  refine g_gR (pc := 1) dX4_given_1 fR_RX4_11 xc_121 (v := 122) rfl ?_
  refine g_iload_n (pc := 4) dX4_given_4 rfl ?_
  obtain ⟨g1, h⟩ := x_gd h
  refine g_aaload (pc := 5) dX4_given_5 xc_122 (xin_of g1) (v := (123 + v1.toNatClampNeg)) (xrf_122 _ (xin_lt g1)) ?_
  refine g_aload_n (pc := 6) dX4_given_6 rfl ?_
  refine g_gR (pc := 7) dX4_given_7 fR_RX4_20 xc_121 (v := 128) rfl ?_
  refine g_iload_n (pc := 10) dX4_given_10 rfl ?_
  obtain ⟨g2, h⟩ := x_gd h
  refine g_iaload (pc := 11) dX4_given_11 xc_128 (xin_of g2) (v := (rd u 128 v2.toNatClampNeg)) rfl ?_
  obtain ⟨g3, h⟩ := x_gd h
  refine g_iaload (pc := 12) dX4_given_12 (xrow_122 _ (xin_lt g1)) (xin_of g3) (v := (rd u (123 + v1.toNatClampNeg) (rd u 128 v2.toNatClampNeg).toNatClampNeg)) rfl ?_
  refine g_istore_n (pc := 13) dX4_given_13 (Nat.le_of_ble_eq_true rfl) (L' := [some (.ref 121), some (.int v1), some (.int v2), some (.int (rd u (123 + v1.toNatClampNeg) (rd u 128 v2.toNatClampNeg).toNatClampNeg)), none]) rfl ?_
  refine g_aload_n (pc := 14) dX4_given_14 rfl ?_
  refine g_gR (pc := 15) dX4_given_15 fR_RX4_29 xc_121 (v := 131) rfl ?_
  refine g_iload_n (pc := 18) dX4_given_18 rfl ?_
  refine g_iaload (pc := 19) dX4_given_19 xc_131 (xin_of g2) (v := (rd u 131 v2.toNatClampNeg)) rfl ?_
  refine g_if_ne (tgt := 27) (pc := 20) dX4_given_20 (by decide) (fun c4 => ?_) (fun c4 => ?_)
  · replace h := (if_neg c4).symm.trans h
    refine g_aload_n (pc := 27) dX4_given_27 rfl ?_
    refine g_gR (pc := 28) dX4_given_28 fR_RX4_11 xc_121 (v := 122) rfl ?_
    refine g_iload_n (pc := 31) dX4_given_31 rfl ?_
    refine g_aaload (pc := 32) dX4_given_32 xc_122 (xin_of g1) (v := (123 + v1.toNatClampNeg)) (xrf_122 _ (xin_lt g1)) ?_
    refine g_aload_n (pc := 33) dX4_given_33 rfl ?_
    refine g_gR (pc := 34) dX4_given_34 fR_RX4_26 xc_121 (v := 130) rfl ?_
    refine g_iload_n (pc := 37) dX4_given_37 rfl ?_
    refine g_iaload (pc := 38) dX4_given_38 xc_130 (xin_of g2) (v := (rd u 130 v2.toNatClampNeg)) rfl ?_
    obtain ⟨g5, h⟩ := x_gd h
    refine g_iaload (pc := 39) dX4_given_39 (xrow_122 _ (xin_lt g1)) (xin_of g5) (v := (rd u (123 + v1.toNatClampNeg) (rd u 130 v2.toNatClampNeg).toNatClampNeg)) rfl ?_
    refine g_L (L' := [some (.ref 121), none, some (.int v2), some (.int (rd u (123 + v1.toNatClampNeg) (rd u 128 v2.toNatClampNeg).toNatClampNeg)), none]) ⟨rfl, ⟨rfl, ⟨rfl, trivial⟩⟩⟩ ?_
    exact G_X4_given_40 hd v2 (rd u (123 + v1.toNatClampNeg) (rd u 128 v2.toNatClampNeg).toNatClampNeg) (rd u (123 + v1.toNatClampNeg) (rd u 130 v2.toNatClampNeg).toNatClampNeg) h
  · replace h := (if_pos c4).symm.trans h
    refine g_iconst (pc := 23) dX4_given_23 ic_0 ?_
    refine g_goto (tgt := 40) (pc := 24) dX4_given_24 (by decide) ?_
    refine g_L (L' := [some (.ref 121), none, some (.int v2), some (.int (rd u (123 + v1.toNatClampNeg) (rd u 128 v2.toNatClampNeg).toNatClampNeg)), none]) ⟨rfl, ⟨rfl, ⟨rfl, trivial⟩⟩⟩ ?_
    exact G_X4_given_40 hd v2 (rd u (123 + v1.toNatClampNeg) (rd u 128 v2.toNatClampNeg).toNatClampNeg) (0 : Int32) h
set_option maxRecDepth 100000 in
set_option maxHeartbeats 4000000 in
theorem M_X4_given {sc : Nat × (Nat → Int32)} {d : Nat} (hd : 0 ≤ d) {r : Int32} {u : xS} {a1 : Int32} {a2 : Int32} (h : f_X4_given u a1 a2 = some r) : xMt sc mX4_given d 0 0 [.ref 121, .int a1, .int a2] (xL0, u) (some (.int r)) (xL0, u) :=
  xMt.of (by decide +kernel) (by decide +kernel) (Nat.le_of_ble_eq_true rfl) (L := [some (.ref 121), some (.int a1), some (.int a2), none, none]) rfl ((G_X4_given_0 hd a1 a2 h))
set_option maxRecDepth 100000 in
set_option maxHeartbeats 4000000 in
theorem G_X11_gives_0 {sc : Nat × (Nat → Int32)} {d : Nat} (hd : 2 ≤ d) {r : Int32} {u : xS} (v1 : Int32) (v2 : Int32) (h : f_X11_gives u v1 v2 = some r) : xG sc mX11_gives d 0 0 (xR (some (.int r)) (xL0, u) 0 0) 0 0 0 [some (.ref 0), some (.int v1), some (.int v2)] [] (xL0, u) := by
  rw [f_X11_gives] at h
  refine g_iload_n (pc := 0) dX11_gives_0 rfl ?_
  refine g_cS (pc := 1) dX11_gives_1 cS_RX11_382 (M_X11_isLand (Nat.le_refl _) rfl) (as := [.int v1]) (st := []) rfl rfl (Nat.le_of_ble_eq_true rfl) (Nat.le_trans (Nat.le_of_ble_eq_true rfl) hd) rfl ?_
  refine g_if_eq (tgt := 30) (pc := 4) dX11_gives_4 (by decide) (fun c1 => ?_) (fun c1 => ?_)
  · replace h := (if_pos c1).symm.trans h
    refine g_iconst (pc := 30) dX11_gives_30 ic_m1 ?_
    replace h := Option.some.inj h
    subst h
    exact g_iret (pc := 31) dX11_gives_31 rfl rfl rfl (Nat.le_refl _) (Nat.le_refl _)
  · replace h := (if_neg c1).symm.trans h
    refine g_aload_n (pc := 7) dX11_gives_7 rfl ?_
    refine g_gR (pc := 8) dX11_gives_8 fR_RX11_82 xc_0 (v := 121) rfl ?_
    refine g_iload_n (pc := 11) dX11_gives_11 rfl ?_
    refine g_cV (pc := 12) dX11_gives_12 cV_RX11_397 (M_X4_hasPack (Nat.le_refl _) rfl) xc_121 (as := [.int v2]) (st := []) rfl rfl (Nat.le_of_ble_eq_true rfl) (Nat.le_trans (Nat.le_of_ble_eq_true rfl) hd) rfl ?_
    refine g_if_eq (tgt := 30) (pc := 15) dX11_gives_15 (by decide) (fun c2 => ?_) (fun c2 => ?_)
    · replace h := (if_pos c2).symm.trans h
      refine g_iconst (pc := 30) dX11_gives_30 ic_m1 ?_
      replace h := Option.some.inj h
      subst h
      exact g_iret (pc := 31) dX11_gives_31 rfl rfl rfl (Nat.le_refl _) (Nat.le_refl _)
    · replace h := (if_neg c2).symm.trans h
      refine g_aload_n (pc := 18) dX11_gives_18 rfl ?_
      refine g_gR (pc := 19) dX11_gives_19 fR_RX11_82 xc_0 (v := 121) rfl ?_
      refine g_iload_n (pc := 22) dX11_gives_22 rfl ?_
      refine g_iload_n (pc := 23) dX11_gives_23 rfl ?_
      obtain ⟨x4, e3, h⟩ := x_bind h
      refine g_cV (pc := 24) dX11_gives_24 cV_RX11_400 (M_X4_given (Nat.le_refl _) e3) xc_121 (as := [.int v1, .int v2]) (st := []) rfl rfl (Nat.le_of_ble_eq_true rfl) (Nat.le_trans (Nat.le_of_ble_eq_true rfl) hd) rfl ?_
      refine g_goto (tgt := 31) (pc := 27) dX11_gives_27 (by decide) ?_
      replace h := Option.some.inj h
      subst h
      exact g_iret (pc := 31) dX11_gives_31 rfl rfl rfl (Nat.le_refl _) (Nat.le_refl _)
set_option maxRecDepth 100000 in
set_option maxHeartbeats 4000000 in
theorem M_X11_gives {sc : Nat × (Nat → Int32)} {d : Nat} (hd : 2 ≤ d) {r : Int32} {u : xS} {a1 : Int32} {a2 : Int32} (h : f_X11_gives u a1 a2 = some r) : xMt sc mX11_gives d 0 0 [.ref 0, .int a1, .int a2] (xL0, u) (some (.int r)) (xL0, u) :=
  xMt.of (by decide +kernel) (by decide +kernel) (Nat.le_of_ble_eq_true rfl) (L := [some (.ref 0), some (.int a1), some (.int a2)]) rfl ((G_X11_gives_0 hd a1 a2 h))
set_option maxRecDepth 100000 in
set_option maxHeartbeats 4000000 in
theorem G_X6_ofSort_0 {sc : Nat × (Nat → Int32)} {d : Nat} (hd : 0 ≤ d) {r : Int32} {u : xS} (v1 : Int32) (h : f_X6_ofSort u v1 = some r) : xG sc mX6_ofSort d 0 0 (xR (some (.int r)) (xL0, u) 0 0) 0 0 0 [some (.ref 74), some (.int v1)] [] (xL0, u) := by
  rw [f_X6_ofSort] at h
  refine g_aload_n (pc := 0) dX6_ofSort_0 rfl ?_
  refine g_gR (pc := 1) dX6_ofSort_1 fR_RX6_21 xc_74 (v := 78) rfl ?_
  refine g_iload_n (pc := 4) dX6_ofSort_4 rfl ?_
  obtain ⟨g1, h⟩ := x_gd h
  refine g_iaload (pc := 5) dX6_ofSort_5 xc_78 (xin_of g1) (v := (rd u 78 v1.toNatClampNeg)) rfl ?_
  replace h := Option.some.inj h
  subst h
  exact g_iret (pc := 6) dX6_ofSort_6 rfl rfl rfl (Nat.le_refl _) (Nat.le_refl _)
set_option maxRecDepth 100000 in
set_option maxHeartbeats 4000000 in
theorem M_X6_ofSort {sc : Nat × (Nat → Int32)} {d : Nat} (hd : 0 ≤ d) {r : Int32} {u : xS} {a1 : Int32} (h : f_X6_ofSort u a1 = some r) : xMt sc mX6_ofSort d 0 0 [.ref 74, .int a1] (xL0, u) (some (.int r)) (xL0, u) :=
  xMt.of (by decide +kernel) (by decide +kernel) (Nat.le_of_ble_eq_true rfl) (L := [some (.ref 74), some (.int a1)]) rfl ((G_X6_ofSort_0 hd a1 h))
set_option maxRecDepth 100000 in
set_option maxHeartbeats 4000000 in
theorem G_X11_hasFor_2 {sc : Nat × (Nat → Int32)} {d : Nat} (hd : 1 ≤ d) {r : Int32} {u : xS} : ∀ (n : Nat) (v1 : Int32) (v2 : Int32), f_X11_hasFor_2 u n v1 v2 = some r → xG sc mX11_hasFor d 0 0 (xR (some (.int r)) (xL0, u) 0 0) 0 0 2 [some (.ref 0), some (.int v1), some (.int v2)] [] (xL0, u) := by
  intro n
  induction n with
  | zero =>
    intro v1 v2 h
    rw [f_X11_hasFor_2] at h
    cases h
  | succ n ih =>
    intro v1 v2 h
    rw [f_X11_hasFor_2] at h
    refine g_iload_n (pc := 2) dX11_hasFor_2 rfl ?_
    refine g_aload_n (pc := 3) dX11_hasFor_3 rfl ?_
    refine g_gR (pc := 4) dX11_hasFor_4 fR_RX11_12 xc_0 (v := 1) rfl ?_
    refine g_gI (pc := 7) dX11_hasFor_7 fI_RX11_102 xc_1 (v := (rd u 1 2)) rfl ?_
    refine g_icmp_ge (tgt := 43) (pc := 10) dX11_hasFor_10 (by decide) (fun c1 => ?_) (fun c1 => ?_)
    · replace h := (if_pos c1).symm.trans h
      refine g_iconst (pc := 43) dX11_hasFor_43 ic_1 ?_
      replace h := Option.some.inj h
      subst h
      exact g_zret (pc := 44) dX11_hasFor_44 rfl (Or.inr rfl) rfl rfl (Nat.le_refl _) (Nat.le_refl _)
    · replace h := (if_neg c1).symm.trans h
      refine g_aload_n (pc := 13) dX11_hasFor_13 rfl ?_
      refine g_gR (pc := 14) dX11_hasFor_14 fR_RX11_54 xc_0 (v := 74) rfl ?_
      refine g_iload_n (pc := 17) dX11_hasFor_17 rfl ?_
      obtain ⟨x3, e2, h⟩ := x_bind h
      refine g_cV (pc := 18) dX11_hasFor_18 cV_RX11_263 (M_X6_ofSort (Nat.le_refl _) e2) xc_74 (as := [.int v2]) (st := []) rfl rfl (Nat.le_of_ble_eq_true rfl) (Nat.le_trans (Nat.le_of_ble_eq_true rfl) hd) rfl ?_
      refine g_aload_n (pc := 21) dX11_hasFor_21 rfl ?_
      refine g_gR (pc := 22) dX11_hasFor_22 fR_RX11_61 xc_0 (v := 79) rfl ?_
      refine g_gR (pc := 25) dX11_hasFor_25 fR_RX11_286 xc_79 (v := 80) rfl ?_
      refine g_iload_n (pc := 28) dX11_hasFor_28 rfl ?_
      obtain ⟨g4, h⟩ := x_gd h
      refine g_iaload (pc := 29) dX11_hasFor_29 xc_80 (xin_of g4) (v := (rd u 80 v2.toNatClampNeg)) rfl ?_
      refine g_iload_n (pc := 30) dX11_hasFor_30 rfl ?_
      refine g_imul (pc := 31) dX11_hasFor_31 rfl ?_
      refine g_icmp_ge (tgt := 37) (pc := 32) dX11_hasFor_32 (by decide) (fun c5 => ?_) (fun c5 => ?_)
      · replace h := (if_pos c5).symm.trans h
        refine g_inc (pc := 37) dX11_hasFor_37 (Nat.le_of_ble_eq_true rfl) rfl ic_1 (L' := [some (.ref 0), some (.int v1), some (.int (v2 + (1 : Int32)))]) rfl ?_
        refine g_goto (tgt := 2) (pc := 40) dX11_hasFor_40 (by decide) ?_
        exact ih v1 (v2 + (1 : Int32)) h
      · replace h := (if_neg c5).symm.trans h
        refine g_iconst (pc := 35) dX11_hasFor_35 ic_0 ?_
        replace h := Option.some.inj h
        subst h
        exact g_zret (pc := 36) dX11_hasFor_36 rfl (Or.inl rfl) rfl rfl (Nat.le_refl _) (Nat.le_refl _)
set_option maxRecDepth 100000 in
set_option maxHeartbeats 4000000 in
theorem G_X11_hasFor_0 {sc : Nat × (Nat → Int32)} {d : Nat} (hd : 1 ≤ d) {r : Int32} {u : xS} (v1 : Int32) (h : f_X11_hasFor u v1 = some r) : xG sc mX11_hasFor d 0 0 (xR (some (.int r)) (xL0, u) 0 0) 0 0 0 [some (.ref 0), some (.int v1), none] [] (xL0, u) := by
  rw [f_X11_hasFor] at h
  refine g_iconst (pc := 0) dX11_hasFor_0 ic_0 ?_
  refine g_istore_n (pc := 1) dX11_hasFor_1 (Nat.le_of_ble_eq_true rfl) (L' := [some (.ref 0), some (.int v1), some (.int (0 : Int32))]) rfl ?_
  exact G_X11_hasFor_2 hd xN v1 (0 : Int32) h
set_option maxRecDepth 100000 in
set_option maxHeartbeats 4000000 in
theorem M_X11_hasFor {sc : Nat × (Nat → Int32)} {d : Nat} (hd : 1 ≤ d) {r : Int32} {u : xS} {a1 : Int32} (h : f_X11_hasFor u a1 = some r) : xMt sc mX11_hasFor d 0 0 [.ref 0, .int a1] (xL0, u) (some (.int r)) (xL0, u) :=
  xMt.of (by decide +kernel) (by decide +kernel) (Nat.le_of_ble_eq_true rfl) (L := [some (.ref 0), some (.int a1), none]) rfl ((G_X11_hasFor_0 hd a1 h))
set_option maxRecDepth 100000 in
set_option maxHeartbeats 4000000 in
theorem G_X11_judge_0 {sc : Nat × (Nat → Int32)} {d : Nat} (hd : 3 ≤ d) {r : Int32} {u' : xS} (v1 : Int32) (u : xS) (h : f_X11_judge v1 u = some (r, u')) : xG sc mX11_judge d 0 0 (xR (some (.int r)) (xL0, u') 0 0) 0 0 0 [some (.ref 0), some (.int v1)] [] (xL0, u) := by
  rw [f_X11_judge] at h
  refine g_aload_n (pc := 0) dX11_judge_0 rfl ?_
  refine g_gR (pc := 1) dX11_judge_1 fR_RX11_47 xc_0 (v := 58) rfl ?_
  refine g_iload_n (pc := 4) dX11_judge_4 rfl ?_
  refine g_cV (pc := 5) dX11_judge_5 cV_RX11_293 (M_X10_hasRecipe (Nat.le_refl _) rfl) xc_58 (as := [.int v1]) (st := []) rfl rfl (Nat.le_of_ble_eq_true rfl) (Nat.le_trans (Nat.le_of_ble_eq_true rfl) hd) rfl ?_
  refine g_if_eq (tgt := 23) (pc := 8) dX11_judge_8 (by decide) (fun c1 => ?_) (fun c1 => ?_)
  · replace h := (if_pos c1).symm.trans h
    refine g_iconst (pc := 23) dX11_judge_23 ic_m1 ?_
    obtain ⟨h1, h2⟩ := x_inj2 h
    subst h1
    subst h2
    exact g_iret (pc := 24) dX11_judge_24 rfl rfl rfl (Nat.le_refl _) (Nat.le_refl _)
  · replace h := (if_neg c1).symm.trans h
    refine g_aload_n (pc := 11) dX11_judge_11 rfl ?_
    refine g_gR (pc := 12) dX11_judge_12 fR_RX11_61 xc_0 (v := 79) rfl ?_
    obtain ⟨x3, e2, h⟩ := x_bind h
    refine g_cV (pc := 15) dX11_judge_15 cV_RX11_289 (M_X1_inAll (Nat.le_refl _) e2) xc_79 (as := []) (st := []) rfl rfl (Nat.le_of_ble_eq_true rfl) (Nat.le_trans (Nat.le_of_ble_eq_true rfl) hd) rfl ?_
    refine g_bipush (pc := 18) dX11_judge_18 bp_12 ?_
    refine g_icmp_eq (tgt := 25) (pc := 20) dX11_judge_20 (by decide) (fun c4 => ?_) (fun c4 => ?_)
    · replace h := (if_pos c4).symm.trans h
      refine g_aload_n (pc := 25) dX11_judge_25 rfl ?_
      refine g_aload_n (pc := 26) dX11_judge_26 rfl ?_
      refine g_gR (pc := 27) dX11_judge_27 fR_RX11_61 xc_0 (v := 79) rfl ?_
      refine g_gR (pc := 30) dX11_judge_30 fR_RX11_286 xc_79 (v := 80) rfl ?_
      obtain ⟨u6, e5, h⟩ := x_bind h
      refine g_cV (pc := 33) dX11_judge_33 cV_RX11_296 (M_X11_tellBlend (Nat.le_refl _) e5) xc_0 (as := [.ref 80]) (st := []) rfl rfl (Nat.le_of_ble_eq_true rfl) (Nat.le_trans (Nat.le_of_ble_eq_true rfl) hd) rfl ?_
      refine g_aload_n (pc := 36) dX11_judge_36 rfl ?_
      refine g_gR (pc := 37) dX11_judge_37 fR_RX11_47 xc_0 (v := 58) rfl ?_
      refine g_iload_n (pc := 40) dX11_judge_40 rfl ?_
      obtain ⟨⟨x8, u9⟩, e7, h⟩ := x_bind h
      dsimp only at h
      refine g_cV (pc := 41) dX11_judge_41 cV_RX11_300 (M_X10_firstBroken (Nat.le_refl _) e7) xc_58 (as := [.int v1]) (st := []) rfl rfl (Nat.le_of_ble_eq_true rfl) (Nat.le_trans (Nat.le_of_ble_eq_true rfl) hd) rfl ?_
      obtain ⟨h1, h2⟩ := x_inj2 h
      subst h1
      subst h2
      exact g_iret (pc := 44) dX11_judge_44 rfl rfl rfl (Nat.le_refl _) (Nat.le_refl _)
    · replace h := (if_neg c4).symm.trans h
      refine g_iconst (pc := 23) dX11_judge_23 ic_m1 ?_
      obtain ⟨h1, h2⟩ := x_inj2 h
      subst h1
      subst h2
      exact g_iret (pc := 24) dX11_judge_24 rfl rfl rfl (Nat.le_refl _) (Nat.le_refl _)
set_option maxRecDepth 100000 in
set_option maxHeartbeats 4000000 in
theorem M_X11_judge {sc : Nat × (Nat → Int32)} {d : Nat} (hd : 3 ≤ d) {r : Int32} {u u' : xS} {a1 : Int32} (h : f_X11_judge a1 u = some (r, u')) : xMt sc mX11_judge d 0 0 [.ref 0, .int a1] (xL0, u) (some (.int r)) (xL0, u') :=
  xMt.of (by decide +kernel) (by decide +kernel) (Nat.le_of_ble_eq_true rfl) (L := [some (.ref 0), some (.int a1)]) rfl ((G_X11_judge_0 hd a1 u h))
