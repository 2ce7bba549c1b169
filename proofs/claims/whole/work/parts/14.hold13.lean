set_option maxRecDepth 100000 in
set_option maxHeartbeats 4000000 in
theorem G_X12_shares_126 {sc : Nat × (Nat → Int32)} {d : Nat} (hd : 1 ≤ d) {u' : xS} {dk : Nat} (hkd : dk + 1 ≤ d) {k_X12_shares : Int32 → Int32 → xS → Option xS} (hk_X12_shares : ∀ (a1 a2 : Int32) (u u' : xS), k_X12_shares a1 a2 u = some u' → xMt sc mX12_shares dk 0 0 [.ref 135, .int a1, .int a2] (xL0, u) none (xL0, u')) {k52 : Int32 → Int32 → Int32 → xS → Option xS} (hk52 : ∀ (v1 : Int32) (v2 : Int32) (v3 : Int32) (u : xS), k52 v1 v2 v3 u = some u' → xG sc mX12_shares d 0 0 (xR none (xL0, u') 0 0) 0 0 52 [some (.ref 135), some (.int v1), some (.int v2), some (.int v3), none] [] (xL0, u)) (v1 : Int32) (v2 : Int32) (v3 : Int32) (u : xS) (h : f_X12_shares_126 k_X12_shares k52 v1 v2 v3 u = some u') : xG sc mX12_shares d 0 0 (xR none (xL0, u') 0 0) 0 0 126 [some (.ref 135), some (.int v1), some (.int v2), some (.int v3), none] [] (xL0, u) := by
  rw [f_X12_shares_126] at h
  refine g_inc (pc := 126) dX12_shares_126 (Nat.le_of_ble_eq_true rfl) rfl ic_1 (L' := [some (.ref 135), some (.int v1), some (.int v2), some (.int (v3 + (1 : Int32))), none]) rfl ?_
  refine g_goto (tgt := 52) (pc := 129) dX12_shares_129 (by decide) ?_
  exact hk52 v1 v2 (v3 + (1 : Int32)) u h
set_option maxRecDepth 100000 in
set_option maxHeartbeats 4000000 in
theorem G_X12_shares_52 {sc : Nat × (Nat → Int32)} {d : Nat} (hd : 1 ≤ d) {u' : xS} {dk : Nat} (hkd : dk + 1 ≤ d) {k_X12_shares : Int32 → Int32 → xS → Option xS} (hk_X12_shares : ∀ (a1 a2 : Int32) (u u' : xS), k_X12_shares a1 a2 u = some u' → xMt sc mX12_shares dk 0 0 [.ref 135, .int a1, .int a2] (xL0, u) none (xL0, u')) : ∀ (n : Nat) (v1 : Int32) (v2 : Int32) (v3 : Int32) (u : xS), f_X12_shares_52 k_X12_shares n v1 v2 v3 u = some u' → xG sc mX12_shares d 0 0 (xR none (xL0, u') 0 0) 0 0 52 [some (.ref 135), some (.int v1), some (.int v2), some (.int v3), none] [] (xL0, u) := by
  intro n
  induction n with
  | zero =>
    intro v1 v2 v3 u h
    rw [f_X12_shares_52] at h
    cases h
  | succ n ih =>
    intro v1 v2 v3 u h
    rw [f_X12_shares_52] at h
    refine g_iload_n (pc := 52) dX12_shares_52 rfl ?_
    refine g_iconst (pc := 53) dX12_shares_53 ic_4 ?_
    refine g_icmp_ge (tgt := 132) (pc := 54) dX12_shares_54 (by decide) (fun c1 => ?_) (fun c1 => ?_)
    · replace h := (if_pos c1).symm.trans h
      refine g_aload_n (pc := 132) dX12_shares_132 rfl ?_
      refine g_gR (pc := 133) dX12_shares_133 fR_RX12_141 xc_135 (v := 178) rfl ?_
      refine g_iload_n (pc := 136) dX12_shares_136 rfl ?_
      refine g_iconst (pc := 137) dX12_shares_137 ic_m1 ?_
      obtain ⟨g2, h⟩ := x_gd h
      refine g_iastore (pc := 138) dX12_shares_138 xc_178 (xin_of g2) (u' := (wr u 178 v1.toNatClampNeg (-1 : Int32))) rfl ?_
      refine g_aload_n (pc := 139) dX12_shares_139 rfl ?_
      refine g_iload_n (pc := 140) dX12_shares_140 rfl ?_
      refine g_iconst (pc := 141) dX12_shares_141 ic_1 ?_
      refine g_iadd (pc := 142) dX12_shares_142 rfl ?_
      refine g_iload_n (pc := 143) dX12_shares_143 rfl ?_
      obtain ⟨u4, e3, h⟩ := x_bind h
      refine g_cV (pc := 144) dX12_shares_144 cV_RX12_429 (hk_X12_shares _ _ _ _ e3) xc_135 (as := [.int (v1 + (1 : Int32)), .int v2]) (st := []) rfl rfl (Nat.le_of_ble_eq_true rfl) hkd rfl ?_
      replace h := Option.some.inj h
      subst h
      exact g_ret (pc := 147) dX12_shares_147 rfl rfl rfl (Nat.le_refl _) (Nat.le_refl _)
    · replace h := (if_neg c1).symm.trans h
      refine g_aload_n (pc := 57) dX12_shares_57 rfl ?_
      refine g_iload_n (pc := 58) dX12_shares_58 rfl ?_
      refine g_iload_n (pc := 59) dX12_shares_59 rfl ?_
      obtain ⟨x6, e5, h⟩ := x_bind h
      refine g_cV (pc := 60) dX12_shares_60 cV_RX12_423 (M_X12_given (Nat.le_refl _) e5) xc_135 (as := [.int v3, .int v1]) (st := []) rfl rfl (Nat.le_of_ble_eq_true rfl) (Nat.le_trans (Nat.le_of_ble_eq_true rfl) hd) rfl ?_
      refine g_istore (pc := 63) dX12_shares_63 (Nat.le_of_ble_eq_true rfl) (L' := [some (.ref 135), some (.int v1), some (.int v2), some (.int v3), some (.int x6)]) rfl ?_
      refine g_iload (pc := 65) dX12_shares_65 rfl ?_
      refine g_if_lt (tgt := 126) (pc := 67) dX12_shares_67 (by decide) (fun c7 => ?_) (fun c7 => ?_)
      · replace h := (if_pos c7).symm.trans h
        refine g_L (L' := [some (.ref 135), some (.int v1), some (.int v2), some (.int v3), none]) ⟨rfl, ⟨rfl, ⟨rfl, ⟨rfl, trivial⟩⟩⟩⟩ ?_
        exact G_X12_shares_126 hd hkd hk_X12_shares ih v1 v2 v3 u h
      · replace h := (if_neg c7).symm.trans h
        refine g_aload_n (pc := 70) dX12_shares_70 rfl ?_
        refine g_gR (pc := 71) dX12_shares_71 fR_RX12_147 xc_135 (v := 180) rfl ?_
        refine g_iload_n (pc := 74) dX12_shares_74 rfl ?_
        obtain ⟨g8, h⟩ := x_gd h
        refine g_iaload (pc := 75) dX12_shares_75 xc_180 (xin_of g8) (v := (rd u 180 v3.toNatClampNeg)) rfl ?_
        refine g_aload_n (pc := 76) dX12_shares_76 rfl ?_
        refine g_gR (pc := 77) dX12_shares_77 fR_RX12_126 xc_135 (v := 173) rfl ?_
        refine g_iload_n (pc := 80) dX12_shares_80 rfl ?_
        refine g_iaload (pc := 81) dX12_shares_81 xc_173 (xin_of g8) (v := (rd u 173 v3.toNatClampNeg)) rfl ?_
        refine g_icmp_ne (tgt := 88) (pc := 82) dX12_shares_82 (by decide) (fun c9 => ?_) (fun c9 => ?_)
        · replace h := (if_neg c9).symm.trans h
          refine g_aload_n (pc := 88) dX12_shares_88 rfl ?_
          refine g_gR (pc := 89) dX12_shares_89 fR_RX12_147 xc_135 (v := 180) rfl ?_
          refine g_iload_n (pc := 92) dX12_shares_92 rfl ?_
          refine g_dup2 (pc := 93) dX12_shares_93 rfl rfl ?_
          refine g_iaload (pc := 94) dX12_shares_94 xc_180 (xin_of g8) (v := (rd u 180 v3.toNatClampNeg)) rfl ?_
          refine g_iconst (pc := 95) dX12_shares_95 ic_1 ?_
          refine g_iadd (pc := 96) dX12_shares_96 rfl ?_
          refine g_iastore (pc := 97) dX12_shares_97 xc_180 (xin_of g8) (u' := (wr u 180 v3.toNatClampNeg ((rd u 180 v3.toNatClampNeg) + (1 : Int32)))) rfl ?_
          refine g_aload_n (pc := 98) dX12_shares_98 rfl ?_
          refine g_gR (pc := 99) dX12_shares_99 fR_RX12_141 xc_135 (v := 178) rfl ?_
          refine g_iload_n (pc := 102) dX12_shares_102 rfl ?_
          refine g_iload_n (pc := 103) dX12_shares_103 rfl ?_
          obtain ⟨g10, h⟩ := x_gd h
          refine g_iastore (pc := 104) dX12_shares_104 xc_178 (xin_of g10) (u' := (wr (wr u 180 v3.toNatClampNeg ((rd u 180 v3.toNatClampNeg) + (1 : Int32))) 178 v1.toNatClampNeg v3)) rfl ?_
          refine g_aload_n (pc := 105) dX12_shares_105 rfl ?_
          refine g_iload_n (pc := 106) dX12_shares_106 rfl ?_
          refine g_iconst (pc := 107) dX12_shares_107 ic_1 ?_
          refine g_iadd (pc := 108) dX12_shares_108 rfl ?_
          refine g_iload_n (pc := 109) dX12_shares_109 rfl ?_
          refine g_iload (pc := 110) dX12_shares_110 rfl ?_
          refine g_iadd (pc := 112) dX12_shares_112 rfl ?_
          obtain ⟨u12, e11, h⟩ := x_bind h
          refine g_cV (pc := 113) dX12_shares_113 cV_RX12_429 (hk_X12_shares _ _ _ _ e11) xc_135 (as := [.int (v1 + (1 : Int32)), .int (v2 + x6)]) (st := []) rfl rfl (Nat.le_of_ble_eq_true rfl) hkd rfl ?_
          refine g_aload_n (pc := 116) dX12_shares_116 rfl ?_
          refine g_gR (pc := 117) dX12_shares_117 fR_RX12_147 xc_135 (v := 180) rfl ?_
          refine g_iload_n (pc := 120) dX12_shares_120 rfl ?_
          refine g_dup2 (pc := 121) dX12_shares_121 rfl rfl ?_
          refine g_iaload (pc := 122) dX12_shares_122 xc_180 (xin_of g8) (v := (rd u12 180 v3.toNatClampNeg)) rfl ?_
          refine g_iconst (pc := 123) dX12_shares_123 ic_1 ?_
          refine g_isub (pc := 124) dX12_shares_124 rfl ?_
          refine g_iastore (pc := 125) dX12_shares_125 xc_180 (xin_of g8) (u' := (wr u12 180 v3.toNatClampNeg ((rd u12 180 v3.toNatClampNeg) - (1 : Int32)))) rfl ?_
          refine g_L (L' := [some (.ref 135), some (.int v1), some (.int v2), some (.int v3), none]) ⟨rfl, ⟨rfl, ⟨rfl, ⟨rfl, trivial⟩⟩⟩⟩ ?_
          exact G_X12_shares_126 hd hkd hk_X12_shares ih v1 v2 v3 (wr u12 180 v3.toNatClampNeg ((rd u12 180 v3.toNatClampNeg) - (1 : Int32))) h
        · replace h := (if_pos c9).symm.trans h
          refine g_goto (tgt := 126) (pc := 85) dX12_shares_85 (by decide) ?_
          refine g_L (L' := [some (.ref 135), some (.int v1), some (.int v2), some (.int v3), none]) ⟨rfl, ⟨rfl, ⟨rfl, ⟨rfl, trivial⟩⟩⟩⟩ ?_
          exact G_X12_shares_126 hd hkd hk_X12_shares ih v1 v2 v3 u h
set_option maxRecDepth 100000 in
set_option maxHeartbeats 4000000 in
theorem G_X12_shares_23 {sc : Nat × (Nat → Int32)} {d : Nat} (hd : 1 ≤ d) {u' : xS} {dk : Nat} (hkd : dk + 1 ≤ d) {k_X12_shares : Int32 → Int32 → xS → Option xS} (hk_X12_shares : ∀ (a1 a2 : Int32) (u u' : xS), k_X12_shares a1 a2 u = some u' → xMt sc mX12_shares dk 0 0 [.ref 135, .int a1, .int a2] (xL0, u) none (xL0, u')) : ∀ (n : Nat) (v3 : Int32) (u : xS), f_X12_shares_23 k_X12_shares n v3 u = some u' → xG sc mX12_shares d 0 0 (xR none (xL0, u') 0 0) 0 0 23 [some (.ref 135), none, none, some (.int v3), none] [] (xL0, u) := by
  intro n
  induction n with
  | zero =>
    intro v3 u h
    rw [f_X12_shares_23] at h
    cases h
  | succ n ih =>
    intro v3 u h
    rw [f_X12_shares_23] at h
    refine g_iload_n (pc := 23) dX12_shares_23 rfl ?_
    refine g_aload_n (pc := 24) dX12_shares_24 rfl ?_
    refine g_gI (pc := 25) dX12_shares_25 fI_RX12_420 xc_135 (v := (rd u 135 54)) rfl ?_
    refine g_icmp_ge (tgt := 49) (pc := 28) dX12_shares_28 (by decide) (fun c1 => ?_) (fun c1 => ?_)
    · replace h := (if_pos c1).symm.trans h
      replace h := Option.some.inj h
      subst h
      exact g_ret (pc := 49) dX12_shares_49 rfl rfl rfl (Nat.le_refl _) (Nat.le_refl _)
    · replace h := (if_neg c1).symm.trans h
      refine g_aload_n (pc := 31) dX12_shares_31 rfl ?_
      refine g_gR (pc := 32) dX12_shares_32 fR_RX12_144 xc_135 (v := 179) rfl ?_
      refine g_iload_n (pc := 35) dX12_shares_35 rfl ?_
      refine g_aload_n (pc := 36) dX12_shares_36 rfl ?_
      refine g_gR (pc := 37) dX12_shares_37 fR_RX12_141 xc_135 (v := 178) rfl ?_
      refine g_iload_n (pc := 40) dX12_shares_40 rfl ?_
      obtain ⟨g2, h⟩ := x_gd h
      refine g_iaload (pc := 41) dX12_shares_41 xc_178 (xin_of g2) (v := (rd u 178 v3.toNatClampNeg)) rfl ?_
      refine g_iastore (pc := 42) dX12_shares_42 xc_179 (xin_of g2) (u' := (wr u 179 v3.toNatClampNeg (rd u 178 v3.toNatClampNeg))) rfl ?_
      refine g_inc (pc := 43) dX12_shares_43 (Nat.le_of_ble_eq_true rfl) rfl ic_1 (L' := [some (.ref 135), none, none, some (.int (v3 + (1 : Int32))), none]) rfl ?_
      refine g_goto (tgt := 23) (pc := 46) dX12_shares_46 (by decide) ?_
      exact ih (v3 + (1 : Int32)) (wr u 179 v3.toNatClampNeg (rd u 178 v3.toNatClampNeg)) h
set_option maxRecDepth 100000 in
set_option maxHeartbeats 4000000 in
theorem G_X12_shares_0 {sc : Nat × (Nat → Int32)} {d : Nat} (hd : 1 ≤ d) {u' : xS} {dk : Nat} (hkd : dk + 1 ≤ d) {k_X12_shares : Int32 → Int32 → xS → Option xS} (hk_X12_shares : ∀ (a1 a2 : Int32) (u u' : xS), k_X12_shares a1 a2 u = some u' → xMt sc mX12_shares dk 0 0 [.ref 135, .int a1, .int a2] (xL0, u) none (xL0, u')) (v1 : Int32) (v2 : Int32) (u : xS) (h : f_X12_shares k_X12_shares v1 v2 u = some u') : xG sc mX12_shares d 0 0 (xR none (xL0, u') 0 0) 0 0 0 [some (.ref 135), some (.int v1), some (.int v2), none, none] [] (xL0, u) := by
  rw [f_X12_shares] at h
  refine g_iload_n (pc := 0) dX12_shares_0 rfl ?_
  refine g_aload_n (pc := 1) dX12_shares_1 rfl ?_
  refine g_gI (pc := 2) dX12_shares_2 fI_RX12_420 xc_135 (v := (rd u 135 54)) rfl ?_
  refine g_icmp_ne (tgt := 50) (pc := 5) dX12_shares_5 (by decide) (fun c1 => ?_) (fun c1 => ?_)
  · replace h := (if_neg c1).symm.trans h
    refine g_iconst (pc := 50) dX12_shares_50 ic_0 ?_
    refine g_istore_n (pc := 51) dX12_shares_51 (Nat.le_of_ble_eq_true rfl) (L' := [some (.ref 135), some (.int v1), some (.int v2), some (.int (0 : Int32)), none]) rfl ?_
    exact G_X12_shares_52 hd hkd hk_X12_shares xN v1 v2 (0 : Int32) u h
  · replace h := (if_pos c1).symm.trans h
    refine g_iload_n (pc := 8) dX12_shares_8 rfl ?_
    refine g_aload_n (pc := 9) dX12_shares_9 rfl ?_
    refine g_gI (pc := 10) dX12_shares_10 fI_RX12_426 xc_135 (v := (rd u 135 62)) rfl ?_
    refine g_icmp_le (tgt := 49) (pc := 13) dX12_shares_13 (by decide) (fun c2 => ?_) (fun c2 => ?_)
    · replace h := (if_pos c2).symm.trans h
      replace h := Option.some.inj h
      subst h
      exact g_ret (pc := 49) dX12_shares_49 rfl rfl rfl (Nat.le_refl _) (Nat.le_refl _)
    · replace h := (if_neg c2).symm.trans h
      refine g_aload_n (pc := 16) dX12_shares_16 rfl ?_
      refine g_iload_n (pc := 17) dX12_shares_17 rfl ?_
      refine g_pI (pc := 18) dX12_shares_18 pI_RX12_426 xc_135 (u' := (wr u 135 62 v2)) rfl ?_
      refine g_iconst (pc := 21) dX12_shares_21 ic_0 ?_
      refine g_istore_n (pc := 22) dX12_shares_22 (Nat.le_of_ble_eq_true rfl) (L' := [some (.ref 135), some (.int v1), some (.int v2), some (.int (0 : Int32)), none]) rfl ?_
      refine g_L (L' := [some (.ref 135), none, none, some (.int (0 : Int32)), none]) ⟨rfl, ⟨rfl, trivial⟩⟩ ?_
      exact G_X12_shares_23 hd hkd hk_X12_shares xN (0 : Int32) (wr u 135 62 v2) h
set_option maxRecDepth 100000 in
set_option maxHeartbeats 4000000 in
theorem M_X12_shares {sc : Nat × (Nat → Int32)} {d : Nat} (hd : 1 ≤ d) {u u' : xS} {dk : Nat} (hkd : dk + 1 ≤ d) {k_X12_shares : Int32 → Int32 → xS → Option xS} (hk_X12_shares : ∀ (a1 a2 : Int32) (u u' : xS), k_X12_shares a1 a2 u = some u' → xMt sc mX12_shares dk 0 0 [.ref 135, .int a1, .int a2] (xL0, u) none (xL0, u')) {a1 : Int32} {a2 : Int32} (h : f_X12_shares k_X12_shares a1 a2 u = some u') : xMt sc mX12_shares d 0 0 [.ref 135, .int a1, .int a2] (xL0, u) none (xL0, u') :=
  xMt.of (by decide +kernel) (by decide +kernel) (Nat.le_of_ble_eq_true rfl) (L := [some (.ref 135), some (.int a1), some (.int a2), none, none]) rfl ((G_X12_shares_0 hd hkd hk_X12_shares a1 a2 u h))
theorem Mr_shares {sc : Nat × (Nat → Int32)} : ∀ n : Nat, ∀ (a1 a2 : Int32) (u u' : xS), (fr_shares n) a1 a2 u = some u' → xMt sc mX12_shares (n + 1) 0 0 [.ref 135, .int a1, .int a2] (xL0, u) none (xL0, u') := by
  intro n
  induction n with
  | zero =>
    intro a1 a2 u u' h
    cases h
  | succ n ih =>
    intro a1 a2 u u' h
    exact M_X12_shares (dk := n + 1) (by omega) (by omega) ih h
set_option maxRecDepth 100000 in
set_option maxHeartbeats 4000000 in
theorem M_r_X12_shares {sc : Nat × (Nat → Int32)} {d : Nat} (hd : 13 ≤ d) {u u' : xS} {a1 a2 : Int32} (h : f_r_X12_shares a1 a2 u = some u') : xMt sc mX12_shares 13 0 0 [.ref 135, .int a1, .int a2] (xL0, u) none (xL0, u') := Mr_shares 12 _ _ _ _  h
set_option maxRecDepth 100000 in
set_option maxHeartbeats 4000000 in
theorem G_X12_share_23 {sc : Nat × (Nat → Int32)} {d : Nat} (hd : 14 ≤ d) {r : Int32} {u' : xS} : ∀ (n : Nat) (v1 : Int32) (u : xS), f_X12_share_23 n v1 u = some (r, u') → xG sc mX12_share d 0 0 (xR (some (.int r)) (xL0, u') 0 0) 0 0 23 [some (.ref 135), some (.int v1)] [] (xL0, u) := by
  intro n
  induction n with
  | zero =>
    intro v1 u h
    rw [f_X12_share_23] at h
    cases h
  | succ n ih =>
    intro v1 u h
    rw [f_X12_share_23] at h
    refine g_iload_n (pc := 23) dX12_share_23 rfl ?_
    refine g_aload_n (pc := 24) dX12_share_24 rfl ?_
    refine g_gI (pc := 25) dX12_share_25 fI_RX12_420 xc_135 (v := (rd u 135 54)) rfl ?_
    refine g_icmp_ge (tgt := 47) (pc := 28) dX12_share_28 (by decide) (fun c1 => ?_) (fun c1 => ?_)
    · replace h := (if_pos c1).symm.trans h
      refine g_aload_n (pc := 47) dX12_share_47 rfl ?_
      refine g_gI (pc := 48) dX12_share_48 fI_RX12_426 xc_135 (v := (rd u 135 62)) rfl ?_
      obtain ⟨h1, h2⟩ := x_inj2 h
      subst h1
      subst h2
      exact g_iret (pc := 51) dX12_share_51 rfl rfl rfl (Nat.le_refl _) (Nat.le_refl _)
    · replace h := (if_neg c1).symm.trans h
      refine g_aload_n (pc := 31) dX12_share_31 rfl ?_
      refine g_aload_n (pc := 32) dX12_share_32 rfl ?_
      refine g_gR (pc := 33) dX12_share_33 fR_RX12_144 xc_135 (v := 179) rfl ?_
      refine g_iload_n (pc := 36) dX12_share_36 rfl ?_
      obtain ⟨g2, h⟩ := x_gd h
      refine g_iaload (pc := 37) dX12_share_37 xc_179 (xin_of g2) (v := (rd u 179 v1.toNatClampNeg)) rfl ?_
      obtain ⟨u4, e3, h⟩ := x_bind h
      refine g_cV (pc := 38) dX12_share_38 cV_RX12_394 (M_X12_enters (Nat.le_refl _) e3) xc_135 (as := [.int (rd u 179 v1.toNatClampNeg)]) (st := []) rfl rfl (Nat.le_of_ble_eq_true rfl) (Nat.le_trans (Nat.le_of_ble_eq_true rfl) hd) rfl ?_
      refine g_inc (pc := 41) dX12_share_41 (Nat.le_of_ble_eq_true rfl) rfl ic_1 (L' := [some (.ref 135), some (.int (v1 + (1 : Int32)))]) rfl ?_
      refine g_goto (tgt := 23) (pc := 44) dX12_share_44 (by decide) ?_
      exact ih (v1 + (1 : Int32)) u4 h
set_option maxRecDepth 100000 in
set_option maxHeartbeats 4000000 in
theorem G_X12_share_0 {sc : Nat × (Nat → Int32)} {d : Nat} (hd : 14 ≤ d) {r : Int32} {u' : xS} (u : xS) (h : f_X12_share u = some (r, u')) : xG sc mX12_share d 0 0 (xR (some (.int r)) (xL0, u') 0 0) 0 0 0 [some (.ref 135), none] [] (xL0, u) := by
  rw [f_X12_share] at h
  refine g_aload_n (pc := 0) dX12_share_0 rfl ?_
  refine g_iconst (pc := 1) dX12_share_1 ic_0 ?_
  refine g_pI (pc := 2) dX12_share_2 pI_RX12_150 xc_135 (u' := (wr u 135 0 (0 : Int32))) rfl ?_
  refine g_aload_n (pc := 5) dX12_share_5 rfl ?_
  refine g_iconst (pc := 6) dX12_share_6 ic_m1 ?_
  refine g_pI (pc := 7) dX12_share_7 pI_RX12_426 xc_135 (u' := (wr (wr u 135 0 (0 : Int32)) 135 62 (-1 : Int32))) rfl ?_
  refine g_aload_n (pc := 10) dX12_share_10 rfl ?_
  refine g_iconst (pc := 11) dX12_share_11 ic_0 ?_
  refine g_iconst (pc := 12) dX12_share_12 ic_0 ?_
  obtain ⟨u2, e1, h⟩ := x_bind h
  refine g_cV (pc := 13) dX12_share_13 cV_RX12_429 (M_r_X12_shares (Nat.le_refl _) e1) xc_135 (as := [.int (0 : Int32), .int (0 : Int32)]) (st := []) rfl rfl (Nat.le_of_ble_eq_true rfl) (Nat.le_trans (Nat.le_of_ble_eq_true rfl) hd) rfl ?_
  refine g_aload_n (pc := 16) dX12_share_16 rfl ?_
  refine g_iconst (pc := 17) dX12_share_17 ic_0 ?_
  refine g_pI (pc := 18) dX12_share_18 pI_RX12_388 xc_135 (u' := (wr u2 135 43 (0 : Int32))) rfl ?_
  refine g_iconst (pc := 21) dX12_share_21 ic_0 ?_
  refine g_istore_n (pc := 22) dX12_share_22 (Nat.le_of_ble_eq_true rfl) (L' := [some (.ref 135), some (.int (0 : Int32))]) rfl ?_
  exact G_X12_share_23 hd xN (0 : Int32) (wr u2 135 43 (0 : Int32)) h
set_option maxRecDepth 100000 in
set_option maxHeartbeats 4000000 in
theorem M_X12_share {sc : Nat × (Nat → Int32)} {d : Nat} (hd : 14 ≤ d) {r : Int32} {u u' : xS} (h : f_X12_share u = some (r, u')) : xMt sc mX12_share d 0 0 [.ref 135] (xL0, u) (some (.int r)) (xL0, u') :=
  xMt.of (by decide +kernel) (by decide +kernel) (Nat.le_of_ble_eq_true rfl) (L := [some (.ref 135), none]) rfl ((G_X12_share_0 hd u h))
set_option maxRecDepth 100000 in
set_option maxHeartbeats 4000000 in
theorem G_X12_sign_18 {sc : Nat × (Nat → Int32)} {d : Nat} (hd : 0 ≤ d) {r : Int32} {u' : xS} : ∀ (n : Nat) (v1 : Int32) (v2 : Int32) (u : xS), f_X12_sign_18 n v1 v2 u = some (r, u') → xG sc mX12_sign d 0 0 (xR (some (.int r)) (xL0, u') 0 0) 0 0 18 [some (.ref 135), some (.int v1), some (.int v2)] [] (xL0, u) := by
  intro n
  induction n with
  | zero =>
    intro v1 v2 u h
    rw [f_X12_sign_18] at h
    cases h
  | succ n ih =>
    intro v1 v2 u h
    rw [f_X12_sign_18] at h
    refine g_iload_n (pc := 18) dX12_sign_18 rfl ?_
    refine g_iconst (pc := 19) dX12_sign_19 ic_4 ?_
    refine g_icmp_ge (tgt := 53) (pc := 20) dX12_sign_20 (by decide) (fun c1 => ?_) (fun c1 => ?_)
    · replace h := (if_pos c1).symm.trans h
      refine g_aload_n (pc := 53) dX12_sign_53 rfl ?_
      refine g_dup (pc := 54) dX12_sign_54 rfl ?_
      refine g_gI (pc := 55) dX12_sign_55 fI_RX12_256 xc_135 (v := (rd u 135 32)) rfl ?_
      refine g_iconst (pc := 58) dX12_sign_58 ic_4 ?_
      refine g_iadd (pc := 59) dX12_sign_59 rfl ?_
      refine g_pI (pc := 60) dX12_sign_60 pI_RX12_256 xc_135 (u' := (wr u 135 32 ((rd u 135 32) + (4 : Int32)))) rfl ?_
      refine g_aload_n (pc := 63) dX12_sign_63 rfl ?_
      refine g_gI (pc := 64) dX12_sign_64 fI_RX12_256 xc_135 (v := ((rd u 135 32) + (4 : Int32))) rfl ?_
      obtain ⟨h1, h2⟩ := x_inj2 h
      subst h1
      subst h2
      exact g_iret (pc := 67) dX12_sign_67 rfl rfl rfl (Nat.le_refl _) (Nat.le_refl _)
    · replace h := (if_neg c1).symm.trans h
      refine g_aload_n (pc := 23) dX12_sign_23 rfl ?_
      refine g_gR (pc := 24) dX12_sign_24 fR_RX12_84 xc_135 (v := 159) rfl ?_
      refine g_aload_n (pc := 27) dX12_sign_27 rfl ?_
      refine g_gI (pc := 28) dX12_sign_28 fI_RX12_256 xc_135 (v := (rd u 135 32)) rfl ?_
      refine g_iload_n (pc := 31) dX12_sign_31 rfl ?_
      refine g_iadd (pc := 32) dX12_sign_32 rfl ?_
      refine g_iload_n (pc := 33) dX12_sign_33 rfl ?_
      refine g_bipush (pc := 34) dX12_sign_34 bp_24 ?_
      refine g_bipush (pc := 36) dX12_sign_36 bp_8 ?_
      refine g_iload_n (pc := 38) dX12_sign_38 rfl ?_
      refine g_imul (pc := 39) dX12_sign_39 rfl ?_
      refine g_isub (pc := 40) dX12_sign_40 rfl ?_
      refine g_ishr (pc := 41) dX12_sign_41 rfl ?_
      refine g_sipush (pc := 42) dX12_sign_42 sp_255 ?_
      refine g_iand (pc := 45) dX12_sign_45 rfl ?_
      obtain ⟨g2, h⟩ := x_gd h
      refine g_iastore (pc := 46) dX12_sign_46 xc_159 (xin_of g2) (u' := (wr u 159 ((rd u 135 32) + v2).toNatClampNeg ((v1 >>> (((24 : Int32) - ((8 : Int32) * v2)) &&& 31)) &&& (255 : Int32)))) rfl ?_
      refine g_inc (pc := 47) dX12_sign_47 (Nat.le_of_ble_eq_true rfl) rfl ic_1 (L' := [some (.ref 135), some (.int v1), some (.int (v2 + (1 : Int32)))]) rfl ?_
      refine g_goto (tgt := 18) (pc := 50) dX12_sign_50 (by decide) ?_
      exact ih v1 (v2 + (1 : Int32)) (wr u 159 ((rd u 135 32) + v2).toNatClampNeg ((v1 >>> (((24 : Int32) - ((8 : Int32) * v2)) &&& 31)) &&& (255 : Int32))) h
set_option maxRecDepth 100000 in
set_option maxHeartbeats 4000000 in
theorem G_X12_sign_0 {sc : Nat × (Nat → Int32)} {d : Nat} (hd : 0 ≤ d) {r : Int32} {u' : xS} (v1 : Int32) (u : xS) (h : f_X12_sign v1 u = some (r, u')) : xG sc mX12_sign d 0 0 (xR (some (.int r)) (xL0, u') 0 0) 0 0 0 [some (.ref 135), some (.int v1), none] [] (xL0, u) := by
  rw [f_X12_sign] at h
  refine g_aload_n (pc := 0) dX12_sign_0 rfl ?_
  refine g_iconst (pc := 1) dX12_sign_1 ic_0 ?_
  refine g_pI (pc := 2) dX12_sign_2 pI_RX12_150 xc_135 (u' := (wr u 135 0 (0 : Int32))) rfl ?_
  refine g_aload_n (pc := 5) dX12_sign_5 rfl ?_
  refine g_gI (pc := 6) dX12_sign_6 fI_RX12_256 xc_135 (v := (rd u 135 32)) rfl ?_
  refine g_bipush (pc := 9) dX12_sign_9 bp_96 ?_
  refine g_icmp_le (tgt := 16) (pc := 11) dX12_sign_11 (by decide) (fun c1 => ?_) (fun c1 => ?_)
  · replace h := (if_pos c1).symm.trans h
    refine g_iconst (pc := 16) dX12_sign_16 ic_0 ?_
    refine g_istore_n (pc := 17) dX12_sign_17 (Nat.le_of_ble_eq_true rfl) (L' := [some (.ref 135), some (.int v1), some (.int (0 : Int32))]) rfl ?_
    exact G_X12_sign_18 hd xN v1 (0 : Int32) (wr u 135 0 (0 : Int32)) h
  · replace h := (if_neg c1).symm.trans h
    refine g_iconst (pc := 14) dX12_sign_14 ic_m1 ?_
    obtain ⟨h1, h2⟩ := x_inj2 h
    subst h1
    subst h2
    exact g_iret (pc := 15) dX12_sign_15 rfl rfl rfl (Nat.le_refl _) (Nat.le_refl _)
set_option maxRecDepth 100000 in
set_option maxHeartbeats 4000000 in
theorem M_X12_sign {sc : Nat × (Nat → Int32)} {d : Nat} (hd : 0 ≤ d) {r : Int32} {u u' : xS} {a1 : Int32} (h : f_X12_sign a1 u = some (r, u')) : xMt sc mX12_sign d 0 0 [.ref 135, .int a1] (xL0, u) (some (.int r)) (xL0, u') :=
  xMt.of (by decide +kernel) (by decide +kernel) (Nat.le_of_ble_eq_true rfl) (L := [some (.ref 135), some (.int a1), none]) rfl ((G_X12_sign_0 hd a1 u h))
set_option maxRecDepth 100000 in
set_option maxHeartbeats 4000000 in
theorem G_X12_sort_109 {sc : Nat × (Nat → Int32)} {d : Nat} (hd : 2 ≤ d) {r : Int32} {u' : xS} (v1 : Int32) (v2 : Int32) (v3 : Int32) (v4 : Int32) (v5 : Int32) (v6 : Int32) (v7 : Int32) (u : xS) (h : f_X12_sort_109 v1 v2 v3 v4 v5 v6 v7 u = some (r, u')) : xG sc mX12_sort d 0 0 (xR (some (.int r)) (xL0, u') 0 0) 0 0 109 [some (.ref 135), some (.int v1), some (.int v2), some (.int v3), some (.int v4), some (.int v5), some (.int v6), some (.int v7), none, none] [] (xL0, u) := by
  rw [f_X12_sort_109] at h
  refine g_aload_n (pc := 109) dX12_sort_109 rfl ?_
  refine g_gI (pc := 110) dX12_sort_110 fI_RX12_153 xc_135 (v := (rd u 135 1)) rfl ?_
  refine g_bipush (pc := 113) dX12_sort_113 bp_16 ?_
  refine g_icmp_ne (tgt := 120) (pc := 115) dX12_sort_115 (by decide) (fun c1 => ?_) (fun c1 => ?_)
  · replace h := (if_neg c1).symm.trans h
    refine g_bipush (pc := 120) dX12_sort_120 bp_7 ?_
    refine g_aload_n (pc := 122) dX12_sort_122 rfl ?_
    refine g_gI (pc := 123) dX12_sort_123 fI_RX12_153 xc_135 (v := (rd u 135 1)) rfl ?_
    refine g_imul (pc := 126) dX12_sort_126 rfl ?_
    refine g_istore (pc := 127) dX12_sort_127 (Nat.le_of_ble_eq_true rfl) (L' := [some (.ref 135), some (.int v1), some (.int v2), some (.int v3), some (.int v4), some (.int v5), some (.int v6), some (.int v7), none, some (.int ((7 : Int32) * (rd u 135 1)))]) rfl ?_
    refine g_aload_n (pc := 129) dX12_sort_129 rfl ?_
    refine g_gR (pc := 130) dX12_sort_130 fR_RX12_9 xc_135 (v := 136) rfl ?_
    refine g_iload (pc := 133) dX12_sort_133 rfl ?_
    refine g_iload_n (pc := 135) dX12_sort_135 rfl ?_
    obtain ⟨g2, h⟩ := x_gd h
    refine g_iastore (pc := 136) dX12_sort_136 xc_136 (xin_of g2) (u' := (wr u 136 ((7 : Int32) * (rd u 135 1)).toNatClampNeg v1)) rfl ?_
    refine g_aload_n (pc := 137) dX12_sort_137 rfl ?_
    refine g_gR (pc := 138) dX12_sort_138 fR_RX12_9 xc_135 (v := 136) rfl ?_
    refine g_iload (pc := 141) dX12_sort_141 rfl ?_
    refine g_iconst (pc := 143) dX12_sort_143 ic_1 ?_
    refine g_iadd (pc := 144) dX12_sort_144 rfl ?_
    refine g_iload_n (pc := 145) dX12_sort_145 rfl ?_
    obtain ⟨g3, h⟩ := x_gd h
    refine g_iastore (pc := 146) dX12_sort_146 xc_136 (xin_of g3) (u' := (wr (wr u 136 ((7 : Int32) * (rd u 135 1)).toNatClampNeg v1) 136 (((7 : Int32) * (rd u 135 1)) + (1 : Int32)).toNatClampNeg v2)) rfl ?_
    refine g_aload_n (pc := 147) dX12_sort_147 rfl ?_
    refine g_gR (pc := 148) dX12_sort_148 fR_RX12_9 xc_135 (v := 136) rfl ?_
    refine g_iload (pc := 151) dX12_sort_151 rfl ?_
    refine g_iconst (pc := 153) dX12_sort_153 ic_2 ?_
    refine g_iadd (pc := 154) dX12_sort_154 rfl ?_
    refine g_iload_n (pc := 155) dX12_sort_155 rfl ?_
    obtain ⟨g4, h⟩ := x_gd h
    refine g_iastore (pc := 156) dX12_sort_156 xc_136 (xin_of g4) (u' := (wr (wr (wr u 136 ((7 : Int32) * (rd u 135 1)).toNatClampNeg v1) 136 (((7 : Int32) * (rd u 135 1)) + (1 : Int32)).toNatClampNeg v2) 136 (((7 : Int32) * (rd u 135 1)) + (2 : Int32)).toNatClampNeg v3)) rfl ?_
    refine g_aload_n (pc := 157) dX12_sort_157 rfl ?_
    refine g_gR (pc := 158) dX12_sort_158 fR_RX12_9 xc_135 (v := 136) rfl ?_
    refine g_iload (pc := 161) dX12_sort_161 rfl ?_
    refine g_iconst (pc := 163) dX12_sort_163 ic_3 ?_
    refine g_iadd (pc := 164) dX12_sort_164 rfl ?_
    refine g_iload (pc := 165) dX12_sort_165 rfl ?_
    obtain ⟨g5, h⟩ := x_gd h
    refine g_iastore (pc := 167) dX12_sort_167 xc_136 (xin_of g5) (u' := (wr (wr (wr (wr u 136 ((7 : Int32) * (rd u 135 1)).toNatClampNeg v1) 136 (((7 : Int32) * (rd u 135 1)) + (1 : Int32)).toNatClampNeg v2) 136 (((7 : Int32) * (rd u 135 1)) + (2 : Int32)).toNatClampNeg v3) 136 (((7 : Int32) * (rd u 135 1)) + (3 : Int32)).toNatClampNeg v4)) rfl ?_
    refine g_aload_n (pc := 168) dX12_sort_168 rfl ?_
    refine g_gR (pc := 169) dX12_sort_169 fR_RX12_9 xc_135 (v := 136) rfl ?_
    refine g_iload (pc := 172) dX12_sort_172 rfl ?_
    refine g_iconst (pc := 174) dX12_sort_174 ic_4 ?_
    refine g_iadd (pc := 175) dX12_sort_175 rfl ?_
    refine g_iload (pc := 176) dX12_sort_176 rfl ?_
    obtain ⟨g6, h⟩ := x_gd h
    refine g_iastore (pc := 178) dX12_sort_178 xc_136 (xin_of g6) (u' := (wr (wr (wr (wr (wr u 136 ((7 : Int32) * (rd u 135 1)).toNatClampNeg v1) 136 (((7 : Int32) * (rd u 135 1)) + (1 : Int32)).toNatClampNeg v2) 136 (((7 : Int32) * (rd u 135 1)) + (2 : Int32)).toNatClampNeg v3) 136 (((7 : Int32) * (rd u 135 1)) + (3 : Int32)).toNatClampNeg v4) 136 (((7 : Int32) * (rd u 135 1)) + (4 : Int32)).toNatClampNeg v5)) rfl ?_
    refine g_aload_n (pc := 179) dX12_sort_179 rfl ?_
    refine g_gR (pc := 180) dX12_sort_180 fR_RX12_9 xc_135 (v := 136) rfl ?_
    refine g_iload (pc := 183) dX12_sort_183 rfl ?_
    refine g_iconst (pc := 185) dX12_sort_185 ic_5 ?_
    refine g_iadd (pc := 186) dX12_sort_186 rfl ?_
    refine g_iload (pc := 187) dX12_sort_187 rfl ?_
    obtain ⟨g7, h⟩ := x_gd h
    refine g_iastore (pc := 189) dX12_sort_189 xc_136 (xin_of g7) (u' := (wr (wr (wr (wr (wr (wr u 136 ((7 : Int32) * (rd u 135 1)).toNatClampNeg v1) 136 (((7 : Int32) * (rd u 135 1)) + (1 : Int32)).toNatClampNeg v2) 136 (((7 : Int32) * (rd u 135 1)) + (2 : Int32)).toNatClampNeg v3) 136 (((7 : Int32) * (rd u 135 1)) + (3 : Int32)).toNatClampNeg v4) 136 (((7 : Int32) * (rd u 135 1)) + (4 : Int32)).toNatClampNeg v5) 136 (((7 : Int32) * (rd u 135 1)) + (5 : Int32)).toNatClampNeg v6)) rfl ?_
    refine g_aload_n (pc := 190) dX12_sort_190 rfl ?_
    refine g_gR (pc := 191) dX12_sort_191 fR_RX12_9 xc_135 (v := 136) rfl ?_
    refine g_iload (pc := 194) dX12_sort_194 rfl ?_
    refine g_bipush (pc := 196) dX12_sort_196 bp_6 ?_
    refine g_iadd (pc := 198) dX12_sort_198 rfl ?_
    refine g_iload (pc := 199) dX12_sort_199 rfl ?_
    obtain ⟨g8, h⟩ := x_gd h
    refine g_iastore (pc := 201) dX12_sort_201 xc_136 (xin_of g8) (u' := (wr (wr (wr (wr (wr (wr (wr u 136 ((7 : Int32) * (rd u 135 1)).toNatClampNeg v1) 136 (((7 : Int32) * (rd u 135 1)) + (1 : Int32)).toNatClampNeg v2) 136 (((7 : Int32) * (rd u 135 1)) + (2 : Int32)).toNatClampNeg v3) 136 (((7 : Int32) * (rd u 135 1)) + (3 : Int32)).toNatClampNeg v4) 136 (((7 : Int32) * (rd u 135 1)) + (4 : Int32)).toNatClampNeg v5) 136 (((7 : Int32) * (rd u 135 1)) + (5 : Int32)).toNatClampNeg v6) 136 (((7 : Int32) * (rd u 135 1)) + (6 : Int32)).toNatClampNeg v7)) rfl ?_
    refine g_aload_n (pc := 202) dX12_sort_202 rfl ?_
    refine g_dup (pc := 203) dX12_sort_203 rfl ?_
    refine g_gI (pc := 204) dX12_sort_204 fI_RX12_153 xc_135 (v := (rd u 135 1)) rfl ?_
    refine g_iconst (pc := 207) dX12_sort_207 ic_1 ?_
    refine g_iadd (pc := 208) dX12_sort_208 rfl ?_
    refine g_pI (pc := 209) dX12_sort_209 pI_RX12_153 xc_135 (u' := (wr (wr (wr (wr (wr (wr (wr (wr u 136 ((7 : Int32) * (rd u 135 1)).toNatClampNeg v1) 136 (((7 : Int32) * (rd u 135 1)) + (1 : Int32)).toNatClampNeg v2) 136 (((7 : Int32) * (rd u 135 1)) + (2 : Int32)).toNatClampNeg v3) 136 (((7 : Int32) * (rd u 135 1)) + (3 : Int32)).toNatClampNeg v4) 136 (((7 : Int32) * (rd u 135 1)) + (4 : Int32)).toNatClampNeg v5) 136 (((7 : Int32) * (rd u 135 1)) + (5 : Int32)).toNatClampNeg v6) 136 (((7 : Int32) * (rd u 135 1)) + (6 : Int32)).toNatClampNeg v7) 135 1 ((rd u 135 1) + (1 : Int32)))) rfl ?_
    refine g_aload_n (pc := 212) dX12_sort_212 rfl ?_
    refine g_gI (pc := 213) dX12_sort_213 fI_RX12_153 xc_135 (v := ((rd u 135 1) + (1 : Int32))) rfl ?_
    refine g_iconst (pc := 216) dX12_sort_216 ic_1 ?_
    refine g_isub (pc := 217) dX12_sort_217 rfl ?_
    obtain ⟨h1, h2⟩ := x_inj2 h
    subst h1
    subst h2
    exact g_iret (pc := 218) dX12_sort_218 rfl rfl rfl (Nat.le_refl _) (Nat.le_refl _)
  · replace h := (if_pos c1).symm.trans h
    refine g_iconst (pc := 118) dX12_sort_118 ic_m1 ?_
    obtain ⟨h1, h2⟩ := x_inj2 h
    subst h1
    subst h2
    exact g_iret (pc := 119) dX12_sort_119 rfl rfl rfl (Nat.le_refl _) (Nat.le_refl _)
set_option maxRecDepth 100000 in
set_option maxHeartbeats 4000000 in
theorem G_X12_sort_87 {sc : Nat × (Nat → Int32)} {d : Nat} (hd : 2 ≤ d) {r : Int32} {u' : xS} (v1 : Int32) (v2 : Int32) (v3 : Int32) (v4 : Int32) (v5 : Int32) (v6 : Int32) (v7 : Int32) (s0 : Int32) (u : xS) (h : f_X12_sort_87 v1 v2 v3 v4 v5 v6 v7 s0 u = some (r, u')) : xG sc mX12_sort d 0 0 (xR (some (.int r)) (xL0, u') 0 0) 0 0 87 [some (.ref 135), some (.int v1), some (.int v2), some (.int v3), some (.int v4), some (.int v5), some (.int v6), some (.int v7), none, none] [.int s0] (xL0, u) := by
  rw [f_X12_sort_87] at h
  refine g_istore (pc := 87) dX12_sort_87 (Nat.le_of_ble_eq_true rfl) (L' := [some (.ref 135), some (.int v1), some (.int v2), some (.int v3), some (.int v4), some (.int v5), some (.int v6), some (.int v7), some (.int s0), none]) rfl ?_
  refine g_iload (pc := 89) dX12_sort_89 rfl ?_
  refine g_if_eq (tgt := 118) (pc := 91) dX12_sort_91 (by decide) (fun c1 => ?_) (fun c1 => ?_)
  · replace h := (if_pos c1).symm.trans h
    refine g_iconst (pc := 118) dX12_sort_118 ic_m1 ?_
    obtain ⟨h1, h2⟩ := x_inj2 h
    subst h1
    subst h2
    exact g_iret (pc := 119) dX12_sort_119 rfl rfl rfl (Nat.le_refl _) (Nat.le_refl _)
  · replace h := (if_neg c1).symm.trans h
    refine g_iload (pc := 94) dX12_sort_94 rfl ?_
    refine g_iconst (pc := 96) dX12_sort_96 ic_m1 ?_
    refine g_icmp_eq (tgt := 109) (pc := 97) dX12_sort_97 (by decide) (fun c2 => ?_) (fun c2 => ?_)
    · replace h := (if_pos c2).symm.trans h
      refine g_L (L' := [some (.ref 135), some (.int v1), some (.int v2), some (.int v3), some (.int v4), some (.int v5), some (.int v6), some (.int v7), none, none]) ⟨rfl, ⟨rfl, ⟨rfl, ⟨rfl, ⟨rfl, ⟨rfl, ⟨rfl, ⟨rfl, trivial⟩⟩⟩⟩⟩⟩⟩⟩ ?_
      exact G_X12_sort_109 hd v1 v2 v3 v4 v5 v6 v7 u h
    · replace h := (if_neg c2).symm.trans h
      refine g_aload_n (pc := 100) dX12_sort_100 rfl ?_
      refine g_iload (pc := 101) dX12_sort_101 rfl ?_
      refine g_cV (pc := 103) dX12_sort_103 cV_RX12_166 (M_X12_isSort (Nat.le_refl _) rfl) xc_135 (as := [.int v7]) (st := []) rfl rfl (Nat.le_of_ble_eq_true rfl) (Nat.le_trans (Nat.le_of_ble_eq_true rfl) hd) rfl ?_
      refine g_if_eq (tgt := 118) (pc := 106) dX12_sort_106 (by decide) (fun c3 => ?_) (fun c3 => ?_)
      · replace h := (if_pos c3).symm.trans h
        refine g_iconst (pc := 118) dX12_sort_118 ic_m1 ?_
        obtain ⟨h1, h2⟩ := x_inj2 h
        subst h1
        subst h2
        exact g_iret (pc := 119) dX12_sort_119 rfl rfl rfl (Nat.le_refl _) (Nat.le_refl _)
      · replace h := (if_neg c3).symm.trans h
        refine g_L (L' := [some (.ref 135), some (.int v1), some (.int v2), some (.int v3), some (.int v4), some (.int v5), some (.int v6), some (.int v7), none, none]) ⟨rfl, ⟨rfl, ⟨rfl, ⟨rfl, ⟨rfl, ⟨rfl, ⟨rfl, ⟨rfl, trivial⟩⟩⟩⟩⟩⟩⟩⟩ ?_
        exact G_X12_sort_109 hd v1 v2 v3 v4 v5 v6 v7 u h
set_option maxRecDepth 100000 in
set_option maxHeartbeats 4000000 in
theorem G_X12_sort_86 {sc : Nat × (Nat → Int32)} {d : Nat} (hd : 2 ≤ d) {r : Int32} {u' : xS} (v1 : Int32) (v2 : Int32) (v3 : Int32) (v4 : Int32) (v5 : Int32) (v6 : Int32) (v7 : Int32) (u : xS) (h : f_X12_sort_86 v1 v2 v3 v4 v5 v6 v7 u = some (r, u')) : xG sc mX12_sort d 0 0 (xR (some (.int r)) (xL0, u') 0 0) 0 0 86 [some (.ref 135), some (.int v1), some (.int v2), some (.int v3), some (.int v4), some (.int v5), some (.int v6), some (.int v7), none, none] [] (xL0, u) := by
  rw [f_X12_sort_86] at h
  refine g_iconst (pc := 86) dX12_sort_86 ic_0 ?_
  exact G_X12_sort_87 hd v1 v2 v3 v4 v5 v6 v7 (0 : Int32) u h
set_option maxRecDepth 100000 in
set_option maxHeartbeats 4000000 in
theorem G_X12_sort_0 {sc : Nat × (Nat → Int32)} {d : Nat} (hd : 2 ≤ d) {r : Int32} {u' : xS} (v1 : Int32) (v2 : Int32) (v3 : Int32) (v4 : Int32) (v5 : Int32) (v6 : Int32) (v7 : Int32) (u : xS) (h : f_X12_sort v1 v2 v3 v4 v5 v6 v7 u = some (r, u')) : xG sc mX12_sort d 0 0 (xR (some (.int r)) (xL0, u') 0 0) 0 0 0 [some (.ref 135), some (.int v1), some (.int v2), some (.int v3), some (.int v4), some (.int v5), some (.int v6), some (.int v7), none, none] [] (xL0, u) := by
  rw [f_X12_sort] at h
  refine g_aload_n (pc := 0) dX12_sort_0 rfl ?_
  refine g_iconst (pc := 1) dX12_sort_1 ic_0 ?_
  refine g_pI (pc := 2) dX12_sort_2 pI_RX12_150 xc_135 (u' := (wr u 135 0 (0 : Int32))) rfl ?_
  refine g_iload_n (pc := 5) dX12_sort_5 rfl ?_
  refine g_i2l (pc := 6) dX12_sort_6 rfl ?_
  refine g_lconst (v := (0 : Int64)) (pc := 7) dX12_sort_7 rfl ?_
  refine g_ldc2 (pc := 8) dX12_sort_8 kl_RX12_162 ?_
  refine g_cS (pc := 11) dX12_sort_11 cS_RX12_156 (M_X12_in (Nat.le_refl _) rfl) (as := [.long ((v1).toInt64), .long (0 : Int64), .long (255 : Int64)]) (st := []) rfl rfl (Nat.le_of_ble_eq_true rfl) (Nat.le_trans (Nat.le_of_ble_eq_true rfl) hd) rfl ?_
  refine g_if_eq (tgt := 86) (pc := 14) dX12_sort_14 (by decide) (fun c1 => ?_) (fun c1 => ?_)
  · replace h := (if_pos c1).symm.trans h
    exact G_X12_sort_86 hd v1 v2 v3 v4 v5 v6 v7 (wr u 135 0 (0 : Int32)) h
  · replace h := (if_neg c1).symm.trans h
    refine g_iload_n (pc := 17) dX12_sort_17 rfl ?_
    refine g_i2l (pc := 18) dX12_sort_18 rfl ?_
    refine g_lconst (v := (0 : Int64)) (pc := 19) dX12_sort_19 rfl ?_
    refine g_ldc2 (pc := 20) dX12_sort_20 kl_RX12_162 ?_
    refine g_cS (pc := 23) dX12_sort_23 cS_RX12_156 (M_X12_in (Nat.le_refl _) rfl) (as := [.long ((v2).toInt64), .long (0 : Int64), .long (255 : Int64)]) (st := []) rfl rfl (Nat.le_of_ble_eq_true rfl) (Nat.le_trans (Nat.le_of_ble_eq_true rfl) hd) rfl ?_
    refine g_if_eq (tgt := 86) (pc := 26) dX12_sort_26 (by decide) (fun c2 => ?_) (fun c2 => ?_)
    · replace h := (if_pos c2).symm.trans h
      exact G_X12_sort_86 hd v1 v2 v3 v4 v5 v6 v7 (wr u 135 0 (0 : Int32)) h
    · replace h := (if_neg c2).symm.trans h
      refine g_iload_n (pc := 29) dX12_sort_29 rfl ?_
      refine g_i2l (pc := 30) dX12_sort_30 rfl ?_
      refine g_lconst (v := (0 : Int64)) (pc := 31) dX12_sort_31 rfl ?_
      refine g_ldc2 (pc := 32) dX12_sort_32 kl_RX12_162 ?_
      refine g_cS (pc := 35) dX12_sort_35 cS_RX12_156 (M_X12_in (Nat.le_refl _) rfl) (as := [.long ((v3).toInt64), .long (0 : Int64), .long (255 : Int64)]) (st := []) rfl rfl (Nat.le_of_ble_eq_true rfl) (Nat.le_trans (Nat.le_of_ble_eq_true rfl) hd) rfl ?_
      refine g_if_eq (tgt := 86) (pc := 38) dX12_sort_38 (by decide) (fun c3 => ?_) (fun c3 => ?_)
      · replace h := (if_pos c3).symm.trans h
        exact G_X12_sort_86 hd v1 v2 v3 v4 v5 v6 v7 (wr u 135 0 (0 : Int32)) h
      · replace h := (if_neg c3).symm.trans h
        refine g_iload (pc := 41) dX12_sort_41 rfl ?_
        refine g_i2l (pc := 43) dX12_sort_43 rfl ?_
        refine g_lconst (v := (1 : Int64)) (pc := 44) dX12_sort_44 rfl ?_
        refine g_ldc2 (pc := 45) dX12_sort_45 kl_RX12_160 ?_
        refine g_cS (pc := 48) dX12_sort_48 cS_RX12_156 (M_X12_in (Nat.le_refl _) rfl) (as := [.long ((v4).toInt64), .long (1 : Int64), .long (99 : Int64)]) (st := []) rfl rfl (Nat.le_of_ble_eq_true rfl) (Nat.le_trans (Nat.le_of_ble_eq_true rfl) hd) rfl ?_
        refine g_if_eq (tgt := 86) (pc := 51) dX12_sort_51 (by decide) (fun c4 => ?_) (fun c4 => ?_)
        · replace h := (if_pos c4).symm.trans h
          exact G_X12_sort_86 hd v1 v2 v3 v4 v5 v6 v7 (wr u 135 0 (0 : Int32)) h
        · replace h := (if_neg c4).symm.trans h
          refine g_iload (pc := 54) dX12_sort_54 rfl ?_
          refine g_i2l (pc := 56) dX12_sort_56 rfl ?_
          refine g_lconst (v := (0 : Int64)) (pc := 57) dX12_sort_57 rfl ?_
          refine g_ldc2 (pc := 58) dX12_sort_58 kl_RX12_164 ?_
          refine g_cS (pc := 61) dX12_sort_61 cS_RX12_156 (M_X12_in (Nat.le_refl _) rfl) (as := [.long ((v5).toInt64), .long (0 : Int64), .long (1000 : Int64)]) (st := []) rfl rfl (Nat.le_of_ble_eq_true rfl) (Nat.le_trans (Nat.le_of_ble_eq_true rfl) hd) rfl ?_
          refine g_if_eq (tgt := 86) (pc := 64) dX12_sort_64 (by decide) (fun c5 => ?_) (fun c5 => ?_)
          · replace h := (if_pos c5).symm.trans h
            exact G_X12_sort_86 hd v1 v2 v3 v4 v5 v6 v7 (wr u 135 0 (0 : Int32)) h
          · replace h := (if_neg c5).symm.trans h
            refine g_iload (pc := 67) dX12_sort_67 rfl ?_
            refine g_i2l (pc := 69) dX12_sort_69 rfl ?_
            refine g_iload (pc := 70) dX12_sort_70 rfl ?_
            refine g_i2l (pc := 72) dX12_sort_72 rfl ?_
            refine g_ldc2 (pc := 73) dX12_sort_73 kl_RX12_164 ?_
            refine g_cS (pc := 76) dX12_sort_76 cS_RX12_156 (M_X12_in (Nat.le_refl _) rfl) (as := [.long ((v6).toInt64), .long ((v5).toInt64), .long (1000 : Int64)]) (st := []) rfl rfl (Nat.le_of_ble_eq_true rfl) (Nat.le_trans (Nat.le_of_ble_eq_true rfl) hd) rfl ?_
            refine g_if_eq (tgt := 86) (pc := 79) dX12_sort_79 (by decide) (fun c6 => ?_) (fun c6 => ?_)
            · replace h := (if_pos c6).symm.trans h
              exact G_X12_sort_86 hd v1 v2 v3 v4 v5 v6 v7 (wr u 135 0 (0 : Int32)) h
            · replace h := (if_neg c6).symm.trans h
              refine g_iconst (pc := 82) dX12_sort_82 ic_1 ?_
              refine g_goto (tgt := 87) (pc := 83) dX12_sort_83 (by decide) ?_
              exact G_X12_sort_87 hd v1 v2 v3 v4 v5 v6 v7 (1 : Int32) (wr u 135 0 (0 : Int32)) h
set_option maxRecDepth 100000 in
set_option maxHeartbeats 4000000 in
theorem M_X12_sort {sc : Nat × (Nat → Int32)} {d : Nat} (hd : 2 ≤ d) {r : Int32} {u u' : xS} {a1 : Int32} {a2 : Int32} {a3 : Int32} {a4 : Int32} {a5 : Int32} {a6 : Int32} {a7 : Int32} (h : f_X12_sort a1 a2 a3 a4 a5 a6 a7 u = some (r, u')) : xMt sc mX12_sort d 0 0 [.ref 135, .int a1, .int a2, .int a3, .int a4, .int a5, .int a6, .int a7] (xL0, u) (some (.int r)) (xL0, u') :=
  xMt.of (by decide +kernel) (by decide +kernel) (Nat.le_of_ble_eq_true rfl) (L := [some (.ref 135), some (.int a1), some (.int a2), some (.int a3), some (.int a4), some (.int a5), some (.int a6), some (.int a7), none, none]) rfl ((G_X12_sort_0 hd a1 a2 a3 a4 a5 a6 a7 u h))
set_option maxRecDepth 100000 in
set_option maxHeartbeats 4000000 in
theorem G_X12_split_20 {sc : Nat × (Nat → Int32)} {d : Nat} (hd : 2 ≤ d) {r : Int32} {u' : xS} (u : xS) (h : f_X12_split_20 u = some (r, u')) : xG sc mX12_split d 0 0 (xR (some (.int r)) (xL0, u') 0 0) 0 0 20 [some (.ref 135), none, none, none, none, none, none, none, none, none] [] (xL0, u) := by
  rw [f_X12_split_20] at h
  refine g_aload_n (pc := 20) dX12_split_20 rfl ?_
  obtain ⟨⟨x2, u3⟩, e1, h⟩ := x_bind h
  dsimp only at h
  refine g_cV (pc := 21) dX12_split_21 cV_RX12_347 (M_X12_refuse (Nat.le_refl _) e1) xc_135 (as := []) (st := []) rfl rfl (Nat.le_of_ble_eq_true rfl) (Nat.le_trans (Nat.le_of_ble_eq_true rfl) hd) rfl ?_
  obtain ⟨h1, h2⟩ := x_inj2 h
  subst h1
  subst h2
  exact g_iret (pc := 24) dX12_split_24 rfl rfl rfl (Nat.le_refl _) (Nat.le_refl _)
set_option maxRecDepth 100000 in
set_option maxHeartbeats 4000000 in
theorem G_X12_split_150 {sc : Nat × (Nat → Int32)} {d : Nat} (hd : 2 ≤ d) {r : Int32} {u' : xS} {k104 : Int32 → Int32 → Int64 → Int64 → Int64 → Int32 → xS → Option (Int32 × xS)} (hk104 : ∀ (v1 : Int32) (v2 : Int32) (v3 : Int64) (v5 : Int64) (v7 : Int64) (v9 : Int32) (u : xS), k104 v1 v2 v3 v5 v7 v9 u = some (r, u') → xG sc mX12_split d 0 0 (xR (some (.int r)) (xL0, u') 0 0) 0 0 104 [some (.ref 135), some (.int v1), some (.int v2), some (.long v3), none, some (.long v5), none, some (.long v7), none, some (.int v9)] [] (xL0, u)) (v1 : Int32) (v2 : Int32) (v3 : Int64) (v5 : Int64) (v9 : Int32) (s0 : Int64) (s1 : Int64) (u : xS) (h : f_X12_split_150 k104 v1 v2 v3 v5 v9 s0 s1 u = some (r, u')) : xG sc mX12_split d 0 0 (xR (some (.int r)) (xL0, u') 0 0) 0 0 150 [some (.ref 135), some (.int v1), some (.int v2), some (.long v3), none, some (.long v5), none, none, none, some (.int v9)] [.long s1, .long s0] (xL0, u) := by
  rw [f_X12_split_150] at h
  refine g_ladd (pc := 150) dX12_split_150 rfl ?_
  refine g_lstore (pc := 151) dX12_split_151 (Nat.le_of_ble_eq_true rfl) (Nat.le_of_ble_eq_true rfl) (L' := [some (.ref 135), some (.int v1), some (.int v2), some (.long v3), none, some (.long v5), none, some (.long (s0 + s1)), none, some (.int v9)]) rfl ?_
  refine g_inc (pc := 153) dX12_split_153 (Nat.le_of_ble_eq_true rfl) rfl ic_1 (L' := [some (.ref 135), some (.int v1), some (.int v2), some (.long v3), none, some (.long v5), none, some (.long (s0 + s1)), none, some (.int (v9 + (1 : Int32)))]) rfl ?_
  refine g_goto (tgt := 104) (pc := 156) dX12_split_156 (by decide) ?_
  exact hk104 v1 v2 v3 v5 (s0 + s1) (v9 + (1 : Int32)) u h
set_option maxRecDepth 100000 in
set_option maxHeartbeats 4000000 in
theorem G_X12_split_104 {sc : Nat × (Nat → Int32)} {d : Nat} (hd : 2 ≤ d) {r : Int32} {u' : xS} : ∀ (n : Nat) (v1 : Int32) (v2 : Int32) (v3 : Int64) (v5 : Int64) (v7 : Int64) (v9 : Int32) (u : xS), f_X12_split_104 n v1 v2 v3 v5 v7 v9 u = some (r, u') → xG sc mX12_split d 0 0 (xR (some (.int r)) (xL0, u') 0 0) 0 0 104 [some (.ref 135), some (.int v1), some (.int v2), some (.long v3), none, some (.long v5), none, some (.long v7), none, some (.int v9)] [] (xL0, u) := by
  intro n
  induction n with
  | zero =>
    intro v1 v2 v3 v5 v7 v9 u h
    rw [f_X12_split_104] at h
    cases h
  | succ n ih =>
    intro v1 v2 v3 v5 v7 v9 u h
    rw [f_X12_split_104] at h
    refine g_iload (pc := 104) dX12_split_104 rfl ?_
    refine g_aload_n (pc := 106) dX12_split_106 rfl ?_
    refine g_gI (pc := 107) dX12_split_107 fI_RX12_153 xc_135 (v := (rd u 135 1)) rfl ?_
    refine g_icmp_ge (tgt := 159) (pc := 110) dX12_split_110 (by decide) (fun c1 => ?_) (fun c1 => ?_)
    · replace h := (if_pos c1).symm.trans h
      refine g_lload (pc := 159) dX12_split_159 rfl ?_
      refine g_l2i (pc := 161) dX12_split_161 rfl ?_
      obtain ⟨h1, h2⟩ := x_inj2 h
      subst h1
      subst h2
      exact g_iret (pc := 162) dX12_split_162 rfl rfl rfl (Nat.le_refl _) (Nat.le_refl _)
    · replace h := (if_neg c1).symm.trans h
      refine g_lload (pc := 113) dX12_split_113 rfl ?_
      refine g_aload_n (pc := 115) dX12_split_115 rfl ?_
      refine g_iload (pc := 116) dX12_split_116 rfl ?_
      obtain ⟨x3, e2, h⟩ := x_bind h
      refine g_cV (pc := 118) dX12_split_118 cV_RX12_182 (M_X12_parent (Nat.le_refl _) e2) xc_135 (as := [.int v9]) (st := [.long v7]) rfl rfl (Nat.le_of_ble_eq_true rfl) (Nat.le_trans (Nat.le_of_ble_eq_true rfl) hd) rfl ?_
      refine g_iload_n (pc := 121) dX12_split_121 rfl ?_
      refine g_icmp_ne (tgt := 149) (pc := 122) dX12_split_122 (by decide) (fun c4 => ?_) (fun c4 => ?_)
      · replace h := (if_neg c4).symm.trans h
        refine g_lconst (v := (0 : Int64)) (pc := 149) dX12_split_149 rfl ?_
        refine g_L (L' := [some (.ref 135), some (.int v1), some (.int v2), some (.long v3), none, some (.long v5), none, none, none, some (.int v9)]) ⟨rfl, ⟨rfl, ⟨rfl, ⟨rfl, ⟨rfl, ⟨rfl, trivial⟩⟩⟩⟩⟩⟩ ?_
        exact G_X12_split_150 hd ih v1 v2 v3 v5 v9 v7 (0 : Int64) u h
      · replace h := (if_pos c4).symm.trans h
        refine g_lload (pc := 125) dX12_split_125 rfl ?_
        refine g_aload_n (pc := 127) dX12_split_127 rfl ?_
        refine g_iload (pc := 128) dX12_split_128 rfl ?_
        obtain ⟨x6, e5, h⟩ := x_bind h
        refine g_cV (pc := 130) dX12_split_130 cV_RX12_351 (M_X12_hadOf (Nat.le_refl _) e5) xc_135 (as := [.int v9]) (st := [.long v5, .long v7]) rfl rfl (Nat.le_of_ble_eq_true rfl) (Nat.le_trans (Nat.le_of_ble_eq_true rfl) hd) rfl ?_
        refine g_i2l (pc := 133) dX12_split_133 rfl ?_
        refine g_lmul (pc := 134) dX12_split_134 rfl ?_
        refine g_lload_n (pc := 135) dX12_split_135 rfl ?_
        obtain ⟨g7, h⟩ := x_gd h
        refine g_ldiv (pc := 136) dX12_split_136 (xnzJ_of g7) rfl ?_
        refine g_aload_n (pc := 137) dX12_split_137 rfl ?_
        refine g_iload (pc := 138) dX12_split_138 rfl ?_
        refine g_iload_n (pc := 140) dX12_split_140 rfl ?_
        obtain ⟨x9, e8, h⟩ := x_bind h
        refine g_cV (pc := 141) dX12_split_141 cV_RX12_178 (M_X12_priceOf (Nat.le_refl _) e8) xc_135 (as := [.int v9, .int v2]) (st := [.long ((v5 * ((x6).toInt64)) / v3), .long v7]) rfl rfl (Nat.le_of_ble_eq_true rfl) (Nat.le_trans (Nat.le_of_ble_eq_true rfl) hd) rfl ?_
        refine g_i2l (pc := 144) dX12_split_144 rfl ?_
        refine g_lmul (pc := 145) dX12_split_145 rfl ?_
        refine g_goto (tgt := 150) (pc := 146) dX12_split_146 (by decide) ?_
        refine g_L (L' := [some (.ref 135), some (.int v1), some (.int v2), some (.long v3), none, some (.long v5), none, none, none, some (.int v9)]) ⟨rfl, ⟨rfl, ⟨rfl, ⟨rfl, ⟨rfl, ⟨rfl, trivial⟩⟩⟩⟩⟩⟩ ?_
        exact G_X12_split_150 hd ih v1 v2 v3 v5 v9 v7 (((v5 * ((x6).toInt64)) / v3) * ((x9).toInt64)) u h
set_option maxRecDepth 100000 in
set_option maxHeartbeats 4000000 in
theorem G_X12_split_61 {sc : Nat × (Nat → Int32)} {d : Nat} (hd : 2 ≤ d) {r : Int32} {u' : xS} {k30 : Int32 → Int32 → Int64 → Int32 → xS → Option (Int32 × xS)} (hk30 : ∀ (v1 : Int32) (v2 : Int32) (v3 : Int64) (v5 : Int32) (u : xS), k30 v1 v2 v3 v5 u = some (r, u') → xG sc mX12_split d 0 0 (xR (some (.int r)) (xL0, u') 0 0) 0 0 30 [some (.ref 135), some (.int v1), some (.int v2), some (.long v3), none, some (.int v5), none, none, none, none] [] (xL0, u)) (v1 : Int32) (v2 : Int32) (v5 : Int32) (s0 : Int64) (s1 : Int64) (u : xS) (h : f_X12_split_61 k30 v1 v2 v5 s0 s1 u = some (r, u')) : xG sc mX12_split d 0 0 (xR (some (.int r)) (xL0, u') 0 0) 0 0 61 [some (.ref 135), some (.int v1), some (.int v2), none, none, some (.int v5), none, none, none, none] [.long s1, .long s0] (xL0, u) := by
  rw [f_X12_split_61] at h
  refine g_ladd (pc := 61) dX12_split_61 rfl ?_
  refine g_lstore_n (pc := 62) dX12_split_62 (Nat.le_of_ble_eq_true rfl) (Nat.le_of_ble_eq_true rfl) (L' := [some (.ref 135), some (.int v1), some (.int v2), some (.long (s0 + s1)), none, some (.int v5), none, none, none, none]) rfl ?_
  refine g_inc (pc := 63) dX12_split_63 (Nat.le_of_ble_eq_true rfl) rfl ic_1 (L' := [some (.ref 135), some (.int v1), some (.int v2), some (.long (s0 + s1)), none, some (.int (v5 + (1 : Int32))), none, none, none, none]) rfl ?_
  refine g_goto (tgt := 30) (pc := 66) dX12_split_66 (by decide) ?_
  exact hk30 v1 v2 (s0 + s1) (v5 + (1 : Int32)) u h
set_option maxRecDepth 100000 in
set_option maxHeartbeats 4000000 in
theorem G_X12_split_30 {sc : Nat × (Nat → Int32)} {d : Nat} (hd : 2 ≤ d) {r : Int32} {u' : xS} : ∀ (n : Nat) (v1 : Int32) (v2 : Int32) (v3 : Int64) (v5 : Int32) (u : xS), f_X12_split_30 n v1 v2 v3 v5 u = some (r, u') → xG sc mX12_split d 0 0 (xR (some (.int r)) (xL0, u') 0 0) 0 0 30 [some (.ref 135), some (.int v1), some (.int v2), some (.long v3), none, some (.int v5), none, none, none, none] [] (xL0, u) := by
  intro n
  induction n with
  | zero =>
    intro v1 v2 v3 v5 u h
    rw [f_X12_split_30] at h
    cases h
  | succ n ih =>
    intro v1 v2 v3 v5 u h
    rw [f_X12_split_30] at h
    refine g_iload (pc := 30) dX12_split_30 rfl ?_
    refine g_aload_n (pc := 32) dX12_split_32 rfl ?_
    refine g_gI (pc := 33) dX12_split_33 fI_RX12_153 xc_135 (v := (rd u 135 1)) rfl ?_
    refine g_icmp_ge (tgt := 69) (pc := 36) dX12_split_36 (by decide) (fun c1 => ?_) (fun c1 => ?_)
    · replace h := (if_pos c1).symm.trans h
      refine g_lload_n (pc := 69) dX12_split_69 rfl ?_
      refine g_lconst (v := (0 : Int64)) (pc := 70) dX12_split_70 rfl ?_
      refine g_lcmp (pc := 71) dX12_split_71 rfl ?_
      refine g_if_ne (tgt := 80) (pc := 72) dX12_split_72 (by decide) (fun c2 => ?_) (fun c2 => ?_)
      · replace h := (if_neg c2).symm.trans h
        refine g_aload_n (pc := 80) dX12_split_80 rfl ?_
        refine g_iload_n (pc := 81) dX12_split_81 rfl ?_
        obtain ⟨x4, e3, h⟩ := x_bind h
        refine g_cV (pc := 82) dX12_split_82 cV_RX12_340 (M_X12_stored (Nat.le_refl _) e3) xc_135 (as := [.int v1]) (st := []) rfl rfl (Nat.le_of_ble_eq_true rfl) (Nat.le_trans (Nat.le_of_ble_eq_true rfl) hd) rfl ?_
        refine g_i2l (pc := 85) dX12_split_85 rfl ?_
        refine g_lstore (pc := 86) dX12_split_86 (Nat.le_of_ble_eq_true rfl) (Nat.le_of_ble_eq_true rfl) (L' := [some (.ref 135), some (.int v1), some (.int v2), some (.long v3), none, some (.long ((x4).toInt64)), none, none, none, none]) rfl ?_
        refine g_lload (pc := 88) dX12_split_88 rfl ?_
        refine g_lneg (pc := 90) dX12_split_90 rfl ?_
        refine g_aload_n (pc := 91) dX12_split_91 rfl ?_
        refine g_iload_n (pc := 92) dX12_split_92 rfl ?_
        refine g_iload_n (pc := 93) dX12_split_93 rfl ?_
        obtain ⟨x6, e5, h⟩ := x_bind h
        refine g_cV (pc := 94) dX12_split_94 cV_RX12_178 (M_X12_priceOf (Nat.le_refl _) e5) xc_135 (as := [.int v1, .int v2]) (st := [.long (-((x4).toInt64))]) rfl rfl (Nat.le_of_ble_eq_true rfl) (Nat.le_trans (Nat.le_of_ble_eq_true rfl) hd) rfl ?_
        refine g_i2l (pc := 97) dX12_split_97 rfl ?_
        refine g_lmul (pc := 98) dX12_split_98 rfl ?_
        refine g_lstore (pc := 99) dX12_split_99 (Nat.le_of_ble_eq_true rfl) (Nat.le_of_ble_eq_true rfl) (L' := [some (.ref 135), some (.int v1), some (.int v2), some (.long v3), none, some (.long ((x4).toInt64)), none, some (.long ((-((x4).toInt64)) * ((x6).toInt64))), none, none]) rfl ?_
        refine g_iconst (pc := 101) dX12_split_101 ic_0 ?_
        refine g_istore (pc := 102) dX12_split_102 (Nat.le_of_ble_eq_true rfl) (L' := [some (.ref 135), some (.int v1), some (.int v2), some (.long v3), none, some (.long ((x4).toInt64)), none, some (.long ((-((x4).toInt64)) * ((x6).toInt64))), none, some (.int (0 : Int32))]) rfl ?_
        exact G_X12_split_104 hd xN v1 v2 v3 ((x4).toInt64) ((-((x4).toInt64)) * ((x6).toInt64)) (0 : Int32) u h
      · replace h := (if_pos c2).symm.trans h
        refine g_aload_n (pc := 75) dX12_split_75 rfl ?_
        obtain ⟨⟨x8, u9⟩, e7, h⟩ := x_bind h
        dsimp only at h
        refine g_cV (pc := 76) dX12_split_76 cV_RX12_347 (M_X12_refuse (Nat.le_refl _) e7) xc_135 (as := []) (st := []) rfl rfl (Nat.le_of_ble_eq_true rfl) (Nat.le_trans (Nat.le_of_ble_eq_true rfl) hd) rfl ?_
        obtain ⟨h1, h2⟩ := x_inj2 h
        subst h1
        subst h2
        exact g_iret (pc := 79) dX12_split_79 rfl rfl rfl (Nat.le_refl _) (Nat.le_refl _)
    · replace h := (if_neg c1).symm.trans h
      refine g_lload_n (pc := 39) dX12_split_39 rfl ?_
      refine g_aload_n (pc := 40) dX12_split_40 rfl ?_
      refine g_iload (pc := 41) dX12_split_41 rfl ?_
      obtain ⟨x12, e11, h⟩ := x_bind h
      refine g_cV (pc := 43) dX12_split_43 cV_RX12_182 (M_X12_parent (Nat.le_refl _) e11) xc_135 (as := [.int v5]) (st := [.long v3]) rfl rfl (Nat.le_of_ble_eq_true rfl) (Nat.le_trans (Nat.le_of_ble_eq_true rfl) hd) rfl ?_
      refine g_iload_n (pc := 46) dX12_split_46 rfl ?_
      refine g_icmp_ne (tgt := 60) (pc := 47) dX12_split_47 (by decide) (fun c13 => ?_) (fun c13 => ?_)
      · replace h := (if_neg c13).symm.trans h
        refine g_lconst (v := (0 : Int64)) (pc := 60) dX12_split_60 rfl ?_
        refine g_L (L' := [some (.ref 135), some (.int v1), some (.int v2), none, none, some (.int v5), none, none, none, none]) ⟨rfl, ⟨rfl, ⟨rfl, ⟨rfl, trivial⟩⟩⟩⟩ ?_
        exact G_X12_split_61 hd ih v1 v2 v5 v3 (0 : Int64) u h
      · replace h := (if_pos c13).symm.trans h
        refine g_aload_n (pc := 50) dX12_split_50 rfl ?_
        refine g_iload (pc := 51) dX12_split_51 rfl ?_
        obtain ⟨x15, e14, h⟩ := x_bind h
        refine g_cV (pc := 53) dX12_split_53 cV_RX12_351 (M_X12_hadOf (Nat.le_refl _) e14) xc_135 (as := [.int v5]) (st := [.long v3]) rfl rfl (Nat.le_of_ble_eq_true rfl) (Nat.le_trans (Nat.le_of_ble_eq_true rfl) hd) rfl ?_
        refine g_i2l (pc := 56) dX12_split_56 rfl ?_
        refine g_goto (tgt := 61) (pc := 57) dX12_split_57 (by decide) ?_
        refine g_L (L' := [some (.ref 135), some (.int v1), some (.int v2), none, none, some (.int v5), none, none, none, none]) ⟨rfl, ⟨rfl, ⟨rfl, ⟨rfl, trivial⟩⟩⟩⟩ ?_
        exact G_X12_split_61 hd ih v1 v2 v5 v3 ((x15).toInt64) u h
set_option maxRecDepth 100000 in
set_option maxHeartbeats 4000000 in
theorem G_X12_split_0 {sc : Nat × (Nat → Int32)} {d : Nat} (hd : 2 ≤ d) {r : Int32} {u' : xS} (v1 : Int32) (v2 : Int32) (u : xS) (h : f_X12_split v1 v2 u = some (r, u')) : xG sc mX12_split d 0 0 (xR (some (.int r)) (xL0, u') 0 0) 0 0 0 [some (.ref 135), some (.int v1), some (.int v2), none, none, none, none, none, none, none] [] (xL0, u) := by
  rw [f_X12_split] at h
  refine g_aload_n (pc := 0) dX12_split_0 rfl ?_
  refine g_iconst (pc := 1) dX12_split_1 ic_0 ?_
  refine g_pI (pc := 2) dX12_split_2 pI_RX12_150 xc_135 (u' := (wr u 135 0 (0 : Int32))) rfl ?_
  refine g_aload_n (pc := 5) dX12_split_5 rfl ?_
  refine g_iload_n (pc := 6) dX12_split_6 rfl ?_
  refine g_cV (pc := 7) dX12_split_7 cV_RX12_166 (M_X12_isSort (Nat.le_refl _) rfl) xc_135 (as := [.int v1]) (st := []) rfl rfl (Nat.le_of_ble_eq_true rfl) (Nat.le_trans (Nat.le_of_ble_eq_true rfl) hd) rfl ?_
  refine g_if_eq (tgt := 20) (pc := 10) dX12_split_10 (by decide) (fun c1 => ?_) (fun c1 => ?_)
  · replace h := (if_pos c1).symm.trans h
    refine g_L (L' := [some (.ref 135), none, none, none, none, none, none, none, none, none]) ⟨rfl, trivial⟩ ?_
    exact G_X12_split_20 hd (wr u 135 0 (0 : Int32)) h
  · replace h := (if_neg c1).symm.trans h
    refine g_iload_n (pc := 13) dX12_split_13 rfl ?_
    refine g_cS (pc := 14) dX12_split_14 cS_RX12_170 (M_X12_isWeek (Nat.le_refl _) rfl) (as := [.int v2]) (st := []) rfl rfl (Nat.le_of_ble_eq_true rfl) (Nat.le_trans (Nat.le_of_ble_eq_true rfl) hd) rfl ?_
    refine g_if_ne (tgt := 25) (pc := 17) dX12_split_17 (by decide) (fun c2 => ?_) (fun c2 => ?_)
    · replace h := (if_neg c2).symm.trans h
      refine g_lconst (v := (0 : Int64)) (pc := 25) dX12_split_25 rfl ?_
      refine g_lstore_n (pc := 26) dX12_split_26 (Nat.le_of_ble_eq_true rfl) (Nat.le_of_ble_eq_true rfl) (L' := [some (.ref 135), some (.int v1), some (.int v2), some (.long (0 : Int64)), none, none, none, none, none, none]) rfl ?_
      refine g_iconst (pc := 27) dX12_split_27 ic_0 ?_
      refine g_istore (pc := 28) dX12_split_28 (Nat.le_of_ble_eq_true rfl) (L' := [some (.ref 135), some (.int v1), some (.int v2), some (.long (0 : Int64)), none, some (.int (0 : Int32)), none, none, none, none]) rfl ?_
      exact G_X12_split_30 hd xN v1 v2 (0 : Int64) (0 : Int32) (wr u 135 0 (0 : Int32)) h
    · replace h := (if_pos c2).symm.trans h
      refine g_L (L' := [some (.ref 135), none, none, none, none, none, none, none, none, none]) ⟨rfl, trivial⟩ ?_
      exact G_X12_split_20 hd (wr u 135 0 (0 : Int32)) h
set_option maxRecDepth 100000 in
set_option maxHeartbeats 4000000 in
theorem M_X12_split {sc : Nat × (Nat → Int32)} {d : Nat} (hd : 2 ≤ d) {r : Int32} {u u' : xS} {a1 : Int32} {a2 : Int32} (h : f_X12_split a1 a2 u = some (r, u')) : xMt sc mX12_split d 0 0 [.ref 135, .int a1, .int a2] (xL0, u) (some (.int r)) (xL0, u') :=
  xMt.of (by decide +kernel) (by decide +kernel) (Nat.le_of_ble_eq_true rfl) (L := [some (.ref 135), some (.int a1), some (.int a2), none, none, none, none, none, none, none]) rfl ((G_X12_split_0 hd a1 a2 u h))
