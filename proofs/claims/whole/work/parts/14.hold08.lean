set_option maxRecDepth 100000 in
set_option maxHeartbeats 4000000 in
theorem G_X12_foretell_212 {sc : Nat × (Nat → Int32)} {d : Nat} (hd : 2 ≤ d) {r : Int32} {u' : xS} {k53 : Int32 → Int32 → Int32 → Int32 → Int32 → Int32 → Int32 → xS → Option (Int32 × xS)} (hk53 : ∀ (v1 : Int32) (v2 : Int32) (v3 : Int32) (v4 : Int32) (v5 : Int32) (v6 : Int32) (v7 : Int32) (u : xS), k53 v1 v2 v3 v4 v5 v6 v7 u = some (r, u') → xG sc mX12_foretell d 0 0 (xR (some (.int r)) (xL0, u') 0 0) 0 0 53 [some (.ref 135), some (.int v1), some (.int v2), some (.int v3), some (.int v4), some (.int v5), some (.int v6), some (.int v7), none, none] [] (xL0, u)) (v1 : Int32) (v2 : Int32) (v3 : Int32) (v4 : Int32) (v5 : Int32) (v6 : Int32) (v7 : Int32) (u : xS) (h : f_X12_foretell_212 k53 v1 v2 v3 v4 v5 v6 v7 u = some (r, u')) : xG sc mX12_foretell d 0 0 (xR (some (.int r)) (xL0, u') 0 0) 0 0 212 [some (.ref 135), some (.int v1), some (.int v2), some (.int v3), some (.int v4), some (.int v5), some (.int v6), some (.int v7), none, none] [] (xL0, u) := by
  rw [f_X12_foretell_212] at h
  refine g_inc (pc := 212) dX12_foretell_212 (Nat.le_of_ble_eq_true rfl) rfl ic_1 (L' := [some (.ref 135), some (.int v1), some (.int v2), some (.int v3), some (.int v4), some (.int v5), some (.int v6), some (.int (v7 + (1 : Int32))), none, none]) rfl ?_
  refine g_goto (tgt := 53) (pc := 215) dX12_foretell_215 (by decide) ?_
  exact hk53 v1 v2 v3 v4 v5 v6 (v7 + (1 : Int32)) u h
set_option maxRecDepth 100000 in
set_option maxHeartbeats 4000000 in
theorem G_X12_foretell_207 {sc : Nat × (Nat → Int32)} {d : Nat} (hd : 2 ≤ d) {r : Int32} {u' : xS} {k53 : Int32 → Int32 → Int32 → Int32 → Int32 → Int32 → Int32 → xS → Option (Int32 × xS)} (hk53 : ∀ (v1 : Int32) (v2 : Int32) (v3 : Int32) (v4 : Int32) (v5 : Int32) (v6 : Int32) (v7 : Int32) (u : xS), k53 v1 v2 v3 v4 v5 v6 v7 u = some (r, u') → xG sc mX12_foretell d 0 0 (xR (some (.int r)) (xL0, u') 0 0) 0 0 53 [some (.ref 135), some (.int v1), some (.int v2), some (.int v3), some (.int v4), some (.int v5), some (.int v6), some (.int v7), none, none] [] (xL0, u)) (v1 : Int32) (v2 : Int32) (v3 : Int32) (v4 : Int32) (v6 : Int32) (v7 : Int32) (s0 : Int32) (u : xS) (h : f_X12_foretell_207 k53 v1 v2 v3 v4 v6 v7 s0 u = some (r, u')) : xG sc mX12_foretell d 0 0 (xR (some (.int r)) (xL0, u') 0 0) 0 0 207 [some (.ref 135), some (.int v1), some (.int v2), some (.int v3), some (.int v4), none, some (.int v6), some (.int v7), none, none] [.int s0] (xL0, u) := by
  rw [f_X12_foretell_207] at h
  refine g_istore (pc := 207) dX12_foretell_207 (Nat.le_of_ble_eq_true rfl) (L' := [some (.ref 135), some (.int v1), some (.int v2), some (.int v3), some (.int v4), some (.int s0), some (.int v6), some (.int v7), none, none]) rfl ?_
  refine g_inc (pc := 209) dX12_foretell_209 (Nat.le_of_ble_eq_true rfl) rfl ic_1 (L' := [some (.ref 135), some (.int v1), some (.int v2), some (.int v3), some (.int v4), some (.int s0), some (.int (v6 + (1 : Int32))), some (.int v7), none, none]) rfl ?_
  exact G_X12_foretell_212 hd hk53 v1 v2 v3 v4 s0 (v6 + (1 : Int32)) v7 u h
set_option maxRecDepth 100000 in
set_option maxHeartbeats 4000000 in
theorem G_X12_foretell_188 {sc : Nat × (Nat → Int32)} {d : Nat} (hd : 2 ≤ d) {r : Int32} {u' : xS} {k53 : Int32 → Int32 → Int32 → Int32 → Int32 → Int32 → Int32 → xS → Option (Int32 × xS)} (hk53 : ∀ (v1 : Int32) (v2 : Int32) (v3 : Int32) (v4 : Int32) (v5 : Int32) (v6 : Int32) (v7 : Int32) (u : xS), k53 v1 v2 v3 v4 v5 v6 v7 u = some (r, u') → xG sc mX12_foretell d 0 0 (xR (some (.int r)) (xL0, u') 0 0) 0 0 53 [some (.ref 135), some (.int v1), some (.int v2), some (.int v3), some (.int v4), some (.int v5), some (.int v6), some (.int v7), none, none] [] (xL0, u)) (v1 : Int32) (v2 : Int32) (v3 : Int32) (v5 : Int32) (v6 : Int32) (v7 : Int32) (v9 : Int32) (s0 : Int32) (u : xS) (h : f_X12_foretell_188 k53 v1 v2 v3 v5 v6 v7 v9 s0 u = some (r, u')) : xG sc mX12_foretell d 0 0 (xR (some (.int r)) (xL0, u') 0 0) 0 0 188 [some (.ref 135), some (.int v1), some (.int v2), some (.int v3), none, some (.int v5), some (.int v6), some (.int v7), none, some (.int v9)] [.int s0] (xL0, u) := by
  rw [f_X12_foretell_188] at h
  refine g_istore (pc := 188) dX12_foretell_188 (Nat.le_of_ble_eq_true rfl) (L' := [some (.ref 135), some (.int v1), some (.int v2), some (.int v3), some (.int s0), some (.int v5), some (.int v6), some (.int v7), none, some (.int v9)]) rfl ?_
  refine g_iload (pc := 190) dX12_foretell_190 rfl ?_
  refine g_if_ne (tgt := 200) (pc := 192) dX12_foretell_192 (by decide) (fun c1 => ?_) (fun c1 => ?_)
  · replace h := (if_neg c1).symm.trans h
    refine g_iload (pc := 200) dX12_foretell_200 rfl ?_
    refine g_iload (pc := 202) dX12_foretell_202 rfl ?_
    refine g_max (pc := 204) dX12_foretell_204 mK_RX12_238 (Nat.le_of_ble_eq_true rfl) (Nat.le_trans (Nat.le_of_ble_eq_true rfl) hd) (Nat.zero_le _) (Nat.zero_le _) ?_
    refine g_L (L' := [some (.ref 135), some (.int v1), some (.int v2), some (.int v3), some (.int s0), none, some (.int v6), some (.int v7), none, none]) ⟨rfl, ⟨rfl, ⟨rfl, ⟨rfl, ⟨rfl, ⟨rfl, ⟨rfl, trivial⟩⟩⟩⟩⟩⟩⟩ ?_
    exact G_X12_foretell_207 hd hk53 v1 v2 v3 s0 v6 v7 (imax v5 v9) u h
  · replace h := (if_pos c1).symm.trans h
    refine g_iload (pc := 195) dX12_foretell_195 rfl ?_
    refine g_goto (tgt := 207) (pc := 197) dX12_foretell_197 (by decide) ?_
    refine g_L (L' := [some (.ref 135), some (.int v1), some (.int v2), some (.int v3), some (.int s0), none, some (.int v6), some (.int v7), none, none]) ⟨rfl, ⟨rfl, ⟨rfl, ⟨rfl, ⟨rfl, ⟨rfl, ⟨rfl, trivial⟩⟩⟩⟩⟩⟩⟩ ?_
    exact G_X12_foretell_207 hd hk53 v1 v2 v3 s0 v6 v7 v9 u h
set_option maxRecDepth 100000 in
set_option maxHeartbeats 4000000 in
theorem G_X12_foretell_146 {sc : Nat × (Nat → Int32)} {d : Nat} (hd : 2 ≤ d) {r : Int32} {u' : xS} {k108 : Int32 → Int32 → Int32 → Int32 → Int32 → Int32 → Int32 → Int32 → Int32 → xS → Option (Int32 × xS)} (hk108 : ∀ (v1 : Int32) (v2 : Int32) (v3 : Int32) (v4 : Int32) (v5 : Int32) (v6 : Int32) (v7 : Int32) (v8 : Int32) (v9 : Int32) (u : xS), k108 v1 v2 v3 v4 v5 v6 v7 v8 v9 u = some (r, u') → xG sc mX12_foretell d 0 0 (xR (some (.int r)) (xL0, u') 0 0) 0 0 108 [some (.ref 135), some (.int v1), some (.int v2), some (.int v3), some (.int v4), some (.int v5), some (.int v6), some (.int v7), some (.int v8), some (.int v9)] [] (xL0, u)) {k53 : Int32 → Int32 → Int32 → Int32 → Int32 → Int32 → Int32 → xS → Option (Int32 × xS)} (hk53 : ∀ (v1 : Int32) (v2 : Int32) (v3 : Int32) (v4 : Int32) (v5 : Int32) (v6 : Int32) (v7 : Int32) (u : xS), k53 v1 v2 v3 v4 v5 v6 v7 u = some (r, u') → xG sc mX12_foretell d 0 0 (xR (some (.int r)) (xL0, u') 0 0) 0 0 53 [some (.ref 135), some (.int v1), some (.int v2), some (.int v3), some (.int v4), some (.int v5), some (.int v6), some (.int v7), none, none] [] (xL0, u)) (v1 : Int32) (v2 : Int32) (v3 : Int32) (v4 : Int32) (v5 : Int32) (v6 : Int32) (v7 : Int32) (v9 : Int32) (s0 : Int32) (s1 : Int32) (u : xS) (h : f_X12_foretell_146 k108 k53 v1 v2 v3 v4 v5 v6 v7 v9 s0 s1 u = some (r, u')) : xG sc mX12_foretell d 0 0 (xR (some (.int r)) (xL0, u') 0 0) 0 0 146 [some (.ref 135), some (.int v1), some (.int v2), some (.int v3), some (.int v4), some (.int v5), some (.int v6), some (.int v7), none, some (.int v9)] [.int s1, .int s0] (xL0, u) := by
  rw [f_X12_foretell_146] at h
  refine g_iadd (pc := 146) dX12_foretell_146 rfl ?_
  refine g_istore (pc := 147) dX12_foretell_147 (Nat.le_of_ble_eq_true rfl) (L' := [some (.ref 135), some (.int v1), some (.int v2), some (.int v3), some (.int v4), some (.int v5), some (.int v6), some (.int v7), some (.int (s0 + s1)), some (.int v9)]) rfl ?_
  refine g_inc (pc := 149) dX12_foretell_149 (Nat.le_of_ble_eq_true rfl) rfl ic_1 (L' := [some (.ref 135), some (.int v1), some (.int v2), some (.int v3), some (.int v4), some (.int v5), some (.int v6), some (.int v7), some (.int (s0 + s1)), some (.int (v9 + (1 : Int32)))]) rfl ?_
  refine g_goto (tgt := 108) (pc := 152) dX12_foretell_152 (by decide) ?_
  exact hk108 v1 v2 v3 v4 v5 v6 v7 (s0 + s1) (v9 + (1 : Int32)) u h
set_option maxRecDepth 100000 in
set_option maxHeartbeats 4000000 in
theorem G_X12_foretell_108 {sc : Nat × (Nat → Int32)} {d : Nat} (hd : 2 ≤ d) {r : Int32} {u' : xS} {k53 : Int32 → Int32 → Int32 → Int32 → Int32 → Int32 → Int32 → xS → Option (Int32 × xS)} (hk53 : ∀ (v1 : Int32) (v2 : Int32) (v3 : Int32) (v4 : Int32) (v5 : Int32) (v6 : Int32) (v7 : Int32) (u : xS), k53 v1 v2 v3 v4 v5 v6 v7 u = some (r, u') → xG sc mX12_foretell d 0 0 (xR (some (.int r)) (xL0, u') 0 0) 0 0 53 [some (.ref 135), some (.int v1), some (.int v2), some (.int v3), some (.int v4), some (.int v5), some (.int v6), some (.int v7), none, none] [] (xL0, u)) : ∀ (n : Nat) (v1 : Int32) (v2 : Int32) (v3 : Int32) (v4 : Int32) (v5 : Int32) (v6 : Int32) (v7 : Int32) (v8 : Int32) (v9 : Int32) (u : xS), f_X12_foretell_108 k53 n v1 v2 v3 v4 v5 v6 v7 v8 v9 u = some (r, u') → xG sc mX12_foretell d 0 0 (xR (some (.int r)) (xL0, u') 0 0) 0 0 108 [some (.ref 135), some (.int v1), some (.int v2), some (.int v3), some (.int v4), some (.int v5), some (.int v6), some (.int v7), some (.int v8), some (.int v9)] [] (xL0, u) := by
  intro n
  induction n with
  | zero =>
    intro v1 v2 v3 v4 v5 v6 v7 v8 v9 u h
    rw [f_X12_foretell_108] at h
    cases h
  | succ n ih =>
    intro v1 v2 v3 v4 v5 v6 v7 v8 v9 u h
    rw [f_X12_foretell_108] at h
    refine g_iload (pc := 108) dX12_foretell_108 rfl ?_
    refine g_aload_n (pc := 110) dX12_foretell_110 rfl ?_
    refine g_gI (pc := 111) dX12_foretell_111 fI_RX12_153 xc_135 (v := (rd u 135 1)) rfl ?_
    refine g_icmp_ge (tgt := 155) (pc := 114) dX12_foretell_114 (by decide) (fun c1 => ?_) (fun c1 => ?_)
    · replace h := (if_pos c1).symm.trans h
      refine g_iload (pc := 155) dX12_foretell_155 rfl ?_
      refine g_sipush (pc := 157) dX12_foretell_157 sp_1000 ?_
      refine g_imul (pc := 160) dX12_foretell_160 rfl ?_
      refine g_aload_n (pc := 161) dX12_foretell_161 rfl ?_
      refine g_gR (pc := 162) dX12_foretell_162 fR_RX12_28 xc_135 (v := 142) rfl ?_
      refine g_iload (pc := 165) dX12_foretell_165 rfl ?_
      obtain ⟨g2, h⟩ := x_gd h
      refine g_iaload (pc := 167) dX12_foretell_167 xc_142 (xin_of g2) (v := (rd u 142 v7.toNatClampNeg)) rfl ?_
      obtain ⟨g3, h⟩ := x_gd h
      refine g_idiv (pc := 168) dX12_foretell_168 (xnz_of g3) rfl ?_
      refine g_istore (pc := 169) dX12_foretell_169 (Nat.le_of_ble_eq_true rfl) (L' := [some (.ref 135), some (.int v1), some (.int v2), some (.int v3), some (.int v4), some (.int v5), some (.int v6), some (.int v7), some (.int v8), some (.int ((v8 * (1000 : Int32)) / (rd u 142 v7.toNatClampNeg)))]) rfl ?_
      refine g_iload (pc := 171) dX12_foretell_171 rfl ?_
      refine g_if_ne (tgt := 181) (pc := 173) dX12_foretell_173 (by decide) (fun c4 => ?_) (fun c4 => ?_)
      · replace h := (if_neg c4).symm.trans h
        refine g_iload (pc := 181) dX12_foretell_181 rfl ?_
        refine g_iload (pc := 183) dX12_foretell_183 rfl ?_
        refine g_min (pc := 185) dX12_foretell_185 mK_RX12_250 (Nat.le_of_ble_eq_true rfl) (Nat.le_trans (Nat.le_of_ble_eq_true rfl) hd) (Nat.zero_le _) (Nat.zero_le _) ?_
        refine g_L (L' := [some (.ref 135), some (.int v1), some (.int v2), some (.int v3), none, some (.int v5), some (.int v6), some (.int v7), none, some (.int ((v8 * (1000 : Int32)) / (rd u 142 v7.toNatClampNeg)))]) ⟨rfl, ⟨rfl, ⟨rfl, ⟨rfl, ⟨rfl, ⟨rfl, ⟨rfl, ⟨rfl, trivial⟩⟩⟩⟩⟩⟩⟩⟩ ?_
        exact G_X12_foretell_188 hd hk53 v1 v2 v3 v5 v6 v7 ((v8 * (1000 : Int32)) / (rd u 142 v7.toNatClampNeg)) (imin v4 ((v8 * (1000 : Int32)) / (rd u 142 v7.toNatClampNeg))) u h
      · replace h := (if_pos c4).symm.trans h
        refine g_iload (pc := 176) dX12_foretell_176 rfl ?_
        refine g_goto (tgt := 188) (pc := 178) dX12_foretell_178 (by decide) ?_
        refine g_L (L' := [some (.ref 135), some (.int v1), some (.int v2), some (.int v3), none, some (.int v5), some (.int v6), some (.int v7), none, some (.int ((v8 * (1000 : Int32)) / (rd u 142 v7.toNatClampNeg)))]) ⟨rfl, ⟨rfl, ⟨rfl, ⟨rfl, ⟨rfl, ⟨rfl, ⟨rfl, ⟨rfl, trivial⟩⟩⟩⟩⟩⟩⟩⟩ ?_
        exact G_X12_foretell_188 hd hk53 v1 v2 v3 v5 v6 v7 ((v8 * (1000 : Int32)) / (rd u 142 v7.toNatClampNeg)) ((v8 * (1000 : Int32)) / (rd u 142 v7.toNatClampNeg)) u h
    · replace h := (if_neg c1).symm.trans h
      refine g_iload (pc := 117) dX12_foretell_117 rfl ?_
      refine g_aload_n (pc := 119) dX12_foretell_119 rfl ?_
      refine g_iload (pc := 120) dX12_foretell_120 rfl ?_
      refine g_iload_n (pc := 122) dX12_foretell_122 rfl ?_
      obtain ⟨x6, e5, h⟩ := x_bind h
      refine g_cV (pc := 123) dX12_foretell_123 cV_RX12_186 (M_X12_isWithin (Nat.le_refl _) e5) xc_135 (as := [.int v9, .int v3]) (st := [.int v8]) rfl rfl (Nat.le_of_ble_eq_true rfl) (Nat.le_trans (Nat.le_of_ble_eq_true rfl) hd) rfl ?_
      refine g_if_eq (tgt := 145) (pc := 126) dX12_foretell_126 (by decide) (fun c7 => ?_) (fun c7 => ?_)
      · replace h := (if_pos c7).symm.trans h
        refine g_iconst (pc := 145) dX12_foretell_145 ic_0 ?_
        refine g_L (L' := [some (.ref 135), some (.int v1), some (.int v2), some (.int v3), some (.int v4), some (.int v5), some (.int v6), some (.int v7), none, some (.int v9)]) ⟨rfl, ⟨rfl, ⟨rfl, ⟨rfl, ⟨rfl, ⟨rfl, ⟨rfl, ⟨rfl, ⟨rfl, trivial⟩⟩⟩⟩⟩⟩⟩⟩⟩ ?_
        exact G_X12_foretell_146 hd ih hk53 v1 v2 v3 v4 v5 v6 v7 v9 v8 (0 : Int32) u h
      · replace h := (if_neg c7).symm.trans h
        refine g_aload_n (pc := 129) dX12_foretell_129 rfl ?_
        refine g_gR (pc := 130) dX12_foretell_130 fR_RX12_40 xc_135 (v := 146) rfl ?_
        refine g_bipush (pc := 133) dX12_foretell_133 bp_24 ?_
        refine g_iload (pc := 135) dX12_foretell_135 rfl ?_
        refine g_imul (pc := 137) dX12_foretell_137 rfl ?_
        refine g_iload (pc := 138) dX12_foretell_138 rfl ?_
        refine g_iadd (pc := 140) dX12_foretell_140 rfl ?_
        obtain ⟨g8, h⟩ := x_gd h
        refine g_iaload (pc := 141) dX12_foretell_141 xc_146 (xin_of g8) (v := (rd u 146 (((24 : Int32) * v9) + v7).toNatClampNeg)) rfl ?_
        refine g_goto (tgt := 146) (pc := 142) dX12_foretell_142 (by decide) ?_
        refine g_L (L' := [some (.ref 135), some (.int v1), some (.int v2), some (.int v3), some (.int v4), some (.int v5), some (.int v6), some (.int v7), none, some (.int v9)]) ⟨rfl, ⟨rfl, ⟨rfl, ⟨rfl, ⟨rfl, ⟨rfl, ⟨rfl, ⟨rfl, ⟨rfl, trivial⟩⟩⟩⟩⟩⟩⟩⟩⟩ ?_
        exact G_X12_foretell_146 hd ih hk53 v1 v2 v3 v4 v5 v6 v7 v9 v8 (rd u 146 (((24 : Int32) * v9) + v7).toNatClampNeg) u h
set_option maxRecDepth 100000 in
set_option maxHeartbeats 4000000 in
theorem G_X12_foretell_102 {sc : Nat × (Nat → Int32)} {d : Nat} (hd : 2 ≤ d) {r : Int32} {u' : xS} {k53 : Int32 → Int32 → Int32 → Int32 → Int32 → Int32 → Int32 → xS → Option (Int32 × xS)} (hk53 : ∀ (v1 : Int32) (v2 : Int32) (v3 : Int32) (v4 : Int32) (v5 : Int32) (v6 : Int32) (v7 : Int32) (u : xS), k53 v1 v2 v3 v4 v5 v6 v7 u = some (r, u') → xG sc mX12_foretell d 0 0 (xR (some (.int r)) (xL0, u') 0 0) 0 0 53 [some (.ref 135), some (.int v1), some (.int v2), some (.int v3), some (.int v4), some (.int v5), some (.int v6), some (.int v7), none, none] [] (xL0, u)) (v1 : Int32) (v2 : Int32) (v3 : Int32) (v4 : Int32) (v5 : Int32) (v6 : Int32) (v7 : Int32) (u : xS) (h : f_X12_foretell_102 k53 v1 v2 v3 v4 v5 v6 v7 u = some (r, u')) : xG sc mX12_foretell d 0 0 (xR (some (.int r)) (xL0, u') 0 0) 0 0 102 [some (.ref 135), some (.int v1), some (.int v2), some (.int v3), some (.int v4), some (.int v5), some (.int v6), some (.int v7), none, none] [] (xL0, u) := by
  rw [f_X12_foretell_102] at h
  refine g_iconst (pc := 102) dX12_foretell_102 ic_0 ?_
  refine g_istore (pc := 103) dX12_foretell_103 (Nat.le_of_ble_eq_true rfl) (L' := [some (.ref 135), some (.int v1), some (.int v2), some (.int v3), some (.int v4), some (.int v5), some (.int v6), some (.int v7), some (.int (0 : Int32)), none]) rfl ?_
  refine g_iconst (pc := 105) dX12_foretell_105 ic_0 ?_
  refine g_istore (pc := 106) dX12_foretell_106 (Nat.le_of_ble_eq_true rfl) (L' := [some (.ref 135), some (.int v1), some (.int v2), some (.int v3), some (.int v4), some (.int v5), some (.int v6), some (.int v7), some (.int (0 : Int32)), some (.int (0 : Int32))]) rfl ?_
  exact G_X12_foretell_108 hd hk53 xN v1 v2 v3 v4 v5 v6 v7 (0 : Int32) (0 : Int32) u h
set_option maxRecDepth 100000 in
set_option maxHeartbeats 4000000 in
theorem G_X12_foretell_53 {sc : Nat × (Nat → Int32)} {d : Nat} (hd : 2 ≤ d) {r : Int32} {u' : xS} : ∀ (n : Nat) (v1 : Int32) (v2 : Int32) (v3 : Int32) (v4 : Int32) (v5 : Int32) (v6 : Int32) (v7 : Int32) (u : xS), f_X12_foretell_53 n v1 v2 v3 v4 v5 v6 v7 u = some (r, u') → xG sc mX12_foretell d 0 0 (xR (some (.int r)) (xL0, u') 0 0) 0 0 53 [some (.ref 135), some (.int v1), some (.int v2), some (.int v3), some (.int v4), some (.int v5), some (.int v6), some (.int v7), none, none] [] (xL0, u) := by
  intro n
  induction n with
  | zero =>
    intro v1 v2 v3 v4 v5 v6 v7 u h
    rw [f_X12_foretell_53] at h
    cases h
  | succ n ih =>
    intro v1 v2 v3 v4 v5 v6 v7 u h
    rw [f_X12_foretell_53] at h
    refine g_iload (pc := 53) dX12_foretell_53 rfl ?_
    refine g_aload_n (pc := 55) dX12_foretell_55 rfl ?_
    refine g_gI (pc := 56) dX12_foretell_56 fI_RX12_194 xc_135 (v := (rd u 135 7)) rfl ?_
    refine g_icmp_ge (tgt := 218) (pc := 59) dX12_foretell_59 (by decide) (fun c1 => ?_) (fun c1 => ?_)
    · replace h := (if_pos c1).symm.trans h
      refine g_iload (pc := 218) dX12_foretell_218 rfl ?_
      refine g_if_ne (tgt := 225) (pc := 220) dX12_foretell_220 (by decide) (fun c2 => ?_) (fun c2 => ?_)
      · replace h := (if_neg c2).symm.trans h
        refine g_aload_n (pc := 225) dX12_foretell_225 rfl ?_
        refine g_iconst (pc := 226) dX12_foretell_226 ic_0 ?_
        refine g_pI (pc := 227) dX12_foretell_227 pI_RX12_388 xc_135 (u' := (wr u 135 43 (0 : Int32))) rfl ?_
        refine g_aload_n (pc := 230) dX12_foretell_230 rfl ?_
        refine g_iload (pc := 231) dX12_foretell_231 rfl ?_
        obtain ⟨u4, e3, h⟩ := x_bind h
        refine g_cV (pc := 233) dX12_foretell_233 cV_RX12_394 (M_X12_enters (Nat.le_refl _) e3) xc_135 (as := [.int v4]) (st := []) rfl rfl (Nat.le_of_ble_eq_true rfl) (Nat.le_trans (Nat.le_of_ble_eq_true rfl) hd) rfl ?_
        refine g_aload_n (pc := 236) dX12_foretell_236 rfl ?_
        refine g_iload (pc := 237) dX12_foretell_237 rfl ?_
        obtain ⟨u6, e5, h⟩ := x_bind h
        refine g_cV (pc := 239) dX12_foretell_239 cV_RX12_394 (M_X12_enters (Nat.le_refl _) e5) xc_135 (as := [.int v5]) (st := []) rfl rfl (Nat.le_of_ble_eq_true rfl) (Nat.le_trans (Nat.le_of_ble_eq_true rfl) hd) rfl ?_
        refine g_aload_n (pc := 242) dX12_foretell_242 rfl ?_
        refine g_iload (pc := 243) dX12_foretell_243 rfl ?_
        obtain ⟨u8, e7, h⟩ := x_bind h
        refine g_cV (pc := 245) dX12_foretell_245 cV_RX12_394 (M_X12_enters (Nat.le_refl _) e7) xc_135 (as := [.int v6]) (st := []) rfl rfl (Nat.le_of_ble_eq_true rfl) (Nat.le_trans (Nat.le_of_ble_eq_true rfl) hd) rfl ?_
        refine g_iload (pc := 248) dX12_foretell_248 rfl ?_
        obtain ⟨h1, h2⟩ := x_inj2 h
        subst h1
        subst h2
        exact g_iret (pc := 250) dX12_foretell_250 rfl rfl rfl (Nat.le_refl _) (Nat.le_refl _)
      · replace h := (if_pos c2).symm.trans h
        refine g_iconst (pc := 223) dX12_foretell_223 ic_m1 ?_
        obtain ⟨h1, h2⟩ := x_inj2 h
        subst h1
        subst h2
        exact g_iret (pc := 224) dX12_foretell_224 rfl rfl rfl (Nat.le_refl _) (Nat.le_refl _)
    · replace h := (if_neg c1).symm.trans h
      refine g_aload_n (pc := 62) dX12_foretell_62 rfl ?_
      refine g_gR (pc := 63) dX12_foretell_63 fR_RX12_34 xc_135 (v := 144) rfl ?_
      refine g_iload (pc := 66) dX12_foretell_66 rfl ?_
      obtain ⟨g9, h⟩ := x_gd h
      refine g_iaload (pc := 68) dX12_foretell_68 xc_144 (xin_of g9) (v := (rd u 144 v7.toNatClampNeg)) rfl ?_
      refine g_if_lt (tgt := 212) (pc := 69) dX12_foretell_69 (by decide) (fun c10 => ?_) (fun c10 => ?_)
      · replace h := (if_pos c10).symm.trans h
        exact G_X12_foretell_212 hd ih v1 v2 v3 v4 v5 v6 v7 u h
      · replace h := (if_neg c10).symm.trans h
        refine g_aload_n (pc := 72) dX12_foretell_72 rfl ?_
        refine g_gR (pc := 73) dX12_foretell_73 fR_RX12_22 xc_135 (v := 140) rfl ?_
        refine g_iload (pc := 76) dX12_foretell_76 rfl ?_
        refine g_iaload (pc := 78) dX12_foretell_78 xc_140 (xin_of g9) (v := (rd u 140 v7.toNatClampNeg)) rfl ?_
        refine g_iload_n (pc := 79) dX12_foretell_79 rfl ?_
        refine g_icmp_ne (tgt := 212) (pc := 80) dX12_foretell_80 (by decide) (fun c11 => ?_) (fun c11 => ?_)
        · replace h := (if_neg c11).symm.trans h
          exact G_X12_foretell_212 hd ih v1 v2 v3 v4 v5 v6 v7 u h
        · replace h := (if_pos c11).symm.trans h
          refine g_iload_n (pc := 83) dX12_foretell_83 rfl ?_
          refine g_iconst (pc := 84) dX12_foretell_84 ic_m1 ?_
          refine g_icmp_eq (tgt := 102) (pc := 85) dX12_foretell_85 (by decide) (fun c12 => ?_) (fun c12 => ?_)
          · replace h := (if_pos c12).symm.trans h
            exact G_X12_foretell_102 hd ih v1 v2 v3 v4 v5 v6 v7 u h
          · replace h := (if_neg c12).symm.trans h
            refine g_aload_n (pc := 88) dX12_foretell_88 rfl ?_
            refine g_gR (pc := 89) dX12_foretell_89 fR_RX12_25 xc_135 (v := 141) rfl ?_
            refine g_iload (pc := 92) dX12_foretell_92 rfl ?_
            refine g_iaload (pc := 94) dX12_foretell_94 xc_141 (xin_of g9) (v := (rd u 141 v7.toNatClampNeg)) rfl ?_
            refine g_iload_n (pc := 95) dX12_foretell_95 rfl ?_
            refine g_icmp_eq (tgt := 102) (pc := 96) dX12_foretell_96 (by decide) (fun c13 => ?_) (fun c13 => ?_)
            · replace h := (if_pos c13).symm.trans h
              exact G_X12_foretell_102 hd ih v1 v2 v3 v4 v5 v6 v7 u h
            · replace h := (if_neg c13).symm.trans h
              refine g_goto (tgt := 212) (pc := 99) dX12_foretell_99 (by decide) ?_
              exact G_X12_foretell_212 hd ih v1 v2 v3 v4 v5 v6 v7 u h
set_option maxRecDepth 100000 in
set_option maxHeartbeats 4000000 in
theorem G_X12_foretell_0 {sc : Nat × (Nat → Int32)} {d : Nat} (hd : 2 ≤ d) {r : Int32} {u' : xS} (v1 : Int32) (v2 : Int32) (v3 : Int32) (u : xS) (h : f_X12_foretell v1 v2 v3 u = some (r, u')) : xG sc mX12_foretell d 0 0 (xR (some (.int r)) (xL0, u') 0 0) 0 0 0 [some (.ref 135), some (.int v1), some (.int v2), some (.int v3), none, none, none, none, none, none] [] (xL0, u) := by
  rw [f_X12_foretell] at h
  refine g_aload_n (pc := 0) dX12_foretell_0 rfl ?_
  refine g_iconst (pc := 1) dX12_foretell_1 ic_0 ?_
  refine g_pI (pc := 2) dX12_foretell_2 pI_RX12_150 xc_135 (u' := (wr u 135 0 (0 : Int32))) rfl ?_
  refine g_iload_n (pc := 5) dX12_foretell_5 rfl ?_
  refine g_i2l (pc := 6) dX12_foretell_6 rfl ?_
  refine g_lconst (v := (0 : Int64)) (pc := 7) dX12_foretell_7 rfl ?_
  refine g_ldc2 (pc := 8) dX12_foretell_8 kl_RX12_197 ?_
  refine g_cS (pc := 11) dX12_foretell_11 cS_RX12_156 (M_X12_in (Nat.le_refl _) rfl) (as := [.long ((v1).toInt64), .long (0 : Int64), .long (3 : Int64)]) (st := []) rfl rfl (Nat.le_of_ble_eq_true rfl) (Nat.le_trans (Nat.le_of_ble_eq_true rfl) hd) rfl ?_
  refine g_if_eq (tgt := 39) (pc := 14) dX12_foretell_14 (by decide) (fun c1 => ?_) (fun c1 => ?_)
  · replace h := (if_pos c1).symm.trans h
    refine g_iconst (pc := 39) dX12_foretell_39 ic_m1 ?_
    obtain ⟨h1, h2⟩ := x_inj2 h
    subst h1
    subst h2
    exact g_iret (pc := 40) dX12_foretell_40 rfl rfl rfl (Nat.le_refl _) (Nat.le_refl _)
  · replace h := (if_neg c1).symm.trans h
    refine g_iload_n (pc := 17) dX12_foretell_17 rfl ?_
    refine g_i2l (pc := 18) dX12_foretell_18 rfl ?_
    refine g_ldc2 (pc := 19) dX12_foretell_19 kl_RX12_407 ?_
    refine g_ldc2 (pc := 22) dX12_foretell_22 kl_RX12_199 ?_
    refine g_cS (pc := 25) dX12_foretell_25 cS_RX12_156 (M_X12_in (Nat.le_refl _) rfl) (as := [.long ((v2).toInt64), .long (-1 : Int64), .long (7 : Int64)]) (st := []) rfl rfl (Nat.le_of_ble_eq_true rfl) (Nat.le_trans (Nat.le_of_ble_eq_true rfl) hd) rfl ?_
    refine g_if_eq (tgt := 39) (pc := 28) dX12_foretell_28 (by decide) (fun c2 => ?_) (fun c2 => ?_)
    · replace h := (if_pos c2).symm.trans h
      refine g_iconst (pc := 39) dX12_foretell_39 ic_m1 ?_
      obtain ⟨h1, h2⟩ := x_inj2 h
      subst h1
      subst h2
      exact g_iret (pc := 40) dX12_foretell_40 rfl rfl rfl (Nat.le_refl _) (Nat.le_refl _)
    · replace h := (if_neg c2).symm.trans h
      refine g_aload_n (pc := 31) dX12_foretell_31 rfl ?_
      refine g_iload_n (pc := 32) dX12_foretell_32 rfl ?_
      refine g_cV (pc := 33) dX12_foretell_33 cV_RX12_166 (M_X12_isSort (Nat.le_refl _) rfl) xc_135 (as := [.int v3]) (st := []) rfl rfl (Nat.le_of_ble_eq_true rfl) (Nat.le_trans (Nat.le_of_ble_eq_true rfl) hd) rfl ?_
      refine g_if_ne (tgt := 41) (pc := 36) dX12_foretell_36 (by decide) (fun c3 => ?_) (fun c3 => ?_)
      · replace h := (if_neg c3).symm.trans h
        refine g_iconst (pc := 41) dX12_foretell_41 ic_0 ?_
        refine g_istore (pc := 42) dX12_foretell_42 (Nat.le_of_ble_eq_true rfl) (L' := [some (.ref 135), some (.int v1), some (.int v2), some (.int v3), some (.int (0 : Int32)), none, none, none, none, none]) rfl ?_
        refine g_iconst (pc := 44) dX12_foretell_44 ic_0 ?_
        refine g_istore (pc := 45) dX12_foretell_45 (Nat.le_of_ble_eq_true rfl) (L' := [some (.ref 135), some (.int v1), some (.int v2), some (.int v3), some (.int (0 : Int32)), some (.int (0 : Int32)), none, none, none, none]) rfl ?_
        refine g_iconst (pc := 47) dX12_foretell_47 ic_0 ?_
        refine g_istore (pc := 48) dX12_foretell_48 (Nat.le_of_ble_eq_true rfl) (L' := [some (.ref 135), some (.int v1), some (.int v2), some (.int v3), some (.int (0 : Int32)), some (.int (0 : Int32)), some (.int (0 : Int32)), none, none, none]) rfl ?_
        refine g_iconst (pc := 50) dX12_foretell_50 ic_0 ?_
        refine g_istore (pc := 51) dX12_foretell_51 (Nat.le_of_ble_eq_true rfl) (L' := [some (.ref 135), some (.int v1), some (.int v2), some (.int v3), some (.int (0 : Int32)), some (.int (0 : Int32)), some (.int (0 : Int32)), some (.int (0 : Int32)), none, none]) rfl ?_
        exact G_X12_foretell_53 hd xN v1 v2 v3 (0 : Int32) (0 : Int32) (0 : Int32) (0 : Int32) (wr u 135 0 (0 : Int32)) h
      · replace h := (if_pos c3).symm.trans h
        refine g_iconst (pc := 39) dX12_foretell_39 ic_m1 ?_
        obtain ⟨h1, h2⟩ := x_inj2 h
        subst h1
        subst h2
        exact g_iret (pc := 40) dX12_foretell_40 rfl rfl rfl (Nat.le_refl _) (Nat.le_refl _)
set_option maxRecDepth 100000 in
set_option maxHeartbeats 4000000 in
theorem M_X12_foretell {sc : Nat × (Nat → Int32)} {d : Nat} (hd : 2 ≤ d) {r : Int32} {u u' : xS} {a1 : Int32} {a2 : Int32} {a3 : Int32} (h : f_X12_foretell a1 a2 a3 u = some (r, u')) : xMt sc mX12_foretell d 0 0 [.ref 135, .int a1, .int a2, .int a3] (xL0, u) (some (.int r)) (xL0, u') :=
  xMt.of (by decide +kernel) (by decide +kernel) (Nat.le_of_ble_eq_true rfl) (L := [some (.ref 135), some (.int a1), some (.int a2), some (.int a3), none, none, none, none, none, none]) rfl ((G_X12_foretell_0 hd a1 a2 a3 u h))
set_option maxRecDepth 100000 in
set_option maxHeartbeats 4000000 in
theorem G_X12_given_44 {sc : Nat × (Nat → Int32)} {d : Nat} (hd : 0 ≤ d) {r : Int32} {u : xS} (h : f_X12_given_44 u = some r) : xG sc mX12_given d 0 0 (xR (some (.int r)) (xL0, u) 0 0) 0 0 44 [none, none, none, none, none] [] (xL0, u) := by
  rw [f_X12_given_44] at h
  refine g_bipush (pc := 44) dX12_given_44 bp_m2 ?_
  refine g_goto (tgt := 67) (pc := 46) dX12_given_46 (by decide) ?_
  replace h := Option.some.inj h
  subst h
  exact g_iret (pc := 67) dX12_given_67 rfl rfl rfl (Nat.le_refl _) (Nat.le_refl _)
set_option maxRecDepth 100000 in
set_option maxHeartbeats 4000000 in
theorem G_X12_given_0 {sc : Nat × (Nat → Int32)} {d : Nat} (hd : 0 ≤ d) {r : Int32} {u : xS} (v1 : Int32) (v2 : Int32) (h : f_X12_given u v1 v2 = some r) : xG sc mX12_given d 0 0 (xR (some (.int r)) (xL0, u) 0 0) 0 0 0 [some (.ref 135), some (.int v1), some (.int v2), none, none] [] (xL0, u) := by
  rw [f_X12_given] at h
  refine g_aload_n (pc := 0) dX12_given_0 rfl ?_
  refine g_gR (pc := 1) dX12_given_1 fR_RX12_123 xc_135 (v := 172) rfl ?_
  refine g_bipush (pc := 4) dX12_given_4 bp_16 ?_
  refine g_iload_n (pc := 6) dX12_given_6 rfl ?_
  refine g_imul (pc := 7) dX12_given_7 rfl ?_
  refine g_aload_n (pc := 8) dX12_given_8 rfl ?_
  refine g_gR (pc := 9) dX12_given_9 fR_RX12_129 xc_135 (v := 174) rfl ?_
  refine g_iload_n (pc := 12) dX12_given_12 rfl ?_
  obtain ⟨g1, h⟩ := x_gd h
  refine g_iaload (pc := 13) dX12_given_13 xc_174 (xin_of g1) (v := (rd u 174 v2.toNatClampNeg)) rfl ?_
  refine g_iadd (pc := 14) dX12_given_14 rfl ?_
  obtain ⟨g2, h⟩ := x_gd h
  refine g_iaload (pc := 15) dX12_given_15 xc_172 (xin_of g2) (v := (rd u 172 (((16 : Int32) * v1) + (rd u 174 v2.toNatClampNeg)).toNatClampNeg)) rfl ?_
  refine g_istore_n (pc := 16) dX12_given_16 (Nat.le_of_ble_eq_true rfl) (L' := [some (.ref 135), some (.int v1), some (.int v2), some (.int (rd u 172 (((16 : Int32) * v1) + (rd u 174 v2.toNatClampNeg)).toNatClampNeg)), none]) rfl ?_
  refine g_aload_n (pc := 17) dX12_given_17 rfl ?_
  refine g_gR (pc := 18) dX12_given_18 fR_RX12_123 xc_135 (v := 172) rfl ?_
  refine g_bipush (pc := 21) dX12_given_21 bp_16 ?_
  refine g_iload_n (pc := 23) dX12_given_23 rfl ?_
  refine g_imul (pc := 24) dX12_given_24 rfl ?_
  refine g_aload_n (pc := 25) dX12_given_25 rfl ?_
  refine g_gR (pc := 26) dX12_given_26 fR_RX12_135 xc_135 (v := 176) rfl ?_
  refine g_iload_n (pc := 29) dX12_given_29 rfl ?_
  refine g_iaload (pc := 30) dX12_given_30 xc_176 (xin_of g1) (v := (rd u 176 v2.toNatClampNeg)) rfl ?_
  refine g_iadd (pc := 31) dX12_given_31 rfl ?_
  obtain ⟨g3, h⟩ := x_gd h
  refine g_iaload (pc := 32) dX12_given_32 xc_172 (xin_of g3) (v := (rd u 172 (((16 : Int32) * v1) + (rd u 176 v2.toNatClampNeg)).toNatClampNeg)) rfl ?_
  refine g_istore (pc := 33) dX12_given_33 (Nat.le_of_ble_eq_true rfl) (L' := [some (.ref 135), some (.int v1), some (.int v2), some (.int (rd u 172 (((16 : Int32) * v1) + (rd u 174 v2.toNatClampNeg)).toNatClampNeg)), some (.int (rd u 172 (((16 : Int32) * v1) + (rd u 176 v2.toNatClampNeg)).toNatClampNeg))]) rfl ?_
  refine g_iload_n (pc := 35) dX12_given_35 rfl ?_
  refine g_if_lt (tgt := 44) (pc := 36) dX12_given_36 (by decide) (fun c4 => ?_) (fun c4 => ?_)
  · replace h := (if_pos c4).symm.trans h
    refine g_L (L' := [none, none, none, none, none]) trivial ?_
    exact G_X12_given_44 hd h
  · replace h := (if_neg c4).symm.trans h
    refine g_iload (pc := 39) dX12_given_39 rfl ?_
    refine g_if_ge (tgt := 49) (pc := 41) dX12_given_41 (by decide) (fun c5 => ?_) (fun c5 => ?_)
    · replace h := (if_pos c5).symm.trans h
      refine g_iload_n (pc := 49) dX12_given_49 rfl ?_
      refine g_aload_n (pc := 50) dX12_given_50 rfl ?_
      refine g_gR (pc := 51) dX12_given_51 fR_RX12_132 xc_135 (v := 175) rfl ?_
      refine g_iload_n (pc := 54) dX12_given_54 rfl ?_
      refine g_iaload (pc := 55) dX12_given_55 xc_175 (xin_of g1) (v := (rd u 175 v2.toNatClampNeg)) rfl ?_
      refine g_imul (pc := 56) dX12_given_56 rfl ?_
      refine g_iload (pc := 57) dX12_given_57 rfl ?_
      refine g_aload_n (pc := 59) dX12_given_59 rfl ?_
      refine g_gR (pc := 60) dX12_given_60 fR_RX12_138 xc_135 (v := 177) rfl ?_
      refine g_iload_n (pc := 63) dX12_given_63 rfl ?_
      refine g_iaload (pc := 64) dX12_given_64 xc_177 (xin_of g1) (v := (rd u 177 v2.toNatClampNeg)) rfl ?_
      refine g_imul (pc := 65) dX12_given_65 rfl ?_
      refine g_iadd (pc := 66) dX12_given_66 rfl ?_
      replace h := Option.some.inj h
      subst h
      exact g_iret (pc := 67) dX12_given_67 rfl rfl rfl (Nat.le_refl _) (Nat.le_refl _)
    · replace h := (if_neg c5).symm.trans h
      refine g_L (L' := [none, none, none, none, none]) trivial ?_
      exact G_X12_given_44 hd h
set_option maxRecDepth 100000 in
set_option maxHeartbeats 4000000 in
theorem M_X12_given {sc : Nat × (Nat → Int32)} {d : Nat} (hd : 0 ≤ d) {r : Int32} {u : xS} {a1 : Int32} {a2 : Int32} (h : f_X12_given u a1 a2 = some r) : xMt sc mX12_given d 0 0 [.ref 135, .int a1, .int a2] (xL0, u) (some (.int r)) (xL0, u) :=
  xMt.of (by decide +kernel) (by decide +kernel) (Nat.le_of_ble_eq_true rfl) (L := [some (.ref 135), some (.int a1), some (.int a2), none, none]) rfl ((G_X12_given_0 hd a1 a2 h))
theorem zb_X12_isLand (v0 : Int32) : f_X12_isLand v0 = 0 ∨ f_X12_isLand v0 = 1 := by
  unfold f_X12_isLand
  repeat' first | exact Or.inl rfl | exact Or.inr rfl | exact zb_X12_in _ _ _ | apply x_ite
set_option maxRecDepth 100000 in
set_option maxHeartbeats 4000000 in
theorem G_X12_isLand_0 {sc : Nat × (Nat → Int32)} {d : Nat} (hd : 1 ≤ d) {r : Int32} {u : xS} (v0 : Int32) (h : f_X12_isLand v0 = r) : xG sc mX12_isLand d 0 0 (xR (some (.int r)) (xL0, u) 0 0) 0 0 0 [some (.int v0)] [] (xL0, u) := by
  rw [f_X12_isLand] at h
  refine g_iload_n (pc := 0) dX12_isLand_0 rfl ?_
  refine g_i2l (pc := 1) dX12_isLand_1 rfl ?_
  refine g_lconst (v := (0 : Int64)) (pc := 2) dX12_isLand_2 rfl ?_
  refine g_ldc2 (pc := 3) dX12_isLand_3 kl_RX12_197 ?_
  refine g_cS (pc := 6) dX12_isLand_6 cS_RX12_156 (M_X12_in (Nat.le_refl _) rfl) (as := [.long ((v0).toInt64), .long (0 : Int64), .long (3 : Int64)]) (st := []) rfl rfl (Nat.le_of_ble_eq_true rfl) (Nat.le_trans (Nat.le_of_ble_eq_true rfl) hd) rfl ?_
  subst h
  exact g_zret (pc := 9) dX12_isLand_9 rfl (zb_X12_in _ _ _) rfl rfl (Nat.le_refl _) (Nat.le_refl _)
set_option maxRecDepth 100000 in
set_option maxHeartbeats 4000000 in
theorem M_X12_isLand {sc : Nat × (Nat → Int32)} {d : Nat} (hd : 1 ≤ d) {r : Int32} {u : xS} {a0 : Int32} (h : f_X12_isLand a0 = r) : xMt sc mX12_isLand d 0 0 [.int a0] (xL0, u) (some (.int r)) (xL0, u) :=
  xMt.of (by decide +kernel) (by decide +kernel) (Nat.le_of_ble_eq_true rfl) (L := [some (.int a0)]) rfl ((G_X12_isLand_0 hd a0 h))
set_option maxRecDepth 100000 in
set_option maxHeartbeats 4000000 in
theorem G_X12_gives_0 {sc : Nat × (Nat → Int32)} {d : Nat} (hd : 2 ≤ d) {r : Int32} {u' : xS} (v1 : Int32) (v2 : Int32) (u : xS) (h : f_X12_gives v1 v2 u = some (r, u')) : xG sc mX12_gives d 0 0 (xR (some (.int r)) (xL0, u') 0 0) 0 0 0 [some (.ref 135), some (.int v1), some (.int v2)] [] (xL0, u) := by
  rw [f_X12_gives] at h
  refine g_aload_n (pc := 0) dX12_gives_0 rfl ?_
  refine g_iconst (pc := 1) dX12_gives_1 ic_0 ?_
  refine g_pI (pc := 2) dX12_gives_2 pI_RX12_150 xc_135 (u' := (wr u 135 0 (0 : Int32))) rfl ?_
  refine g_iload_n (pc := 5) dX12_gives_5 rfl ?_
  refine g_cS (pc := 6) dX12_gives_6 cS_RX12_415 (M_X12_isLand (Nat.le_refl _) rfl) (as := [.int v1]) (st := []) rfl rfl (Nat.le_of_ble_eq_true rfl) (Nat.le_trans (Nat.le_of_ble_eq_true rfl) hd) rfl ?_
  refine g_if_eq (tgt := 37) (pc := 9) dX12_gives_9 (by decide) (fun c1 => ?_) (fun c1 => ?_)
  · replace h := (if_pos c1).symm.trans h
    refine g_iconst (pc := 37) dX12_gives_37 ic_m1 ?_
    obtain ⟨h1, h2⟩ := x_inj2 h
    subst h1
    subst h2
    exact g_iret (pc := 38) dX12_gives_38 rfl rfl rfl (Nat.le_refl _) (Nat.le_refl _)
  · replace h := (if_neg c1).symm.trans h
    refine g_iload_n (pc := 12) dX12_gives_12 rfl ?_
    refine g_i2l (pc := 13) dX12_gives_13 rfl ?_
    refine g_lconst (v := (0 : Int64)) (pc := 14) dX12_gives_14 rfl ?_
    refine g_aload_n (pc := 15) dX12_gives_15 rfl ?_
    refine g_gI (pc := 16) dX12_gives_16 fI_RX12_420 xc_135 (v := (rd u 135 54)) rfl ?_
    refine g_iconst (pc := 19) dX12_gives_19 ic_1 ?_
    refine g_isub (pc := 20) dX12_gives_20 rfl ?_
    refine g_i2l (pc := 21) dX12_gives_21 rfl ?_
    refine g_cS (pc := 22) dX12_gives_22 cS_RX12_156 (M_X12_in (Nat.le_refl _) rfl) (as := [.long ((v2).toInt64), .long (0 : Int64), .long (((rd u 135 54) - (1 : Int32)).toInt64)]) (st := []) rfl rfl (Nat.le_of_ble_eq_true rfl) (Nat.le_trans (Nat.le_of_ble_eq_true rfl) hd) rfl ?_
    refine g_if_eq (tgt := 37) (pc := 25) dX12_gives_25 (by decide) (fun c2 => ?_) (fun c2 => ?_)
    · replace h := (if_pos c2).symm.trans h
      refine g_iconst (pc := 37) dX12_gives_37 ic_m1 ?_
      obtain ⟨h1, h2⟩ := x_inj2 h
      subst h1
      subst h2
      exact g_iret (pc := 38) dX12_gives_38 rfl rfl rfl (Nat.le_refl _) (Nat.le_refl _)
    · replace h := (if_neg c2).symm.trans h
      refine g_aload_n (pc := 28) dX12_gives_28 rfl ?_
      refine g_iload_n (pc := 29) dX12_gives_29 rfl ?_
      refine g_iload_n (pc := 30) dX12_gives_30 rfl ?_
      obtain ⟨x4, e3, h⟩ := x_bind h
      refine g_cV (pc := 31) dX12_gives_31 cV_RX12_423 (M_X12_given (Nat.le_refl _) e3) xc_135 (as := [.int v1, .int v2]) (st := []) rfl rfl (Nat.le_of_ble_eq_true rfl) (Nat.le_trans (Nat.le_of_ble_eq_true rfl) hd) rfl ?_
      refine g_goto (tgt := 38) (pc := 34) dX12_gives_34 (by decide) ?_
      obtain ⟨h1, h2⟩ := x_inj2 h
      subst h1
      subst h2
      exact g_iret (pc := 38) dX12_gives_38 rfl rfl rfl (Nat.le_refl _) (Nat.le_refl _)
set_option maxRecDepth 100000 in
set_option maxHeartbeats 4000000 in
theorem M_X12_gives {sc : Nat × (Nat → Int32)} {d : Nat} (hd : 2 ≤ d) {r : Int32} {u u' : xS} {a1 : Int32} {a2 : Int32} (h : f_X12_gives a1 a2 u = some (r, u')) : xMt sc mX12_gives d 0 0 [.ref 135, .int a1, .int a2] (xL0, u) (some (.int r)) (xL0, u') :=
  xMt.of (by decide +kernel) (by decide +kernel) (Nat.le_of_ble_eq_true rfl) (L := [some (.ref 135), some (.int a1), some (.int a2)]) rfl ((G_X12_gives_0 hd a1 a2 u h))
set_option maxRecDepth 100000 in
set_option maxHeartbeats 4000000 in
theorem G_X12_hadOf_4 {sc : Nat × (Nat → Int32)} {d : Nat} (hd : 0 ≤ d) {r : Int32} {u : xS} : ∀ (n : Nat) (v1 : Int32) (v2 : Int32) (v3 : Int32), f_X12_hadOf_4 u n v1 v2 v3 = some r → xG sc mX12_hadOf d 0 0 (xR (some (.int r)) (xL0, u) 0 0) 0 0 4 [some (.ref 135), some (.int v1), some (.int v2), some (.int v3)] [] (xL0, u) := by
  intro n
  induction n with
  | zero =>
    intro v1 v2 v3 h
    rw [f_X12_hadOf_4] at h
    cases h
  | succ n ih =>
    intro v1 v2 v3 h
    rw [f_X12_hadOf_4] at h
    refine g_iload_n (pc := 4) dX12_hadOf_4 rfl ?_
    refine g_aload_n (pc := 5) dX12_hadOf_5 rfl ?_
    refine g_gI (pc := 6) dX12_hadOf_6 fI_RX12_194 xc_135 (v := (rd u 135 7)) rfl ?_
    refine g_icmp_ge (tgt := 32) (pc := 9) dX12_hadOf_9 (by decide) (fun c1 => ?_) (fun c1 => ?_)
    · replace h := (if_pos c1).symm.trans h
      refine g_iload_n (pc := 32) dX12_hadOf_32 rfl ?_
      replace h := Option.some.inj h
      subst h
      exact g_iret (pc := 33) dX12_hadOf_33 rfl rfl rfl (Nat.le_refl _) (Nat.le_refl _)
    · replace h := (if_neg c1).symm.trans h
      refine g_iload_n (pc := 12) dX12_hadOf_12 rfl ?_
      refine g_aload_n (pc := 13) dX12_hadOf_13 rfl ?_
      refine g_gR (pc := 14) dX12_hadOf_14 fR_RX12_40 xc_135 (v := 146) rfl ?_
      refine g_bipush (pc := 17) dX12_hadOf_17 bp_24 ?_
      refine g_iload_n (pc := 19) dX12_hadOf_19 rfl ?_
      refine g_imul (pc := 20) dX12_hadOf_20 rfl ?_
      refine g_iload_n (pc := 21) dX12_hadOf_21 rfl ?_
      refine g_iadd (pc := 22) dX12_hadOf_22 rfl ?_
      obtain ⟨g2, h⟩ := x_gd h
      refine g_iaload (pc := 23) dX12_hadOf_23 xc_146 (xin_of g2) (v := (rd u 146 (((24 : Int32) * v1) + v3).toNatClampNeg)) rfl ?_
      refine g_iadd (pc := 24) dX12_hadOf_24 rfl ?_
      refine g_istore_n (pc := 25) dX12_hadOf_25 (Nat.le_of_ble_eq_true rfl) (L' := [some (.ref 135), some (.int v1), some (.int (v2 + (rd u 146 (((24 : Int32) * v1) + v3).toNatClampNeg))), some (.int v3)]) rfl ?_
      refine g_inc (pc := 26) dX12_hadOf_26 (Nat.le_of_ble_eq_true rfl) rfl ic_1 (L' := [some (.ref 135), some (.int v1), some (.int (v2 + (rd u 146 (((24 : Int32) * v1) + v3).toNatClampNeg))), some (.int (v3 + (1 : Int32)))]) rfl ?_
      refine g_goto (tgt := 4) (pc := 29) dX12_hadOf_29 (by decide) ?_
      exact ih v1 (v2 + (rd u 146 (((24 : Int32) * v1) + v3).toNatClampNeg)) (v3 + (1 : Int32)) h
set_option maxRecDepth 100000 in
set_option maxHeartbeats 4000000 in
theorem G_X12_hadOf_0 {sc : Nat × (Nat → Int32)} {d : Nat} (hd : 0 ≤ d) {r : Int32} {u : xS} (v1 : Int32) (h : f_X12_hadOf u v1 = some r) : xG sc mX12_hadOf d 0 0 (xR (some (.int r)) (xL0, u) 0 0) 0 0 0 [some (.ref 135), some (.int v1), none, none] [] (xL0, u) := by
  rw [f_X12_hadOf] at h
  refine g_iconst (pc := 0) dX12_hadOf_0 ic_0 ?_
  refine g_istore_n (pc := 1) dX12_hadOf_1 (Nat.le_of_ble_eq_true rfl) (L' := [some (.ref 135), some (.int v1), some (.int (0 : Int32)), none]) rfl ?_
  refine g_iconst (pc := 2) dX12_hadOf_2 ic_0 ?_
  refine g_istore_n (pc := 3) dX12_hadOf_3 (Nat.le_of_ble_eq_true rfl) (L' := [some (.ref 135), some (.int v1), some (.int (0 : Int32)), some (.int (0 : Int32))]) rfl ?_
  exact G_X12_hadOf_4 hd xN v1 (0 : Int32) (0 : Int32) h
set_option maxRecDepth 100000 in
set_option maxHeartbeats 4000000 in
theorem M_X12_hadOf {sc : Nat × (Nat → Int32)} {d : Nat} (hd : 0 ≤ d) {r : Int32} {u : xS} {a1 : Int32} (h : f_X12_hadOf u a1 = some r) : xMt sc mX12_hadOf d 0 0 [.ref 135, .int a1] (xL0, u) (some (.int r)) (xL0, u) :=
  xMt.of (by decide +kernel) (by decide +kernel) (Nat.le_of_ble_eq_true rfl) (L := [some (.ref 135), some (.int a1), none, none]) rfl ((G_X12_hadOf_0 hd a1 h))
set_option maxRecDepth 100000 in
set_option maxHeartbeats 4000000 in
theorem G_X12_isClean_44 {sc : Nat × (Nat → Int32)} {d : Nat} (hd : 0 ≤ d) {r : Int32} {u : xS} {k4 : Int32 → Int32 → Int32 → Option Int32} (hk4 : ∀ (v1 : Int32) (v2 : Int32) (v3 : Int32), k4 v1 v2 v3 = some r → xG sc mX12_isClean d 0 0 (xR (some (.int r)) (xL0, u) 0 0) 0 0 4 [some (.ref 135), some (.int v1), some (.int v2), some (.int v3)] [] (xL0, u)) (v1 : Int32) (v3 : Int32) (s0 : Int32) (h : f_X12_isClean_44 k4 u v1 v3 s0 = some r) : xG sc mX12_isClean d 0 0 (xR (some (.int r)) (xL0, u) 0 0) 0 0 44 [some (.ref 135), some (.int v1), none, some (.int v3)] [.int s0] (xL0, u) := by
  rw [f_X12_isClean_44] at h
  refine g_istore_n (pc := 44) dX12_isClean_44 (Nat.le_of_ble_eq_true rfl) (L' := [some (.ref 135), some (.int v1), some (.int s0), some (.int v3)]) rfl ?_
  refine g_inc (pc := 45) dX12_isClean_45 (Nat.le_of_ble_eq_true rfl) rfl ic_1 (L' := [some (.ref 135), some (.int v1), some (.int s0), some (.int (v3 + (1 : Int32)))]) rfl ?_
  refine g_goto (tgt := 4) (pc := 48) dX12_isClean_48 (by decide) ?_
  exact hk4 v1 s0 (v3 + (1 : Int32)) h
set_option maxRecDepth 100000 in
set_option maxHeartbeats 4000000 in
theorem G_X12_isClean_43 {sc : Nat × (Nat → Int32)} {d : Nat} (hd : 0 ≤ d) {r : Int32} {u : xS} {k4 : Int32 → Int32 → Int32 → Option Int32} (hk4 : ∀ (v1 : Int32) (v2 : Int32) (v3 : Int32), k4 v1 v2 v3 = some r → xG sc mX12_isClean d 0 0 (xR (some (.int r)) (xL0, u) 0 0) 0 0 4 [some (.ref 135), some (.int v1), some (.int v2), some (.int v3)] [] (xL0, u)) (v1 : Int32) (v3 : Int32) (h : f_X12_isClean_43 k4 u v1 v3 = some r) : xG sc mX12_isClean d 0 0 (xR (some (.int r)) (xL0, u) 0 0) 0 0 43 [some (.ref 135), some (.int v1), none, some (.int v3)] [] (xL0, u) := by
  rw [f_X12_isClean_43] at h
  refine g_iconst (pc := 43) dX12_isClean_43 ic_0 ?_
  exact G_X12_isClean_44 hd hk4 v1 v3 (0 : Int32) h
set_option maxRecDepth 100000 in
set_option maxHeartbeats 4000000 in
theorem G_X12_isClean_39 {sc : Nat × (Nat → Int32)} {d : Nat} (hd : 0 ≤ d) {r : Int32} {u : xS} {k4 : Int32 → Int32 → Int32 → Option Int32} (hk4 : ∀ (v1 : Int32) (v2 : Int32) (v3 : Int32), k4 v1 v2 v3 = some r → xG sc mX12_isClean d 0 0 (xR (some (.int r)) (xL0, u) 0 0) 0 0 4 [some (.ref 135), some (.int v1), some (.int v2), some (.int v3)] [] (xL0, u)) (v1 : Int32) (v3 : Int32) (h : f_X12_isClean_39 k4 u v1 v3 = some r) : xG sc mX12_isClean d 0 0 (xR (some (.int r)) (xL0, u) 0 0) 0 0 39 [some (.ref 135), some (.int v1), none, some (.int v3)] [] (xL0, u) := by
  rw [f_X12_isClean_39] at h
  refine g_iconst (pc := 39) dX12_isClean_39 ic_1 ?_
  refine g_goto (tgt := 44) (pc := 40) dX12_isClean_40 (by decide) ?_
  exact G_X12_isClean_44 hd hk4 v1 v3 (1 : Int32) h
set_option maxRecDepth 100000 in
set_option maxHeartbeats 4000000 in
theorem G_X12_isClean_4 {sc : Nat × (Nat → Int32)} {d : Nat} (hd : 0 ≤ d) {r : Int32} {u : xS} : ∀ (n : Nat) (v1 : Int32) (v2 : Int32) (v3 : Int32), f_X12_isClean_4 u n v1 v2 v3 = some r → xG sc mX12_isClean d 0 0 (xR (some (.int r)) (xL0, u) 0 0) 0 0 4 [some (.ref 135), some (.int v1), some (.int v2), some (.int v3)] [] (xL0, u) := by
  intro n
  induction n with
  | zero =>
    intro v1 v2 v3 h
    rw [f_X12_isClean_4] at h
    cases h
  | succ n ih =>
    intro v1 v2 v3 h
    rw [f_X12_isClean_4] at h
    refine g_iload_n (pc := 4) dX12_isClean_4 rfl ?_
    refine g_aload_n (pc := 5) dX12_isClean_5 rfl ?_
    refine g_gI (pc := 6) dX12_isClean_6 fI_RX12_223 xc_135 (v := (rd u 135 37)) rfl ?_
    refine g_icmp_ge (tgt := 51) (pc := 9) dX12_isClean_9 (by decide) (fun c1 => ?_) (fun c1 => ?_)
    · replace h := (if_pos c1).symm.trans h
      refine g_iload_n (pc := 51) dX12_isClean_51 rfl ?_
      obtain ⟨g2, h⟩ := x_gd h
      replace h := Option.some.inj h
      subst h
      exact g_zret (pc := 52) dX12_isClean_52 rfl (xb_of g2) rfl rfl (Nat.le_refl _) (Nat.le_refl _)
    · replace h := (if_neg c1).symm.trans h
      refine g_iload_n (pc := 12) dX12_isClean_12 rfl ?_
      refine g_if_eq (tgt := 43) (pc := 13) dX12_isClean_13 (by decide) (fun c3 => ?_) (fun c3 => ?_)
      · replace h := (if_pos c3).symm.trans h
        refine g_L (L' := [some (.ref 135), some (.int v1), none, some (.int v3)]) ⟨rfl, ⟨rfl, ⟨rfl, trivial⟩⟩⟩ ?_
        exact G_X12_isClean_43 hd ih v1 v3 h
      · replace h := (if_neg c3).symm.trans h
        refine g_aload_n (pc := 16) dX12_isClean_16 rfl ?_
        refine g_gR (pc := 17) dX12_isClean_17 fR_RX12_93 xc_135 (v := 162) rfl ?_
        refine g_iload_n (pc := 20) dX12_isClean_20 rfl ?_
        obtain ⟨g4, h⟩ := x_gd h
        refine g_iaload (pc := 21) dX12_isClean_21 xc_162 (xin_of g4) (v := (rd u 162 v3.toNatClampNeg)) rfl ?_
        refine g_if_ne (tgt := 39) (pc := 22) dX12_isClean_22 (by decide) (fun c5 => ?_) (fun c5 => ?_)
        · replace h := (if_neg c5).symm.trans h
          refine g_L (L' := [some (.ref 135), some (.int v1), none, some (.int v3)]) ⟨rfl, ⟨rfl, ⟨rfl, trivial⟩⟩⟩ ?_
          exact G_X12_isClean_39 hd ih v1 v3 h
        · replace h := (if_pos c5).symm.trans h
          refine g_aload_n (pc := 25) dX12_isClean_25 rfl ?_
          refine g_gR (pc := 26) dX12_isClean_26 fR_RX12_90 xc_135 (v := 161) rfl ?_
          refine g_bipush (pc := 29) dX12_isClean_29 bp_24 ?_
          refine g_iload_n (pc := 31) dX12_isClean_31 rfl ?_
          refine g_imul (pc := 32) dX12_isClean_32 rfl ?_
          refine g_iload_n (pc := 33) dX12_isClean_33 rfl ?_
          refine g_iadd (pc := 34) dX12_isClean_34 rfl ?_
          obtain ⟨g6, h⟩ := x_gd h
          refine g_iaload (pc := 35) dX12_isClean_35 xc_161 (xin_of g6) (v := (rd u 161 (((24 : Int32) * v3) + v1).toNatClampNeg)) rfl ?_
          refine g_if_ne (tgt := 43) (pc := 36) dX12_isClean_36 (by decide) (fun c7 => ?_) (fun c7 => ?_)
          · replace h := (if_neg c7).symm.trans h
            refine g_L (L' := [some (.ref 135), some (.int v1), none, some (.int v3)]) ⟨rfl, ⟨rfl, ⟨rfl, trivial⟩⟩⟩ ?_
            exact G_X12_isClean_43 hd ih v1 v3 h
          · replace h := (if_pos c7).symm.trans h
            refine g_L (L' := [some (.ref 135), some (.int v1), none, some (.int v3)]) ⟨rfl, ⟨rfl, ⟨rfl, trivial⟩⟩⟩ ?_
            exact G_X12_isClean_39 hd ih v1 v3 h
set_option maxRecDepth 100000 in
set_option maxHeartbeats 4000000 in
theorem G_X12_isClean_0 {sc : Nat × (Nat → Int32)} {d : Nat} (hd : 0 ≤ d) {r : Int32} {u : xS} (v1 : Int32) (h : f_X12_isClean u v1 = some r) : xG sc mX12_isClean d 0 0 (xR (some (.int r)) (xL0, u) 0 0) 0 0 0 [some (.ref 135), some (.int v1), none, none] [] (xL0, u) := by
  rw [f_X12_isClean] at h
  refine g_iconst (pc := 0) dX12_isClean_0 ic_1 ?_
  refine g_istore_n (pc := 1) dX12_isClean_1 (Nat.le_of_ble_eq_true rfl) (L' := [some (.ref 135), some (.int v1), some (.int (1 : Int32)), none]) rfl ?_
  refine g_iconst (pc := 2) dX12_isClean_2 ic_0 ?_
  refine g_istore_n (pc := 3) dX12_isClean_3 (Nat.le_of_ble_eq_true rfl) (L' := [some (.ref 135), some (.int v1), some (.int (1 : Int32)), some (.int (0 : Int32))]) rfl ?_
  exact G_X12_isClean_4 hd xN v1 (1 : Int32) (0 : Int32) h
set_option maxRecDepth 100000 in
set_option maxHeartbeats 4000000 in
theorem M_X12_isClean {sc : Nat × (Nat → Int32)} {d : Nat} (hd : 0 ≤ d) {r : Int32} {u : xS} {a1 : Int32} (h : f_X12_isClean u a1 = some r) : xMt sc mX12_isClean d 0 0 [.ref 135, .int a1] (xL0, u) (some (.int r)) (xL0, u) :=
  xMt.of (by decide +kernel) (by decide +kernel) (Nat.le_of_ble_eq_true rfl) (L := [some (.ref 135), some (.int a1), none, none]) rfl ((G_X12_isClean_0 hd a1 h))
set_option maxRecDepth 100000 in
set_option maxHeartbeats 4000000 in
theorem G_X12_stored_4 {sc : Nat × (Nat → Int32)} {d : Nat} (hd : 0 ≤ d) {r : Int32} {u : xS} : ∀ (n : Nat) (v1 : Int32) (v2 : Int32) (v3 : Int32), f_X12_stored_4 u n v1 v2 v3 = some r → xG sc mX12_stored d 0 0 (xR (some (.int r)) (xL0, u) 0 0) 0 0 4 [some (.ref 135), some (.int v1), some (.int v2), some (.int v3)] [] (xL0, u) := by
  intro n
  induction n with
  | zero =>
    intro v1 v2 v3 h
    rw [f_X12_stored_4] at h
    cases h
  | succ n ih =>
    intro v1 v2 v3 h
    rw [f_X12_stored_4] at h
    refine g_iload_n (pc := 4) dX12_stored_4 rfl ?_
    refine g_aload_n (pc := 5) dX12_stored_5 rfl ?_
    refine g_gI (pc := 6) dX12_stored_6 fI_RX12_194 xc_135 (v := (rd u 135 7)) rfl ?_
    refine g_icmp_ge (tgt := 32) (pc := 9) dX12_stored_9 (by decide) (fun c1 => ?_) (fun c1 => ?_)
    · replace h := (if_pos c1).symm.trans h
      refine g_iload_n (pc := 32) dX12_stored_32 rfl ?_
      replace h := Option.some.inj h
      subst h
      exact g_iret (pc := 33) dX12_stored_33 rfl rfl rfl (Nat.le_refl _) (Nat.le_refl _)
    · replace h := (if_neg c1).symm.trans h
      refine g_iload_n (pc := 12) dX12_stored_12 rfl ?_
      refine g_aload_n (pc := 13) dX12_stored_13 rfl ?_
      refine g_gR (pc := 14) dX12_stored_14 fR_RX12_43 xc_135 (v := 147) rfl ?_
      refine g_bipush (pc := 17) dX12_stored_17 bp_24 ?_
      refine g_iload_n (pc := 19) dX12_stored_19 rfl ?_
      refine g_imul (pc := 20) dX12_stored_20 rfl ?_
      refine g_iload_n (pc := 21) dX12_stored_21 rfl ?_
      refine g_iadd (pc := 22) dX12_stored_22 rfl ?_
      obtain ⟨g2, h⟩ := x_gd h
      refine g_iaload (pc := 23) dX12_stored_23 xc_147 (xin_of g2) (v := (rd u 147 (((24 : Int32) * v1) + v3).toNatClampNeg)) rfl ?_
      refine g_iadd (pc := 24) dX12_stored_24 rfl ?_
      refine g_istore_n (pc := 25) dX12_stored_25 (Nat.le_of_ble_eq_true rfl) (L' := [some (.ref 135), some (.int v1), some (.int (v2 + (rd u 147 (((24 : Int32) * v1) + v3).toNatClampNeg))), some (.int v3)]) rfl ?_
      refine g_inc (pc := 26) dX12_stored_26 (Nat.le_of_ble_eq_true rfl) rfl ic_1 (L' := [some (.ref 135), some (.int v1), some (.int (v2 + (rd u 147 (((24 : Int32) * v1) + v3).toNatClampNeg))), some (.int (v3 + (1 : Int32)))]) rfl ?_
      refine g_goto (tgt := 4) (pc := 29) dX12_stored_29 (by decide) ?_
      exact ih v1 (v2 + (rd u 147 (((24 : Int32) * v1) + v3).toNatClampNeg)) (v3 + (1 : Int32)) h
set_option maxRecDepth 100000 in
set_option maxHeartbeats 4000000 in
theorem G_X12_stored_0 {sc : Nat × (Nat → Int32)} {d : Nat} (hd : 0 ≤ d) {r : Int32} {u : xS} (v1 : Int32) (h : f_X12_stored u v1 = some r) : xG sc mX12_stored d 0 0 (xR (some (.int r)) (xL0, u) 0 0) 0 0 0 [some (.ref 135), some (.int v1), none, none] [] (xL0, u) := by
  rw [f_X12_stored] at h
  refine g_iconst (pc := 0) dX12_stored_0 ic_0 ?_
  refine g_istore_n (pc := 1) dX12_stored_1 (Nat.le_of_ble_eq_true rfl) (L' := [some (.ref 135), some (.int v1), some (.int (0 : Int32)), none]) rfl ?_
  refine g_iconst (pc := 2) dX12_stored_2 ic_0 ?_
  refine g_istore_n (pc := 3) dX12_stored_3 (Nat.le_of_ble_eq_true rfl) (L' := [some (.ref 135), some (.int v1), some (.int (0 : Int32)), some (.int (0 : Int32))]) rfl ?_
  exact G_X12_stored_4 hd xN v1 (0 : Int32) (0 : Int32) h
set_option maxRecDepth 100000 in
set_option maxHeartbeats 4000000 in
theorem M_X12_stored {sc : Nat × (Nat → Int32)} {d : Nat} (hd : 0 ≤ d) {r : Int32} {u : xS} {a1 : Int32} (h : f_X12_stored u a1 = some r) : xMt sc mX12_stored d 0 0 [.ref 135, .int a1] (xL0, u) (some (.int r)) (xL0, u) :=
  xMt.of (by decide +kernel) (by decide +kernel) (Nat.le_of_ble_eq_true rfl) (L := [some (.ref 135), some (.int a1), none, none]) rfl ((G_X12_stored_0 hd a1 h))
set_option maxRecDepth 100000 in
set_option maxHeartbeats 4000000 in
theorem G_X12_isEnough_40 {sc : Nat × (Nat → Int32)} {d : Nat} (hd : 1 ≤ d) {r : Int32} {u : xS} {k4 : Int32 → Int32 → Int32 → Option Int32} (hk4 : ∀ (v1 : Int32) (v2 : Int32) (v3 : Int32), k4 v1 v2 v3 = some r → xG sc mX12_isEnough d 0 0 (xR (some (.int r)) (xL0, u) 0 0) 0 0 4 [some (.ref 135), some (.int v1), some (.int v2), some (.int v3)] [] (xL0, u)) (v1 : Int32) (v3 : Int32) (s0 : Int32) (h : f_X12_isEnough_40 k4 u v1 v3 s0 = some r) : xG sc mX12_isEnough d 0 0 (xR (some (.int r)) (xL0, u) 0 0) 0 0 40 [some (.ref 135), some (.int v1), none, some (.int v3)] [.int s0] (xL0, u) := by
  rw [f_X12_isEnough_40] at h
  refine g_istore_n (pc := 40) dX12_isEnough_40 (Nat.le_of_ble_eq_true rfl) (L' := [some (.ref 135), some (.int v1), some (.int s0), some (.int v3)]) rfl ?_
  refine g_inc (pc := 41) dX12_isEnough_41 (Nat.le_of_ble_eq_true rfl) rfl ic_1 (L' := [some (.ref 135), some (.int v1), some (.int s0), some (.int (v3 + (1 : Int32)))]) rfl ?_
  refine g_goto (tgt := 4) (pc := 44) dX12_isEnough_44 (by decide) ?_
  exact hk4 v1 s0 (v3 + (1 : Int32)) h
set_option maxRecDepth 100000 in
set_option maxHeartbeats 4000000 in
theorem G_X12_isEnough_39 {sc : Nat × (Nat → Int32)} {d : Nat} (hd : 1 ≤ d) {r : Int32} {u : xS} {k4 : Int32 → Int32 → Int32 → Option Int32} (hk4 : ∀ (v1 : Int32) (v2 : Int32) (v3 : Int32), k4 v1 v2 v3 = some r → xG sc mX12_isEnough d 0 0 (xR (some (.int r)) (xL0, u) 0 0) 0 0 4 [some (.ref 135), some (.int v1), some (.int v2), some (.int v3)] [] (xL0, u)) (v1 : Int32) (v3 : Int32) (h : f_X12_isEnough_39 k4 u v1 v3 = some r) : xG sc mX12_isEnough d 0 0 (xR (some (.int r)) (xL0, u) 0 0) 0 0 39 [some (.ref 135), some (.int v1), none, some (.int v3)] [] (xL0, u) := by
  rw [f_X12_isEnough_39] at h
  refine g_iconst (pc := 39) dX12_isEnough_39 ic_0 ?_
  exact G_X12_isEnough_40 hd hk4 v1 v3 (0 : Int32) h
set_option maxRecDepth 100000 in
set_option maxHeartbeats 4000000 in
theorem G_X12_isEnough_4 {sc : Nat × (Nat → Int32)} {d : Nat} (hd : 1 ≤ d) {r : Int32} {u : xS} : ∀ (n : Nat) (v1 : Int32) (v2 : Int32) (v3 : Int32), f_X12_isEnough_4 u n v1 v2 v3 = some r → xG sc mX12_isEnough d 0 0 (xR (some (.int r)) (xL0, u) 0 0) 0 0 4 [some (.ref 135), some (.int v1), some (.int v2), some (.int v3)] [] (xL0, u) := by
  intro n
  induction n with
  | zero =>
    intro v1 v2 v3 h
    rw [f_X12_isEnough_4] at h
    cases h
  | succ n ih =>
    intro v1 v2 v3 h
    rw [f_X12_isEnough_4] at h
    refine g_iload_n (pc := 4) dX12_isEnough_4 rfl ?_
    refine g_aload_n (pc := 5) dX12_isEnough_5 rfl ?_
    refine g_gI (pc := 6) dX12_isEnough_6 fI_RX12_153 xc_135 (v := (rd u 135 1)) rfl ?_
    refine g_icmp_ge (tgt := 47) (pc := 9) dX12_isEnough_9 (by decide) (fun c1 => ?_) (fun c1 => ?_)
    · replace h := (if_pos c1).symm.trans h
      refine g_iload_n (pc := 47) dX12_isEnough_47 rfl ?_
      obtain ⟨g2, h⟩ := x_gd h
      replace h := Option.some.inj h
      subst h
      exact g_zret (pc := 48) dX12_isEnough_48 rfl (xb_of g2) rfl rfl (Nat.le_refl _) (Nat.le_refl _)
    · replace h := (if_neg c1).symm.trans h
      refine g_iload_n (pc := 12) dX12_isEnough_12 rfl ?_
      refine g_if_eq (tgt := 39) (pc := 13) dX12_isEnough_13 (by decide) (fun c3 => ?_) (fun c3 => ?_)
      · replace h := (if_pos c3).symm.trans h
        refine g_L (L' := [some (.ref 135), some (.int v1), none, some (.int v3)]) ⟨rfl, ⟨rfl, ⟨rfl, trivial⟩⟩⟩ ?_
        exact G_X12_isEnough_39 hd ih v1 v3 h
      · replace h := (if_neg c3).symm.trans h
        refine g_aload_n (pc := 16) dX12_isEnough_16 rfl ?_
        refine g_iload_n (pc := 17) dX12_isEnough_17 rfl ?_
        obtain ⟨x5, e4, h⟩ := x_bind h
        refine g_cV (pc := 18) dX12_isEnough_18 cV_RX12_340 (M_X12_stored (Nat.le_refl _) e4) xc_135 (as := [.int v3]) (st := []) rfl rfl (Nat.le_of_ble_eq_true rfl) (Nat.le_trans (Nat.le_of_ble_eq_true rfl) hd) rfl ?_
        refine g_aload_n (pc := 21) dX12_isEnough_21 rfl ?_
        refine g_gR (pc := 22) dX12_isEnough_22 fR_RX12_87 xc_135 (v := 160) rfl ?_
        refine g_iload_n (pc := 25) dX12_isEnough_25 rfl ?_
        obtain ⟨g6, h⟩ := x_gd h
        refine g_iaload (pc := 26) dX12_isEnough_26 xc_160 (xin_of g6) (v := (rd u 160 v3.toNatClampNeg)) rfl ?_
        refine g_iload_n (pc := 27) dX12_isEnough_27 rfl ?_
        refine g_bipush (pc := 28) dX12_isEnough_28 bp_12 ?_
        refine g_idiv (pc := 30) dX12_isEnough_30 (by decide) rfl ?_
        refine g_imul (pc := 31) dX12_isEnough_31 rfl ?_
        refine g_icmp_lt (tgt := 39) (pc := 32) dX12_isEnough_32 (by decide) (fun c7 => ?_) (fun c7 => ?_)
        · replace h := (if_pos c7).symm.trans h
          refine g_L (L' := [some (.ref 135), some (.int v1), none, some (.int v3)]) ⟨rfl, ⟨rfl, ⟨rfl, trivial⟩⟩⟩ ?_
          exact G_X12_isEnough_39 hd ih v1 v3 h
        · replace h := (if_neg c7).symm.trans h
          refine g_iconst (pc := 35) dX12_isEnough_35 ic_1 ?_
          refine g_goto (tgt := 40) (pc := 36) dX12_isEnough_36 (by decide) ?_
          refine g_L (L' := [some (.ref 135), some (.int v1), none, some (.int v3)]) ⟨rfl, ⟨rfl, ⟨rfl, trivial⟩⟩⟩ ?_
          exact G_X12_isEnough_40 hd ih v1 v3 (1 : Int32) h
set_option maxRecDepth 100000 in
set_option maxHeartbeats 4000000 in
theorem G_X12_isEnough_0 {sc : Nat × (Nat → Int32)} {d : Nat} (hd : 1 ≤ d) {r : Int32} {u : xS} (v1 : Int32) (h : f_X12_isEnough u v1 = some r) : xG sc mX12_isEnough d 0 0 (xR (some (.int r)) (xL0, u) 0 0) 0 0 0 [some (.ref 135), some (.int v1), none, none] [] (xL0, u) := by
  rw [f_X12_isEnough] at h
  refine g_iconst (pc := 0) dX12_isEnough_0 ic_1 ?_
  refine g_istore_n (pc := 1) dX12_isEnough_1 (Nat.le_of_ble_eq_true rfl) (L' := [some (.ref 135), some (.int v1), some (.int (1 : Int32)), none]) rfl ?_
  refine g_iconst (pc := 2) dX12_isEnough_2 ic_0 ?_
  refine g_istore_n (pc := 3) dX12_isEnough_3 (Nat.le_of_ble_eq_true rfl) (L' := [some (.ref 135), some (.int v1), some (.int (1 : Int32)), some (.int (0 : Int32))]) rfl ?_
  exact G_X12_isEnough_4 hd xN v1 (1 : Int32) (0 : Int32) h
set_option maxRecDepth 100000 in
set_option maxHeartbeats 4000000 in
theorem M_X12_isEnough {sc : Nat × (Nat → Int32)} {d : Nat} (hd : 1 ≤ d) {r : Int32} {u : xS} {a1 : Int32} (h : f_X12_isEnough u a1 = some r) : xMt sc mX12_isEnough d 0 0 [.ref 135, .int a1] (xL0, u) (some (.int r)) (xL0, u) :=
  xMt.of (by decide +kernel) (by decide +kernel) (Nat.le_of_ble_eq_true rfl) (L := [some (.ref 135), some (.int a1), none, none]) rfl ((G_X12_isEnough_0 hd a1 h))
