set_option maxRecDepth 100000 in
set_option maxHeartbeats 4000000 in
theorem G_X12_act_0 {sc : Nat × (Nat → Int32)} {d : Nat} (hd : 0 ≤ d) {r : Int32} {u : xS} (v0 : Int32) (h : f_X12_act v0 = r) : xG sc mX12_act d 0 0 (xR (some (.int r)) (xL0, u) 0 0) 0 0 0 [some (.int v0)] [] (xL0, u) := by
  rw [f_X12_act] at h
  refine g_iload_n (pc := 0) dX12_act_0 rfl ?_
  refine g_sipush (pc := 1) dX12_act_1 sp_200 ?_
  refine g_isub (pc := 4) dX12_act_4 rfl ?_
  subst h
  exact g_iret (pc := 5) dX12_act_5 rfl rfl rfl (Nat.le_refl _) (Nat.le_refl _)
set_option maxRecDepth 100000 in
set_option maxHeartbeats 4000000 in
theorem M_X12_act {sc : Nat × (Nat → Int32)} {d : Nat} (hd : 0 ≤ d) {r : Int32} {u : xS} {a0 : Int32} (h : f_X12_act a0 = r) : xMt sc mX12_act d 0 0 [.int a0] (xL0, u) (some (.int r)) (xL0, u) :=
  xMt.of (by decide +kernel) (Nat.le_of_ble_eq_true rfl) (L := [some (.int a0)]) rfl ((G_X12_act_0 hd a0 h))
set_option maxRecDepth 100000 in
set_option maxHeartbeats 4000000 in
theorem G_X12_truth_0 {sc : Nat × (Nat → Int32)} {d : Nat} (hd : 0 ≤ d) {r : Int32} {u : xS} (v0 : Int32) (h : f_X12_truth v0 = r) : xG sc mX12_truth d 0 0 (xR (some (.int r)) (xL0, u) 0 0) 0 0 0 [some (.int v0)] [] (xL0, u) := by
  rw [f_X12_truth] at h
  refine g_iload_n (pc := 0) dX12_truth_0 rfl ?_
  refine g_if_eq (tgt := 8) (pc := 1) dX12_truth_1 (by decide) (fun c1 => ?_) (fun c1 => ?_)
  · replace h := (if_pos c1).symm.trans h
    refine g_iconst (pc := 8) dX12_truth_8 ic_0 ?_
    subst h
    exact g_iret (pc := 9) dX12_truth_9 rfl rfl rfl (Nat.le_refl _) (Nat.le_refl _)
  · replace h := (if_neg c1).symm.trans h
    refine g_iconst (pc := 4) dX12_truth_4 ic_1 ?_
    refine g_goto (tgt := 9) (pc := 5) dX12_truth_5 (by decide) ?_
    subst h
    exact g_iret (pc := 9) dX12_truth_9 rfl rfl rfl (Nat.le_refl _) (Nat.le_refl _)
set_option maxRecDepth 100000 in
set_option maxHeartbeats 4000000 in
theorem M_X12_truth {sc : Nat × (Nat → Int32)} {d : Nat} (hd : 0 ≤ d) {r : Int32} {u : xS} {a0 : Int32} (h : f_X12_truth a0 = r) : xMt sc mX12_truth d 0 0 [.int a0] (xL0, u) (some (.int r)) (xL0, u) :=
  xMt.of (by decide +kernel) (Nat.le_of_ble_eq_true rfl) (L := [some (.int a0)]) rfl ((G_X12_truth_0 hd a0 h))
set_option maxRecDepth 100000 in
set_option maxHeartbeats 4000000 in
theorem G_X12_acted_211 {sc : Nat × (Nat → Int32)} {d : Nat} (hd : 1 ≤ d) {r : Int32} {u : xS} (s0 : Int32) (h : f_X12_acted_211 s0 = some r) : xG sc mX12_acted d 0 0 (xR (some (.int r)) (xL0, u) 0 0) 0 0 211 [none, none, none] [.int s0] (xL0, u) := by
  rw [f_X12_acted_211] at h
  refine g_cS (pc := 211) dX12_acted_211 cS_RX12_190 (M_X12_truth (Nat.le_refl _) rfl) (as := [.int s0]) (st := []) rfl rfl (Nat.le_of_ble_eq_true rfl) (Nat.le_trans (Nat.le_of_ble_eq_true rfl) hd) rfl ?_
  cases h
  exact g_iret (pc := 214) dX12_acted_214 rfl rfl rfl (Nat.le_refl _) (Nat.le_refl _)
set_option maxRecDepth 100000 in
set_option maxHeartbeats 4000000 in
theorem G_X12_acted_210 {sc : Nat × (Nat → Int32)} {d : Nat} (hd : 1 ≤ d) {r : Int32} {u : xS} (h : f_X12_acted_210 = some r) : xG sc mX12_acted d 0 0 (xR (some (.int r)) (xL0, u) 0 0) 0 0 210 [none, none, none] [] (xL0, u) := by
  rw [f_X12_acted_210] at h
  refine g_iconst (pc := 210) dX12_acted_210 ic_0 ?_
  exact G_X12_acted_211 hd (0 : Int32) h
set_option maxRecDepth 100000 in
set_option maxHeartbeats 4000000 in
theorem G_X12_acted_228 {sc : Nat × (Nat → Int32)} {d : Nat} (hd : 1 ≤ d) {r : Int32} {u : xS} (s0 : Int32) (h : f_X12_acted_228 s0 = some r) : xG sc mX12_acted d 0 0 (xR (some (.int r)) (xL0, u) 0 0) 0 0 228 [none, none, none] [.int s0] (xL0, u) := by
  rw [f_X12_acted_228] at h
  refine g_cS (pc := 228) dX12_acted_228 cS_RX12_190 (M_X12_truth (Nat.le_refl _) rfl) (as := [.int s0]) (st := []) rfl rfl (Nat.le_of_ble_eq_true rfl) (Nat.le_trans (Nat.le_of_ble_eq_true rfl) hd) rfl ?_
  cases h
  exact g_iret (pc := 231) dX12_acted_231 rfl rfl rfl (Nat.le_refl _) (Nat.le_refl _)
set_option maxRecDepth 100000 in
set_option maxHeartbeats 4000000 in
theorem G_X12_acted_223 {sc : Nat × (Nat → Int32)} {d : Nat} (hd : 1 ≤ d) {r : Int32} {u : xS} (h : f_X12_acted_223 = some r) : xG sc mX12_acted d 0 0 (xR (some (.int r)) (xL0, u) 0 0) 0 0 223 [none, none, none] [] (xL0, u) := by
  rw [f_X12_acted_223] at h
  refine g_iconst (pc := 223) dX12_acted_223 ic_1 ?_
  refine g_goto (tgt := 228) (pc := 224) dX12_acted_224 (by decide) ?_
  exact G_X12_acted_228 hd (1 : Int32) h
set_option maxRecDepth 100000 in
set_option maxHeartbeats 4000000 in
theorem G_X12_acted_166 {sc : Nat × (Nat → Int32)} {d : Nat} (hd : 1 ≤ d) {r : Int32} {u : xS} (s0 : Int32) (h : f_X12_acted_166 s0 = some r) : xG sc mX12_acted d 0 0 (xR (some (.int r)) (xL0, u) 0 0) 0 0 166 [none, none, none] [.int s0] (xL0, u) := by
  rw [f_X12_acted_166] at h
  refine g_cS (pc := 166) dX12_acted_166 cS_RX12_190 (M_X12_truth (Nat.le_refl _) rfl) (as := [.int s0]) (st := []) rfl rfl (Nat.le_of_ble_eq_true rfl) (Nat.le_trans (Nat.le_of_ble_eq_true rfl) hd) rfl ?_
  cases h
  exact g_iret (pc := 169) dX12_acted_169 rfl rfl rfl (Nat.le_refl _) (Nat.le_refl _)
set_option maxRecDepth 100000 in
set_option maxHeartbeats 4000000 in
theorem G_X12_acted_194 {sc : Nat × (Nat → Int32)} {d : Nat} (hd : 1 ≤ d) {r : Int32} {u : xS} (s0 : Int32) (h : f_X12_acted_194 s0 = some r) : xG sc mX12_acted d 0 0 (xR (some (.int r)) (xL0, u) 0 0) 0 0 194 [none, none, none] [.int s0] (xL0, u) := by
  rw [f_X12_acted_194] at h
  refine g_cS (pc := 194) dX12_acted_194 cS_RX12_190 (M_X12_truth (Nat.le_refl _) rfl) (as := [.int s0]) (st := []) rfl rfl (Nat.le_of_ble_eq_true rfl) (Nat.le_trans (Nat.le_of_ble_eq_true rfl) hd) rfl ?_
  cases h
  exact g_iret (pc := 197) dX12_acted_197 rfl rfl rfl (Nat.le_refl _) (Nat.le_refl _)
set_option maxRecDepth 100000 in
set_option maxHeartbeats 4000000 in
theorem G_X12_acted_180 {sc : Nat × (Nat → Int32)} {d : Nat} (hd : 1 ≤ d) {r : Int32} {u : xS} (s0 : Int32) (h : f_X12_acted_180 s0 = some r) : xG sc mX12_acted d 0 0 (xR (some (.int r)) (xL0, u) 0 0) 0 0 180 [none, none, none] [.int s0] (xL0, u) := by
  rw [f_X12_acted_180] at h
  refine g_cS (pc := 180) dX12_acted_180 cS_RX12_190 (M_X12_truth (Nat.le_refl _) rfl) (as := [.int s0]) (st := []) rfl rfl (Nat.le_of_ble_eq_true rfl) (Nat.le_trans (Nat.le_of_ble_eq_true rfl) hd) rfl ?_
  cases h
  exact g_iret (pc := 183) dX12_acted_183 rfl rfl rfl (Nat.le_refl _) (Nat.le_refl _)
set_option maxRecDepth 100000 in
set_option maxHeartbeats 4000000 in
theorem G_X12_acted_0 {sc : Nat × (Nat → Int32)} {d : Nat} (hd : 1 ≤ d) {r : Int32} {u : xS} (v0 : Int32) (v1 : Int32) (v2 : Int32) (h : f_X12_acted v0 v1 v2 = some r) : xG sc mX12_acted d 0 0 (xR (some (.int r)) (xL0, u) 0 0) 0 0 0 [some (.int v0), some (.int v1), some (.int v2)] [] (xL0, u) := by
  rw [f_X12_acted] at h
  refine g_iload_n (pc := 0) dX12_acted_0 rfl ?_
  by_cases c1 : v0 = (37 : Int32)
  · replace h := (if_pos c1).symm.trans h
    refine g_tableIn (tgt := 136) (off := 135) (pc := 1) dX12_acted_1 (by rw [c1]; decide) (by rw [c1]; decide) (by rw [c1]; rfl) (by decide) ?_
    refine g_iload_n (pc := 136) dX12_acted_136 rfl ?_
    refine g_if_ne (tgt := 144) (pc := 137) dX12_acted_137 (by decide) (fun c2 => ?_) (fun c2 => ?_)
    · replace h := (if_neg c2).symm.trans h
      refine g_iload_n (pc := 144) dX12_acted_144 rfl ?_
      refine g_iload_n (pc := 145) dX12_acted_145 rfl ?_
      obtain ⟨g3, h⟩ := x_gd h
      refine g_irem (pc := 146) dX12_acted_146 (xnz_of g3) rfl ?_
      cases h
      exact g_iret (pc := 147) dX12_acted_147 rfl rfl rfl (Nat.le_refl _) (Nat.le_refl _)
    · replace h := (if_pos c2).symm.trans h
      refine g_iconst (pc := 140) dX12_acted_140 ic_0 ?_
      refine g_goto (tgt := 147) (pc := 141) dX12_acted_141 (by decide) ?_
      cases h
      exact g_iret (pc := 147) dX12_acted_147 rfl rfl rfl (Nat.le_refl _) (Nat.le_refl _)
  replace h := (if_neg c1).symm.trans h
  by_cases c4 : v0 = (38 : Int32)
  · replace h := (if_pos c4).symm.trans h
    refine g_tableIn (tgt := 198) (off := 197) (pc := 1) dX12_acted_1 (by rw [c4]; decide) (by rw [c4]; decide) (by rw [c4]; rfl) (by decide) ?_
    refine g_iload_n (pc := 198) dX12_acted_198 rfl ?_
    refine g_if_eq (tgt := 210) (pc := 199) dX12_acted_199 (by decide) (fun c5 => ?_) (fun c5 => ?_)
    · replace h := (if_pos c5).symm.trans h
      refine g_L (L' := [none, none, none]) trivial ?_
      exact G_X12_acted_210 hd h
    · replace h := (if_neg c5).symm.trans h
      refine g_iload_n (pc := 202) dX12_acted_202 rfl ?_
      refine g_if_eq (tgt := 210) (pc := 203) dX12_acted_203 (by decide) (fun c6 => ?_) (fun c6 => ?_)
      · replace h := (if_pos c6).symm.trans h
        refine g_L (L' := [none, none, none]) trivial ?_
        exact G_X12_acted_210 hd h
      · replace h := (if_neg c6).symm.trans h
        refine g_iconst (pc := 206) dX12_acted_206 ic_1 ?_
        refine g_goto (tgt := 211) (pc := 207) dX12_acted_207 (by decide) ?_
        refine g_L (L' := [none, none, none]) trivial ?_
        exact G_X12_acted_211 hd (1 : Int32) h
  replace h := (if_neg c4).symm.trans h
  by_cases c7 : v0 = (39 : Int32)
  · replace h := (if_pos c7).symm.trans h
    refine g_tableIn (tgt := 215) (off := 214) (pc := 1) dX12_acted_1 (by rw [c7]; decide) (by rw [c7]; decide) (by rw [c7]; rfl) (by decide) ?_
    refine g_iload_n (pc := 215) dX12_acted_215 rfl ?_
    refine g_if_ne (tgt := 223) (pc := 216) dX12_acted_216 (by decide) (fun c8 => ?_) (fun c8 => ?_)
    · replace h := (if_neg c8).symm.trans h
      refine g_L (L' := [none, none, none]) trivial ?_
      exact G_X12_acted_223 hd h
    · replace h := (if_pos c8).symm.trans h
      refine g_iload_n (pc := 219) dX12_acted_219 rfl ?_
      refine g_if_eq (tgt := 227) (pc := 220) dX12_acted_220 (by decide) (fun c9 => ?_) (fun c9 => ?_)
      · replace h := (if_pos c9).symm.trans h
        refine g_iconst (pc := 227) dX12_acted_227 ic_0 ?_
        refine g_L (L' := [none, none, none]) trivial ?_
        exact G_X12_acted_228 hd (0 : Int32) h
      · replace h := (if_neg c9).symm.trans h
        refine g_L (L' := [none, none, none]) trivial ?_
        exact G_X12_acted_223 hd h
  replace h := (if_neg c7).symm.trans h
  by_cases c10 : v0 = (40 : Int32)
  · replace h := (if_pos c10).symm.trans h
    refine g_tableIn (tgt := 215) (off := 214) (pc := 1) dX12_acted_1 (by rw [c10]; decide) (by rw [c10]; decide) (by rw [c10]; rfl) (by decide) ?_
    refine g_iload_n (pc := 215) dX12_acted_215 rfl ?_
    refine g_if_ne (tgt := 223) (pc := 216) dX12_acted_216 (by decide) (fun c11 => ?_) (fun c11 => ?_)
    · replace h := (if_neg c11).symm.trans h
      refine g_L (L' := [none, none, none]) trivial ?_
      exact G_X12_acted_223 hd h
    · replace h := (if_pos c11).symm.trans h
      refine g_iload_n (pc := 219) dX12_acted_219 rfl ?_
      refine g_if_eq (tgt := 227) (pc := 220) dX12_acted_220 (by decide) (fun c12 => ?_) (fun c12 => ?_)
      · replace h := (if_pos c12).symm.trans h
        refine g_iconst (pc := 227) dX12_acted_227 ic_0 ?_
        refine g_L (L' := [none, none, none]) trivial ?_
        exact G_X12_acted_228 hd (0 : Int32) h
      · replace h := (if_neg c12).symm.trans h
        refine g_L (L' := [none, none, none]) trivial ?_
        exact G_X12_acted_223 hd h
  replace h := (if_neg c10).symm.trans h
  by_cases c13 : v0 = (41 : Int32)
  · replace h := (if_pos c13).symm.trans h
    refine g_tableIn (tgt := 215) (off := 214) (pc := 1) dX12_acted_1 (by rw [c13]; decide) (by rw [c13]; decide) (by rw [c13]; rfl) (by decide) ?_
    refine g_iload_n (pc := 215) dX12_acted_215 rfl ?_
    refine g_if_ne (tgt := 223) (pc := 216) dX12_acted_216 (by decide) (fun c14 => ?_) (fun c14 => ?_)
    · replace h := (if_neg c14).symm.trans h
      refine g_L (L' := [none, none, none]) trivial ?_
      exact G_X12_acted_223 hd h
    · replace h := (if_pos c14).symm.trans h
      refine g_iload_n (pc := 219) dX12_acted_219 rfl ?_
      refine g_if_eq (tgt := 227) (pc := 220) dX12_acted_220 (by decide) (fun c15 => ?_) (fun c15 => ?_)
      · replace h := (if_pos c15).symm.trans h
        refine g_iconst (pc := 227) dX12_acted_227 ic_0 ?_
        refine g_L (L' := [none, none, none]) trivial ?_
        exact G_X12_acted_228 hd (0 : Int32) h
      · replace h := (if_neg c15).symm.trans h
        refine g_L (L' := [none, none, none]) trivial ?_
        exact G_X12_acted_223 hd h
  replace h := (if_neg c13).symm.trans h
  by_cases c16 : v0 = (42 : Int32)
  · replace h := (if_pos c16).symm.trans h
    refine g_tableIn (tgt := 120) (off := 119) (pc := 1) dX12_acted_1 (by rw [c16]; decide) (by rw [c16]; decide) (by rw [c16]; rfl) (by decide) ?_
    refine g_iload_n (pc := 120) dX12_acted_120 rfl ?_
    refine g_iload_n (pc := 121) dX12_acted_121 rfl ?_
    refine g_imul (pc := 122) dX12_acted_122 rfl ?_
    cases h
    exact g_iret (pc := 123) dX12_acted_123 rfl rfl rfl (Nat.le_refl _) (Nat.le_refl _)
  replace h := (if_neg c16).symm.trans h
  by_cases c17 : v0 = (43 : Int32)
  · replace h := (if_pos c17).symm.trans h
    refine g_tableIn (tgt := 148) (off := 147) (pc := 1) dX12_acted_1 (by rw [c17]; decide) (by rw [c17]; decide) (by rw [c17]; rfl) (by decide) ?_
    refine g_iload_n (pc := 148) dX12_acted_148 rfl ?_
    refine g_iload_n (pc := 149) dX12_acted_149 rfl ?_
    refine g_iadd (pc := 150) dX12_acted_150 rfl ?_
    cases h
    exact g_iret (pc := 151) dX12_acted_151 rfl rfl rfl (Nat.le_refl _) (Nat.le_refl _)
  replace h := (if_neg c17).symm.trans h
  by_cases c18 : v0 = (44 : Int32)
  · replace h := (if_pos c18).symm.trans h
    refine g_tableIn (tgt := 215) (off := 214) (pc := 1) dX12_acted_1 (by rw [c18]; decide) (by rw [c18]; decide) (by rw [c18]; rfl) (by decide) ?_
    refine g_iload_n (pc := 215) dX12_acted_215 rfl ?_
    refine g_if_ne (tgt := 223) (pc := 216) dX12_acted_216 (by decide) (fun c19 => ?_) (fun c19 => ?_)
    · replace h := (if_neg c19).symm.trans h
      refine g_L (L' := [none, none, none]) trivial ?_
      exact G_X12_acted_223 hd h
    · replace h := (if_pos c19).symm.trans h
      refine g_iload_n (pc := 219) dX12_acted_219 rfl ?_
      refine g_if_eq (tgt := 227) (pc := 220) dX12_acted_220 (by decide) (fun c20 => ?_) (fun c20 => ?_)
      · replace h := (if_pos c20).symm.trans h
        refine g_iconst (pc := 227) dX12_acted_227 ic_0 ?_
        refine g_L (L' := [none, none, none]) trivial ?_
        exact G_X12_acted_228 hd (0 : Int32) h
      · replace h := (if_neg c20).symm.trans h
        refine g_L (L' := [none, none, none]) trivial ?_
        exact G_X12_acted_223 hd h
  replace h := (if_neg c18).symm.trans h
  by_cases c21 : v0 = (45 : Int32)
  · replace h := (if_pos c21).symm.trans h
    refine g_tableIn (tgt := 152) (off := 151) (pc := 1) dX12_acted_1 (by rw [c21]; decide) (by rw [c21]; decide) (by rw [c21]; rfl) (by decide) ?_
    refine g_iload_n (pc := 152) dX12_acted_152 rfl ?_
    refine g_iload_n (pc := 153) dX12_acted_153 rfl ?_
    refine g_isub (pc := 154) dX12_acted_154 rfl ?_
    cases h
    exact g_iret (pc := 155) dX12_acted_155 rfl rfl rfl (Nat.le_refl _) (Nat.le_refl _)
  replace h := (if_neg c21).symm.trans h
  by_cases c22 : v0 = (46 : Int32)
  · replace h := (if_pos c22).symm.trans h
    refine g_tableIn (tgt := 215) (off := 214) (pc := 1) dX12_acted_1 (by rw [c22]; decide) (by rw [c22]; decide) (by rw [c22]; rfl) (by decide) ?_
    refine g_iload_n (pc := 215) dX12_acted_215 rfl ?_
    refine g_if_ne (tgt := 223) (pc := 216) dX12_acted_216 (by decide) (fun c23 => ?_) (fun c23 => ?_)
    · replace h := (if_neg c23).symm.trans h
      refine g_L (L' := [none, none, none]) trivial ?_
      exact G_X12_acted_223 hd h
    · replace h := (if_pos c23).symm.trans h
      refine g_iload_n (pc := 219) dX12_acted_219 rfl ?_
      refine g_if_eq (tgt := 227) (pc := 220) dX12_acted_220 (by decide) (fun c24 => ?_) (fun c24 => ?_)
      · replace h := (if_pos c24).symm.trans h
        refine g_iconst (pc := 227) dX12_acted_227 ic_0 ?_
        refine g_L (L' := [none, none, none]) trivial ?_
        exact G_X12_acted_228 hd (0 : Int32) h
      · replace h := (if_neg c24).symm.trans h
        refine g_L (L' := [none, none, none]) trivial ?_
        exact G_X12_acted_223 hd h
  replace h := (if_neg c22).symm.trans h
  by_cases c25 : v0 = (47 : Int32)
  · replace h := (if_pos c25).symm.trans h
    refine g_tableIn (tgt := 124) (off := 123) (pc := 1) dX12_acted_1 (by rw [c25]; decide) (by rw [c25]; decide) (by rw [c25]; rfl) (by decide) ?_
    refine g_iload_n (pc := 124) dX12_acted_124 rfl ?_
    refine g_if_ne (tgt := 132) (pc := 125) dX12_acted_125 (by decide) (fun c26 => ?_) (fun c26 => ?_)
    · replace h := (if_neg c26).symm.trans h
      refine g_iload_n (pc := 132) dX12_acted_132 rfl ?_
      refine g_iload_n (pc := 133) dX12_acted_133 rfl ?_
      obtain ⟨g27, h⟩ := x_gd h
      refine g_idiv (pc := 134) dX12_acted_134 (xnz_of g27) rfl ?_
      cases h
      exact g_iret (pc := 135) dX12_acted_135 rfl rfl rfl (Nat.le_refl _) (Nat.le_refl _)
    · replace h := (if_pos c26).symm.trans h
      refine g_iconst (pc := 128) dX12_acted_128 ic_0 ?_
      refine g_goto (tgt := 135) (pc := 129) dX12_acted_129 (by decide) ?_
      cases h
      exact g_iret (pc := 135) dX12_acted_135 rfl rfl rfl (Nat.le_refl _) (Nat.le_refl _)
  replace h := (if_neg c25).symm.trans h
  by_cases c28 : v0 = (48 : Int32)
  · replace h := (if_pos c28).symm.trans h
    refine g_tableIn (tgt := 215) (off := 214) (pc := 1) dX12_acted_1 (by rw [c28]; decide) (by rw [c28]; decide) (by rw [c28]; rfl) (by decide) ?_
    refine g_iload_n (pc := 215) dX12_acted_215 rfl ?_
    refine g_if_ne (tgt := 223) (pc := 216) dX12_acted_216 (by decide) (fun c29 => ?_) (fun c29 => ?_)
    · replace h := (if_neg c29).symm.trans h
      refine g_L (L' := [none, none, none]) trivial ?_
      exact G_X12_acted_223 hd h
    · replace h := (if_pos c29).symm.trans h
      refine g_iload_n (pc := 219) dX12_acted_219 rfl ?_
      refine g_if_eq (tgt := 227) (pc := 220) dX12_acted_220 (by decide) (fun c30 => ?_) (fun c30 => ?_)
      · replace h := (if_pos c30).symm.trans h
        refine g_iconst (pc := 227) dX12_acted_227 ic_0 ?_
        refine g_L (L' := [none, none, none]) trivial ?_
        exact G_X12_acted_228 hd (0 : Int32) h
      · replace h := (if_neg c30).symm.trans h
        refine g_L (L' := [none, none, none]) trivial ?_
        exact G_X12_acted_223 hd h
  replace h := (if_neg c28).symm.trans h
  by_cases c31 : v0 = (49 : Int32)
  · replace h := (if_pos c31).symm.trans h
    refine g_tableIn (tgt := 215) (off := 214) (pc := 1) dX12_acted_1 (by rw [c31]; decide) (by rw [c31]; decide) (by rw [c31]; rfl) (by decide) ?_
    refine g_iload_n (pc := 215) dX12_acted_215 rfl ?_
    refine g_if_ne (tgt := 223) (pc := 216) dX12_acted_216 (by decide) (fun c32 => ?_) (fun c32 => ?_)
    · replace h := (if_neg c32).symm.trans h
      refine g_L (L' := [none, none, none]) trivial ?_
      exact G_X12_acted_223 hd h
    · replace h := (if_pos c32).symm.trans h
      refine g_iload_n (pc := 219) dX12_acted_219 rfl ?_
      refine g_if_eq (tgt := 227) (pc := 220) dX12_acted_220 (by decide) (fun c33 => ?_) (fun c33 => ?_)
      · replace h := (if_pos c33).symm.trans h
        refine g_iconst (pc := 227) dX12_acted_227 ic_0 ?_
        refine g_L (L' := [none, none, none]) trivial ?_
        exact G_X12_acted_228 hd (0 : Int32) h
      · replace h := (if_neg c33).symm.trans h
        refine g_L (L' := [none, none, none]) trivial ?_
        exact G_X12_acted_223 hd h
  replace h := (if_neg c31).symm.trans h
  by_cases c34 : v0 = (50 : Int32)
  · replace h := (if_pos c34).symm.trans h
    refine g_tableIn (tgt := 215) (off := 214) (pc := 1) dX12_acted_1 (by rw [c34]; decide) (by rw [c34]; decide) (by rw [c34]; rfl) (by decide) ?_
    refine g_iload_n (pc := 215) dX12_acted_215 rfl ?_
    refine g_if_ne (tgt := 223) (pc := 216) dX12_acted_216 (by decide) (fun c35 => ?_) (fun c35 => ?_)
    · replace h := (if_neg c35).symm.trans h
      refine g_L (L' := [none, none, none]) trivial ?_
      exact G_X12_acted_223 hd h
    · replace h := (if_pos c35).symm.trans h
      refine g_iload_n (pc := 219) dX12_acted_219 rfl ?_
      refine g_if_eq (tgt := 227) (pc := 220) dX12_acted_220 (by decide) (fun c36 => ?_) (fun c36 => ?_)
      · replace h := (if_pos c36).symm.trans h
        refine g_iconst (pc := 227) dX12_acted_227 ic_0 ?_
        refine g_L (L' := [none, none, none]) trivial ?_
        exact G_X12_acted_228 hd (0 : Int32) h
      · replace h := (if_neg c36).symm.trans h
        refine g_L (L' := [none, none, none]) trivial ?_
        exact G_X12_acted_223 hd h
  replace h := (if_neg c34).symm.trans h
  by_cases c37 : v0 = (51 : Int32)
  · replace h := (if_pos c37).symm.trans h
    refine g_tableIn (tgt := 215) (off := 214) (pc := 1) dX12_acted_1 (by rw [c37]; decide) (by rw [c37]; decide) (by rw [c37]; rfl) (by decide) ?_
    refine g_iload_n (pc := 215) dX12_acted_215 rfl ?_
    refine g_if_ne (tgt := 223) (pc := 216) dX12_acted_216 (by decide) (fun c38 => ?_) (fun c38 => ?_)
    · replace h := (if_neg c38).symm.trans h
      refine g_L (L' := [none, none, none]) trivial ?_
      exact G_X12_acted_223 hd h
    · replace h := (if_pos c38).symm.trans h
      refine g_iload_n (pc := 219) dX12_acted_219 rfl ?_
      refine g_if_eq (tgt := 227) (pc := 220) dX12_acted_220 (by decide) (fun c39 => ?_) (fun c39 => ?_)
      · replace h := (if_pos c39).symm.trans h
        refine g_iconst (pc := 227) dX12_acted_227 ic_0 ?_
        refine g_L (L' := [none, none, none]) trivial ?_
        exact G_X12_acted_228 hd (0 : Int32) h
      · replace h := (if_neg c39).symm.trans h
        refine g_L (L' := [none, none, none]) trivial ?_
        exact G_X12_acted_223 hd h
  replace h := (if_neg c37).symm.trans h
  by_cases c40 : v0 = (52 : Int32)
  · replace h := (if_pos c40).symm.trans h
    refine g_tableIn (tgt := 215) (off := 214) (pc := 1) dX12_acted_1 (by rw [c40]; decide) (by rw [c40]; decide) (by rw [c40]; rfl) (by decide) ?_
    refine g_iload_n (pc := 215) dX12_acted_215 rfl ?_
    refine g_if_ne (tgt := 223) (pc := 216) dX12_acted_216 (by decide) (fun c41 => ?_) (fun c41 => ?_)
    · replace h := (if_neg c41).symm.trans h
      refine g_L (L' := [none, none, none]) trivial ?_
      exact G_X12_acted_223 hd h
    · replace h := (if_pos c41).symm.trans h
      refine g_iload_n (pc := 219) dX12_acted_219 rfl ?_
      refine g_if_eq (tgt := 227) (pc := 220) dX12_acted_220 (by decide) (fun c42 => ?_) (fun c42 => ?_)
      · replace h := (if_pos c42).symm.trans h
        refine g_iconst (pc := 227) dX12_acted_227 ic_0 ?_
        refine g_L (L' := [none, none, none]) trivial ?_
        exact G_X12_acted_228 hd (0 : Int32) h
      · replace h := (if_neg c42).symm.trans h
        refine g_L (L' := [none, none, none]) trivial ?_
        exact G_X12_acted_223 hd h
  replace h := (if_neg c40).symm.trans h
  by_cases c43 : v0 = (53 : Int32)
  · replace h := (if_pos c43).symm.trans h
    refine g_tableIn (tgt := 215) (off := 214) (pc := 1) dX12_acted_1 (by rw [c43]; decide) (by rw [c43]; decide) (by rw [c43]; rfl) (by decide) ?_
    refine g_iload_n (pc := 215) dX12_acted_215 rfl ?_
    refine g_if_ne (tgt := 223) (pc := 216) dX12_acted_216 (by decide) (fun c44 => ?_) (fun c44 => ?_)
    · replace h := (if_neg c44).symm.trans h
      refine g_L (L' := [none, none, none]) trivial ?_
      exact G_X12_acted_223 hd h
    · replace h := (if_pos c44).symm.trans h
      refine g_iload_n (pc := 219) dX12_acted_219 rfl ?_
      refine g_if_eq (tgt := 227) (pc := 220) dX12_acted_220 (by decide) (fun c45 => ?_) (fun c45 => ?_)
      · replace h := (if_pos c45).symm.trans h
        refine g_iconst (pc := 227) dX12_acted_227 ic_0 ?_
        refine g_L (L' := [none, none, none]) trivial ?_
        exact G_X12_acted_228 hd (0 : Int32) h
      · replace h := (if_neg c45).symm.trans h
        refine g_L (L' := [none, none, none]) trivial ?_
        exact G_X12_acted_223 hd h
  replace h := (if_neg c43).symm.trans h
  by_cases c46 : v0 = (54 : Int32)
  · replace h := (if_pos c46).symm.trans h
    refine g_tableIn (tgt := 215) (off := 214) (pc := 1) dX12_acted_1 (by rw [c46]; decide) (by rw [c46]; decide) (by rw [c46]; rfl) (by decide) ?_
    refine g_iload_n (pc := 215) dX12_acted_215 rfl ?_
    refine g_if_ne (tgt := 223) (pc := 216) dX12_acted_216 (by decide) (fun c47 => ?_) (fun c47 => ?_)
    · replace h := (if_neg c47).symm.trans h
      refine g_L (L' := [none, none, none]) trivial ?_
      exact G_X12_acted_223 hd h
    · replace h := (if_pos c47).symm.trans h
      refine g_iload_n (pc := 219) dX12_acted_219 rfl ?_
      refine g_if_eq (tgt := 227) (pc := 220) dX12_acted_220 (by decide) (fun c48 => ?_) (fun c48 => ?_)
      · replace h := (if_pos c48).symm.trans h
        refine g_iconst (pc := 227) dX12_acted_227 ic_0 ?_
        refine g_L (L' := [none, none, none]) trivial ?_
        exact G_X12_acted_228 hd (0 : Int32) h
      · replace h := (if_neg c48).symm.trans h
        refine g_L (L' := [none, none, none]) trivial ?_
        exact G_X12_acted_223 hd h
  replace h := (if_neg c46).symm.trans h
  by_cases c49 : v0 = (55 : Int32)
  · replace h := (if_pos c49).symm.trans h
    refine g_tableIn (tgt := 215) (off := 214) (pc := 1) dX12_acted_1 (by rw [c49]; decide) (by rw [c49]; decide) (by rw [c49]; rfl) (by decide) ?_
    refine g_iload_n (pc := 215) dX12_acted_215 rfl ?_
    refine g_if_ne (tgt := 223) (pc := 216) dX12_acted_216 (by decide) (fun c50 => ?_) (fun c50 => ?_)
    · replace h := (if_neg c50).symm.trans h
      refine g_L (L' := [none, none, none]) trivial ?_
      exact G_X12_acted_223 hd h
    · replace h := (if_pos c50).symm.trans h
      refine g_iload_n (pc := 219) dX12_acted_219 rfl ?_
      refine g_if_eq (tgt := 227) (pc := 220) dX12_acted_220 (by decide) (fun c51 => ?_) (fun c51 => ?_)
      · replace h := (if_pos c51).symm.trans h
        refine g_iconst (pc := 227) dX12_acted_227 ic_0 ?_
        refine g_L (L' := [none, none, none]) trivial ?_
        exact G_X12_acted_228 hd (0 : Int32) h
      · replace h := (if_neg c51).symm.trans h
        refine g_L (L' := [none, none, none]) trivial ?_
        exact G_X12_acted_223 hd h
  replace h := (if_neg c49).symm.trans h
  by_cases c52 : v0 = (56 : Int32)
  · replace h := (if_pos c52).symm.trans h
    refine g_tableIn (tgt := 215) (off := 214) (pc := 1) dX12_acted_1 (by rw [c52]; decide) (by rw [c52]; decide) (by rw [c52]; rfl) (by decide) ?_
    refine g_iload_n (pc := 215) dX12_acted_215 rfl ?_
    refine g_if_ne (tgt := 223) (pc := 216) dX12_acted_216 (by decide) (fun c53 => ?_) (fun c53 => ?_)
    · replace h := (if_neg c53).symm.trans h
      refine g_L (L' := [none, none, none]) trivial ?_
      exact G_X12_acted_223 hd h
    · replace h := (if_pos c53).symm.trans h
      refine g_iload_n (pc := 219) dX12_acted_219 rfl ?_
      refine g_if_eq (tgt := 227) (pc := 220) dX12_acted_220 (by decide) (fun c54 => ?_) (fun c54 => ?_)
      · replace h := (if_pos c54).symm.trans h
        refine g_iconst (pc := 227) dX12_acted_227 ic_0 ?_
        refine g_L (L' := [none, none, none]) trivial ?_
        exact G_X12_acted_228 hd (0 : Int32) h
      · replace h := (if_neg c54).symm.trans h
        refine g_L (L' := [none, none, none]) trivial ?_
        exact G_X12_acted_223 hd h
  replace h := (if_neg c52).symm.trans h
  by_cases c55 : v0 = (57 : Int32)
  · replace h := (if_pos c55).symm.trans h
    refine g_tableIn (tgt := 215) (off := 214) (pc := 1) dX12_acted_1 (by rw [c55]; decide) (by rw [c55]; decide) (by rw [c55]; rfl) (by decide) ?_
    refine g_iload_n (pc := 215) dX12_acted_215 rfl ?_
    refine g_if_ne (tgt := 223) (pc := 216) dX12_acted_216 (by decide) (fun c56 => ?_) (fun c56 => ?_)
    · replace h := (if_neg c56).symm.trans h
      refine g_L (L' := [none, none, none]) trivial ?_
      exact G_X12_acted_223 hd h
    · replace h := (if_pos c56).symm.trans h
      refine g_iload_n (pc := 219) dX12_acted_219 rfl ?_
      refine g_if_eq (tgt := 227) (pc := 220) dX12_acted_220 (by decide) (fun c57 => ?_) (fun c57 => ?_)
      · replace h := (if_pos c57).symm.trans h
        refine g_iconst (pc := 227) dX12_acted_227 ic_0 ?_
        refine g_L (L' := [none, none, none]) trivial ?_
        exact G_X12_acted_228 hd (0 : Int32) h
      · replace h := (if_neg c57).symm.trans h
        refine g_L (L' := [none, none, none]) trivial ?_
        exact G_X12_acted_223 hd h
  replace h := (if_neg c55).symm.trans h
  by_cases c58 : v0 = (58 : Int32)
  · replace h := (if_pos c58).symm.trans h
    refine g_tableIn (tgt := 215) (off := 214) (pc := 1) dX12_acted_1 (by rw [c58]; decide) (by rw [c58]; decide) (by rw [c58]; rfl) (by decide) ?_
    refine g_iload_n (pc := 215) dX12_acted_215 rfl ?_
    refine g_if_ne (tgt := 223) (pc := 216) dX12_acted_216 (by decide) (fun c59 => ?_) (fun c59 => ?_)
    · replace h := (if_neg c59).symm.trans h
      refine g_L (L' := [none, none, none]) trivial ?_
      exact G_X12_acted_223 hd h
    · replace h := (if_pos c59).symm.trans h
      refine g_iload_n (pc := 219) dX12_acted_219 rfl ?_
      refine g_if_eq (tgt := 227) (pc := 220) dX12_acted_220 (by decide) (fun c60 => ?_) (fun c60 => ?_)
      · replace h := (if_pos c60).symm.trans h
        refine g_iconst (pc := 227) dX12_acted_227 ic_0 ?_
        refine g_L (L' := [none, none, none]) trivial ?_
        exact G_X12_acted_228 hd (0 : Int32) h
      · replace h := (if_neg c60).symm.trans h
        refine g_L (L' := [none, none, none]) trivial ?_
        exact G_X12_acted_223 hd h
  replace h := (if_neg c58).symm.trans h
  by_cases c61 : v0 = (59 : Int32)
  · replace h := (if_pos c61).symm.trans h
    refine g_tableIn (tgt := 215) (off := 214) (pc := 1) dX12_acted_1 (by rw [c61]; decide) (by rw [c61]; decide) (by rw [c61]; rfl) (by decide) ?_
    refine g_iload_n (pc := 215) dX12_acted_215 rfl ?_
    refine g_if_ne (tgt := 223) (pc := 216) dX12_acted_216 (by decide) (fun c62 => ?_) (fun c62 => ?_)
    · replace h := (if_neg c62).symm.trans h
      refine g_L (L' := [none, none, none]) trivial ?_
      exact G_X12_acted_223 hd h
    · replace h := (if_pos c62).symm.trans h
      refine g_iload_n (pc := 219) dX12_acted_219 rfl ?_
      refine g_if_eq (tgt := 227) (pc := 220) dX12_acted_220 (by decide) (fun c63 => ?_) (fun c63 => ?_)
      · replace h := (if_pos c63).symm.trans h
        refine g_iconst (pc := 227) dX12_acted_227 ic_0 ?_
        refine g_L (L' := [none, none, none]) trivial ?_
        exact G_X12_acted_228 hd (0 : Int32) h
      · replace h := (if_neg c63).symm.trans h
        refine g_L (L' := [none, none, none]) trivial ?_
        exact G_X12_acted_223 hd h
  replace h := (if_neg c61).symm.trans h
  by_cases c64 : v0 = (60 : Int32)
  · replace h := (if_pos c64).symm.trans h
    refine g_tableIn (tgt := 156) (off := 155) (pc := 1) dX12_acted_1 (by rw [c64]; decide) (by rw [c64]; decide) (by rw [c64]; rfl) (by decide) ?_
    refine g_iload_n (pc := 156) dX12_acted_156 rfl ?_
    refine g_iload_n (pc := 157) dX12_acted_157 rfl ?_
    refine g_icmp_ge (tgt := 165) (pc := 158) dX12_acted_158 (by decide) (fun c65 => ?_) (fun c65 => ?_)
    · replace h := (if_pos c65).symm.trans h
      refine g_iconst (pc := 165) dX12_acted_165 ic_0 ?_
      refine g_L (L' := [none, none, none]) trivial ?_
      exact G_X12_acted_166 hd (0 : Int32) h
    · replace h := (if_neg c65).symm.trans h
      refine g_iconst (pc := 161) dX12_acted_161 ic_1 ?_
      refine g_goto (tgt := 166) (pc := 162) dX12_acted_162 (by decide) ?_
      refine g_L (L' := [none, none, none]) trivial ?_
      exact G_X12_acted_166 hd (1 : Int32) h
  replace h := (if_neg c64).symm.trans h
  by_cases c66 : v0 = (61 : Int32)
  · replace h := (if_pos c66).symm.trans h
    refine g_tableIn (tgt := 184) (off := 183) (pc := 1) dX12_acted_1 (by rw [c66]; decide) (by rw [c66]; decide) (by rw [c66]; rfl) (by decide) ?_
    refine g_iload_n (pc := 184) dX12_acted_184 rfl ?_
    refine g_iload_n (pc := 185) dX12_acted_185 rfl ?_
    refine g_icmp_ne (tgt := 193) (pc := 186) dX12_acted_186 (by decide) (fun c67 => ?_) (fun c67 => ?_)
    · replace h := (if_neg c67).symm.trans h
      refine g_iconst (pc := 193) dX12_acted_193 ic_0 ?_
      refine g_L (L' := [none, none, none]) trivial ?_
      exact G_X12_acted_194 hd (0 : Int32) h
    · replace h := (if_pos c67).symm.trans h
      refine g_iconst (pc := 189) dX12_acted_189 ic_1 ?_
      refine g_goto (tgt := 194) (pc := 190) dX12_acted_190 (by decide) ?_
      refine g_L (L' := [none, none, none]) trivial ?_
      exact G_X12_acted_194 hd (1 : Int32) h
  replace h := (if_neg c66).symm.trans h
  by_cases c68 : v0 = (62 : Int32)
  · replace h := (if_pos c68).symm.trans h
    refine g_tableIn (tgt := 170) (off := 169) (pc := 1) dX12_acted_1 (by rw [c68]; decide) (by rw [c68]; decide) (by rw [c68]; rfl) (by decide) ?_
    refine g_iload_n (pc := 170) dX12_acted_170 rfl ?_
    refine g_iload_n (pc := 171) dX12_acted_171 rfl ?_
    refine g_icmp_le (tgt := 179) (pc := 172) dX12_acted_172 (by decide) (fun c69 => ?_) (fun c69 => ?_)
    · replace h := (if_pos c69).symm.trans h
      refine g_iconst (pc := 179) dX12_acted_179 ic_0 ?_
      refine g_L (L' := [none, none, none]) trivial ?_
      exact G_X12_acted_180 hd (0 : Int32) h
    · replace h := (if_neg c69).symm.trans h
      refine g_iconst (pc := 175) dX12_acted_175 ic_1 ?_
      refine g_goto (tgt := 180) (pc := 176) dX12_acted_176 (by decide) ?_
      refine g_L (L' := [none, none, none]) trivial ?_
      exact G_X12_acted_180 hd (1 : Int32) h
  replace h := (if_neg c68).symm.trans h
  have c1i := i32_ne c1 (m := 37) (by decide)
  have c4i := i32_ne c4 (m := 38) (by decide)
  have c7i := i32_ne c7 (m := 39) (by decide)
  have c10i := i32_ne c10 (m := 40) (by decide)
  have c13i := i32_ne c13 (m := 41) (by decide)
  have c16i := i32_ne c16 (m := 42) (by decide)
  have c17i := i32_ne c17 (m := 43) (by decide)
  have c18i := i32_ne c18 (m := 44) (by decide)
  have c21i := i32_ne c21 (m := 45) (by decide)
  have c22i := i32_ne c22 (m := 46) (by decide)
  have c25i := i32_ne c25 (m := 47) (by decide)
  have c28i := i32_ne c28 (m := 48) (by decide)
  have c31i := i32_ne c31 (m := 49) (by decide)
  have c34i := i32_ne c34 (m := 50) (by decide)
  have c37i := i32_ne c37 (m := 51) (by decide)
  have c40i := i32_ne c40 (m := 52) (by decide)
  have c43i := i32_ne c43 (m := 53) (by decide)
  have c46i := i32_ne c46 (m := 54) (by decide)
  have c49i := i32_ne c49 (m := 55) (by decide)
  have c52i := i32_ne c52 (m := 56) (by decide)
  have c55i := i32_ne c55 (m := 57) (by decide)
  have c58i := i32_ne c58 (m := 58) (by decide)
  have c61i := i32_ne c61 (m := 59) (by decide)
  have c64i := i32_ne c64 (m := 60) (by decide)
  have c66i := i32_ne c66 (m := 61) (by decide)
  have c68i := i32_ne c68 (m := 62) (by decide)
  refine g_tableOut (tgt := 215) (pc := 1) dX12_acted_1 (by omega) (by decide) ?_
  refine g_iload_n (pc := 215) dX12_acted_215 rfl ?_
  refine g_if_ne (tgt := 223) (pc := 216) dX12_acted_216 (by decide) (fun c70 => ?_) (fun c70 => ?_)
  · replace h := (if_neg c70).symm.trans h
    refine g_L (L' := [none, none, none]) trivial ?_
    exact G_X12_acted_223 hd h
  · replace h := (if_pos c70).symm.trans h
    refine g_iload_n (pc := 219) dX12_acted_219 rfl ?_
    refine g_if_eq (tgt := 227) (pc := 220) dX12_acted_220 (by decide) (fun c71 => ?_) (fun c71 => ?_)
    · replace h := (if_pos c71).symm.trans h
      refine g_iconst (pc := 227) dX12_acted_227 ic_0 ?_
      refine g_L (L' := [none, none, none]) trivial ?_
      exact G_X12_acted_228 hd (0 : Int32) h
    · replace h := (if_neg c71).symm.trans h
      refine g_L (L' := [none, none, none]) trivial ?_
      exact G_X12_acted_223 hd h
set_option maxRecDepth 100000 in
set_option maxHeartbeats 4000000 in
theorem M_X12_acted {sc : Nat × (Nat → Int32)} {d : Nat} (hd : 1 ≤ d) {r : Int32} {u : xS} {a0 : Int32} {a1 : Int32} {a2 : Int32} (h : f_X12_acted a0 a1 a2 = some r) : xMt sc mX12_acted d 0 0 [.int a0, .int a1, .int a2] (xL0, u) (some (.int r)) (xL0, u) :=
  xMt.of (by decide +kernel) (Nat.le_of_ble_eq_true rfl) (L := [some (.int a0), some (.int a1), some (.int a2)]) rfl ((G_X12_acted_0 hd a0 a1 a2 h))
set_option maxRecDepth 100000 in
set_option maxHeartbeats 4000000 in
theorem G_X12_alike_115 {sc : Nat × (Nat → Int32)} {d : Nat} (hd : 1 ≤ d) {r : Int32} {u : xS} {k8 : Int32 → Int32 → Int32 → Int32 → Int32 → Option Int32} (hk8 : ∀ (v1 : Int32) (v2 : Int32) (v3 : Int32) (v4 : Int32) (v5 : Int32), k8 v1 v2 v3 v4 v5 = some r → xG sc mX12_alike d 0 0 (xR (some (.int r)) (xL0, u) 0 0) 0 0 8 [some (.ref 135), some (.int v1), some (.int v2), some (.int v3), some (.int v4), some (.int v5), none] [] (xL0, u)) (v1 : Int32) (v2 : Int32) (v3 : Int32) (v5 : Int32) (s0 : Int32) (s1 : Int32) (h : f_X12_alike_115 k8 u v1 v2 v3 v5 s0 s1 = some r) : xG sc mX12_alike d 0 0 (xR (some (.int r)) (xL0, u) 0 0) 0 0 115 [some (.ref 135), some (.int v1), some (.int v2), some (.int v3), none, some (.int v5), none] [.int s1, .int s0] (xL0, u) := by
  rw [f_X12_alike_115] at h
  refine g_cS (pc := 115) dX12_alike_115 cS_RX12_190 (M_X12_truth (Nat.le_refl _) rfl) (as := [.int s1]) (st := [.int s0]) rfl rfl (Nat.le_of_ble_eq_true rfl) (Nat.le_trans (Nat.le_of_ble_eq_true rfl) hd) rfl ?_
  refine g_iadd (pc := 118) dX12_alike_118 rfl ?_
  refine g_istore (pc := 119) dX12_alike_119 (Nat.le_of_ble_eq_true rfl) (L' := [some (.ref 135), some (.int v1), some (.int v2), some (.int v3), some (.int (s0 + (f_X12_truth s1))), some (.int v5), none]) rfl ?_
  refine g_inc (pc := 121) dX12_alike_121 (Nat.le_of_ble_eq_true rfl) rfl ic_1 (L' := [some (.ref 135), some (.int v1), some (.int v2), some (.int v3), some (.int (s0 + (f_X12_truth s1))), some (.int (v5 + (1 : Int32))), none]) rfl ?_
  refine g_goto (tgt := 8) (pc := 124) dX12_alike_124 (by decide) ?_
  exact hk8 v1 v2 v3 (s0 + (f_X12_truth s1)) (v5 + (1 : Int32)) h
set_option maxRecDepth 100000 in
set_option maxHeartbeats 4000000 in
theorem G_X12_alike_114 {sc : Nat × (Nat → Int32)} {d : Nat} (hd : 1 ≤ d) {r : Int32} {u : xS} {k8 : Int32 → Int32 → Int32 → Int32 → Int32 → Option Int32} (hk8 : ∀ (v1 : Int32) (v2 : Int32) (v3 : Int32) (v4 : Int32) (v5 : Int32), k8 v1 v2 v3 v4 v5 = some r → xG sc mX12_alike d 0 0 (xR (some (.int r)) (xL0, u) 0 0) 0 0 8 [some (.ref 135), some (.int v1), some (.int v2), some (.int v3), some (.int v4), some (.int v5), none] [] (xL0, u)) (v1 : Int32) (v2 : Int32) (v3 : Int32) (v5 : Int32) (s0 : Int32) (h : f_X12_alike_114 k8 u v1 v2 v3 v5 s0 = some r) : xG sc mX12_alike d 0 0 (xR (some (.int r)) (xL0, u) 0 0) 0 0 114 [some (.ref 135), some (.int v1), some (.int v2), some (.int v3), none, some (.int v5), none] [.int s0] (xL0, u) := by
  rw [f_X12_alike_114] at h
  refine g_iconst (pc := 114) dX12_alike_114 ic_0 ?_
  exact G_X12_alike_115 hd hk8 v1 v2 v3 v5 s0 (0 : Int32) h
set_option maxRecDepth 100000 in
set_option maxHeartbeats 4000000 in
theorem G_X12_alike_76 {sc : Nat × (Nat → Int32)} {d : Nat} (hd : 1 ≤ d) {r : Int32} {u : xS} {k8 : Int32 → Int32 → Int32 → Int32 → Int32 → Option Int32} (hk8 : ∀ (v1 : Int32) (v2 : Int32) (v3 : Int32) (v4 : Int32) (v5 : Int32), k8 v1 v2 v3 v4 v5 = some r → xG sc mX12_alike d 0 0 (xR (some (.int r)) (xL0, u) 0 0) 0 0 8 [some (.ref 135), some (.int v1), some (.int v2), some (.int v3), some (.int v4), some (.int v5), none] [] (xL0, u)) (v1 : Int32) (v2 : Int32) (v3 : Int32) (v4 : Int32) (v5 : Int32) (s0 : Int32) (h : f_X12_alike_76 k8 u v1 v2 v3 v4 v5 s0 = some r) : xG sc mX12_alike d 0 0 (xR (some (.int r)) (xL0, u) 0 0) 0 0 76 [some (.ref 135), some (.int v1), some (.int v2), some (.int v3), some (.int v4), some (.int v5), none] [.int s0] (xL0, u) := by
  rw [f_X12_alike_76] at h
  refine g_istore (pc := 76) dX12_alike_76 (Nat.le_of_ble_eq_true rfl) (L' := [some (.ref 135), some (.int v1), some (.int v2), some (.int v3), some (.int v4), some (.int v5), some (.int s0)]) rfl ?_
  refine g_iload_n (pc := 78) dX12_alike_78 rfl ?_
  refine g_iload (pc := 79) dX12_alike_79 rfl ?_
  refine g_cS (pc := 81) dX12_alike_81 cS_RX12_190 (M_X12_truth (Nat.le_refl _) rfl) (as := [.int s0]) (st := [.int v3]) rfl rfl (Nat.le_of_ble_eq_true rfl) (Nat.le_trans (Nat.le_of_ble_eq_true rfl) hd) rfl ?_
  refine g_iadd (pc := 84) dX12_alike_84 rfl ?_
  refine g_istore_n (pc := 85) dX12_alike_85 (Nat.le_of_ble_eq_true rfl) (L' := [some (.ref 135), some (.int v1), some (.int v2), some (.int (v3 + (f_X12_truth s0))), some (.int v4), some (.int v5), some (.int s0)]) rfl ?_
  refine g_iload (pc := 86) dX12_alike_86 rfl ?_
  refine g_iload (pc := 88) dX12_alike_88 rfl ?_
  refine g_if_eq (tgt := 114) (pc := 90) dX12_alike_90 (by decide) (fun c1 => ?_) (fun c1 => ?_)
  · replace h := (if_pos c1).symm.trans h
    refine g_L (L' := [some (.ref 135), some (.int v1), some (.int v2), some (.int (v3 + (f_X12_truth s0))), none, some (.int v5), none]) ⟨rfl, ⟨rfl, ⟨rfl, ⟨rfl, ⟨rfl, trivial⟩⟩⟩⟩⟩ ?_
    exact G_X12_alike_114 hd hk8 v1 v2 (v3 + (f_X12_truth s0)) v5 v4 h
  · replace h := (if_neg c1).symm.trans h
    refine g_aload_n (pc := 93) dX12_alike_93 rfl ?_
    refine g_gR (pc := 94) dX12_alike_94 fR_RX12_114 xc_135 (v := 169) rfl ?_
    refine g_iload (pc := 97) dX12_alike_97 rfl ?_
    obtain ⟨g2, h⟩ := x_gd h
    refine g_iaload (pc := 99) dX12_alike_99 xc_169 (xin_of g2) (v := (rd u 169 v5.toNatClampNeg)) rfl ?_
    refine g_aload_n (pc := 100) dX12_alike_100 rfl ?_
    refine g_gR (pc := 101) dX12_alike_101 fR_RX12_117 xc_135 (v := 170) rfl ?_
    refine g_iload (pc := 104) dX12_alike_104 rfl ?_
    refine g_iaload (pc := 106) dX12_alike_106 xc_170 (xin_of g2) (v := (rd u 170 v5.toNatClampNeg)) rfl ?_
    refine g_icmp_ne (tgt := 114) (pc := 107) dX12_alike_107 (by decide) (fun c3 => ?_) (fun c3 => ?_)
    · replace h := (if_neg c3).symm.trans h
      refine g_L (L' := [some (.ref 135), some (.int v1), some (.int v2), some (.int (v3 + (f_X12_truth s0))), none, some (.int v5), none]) ⟨rfl, ⟨rfl, ⟨rfl, ⟨rfl, ⟨rfl, trivial⟩⟩⟩⟩⟩ ?_
      exact G_X12_alike_114 hd hk8 v1 v2 (v3 + (f_X12_truth s0)) v5 v4 h
    · replace h := (if_pos c3).symm.trans h
      refine g_iconst (pc := 110) dX12_alike_110 ic_1 ?_
      refine g_goto (tgt := 115) (pc := 111) dX12_alike_111 (by decide) ?_
      refine g_L (L' := [some (.ref 135), some (.int v1), some (.int v2), some (.int (v3 + (f_X12_truth s0))), none, some (.int v5), none]) ⟨rfl, ⟨rfl, ⟨rfl, ⟨rfl, ⟨rfl, trivial⟩⟩⟩⟩⟩ ?_
      exact G_X12_alike_115 hd hk8 v1 v2 (v3 + (f_X12_truth s0)) v5 v4 (1 : Int32) h
set_option maxRecDepth 100000 in
set_option maxHeartbeats 4000000 in
theorem G_X12_alike_75 {sc : Nat × (Nat → Int32)} {d : Nat} (hd : 1 ≤ d) {r : Int32} {u : xS} {k8 : Int32 → Int32 → Int32 → Int32 → Int32 → Option Int32} (hk8 : ∀ (v1 : Int32) (v2 : Int32) (v3 : Int32) (v4 : Int32) (v5 : Int32), k8 v1 v2 v3 v4 v5 = some r → xG sc mX12_alike d 0 0 (xR (some (.int r)) (xL0, u) 0 0) 0 0 8 [some (.ref 135), some (.int v1), some (.int v2), some (.int v3), some (.int v4), some (.int v5), none] [] (xL0, u)) (v1 : Int32) (v2 : Int32) (v3 : Int32) (v4 : Int32) (v5 : Int32) (h : f_X12_alike_75 k8 u v1 v2 v3 v4 v5 = some r) : xG sc mX12_alike d 0 0 (xR (some (.int r)) (xL0, u) 0 0) 0 0 75 [some (.ref 135), some (.int v1), some (.int v2), some (.int v3), some (.int v4), some (.int v5), none] [] (xL0, u) := by
  rw [f_X12_alike_75] at h
  refine g_iconst (pc := 75) dX12_alike_75 ic_0 ?_
  exact G_X12_alike_76 hd hk8 v1 v2 v3 v4 v5 (0 : Int32) h
set_option maxRecDepth 100000 in
set_option maxHeartbeats 4000000 in
theorem G_X12_alike_71 {sc : Nat × (Nat → Int32)} {d : Nat} (hd : 1 ≤ d) {r : Int32} {u : xS} {k8 : Int32 → Int32 → Int32 → Int32 → Int32 → Option Int32} (hk8 : ∀ (v1 : Int32) (v2 : Int32) (v3 : Int32) (v4 : Int32) (v5 : Int32), k8 v1 v2 v3 v4 v5 = some r → xG sc mX12_alike d 0 0 (xR (some (.int r)) (xL0, u) 0 0) 0 0 8 [some (.ref 135), some (.int v1), some (.int v2), some (.int v3), some (.int v4), some (.int v5), none] [] (xL0, u)) (v1 : Int32) (v2 : Int32) (v3 : Int32) (v4 : Int32) (v5 : Int32) (h : f_X12_alike_71 k8 u v1 v2 v3 v4 v5 = some r) : xG sc mX12_alike d 0 0 (xR (some (.int r)) (xL0, u) 0 0) 0 0 71 [some (.ref 135), some (.int v1), some (.int v2), some (.int v3), some (.int v4), some (.int v5), none] [] (xL0, u) := by
  rw [f_X12_alike_71] at h
  refine g_iconst (pc := 71) dX12_alike_71 ic_1 ?_
  refine g_goto (tgt := 76) (pc := 72) dX12_alike_72 (by decide) ?_
  exact G_X12_alike_76 hd hk8 v1 v2 v3 v4 v5 (1 : Int32) h
set_option maxRecDepth 100000 in
set_option maxHeartbeats 4000000 in
theorem G_X12_alike_44 {sc : Nat × (Nat → Int32)} {d : Nat} (hd : 1 ≤ d) {r : Int32} {u : xS} {k8 : Int32 → Int32 → Int32 → Int32 → Int32 → Option Int32} (hk8 : ∀ (v1 : Int32) (v2 : Int32) (v3 : Int32) (v4 : Int32) (v5 : Int32), k8 v1 v2 v3 v4 v5 = some r → xG sc mX12_alike d 0 0 (xR (some (.int r)) (xL0, u) 0 0) 0 0 8 [some (.ref 135), some (.int v1), some (.int v2), some (.int v3), some (.int v4), some (.int v5), none] [] (xL0, u)) (v1 : Int32) (v2 : Int32) (v3 : Int32) (v4 : Int32) (v5 : Int32) (h : f_X12_alike_44 k8 u v1 v2 v3 v4 v5 = some r) : xG sc mX12_alike d 0 0 (xR (some (.int r)) (xL0, u) 0 0) 0 0 44 [some (.ref 135), some (.int v1), some (.int v2), some (.int v3), some (.int v4), some (.int v5), none] [] (xL0, u) := by
  rw [f_X12_alike_44] at h
  refine g_aload_n (pc := 44) dX12_alike_44 rfl ?_
  refine g_gR (pc := 45) dX12_alike_45 fR_RX12_111 xc_135 (v := 168) rfl ?_
  refine g_iload (pc := 48) dX12_alike_48 rfl ?_
  obtain ⟨g1, h⟩ := x_gd h
  refine g_iaload (pc := 50) dX12_alike_50 xc_168 (xin_of g1) (v := (rd u 168 v5.toNatClampNeg)) rfl ?_
  refine g_iload_n (pc := 51) dX12_alike_51 rfl ?_
  refine g_icmp_ne (tgt := 75) (pc := 52) dX12_alike_52 (by decide) (fun c2 => ?_) (fun c2 => ?_)
  · replace h := (if_neg c2).symm.trans h
    exact G_X12_alike_75 hd hk8 v1 v2 v3 v4 v5 h
  · replace h := (if_pos c2).symm.trans h
    refine g_iload_n (pc := 55) dX12_alike_55 rfl ?_
    refine g_iconst (pc := 56) dX12_alike_56 ic_m1 ?_
    refine g_icmp_eq (tgt := 71) (pc := 57) dX12_alike_57 (by decide) (fun c3 => ?_) (fun c3 => ?_)
    · replace h := (if_pos c3).symm.trans h
      exact G_X12_alike_71 hd hk8 v1 v2 v3 v4 v5 h
    · replace h := (if_neg c3).symm.trans h
      refine g_aload_n (pc := 60) dX12_alike_60 rfl ?_
      refine g_gR (pc := 61) dX12_alike_61 fR_RX12_108 xc_135 (v := 167) rfl ?_
      refine g_iload (pc := 64) dX12_alike_64 rfl ?_
      refine g_iaload (pc := 66) dX12_alike_66 xc_167 (xin_of g1) (v := (rd u 167 v5.toNatClampNeg)) rfl ?_
      refine g_iload_n (pc := 67) dX12_alike_67 rfl ?_
      refine g_icmp_ne (tgt := 75) (pc := 68) dX12_alike_68 (by decide) (fun c4 => ?_) (fun c4 => ?_)
      · replace h := (if_neg c4).symm.trans h
        exact G_X12_alike_75 hd hk8 v1 v2 v3 v4 v5 h
      · replace h := (if_pos c4).symm.trans h
        exact G_X12_alike_71 hd hk8 v1 v2 v3 v4 v5 h
set_option maxRecDepth 100000 in
set_option maxHeartbeats 4000000 in
theorem G_X12_alike_8 {sc : Nat × (Nat → Int32)} {d : Nat} (hd : 1 ≤ d) {r : Int32} {u : xS} : ∀ (n : Nat) (v1 : Int32) (v2 : Int32) (v3 : Int32) (v4 : Int32) (v5 : Int32), f_X12_alike_8 u n v1 v2 v3 v4 v5 = some r → xG sc mX12_alike d 0 0 (xR (some (.int r)) (xL0, u) 0 0) 0 0 8 [some (.ref 135), some (.int v1), some (.int v2), some (.int v3), some (.int v4), some (.int v5), none] [] (xL0, u) := by
  intro n
  induction n with
  | zero =>
    intro v1 v2 v3 v4 v5 h
    rw [f_X12_alike_8] at h
    cases h
  | succ n ih =>
    intro v1 v2 v3 v4 v5 h
    rw [f_X12_alike_8] at h
    refine g_iload (pc := 8) dX12_alike_8 rfl ?_
    refine g_aload_n (pc := 10) dX12_alike_10 rfl ?_
    refine g_gI (pc := 11) dX12_alike_11 fI_RX12_409 xc_135 (v := (rd u 135 46)) rfl ?_
    refine g_icmp_ge (tgt := 127) (pc := 14) dX12_alike_14 (by decide) (fun c1 => ?_) (fun c1 => ?_)
    · replace h := (if_pos c1).symm.trans h
      refine g_iload_n (pc := 127) dX12_alike_127 rfl ?_
      refine g_if_ne (tgt := 135) (pc := 128) dX12_alike_128 (by decide) (fun c2 => ?_) (fun c2 => ?_)
      · replace h := (if_neg c2).symm.trans h
        refine g_iload (pc := 135) dX12_alike_135 rfl ?_
        refine g_sipush (pc := 137) dX12_alike_137 sp_1000 ?_
        refine g_imul (pc := 140) dX12_alike_140 rfl ?_
        refine g_iload_n (pc := 141) dX12_alike_141 rfl ?_
        obtain ⟨g3, h⟩ := x_gd h
        refine g_idiv (pc := 142) dX12_alike_142 (xnz_of g3) rfl ?_
        cases h
        exact g_iret (pc := 143) dX12_alike_143 rfl rfl rfl (Nat.le_refl _) (Nat.le_refl _)
      · replace h := (if_pos c2).symm.trans h
        refine g_iconst (pc := 131) dX12_alike_131 ic_m1 ?_
        refine g_goto (tgt := 143) (pc := 132) dX12_alike_132 (by decide) ?_
        cases h
        exact g_iret (pc := 143) dX12_alike_143 rfl rfl rfl (Nat.le_refl _) (Nat.le_refl _)
    · replace h := (if_neg c1).symm.trans h
      refine g_aload_n (pc := 17) dX12_alike_17 rfl ?_
      refine g_gR (pc := 18) dX12_alike_18 fR_RX12_108 xc_135 (v := 167) rfl ?_
      refine g_iload (pc := 21) dX12_alike_21 rfl ?_
      obtain ⟨g4, h⟩ := x_gd h
      refine g_iaload (pc := 23) dX12_alike_23 xc_167 (xin_of g4) (v := (rd u 167 v5.toNatClampNeg)) rfl ?_
      refine g_iload_n (pc := 24) dX12_alike_24 rfl ?_
      refine g_icmp_ne (tgt := 44) (pc := 25) dX12_alike_25 (by decide) (fun c5 => ?_) (fun c5 => ?_)
      · replace h := (if_neg c5).symm.trans h
        exact G_X12_alike_44 hd ih v1 v2 v3 v4 v5 h
      · replace h := (if_pos c5).symm.trans h
        refine g_iload_n (pc := 28) dX12_alike_28 rfl ?_
        refine g_iconst (pc := 29) dX12_alike_29 ic_m1 ?_
        refine g_icmp_eq (tgt := 71) (pc := 30) dX12_alike_30 (by decide) (fun c6 => ?_) (fun c6 => ?_)
        · replace h := (if_pos c6).symm.trans h
          exact G_X12_alike_71 hd ih v1 v2 v3 v4 v5 h
        · replace h := (if_neg c6).symm.trans h
          refine g_aload_n (pc := 33) dX12_alike_33 rfl ?_
          refine g_gR (pc := 34) dX12_alike_34 fR_RX12_111 xc_135 (v := 168) rfl ?_
          refine g_iload (pc := 37) dX12_alike_37 rfl ?_
          refine g_iaload (pc := 39) dX12_alike_39 xc_168 (xin_of g4) (v := (rd u 168 v5.toNatClampNeg)) rfl ?_
          refine g_iload_n (pc := 40) dX12_alike_40 rfl ?_
          refine g_icmp_eq (tgt := 71) (pc := 41) dX12_alike_41 (by decide) (fun c7 => ?_) (fun c7 => ?_)
          · replace h := (if_pos c7).symm.trans h
            exact G_X12_alike_71 hd ih v1 v2 v3 v4 v5 h
          · replace h := (if_neg c7).symm.trans h
            exact G_X12_alike_44 hd ih v1 v2 v3 v4 v5 h
set_option maxRecDepth 100000 in
set_option maxHeartbeats 4000000 in
theorem G_X12_alike_0 {sc : Nat × (Nat → Int32)} {d : Nat} (hd : 1 ≤ d) {r : Int32} {u : xS} (v1 : Int32) (v2 : Int32) (h : f_X12_alike u v1 v2 = some r) : xG sc mX12_alike d 0 0 (xR (some (.int r)) (xL0, u) 0 0) 0 0 0 [some (.ref 135), some (.int v1), some (.int v2), none, none, none, none] [] (xL0, u) := by
  rw [f_X12_alike] at h
  refine g_iconst (pc := 0) dX12_alike_0 ic_0 ?_
  refine g_istore_n (pc := 1) dX12_alike_1 (Nat.le_of_ble_eq_true rfl) (L' := [some (.ref 135), some (.int v1), some (.int v2), some (.int (0 : Int32)), none, none, none]) rfl ?_
  refine g_iconst (pc := 2) dX12_alike_2 ic_0 ?_
  refine g_istore (pc := 3) dX12_alike_3 (Nat.le_of_ble_eq_true rfl) (L' := [some (.ref 135), some (.int v1), some (.int v2), some (.int (0 : Int32)), some (.int (0 : Int32)), none, none]) rfl ?_
  refine g_iconst (pc := 5) dX12_alike_5 ic_0 ?_
  refine g_istore (pc := 6) dX12_alike_6 (Nat.le_of_ble_eq_true rfl) (L' := [some (.ref 135), some (.int v1), some (.int v2), some (.int (0 : Int32)), some (.int (0 : Int32)), some (.int (0 : Int32)), none]) rfl ?_
  exact G_X12_alike_8 hd xN v1 v2 (0 : Int32) (0 : Int32) (0 : Int32) h
set_option maxRecDepth 100000 in
set_option maxHeartbeats 4000000 in
theorem M_X12_alike {sc : Nat × (Nat → Int32)} {d : Nat} (hd : 1 ≤ d) {r : Int32} {u : xS} {a1 : Int32} {a2 : Int32} (h : f_X12_alike u a1 a2 = some r) : xMt sc mX12_alike d 0 0 [.ref 135, .int a1, .int a2] (xL0, u) (some (.int r)) (xL0, u) :=
  xMt.of (by decide +kernel) (Nat.le_of_ble_eq_true rfl) (L := [some (.ref 135), some (.int a1), some (.int a2), none, none, none, none]) rfl ((G_X12_alike_0 hd a1 a2 h))
set_option maxRecDepth 100000 in
set_option maxHeartbeats 4000000 in
theorem G_X12_isSign_0 {sc : Nat × (Nat → Int32)} {d : Nat} (hd : 0 ≤ d) {r : Int32} {u : xS} (v1 : Int32) (v2 : Int32) (h : f_X12_isSign u v1 v2 = some r) : xG sc mX12_isSign d 0 0 (xR (some (.int r)) (xL0, u) 0 0) 0 0 0 [some (.ref 135), some (.int v1), some (.int v2)] [] (xL0, u) := by
  rw [f_X12_isSign] at h
  refine g_aload_n (pc := 0) dX12_isSign_0 rfl ?_
  refine g_gI (pc := 1) dX12_isSign_1 fI_RX12_259 xc_135 (v := (rd u 135 33)) rfl ?_
  refine g_iload_n (pc := 4) dX12_isSign_4 rfl ?_
  refine g_icmp_ge (tgt := 25) (pc := 5) dX12_isSign_5 (by decide) (fun c1 => ?_) (fun c1 => ?_)
  · replace h := (if_pos c1).symm.trans h
    refine g_iconst (pc := 25) dX12_isSign_25 ic_0 ?_
    cases h
    exact g_zret (pc := 26) dX12_isSign_26 rfl (Or.inl rfl) rfl rfl (Nat.le_refl _) (Nat.le_refl _)
  · replace h := (if_neg c1).symm.trans h
    refine g_aload_n (pc := 8) dX12_isSign_8 rfl ?_
    refine g_gR (pc := 9) dX12_isSign_9 fR_RX12_84 xc_135 (v := 159) rfl ?_
    refine g_aload_n (pc := 12) dX12_isSign_12 rfl ?_
    refine g_gI (pc := 13) dX12_isSign_13 fI_RX12_259 xc_135 (v := (rd u 135 33)) rfl ?_
    obtain ⟨g2, h⟩ := x_gd h
    refine g_iaload (pc := 16) dX12_isSign_16 xc_159 (xin_of g2) (v := (rd u 159 (rd u 135 33).toNatClampNeg)) rfl ?_
    refine g_iload_n (pc := 17) dX12_isSign_17 rfl ?_
    refine g_icmp_ne (tgt := 25) (pc := 18) dX12_isSign_18 (by decide) (fun c3 => ?_) (fun c3 => ?_)
    · replace h := (if_neg c3).symm.trans h
      refine g_iconst (pc := 25) dX12_isSign_25 ic_0 ?_
      cases h
      exact g_zret (pc := 26) dX12_isSign_26 rfl (Or.inl rfl) rfl rfl (Nat.le_refl _) (Nat.le_refl _)
    · replace h := (if_pos c3).symm.trans h
      refine g_iconst (pc := 21) dX12_isSign_21 ic_1 ?_
      refine g_goto (tgt := 26) (pc := 22) dX12_isSign_22 (by decide) ?_
      cases h
      exact g_zret (pc := 26) dX12_isSign_26 rfl (Or.inr rfl) rfl rfl (Nat.le_refl _) (Nat.le_refl _)
set_option maxRecDepth 100000 in
set_option maxHeartbeats 4000000 in
theorem M_X12_isSign {sc : Nat × (Nat → Int32)} {d : Nat} (hd : 0 ≤ d) {r : Int32} {u : xS} {a1 : Int32} {a2 : Int32} (h : f_X12_isSign u a1 a2 = some r) : xMt sc mX12_isSign d 0 0 [.ref 135, .int a1, .int a2] (xL0, u) (some (.int r)) (xL0, u) :=
  xMt.of (by decide +kernel) (Nat.le_of_ble_eq_true rfl) (L := [some (.ref 135), some (.int a1), some (.int a2)]) rfl ((G_X12_isSign_0 hd a1 a2 h))
set_option maxRecDepth 100000 in
set_option maxHeartbeats 4000000 in
theorem G_X12_marks_0 {sc : Nat × (Nat → Int32)} {d : Nat} (hd : 0 ≤ d) {u' : xS} (v1 : Int32) (u : xS) (h : f_X12_marks v1 u = some u') : xG sc mX12_marks d 0 0 (xR none (xL0, u') 0 0) 0 0 0 [some (.ref 135), some (.int v1)] [] (xL0, u) := by
  rw [f_X12_marks] at h
  refine g_aload_n (pc := 0) dX12_marks_0 rfl ?_
  refine g_gR (pc := 1) dX12_marks_1 fR_RX12_72 xc_135 (v := 155) rfl ?_
  refine g_bipush (pc := 4) dX12_marks_4 bp_64 ?_
  refine g_aload_n (pc := 6) dX12_marks_6 rfl ?_
  refine g_gI (pc := 7) dX12_marks_7 fI_RX12_267 xc_135 (v := (rd u 135 34)) rfl ?_
  refine g_imul (pc := 10) dX12_marks_10 rfl ?_
  refine g_aload_n (pc := 11) dX12_marks_11 rfl ?_
  refine g_gR (pc := 12) dX12_marks_12 fR_RX12_75 xc_135 (v := 156) rfl ?_
  refine g_aload_n (pc := 15) dX12_marks_15 rfl ?_
  refine g_gI (pc := 16) dX12_marks_16 fI_RX12_267 xc_135 (v := (rd u 135 34)) rfl ?_
  obtain ⟨g1, h⟩ := x_gd h
  refine g_iaload (pc := 19) dX12_marks_19 xc_156 (xin_of g1) (v := (rd u 156 (rd u 135 34).toNatClampNeg)) rfl ?_
  refine g_iadd (pc := 20) dX12_marks_20 rfl ?_
  refine g_iload_n (pc := 21) dX12_marks_21 rfl ?_
  obtain ⟨g2, h⟩ := x_gd h
  refine g_iastore (pc := 22) dX12_marks_22 xc_155 (xin_of g2) (u' := (wr u 155 (((64 : Int32) * (rd u 135 34)) + (rd u 156 (rd u 135 34).toNatClampNeg)).toNatClampNeg v1)) rfl ?_
  refine g_aload_n (pc := 23) dX12_marks_23 rfl ?_
  refine g_gR (pc := 24) dX12_marks_24 fR_RX12_75 xc_135 (v := 156) rfl ?_
  refine g_aload_n (pc := 27) dX12_marks_27 rfl ?_
  refine g_gI (pc := 28) dX12_marks_28 fI_RX12_267 xc_135 (v := (rd u 135 34)) rfl ?_
  refine g_dup2 (pc := 31) dX12_marks_31 rfl rfl ?_
  refine g_iaload (pc := 32) dX12_marks_32 xc_156 (xin_of g1) (v := (rd u 156 (rd u 135 34).toNatClampNeg)) rfl ?_
  refine g_iconst (pc := 33) dX12_marks_33 ic_1 ?_
  refine g_iadd (pc := 34) dX12_marks_34 rfl ?_
  refine g_iastore (pc := 35) dX12_marks_35 xc_156 (xin_of g1) (u' := (wr (wr u 155 (((64 : Int32) * (rd u 135 34)) + (rd u 156 (rd u 135 34).toNatClampNeg)).toNatClampNeg v1) 156 (rd u 135 34).toNatClampNeg ((rd u 156 (rd u 135 34).toNatClampNeg) + (1 : Int32)))) rfl ?_
  cases h
  exact g_ret (pc := 36) dX12_marks_36 rfl rfl rfl (Nat.le_refl _) (Nat.le_refl _)
set_option maxRecDepth 100000 in
set_option maxHeartbeats 4000000 in
theorem M_X12_marks {sc : Nat × (Nat → Int32)} {d : Nat} (hd : 0 ≤ d) {u u' : xS} {a1 : Int32} (h : f_X12_marks a1 u = some u') : xMt sc mX12_marks d 0 0 [.ref 135, .int a1] (xL0, u) none (xL0, u') :=
  xMt.of (by decide +kernel) (Nat.le_of_ble_eq_true rfl) (L := [some (.ref 135), some (.int a1)]) rfl ((G_X12_marks_0 hd a1 u h))
theorem zb_J0_isLatin1_aae02_t1 : f_J0_isLatin1_aae02_t1 = 0 ∨ f_J0_isLatin1_aae02_t1 = 1 := by
  unfold f_J0_isLatin1_aae02_t1
  (repeat' split) <;> first | exact Or.inl rfl | exact Or.inr rfl
set_option maxRecDepth 100000 in
set_option maxHeartbeats 4000000 in
theorem G_J0_isLatin1_aae02_t1_0 {sc : Nat × (Nat → Int32)} {d : Nat} (hd : 0 ≤ d) {r : Int32} {u : xS} (h : f_J0_isLatin1_aae02_t1 = r) : xG sc mJ0_isLatin1_aae02 d 0 0 (xR (some (.int r)) (xL0, u) 0 0) 0 0 0 [some (.ref (1010 + 1))] [] (xL0, u) := by
  rw [f_J0_isLatin1_aae02_t1] at h
  refine g_getsC (pc := 0) dJ0_isLatin1_aae02_0 fs_RJ0_38 ?_
  refine g_if_eq (tgt := 17) (pc := 3) dJ0_isLatin1_aae02_3 (by decide) (fun c1 => absurd c1 (by decide)) (fun _ => ?_)
  refine g_aload_n (pc := 6) dJ0_isLatin1_aae02_6 rfl ?_
  refine g_strC 1 (pc := 7) dJ0_isLatin1_aae02_7 fs_RJ0_15 (by decide) ?_
  refine g_if_ne (tgt := 17) (pc := 10) dJ0_isLatin1_aae02_10 (by decide) (fun c2 => absurd c2 (by decide)) (fun _ => ?_)
  refine g_iconst (pc := 13) dJ0_isLatin1_aae02_13 ic_1 ?_
  refine g_goto (tgt := 18) (pc := 14) dJ0_isLatin1_aae02_14 (by decide) ?_
  subst h
  exact g_zret (pc := 18) dJ0_isLatin1_aae02_18 rfl (Or.inr rfl) rfl rfl (Nat.le_refl _) (Nat.le_refl _)
set_option maxRecDepth 100000 in
set_option maxHeartbeats 4000000 in
theorem M_J0_isLatin1_aae02_t1 {sc : Nat × (Nat → Int32)} {d : Nat} (hd : 0 ≤ d) {r : Int32} {u : xS} (h : f_J0_isLatin1_aae02_t1 = r) : xMt sc mJ0_isLatin1_aae02 d 0 0 [.ref (1010 + 1)] (xL0, u) (some (.int r)) (xL0, u) :=
  xMt.of (by decide +kernel) (Nat.le_of_ble_eq_true rfl) (L := [some (.ref (1010 + 1))]) rfl ((G_J0_isLatin1_aae02_t1_0 hd h))
set_option maxRecDepth 100000 in
set_option maxHeartbeats 4000000 in
theorem G_J0_coder_7d493_t1_0 {sc : Nat × (Nat → Int32)} {d : Nat} (hd : 0 ≤ d) {r : Int32} {u : xS} (h : f_J0_coder_7d493_t1 = r) : xG sc mJ0_coder_7d493 d 0 0 (xR (some (.int r)) (xL0, u) 0 0) 0 0 0 [some (.ref (1010 + 1))] [] (xL0, u) := by
  rw [f_J0_coder_7d493_t1] at h
  refine g_getsC (pc := 0) dJ0_coder_7d493_0 fs_RJ0_38 ?_
  refine g_if_eq (tgt := 13) (pc := 3) dJ0_coder_7d493_3 (by decide) (fun c1 => absurd c1 (by decide)) (fun _ => ?_)
  refine g_aload_n (pc := 6) dJ0_coder_7d493_6 rfl ?_
  refine g_strC 1 (pc := 7) dJ0_coder_7d493_7 fs_RJ0_15 (by decide) ?_
  refine g_goto (tgt := 14) (pc := 10) dJ0_coder_7d493_10 (by decide) ?_
  subst h
  exact g_bret (pc := 14) dJ0_coder_7d493_14 rfl rfl rfl rfl (Nat.le_refl _) (Nat.le_refl _)
set_option maxRecDepth 100000 in
set_option maxHeartbeats 4000000 in
theorem M_J0_coder_7d493_t1 {sc : Nat × (Nat → Int32)} {d : Nat} (hd : 0 ≤ d) {r : Int32} {u : xS} (h : f_J0_coder_7d493_t1 = r) : xMt sc mJ0_coder_7d493 d 0 0 [.ref (1010 + 1)] (xL0, u) (some (.int r)) (xL0, u) :=
  xMt.of (by decide +kernel) (Nat.le_of_ble_eq_true rfl) (L := [some (.ref (1010 + 1))]) rfl ((G_J0_coder_7d493_t1_0 hd h))
set_option maxRecDepth 100000 in
set_option maxHeartbeats 4000000 in
theorem G_J0_length_8abf5_t1_0 {sc : Nat × (Nat → Int32)} {d : Nat} (hd : 1 ≤ d) {r : Int32} {u : xS} (h : f_J0_length_8abf5_t1 = r) : xG sc mJ0_length_8abf5 d 0 0 (xR (some (.int r)) (xL0, u) 0 0) 0 0 0 [some (.ref (1010 + 1))] [] (xL0, u) := by
  rw [f_J0_length_8abf5_t1] at h
  refine g_aload_n (pc := 0) dJ0_length_8abf5_0 rfl ?_
  refine g_strV 1 (pc := 1) dJ0_length_8abf5_1 fs_RJ0_9 (by decide) ?_
  refine g_blen 1 (pc := 4) dJ0_length_8abf5_4 (by decide) (v := (10 : Int32)) rfl ?_
  refine g_aload_n (pc := 5) dJ0_length_8abf5_5 rfl ?_
  refine g_cT 1 (pc := 6) dJ0_length_8abf5_6 cT_RJ0_335 (M_J0_coder_7d493_t1 (Nat.le_refl _) (rfl : f_J0_coder_7d493_t1 = (0 : Int32))) (as := []) (st := [.int (10 : Int32)]) rfl rfl (Nat.le_of_ble_eq_true rfl) (Nat.le_trans (Nat.le_of_ble_eq_true rfl) hd) rfl ?_
  refine g_ishr (pc := 9) dJ0_length_8abf5_9 rfl ?_
  subst h
  exact g_iret (pc := 10) dJ0_length_8abf5_10 rfl rfl rfl (Nat.le_refl _) (Nat.le_refl _)
set_option maxRecDepth 100000 in
set_option maxHeartbeats 4000000 in
theorem M_J0_length_8abf5_t1 {sc : Nat × (Nat → Int32)} {d : Nat} (hd : 1 ≤ d) {r : Int32} {u : xS} (h : f_J0_length_8abf5_t1 = r) : xMt sc mJ0_length_8abf5 d 0 0 [.ref (1010 + 1)] (xL0, u) (some (.int r)) (xL0, u) :=
  xMt.of (by decide +kernel) (Nat.le_of_ble_eq_true rfl) (L := [some (.ref (1010 + 1))]) rfl ((G_J0_length_8abf5_t1_0 hd h))
theorem zb_J1_canEncode_9a6ad (v0 : Int32) : f_J1_canEncode_9a6ad v0 = 0 ∨ f_J1_canEncode_9a6ad v0 = 1 := by
  unfold f_J1_canEncode_9a6ad
  (repeat' split) <;> first | exact Or.inl rfl | exact Or.inr rfl
set_option maxRecDepth 100000 in
set_option maxHeartbeats 4000000 in
theorem G_J1_canEncode_9a6ad_0 {sc : Nat × (Nat → Int32)} {d : Nat} (hd : 0 ≤ d) {r : Int32} {u : xS} (v0 : Int32) (h : f_J1_canEncode_9a6ad v0 = r) : xG sc mJ1_canEncode_9a6ad d 0 0 (xR (some (.int r)) (xL0, u) 0 0) 0 0 0 [some (.int v0)] [] (xL0, u) := by
  rw [f_J1_canEncode_9a6ad] at h
  refine g_iload_n (pc := 0) dJ1_canEncode_9a6ad_0 rfl ?_
  refine g_if_lt (tgt := 15) (pc := 1) dJ1_canEncode_9a6ad_1 (by decide) (fun c1 => ?_) (fun c1 => ?_)
  · replace h := (if_pos c1).symm.trans h
    refine g_iconst (pc := 15) dJ1_canEncode_9a6ad_15 ic_0 ?_
    subst h
    exact g_zret (pc := 16) dJ1_canEncode_9a6ad_16 rfl (Or.inl rfl) rfl rfl (Nat.le_refl _) (Nat.le_refl _)
  · replace h := (if_neg c1).symm.trans h
    refine g_iload_n (pc := 4) dJ1_canEncode_9a6ad_4 rfl ?_
    refine g_sipush (pc := 5) dJ1_canEncode_9a6ad_5 sp_255 ?_
    refine g_icmp_gt (tgt := 15) (pc := 8) dJ1_canEncode_9a6ad_8 (by decide) (fun c2 => ?_) (fun c2 => ?_)
    · replace h := (if_pos c2).symm.trans h
      refine g_iconst (pc := 15) dJ1_canEncode_9a6ad_15 ic_0 ?_
      subst h
      exact g_zret (pc := 16) dJ1_canEncode_9a6ad_16 rfl (Or.inl rfl) rfl rfl (Nat.le_refl _) (Nat.le_refl _)
    · replace h := (if_neg c2).symm.trans h
      refine g_iconst (pc := 11) dJ1_canEncode_9a6ad_11 ic_1 ?_
      refine g_goto (tgt := 16) (pc := 12) dJ1_canEncode_9a6ad_12 (by decide) ?_
      subst h
      exact g_zret (pc := 16) dJ1_canEncode_9a6ad_16 rfl (Or.inr rfl) rfl rfl (Nat.le_refl _) (Nat.le_refl _)
set_option maxRecDepth 100000 in
set_option maxHeartbeats 4000000 in
theorem M_J1_canEncode_9a6ad {sc : Nat × (Nat → Int32)} {d : Nat} (hd : 0 ≤ d) {r : Int32} {u : xS} {a0 : Int32} (h : f_J1_canEncode_9a6ad a0 = r) : xMt sc mJ1_canEncode_9a6ad d 0 0 [.int a0] (xL0, u) (some (.int r)) (xL0, u) :=
  xMt.of (by decide +kernel) (Nat.le_of_ble_eq_true rfl) (L := [some (.int a0)]) rfl ((G_J1_canEncode_9a6ad_0 hd a0 h))
set_option maxRecDepth 100000 in
set_option maxHeartbeats 4000000 in
theorem G_J1_indexOfChar_4cfef_t1_7 {sc : Nat × (Nat → Int32)} {d : Nat} (hd : 0 ≤ d) {r : Int32} {u : xS} : ∀ (n : Nat) (v3 : Int32) (v4 : Int32) (v5 : Int32), f_J1_indexOfChar_4cfef_t1_7 n v3 v4 v5 = some r → xG sc mJ1_indexOfChar_4cfef d 0 0 (xR (some (.int r)) (xL0, u) 0 0) 0 0 7 [some (.ref (1020 + 1)), none, none, some (.int v3), some (.int v4), some (.int v5)] [] (xL0, u) := by
  intro n
  induction n with
  | zero =>
    intro v3 v4 v5 h
    rw [f_J1_indexOfChar_4cfef_t1_7] at h
    cases h
  | succ n ih =>
    intro v3 v4 v5 h
    rw [f_J1_indexOfChar_4cfef_t1_7] at h
    refine g_iload (pc := 7) dJ1_indexOfChar_4cfef_7 rfl ?_
    refine g_iload_n (pc := 9) dJ1_indexOfChar_4cfef_9 rfl ?_
    refine g_icmp_ge (tgt := 31) (pc := 10) dJ1_indexOfChar_4cfef_10 (by decide) (fun c1 => ?_) (fun c1 => ?_)
    · replace h := (if_pos c1).symm.trans h
      refine g_iconst (pc := 31) dJ1_indexOfChar_4cfef_31 ic_m1 ?_
      cases h
      exact g_iret (pc := 32) dJ1_indexOfChar_4cfef_32 rfl rfl rfl (Nat.le_refl _) (Nat.le_refl _)
    · replace h := (if_neg c1).symm.trans h
      refine g_aload_n (pc := 13) dJ1_indexOfChar_4cfef_13 rfl ?_
      refine g_iload (pc := 14) dJ1_indexOfChar_4cfef_14 rfl ?_
      obtain ⟨g2, h⟩ := x_gd h
      refine g_bload 1 (pc := 16) dJ1_indexOfChar_4cfef_16 (by decide) (xin_of g2) rfl ?_
      refine g_iload (pc := 17) dJ1_indexOfChar_4cfef_17 rfl ?_
      refine g_icmp_ne (tgt := 25) (pc := 19) dJ1_indexOfChar_4cfef_19 (by decide) (fun c3 => ?_) (fun c3 => ?_)
      · replace h := (if_neg c3).symm.trans h
        refine g_inc (pc := 25) dJ1_indexOfChar_4cfef_25 (Nat.le_of_ble_eq_true rfl) rfl ic_1 (L' := [some (.ref (1020 + 1)), none, none, some (.int v3), some (.int v4), some (.int (v5 + (1 : Int32)))]) rfl ?_
        refine g_goto (tgt := 7) (pc := 28) dJ1_indexOfChar_4cfef_28 (by decide) ?_
        exact ih v3 v4 (v5 + (1 : Int32)) h
      · replace h := (if_pos c3).symm.trans h
        refine g_iload (pc := 22) dJ1_indexOfChar_4cfef_22 rfl ?_
        cases h
        exact g_iret (pc := 24) dJ1_indexOfChar_4cfef_24 rfl rfl rfl (Nat.le_refl _) (Nat.le_refl _)
set_option maxRecDepth 100000 in
set_option maxHeartbeats 4000000 in
theorem G_J1_indexOfChar_4cfef_t1_0 {sc : Nat × (Nat → Int32)} {d : Nat} (hd : 0 ≤ d) {r : Int32} {u : xS} (v1 : Int32) (v2 : Int32) (v3 : Int32) (h : f_J1_indexOfChar_4cfef_t1 v1 v2 v3 = some r) : xG sc mJ1_indexOfChar_4cfef d 0 0 (xR (some (.int r)) (xL0, u) 0 0) 0 0 0 [some (.ref (1020 + 1)), some (.int v1), some (.int v2), some (.int v3), none, none] [] (xL0, u) := by
  rw [f_J1_indexOfChar_4cfef_t1] at h
  refine g_iload_n (pc := 0) dJ1_indexOfChar_4cfef_0 rfl ?_
  refine g_i2b (pc := 1) dJ1_indexOfChar_4cfef_1 rfl ?_
  refine g_istore (pc := 2) dJ1_indexOfChar_4cfef_2 (Nat.le_of_ble_eq_true rfl) (L' := [some (.ref (1020 + 1)), some (.int v1), some (.int v2), some (.int v3), some (.int (v1.toInt8.toInt32)), none]) rfl ?_
  refine g_iload_n (pc := 4) dJ1_indexOfChar_4cfef_4 rfl ?_
  refine g_istore (pc := 5) dJ1_indexOfChar_4cfef_5 (Nat.le_of_ble_eq_true rfl) (L' := [some (.ref (1020 + 1)), some (.int v1), some (.int v2), some (.int v3), some (.int (v1.toInt8.toInt32)), some (.int v2)]) rfl ?_
  refine g_L (L' := [some (.ref (1020 + 1)), none, none, some (.int v3), some (.int (v1.toInt8.toInt32)), some (.int v2)]) ⟨rfl, ⟨rfl, ⟨rfl, ⟨rfl, trivial⟩⟩⟩⟩ ?_
  exact G_J1_indexOfChar_4cfef_t1_7 hd xN v3 (v1.toInt8.toInt32) v2 h
set_option maxRecDepth 100000 in
set_option maxHeartbeats 4000000 in
theorem M_J1_indexOfChar_4cfef_t1 {sc : Nat × (Nat → Int32)} {d : Nat} (hd : 0 ≤ d) {r : Int32} {u : xS} {a1 : Int32} {a2 : Int32} {a3 : Int32} (h : f_J1_indexOfChar_4cfef_t1 a1 a2 a3 = some r) : xMt sc mJ1_indexOfChar_4cfef d 0 0 [.ref (1020 + 1), .int a1, .int a2, .int a3] (xL0, u) (some (.int r)) (xL0, u) :=
  xMt.of (by decide +kernel) (Nat.le_of_ble_eq_true rfl) (L := [some (.ref (1020 + 1)), some (.int a1), some (.int a2), some (.int a3), none, none]) rfl ((G_J1_indexOfChar_4cfef_t1_0 hd a1 a2 a3 h))
set_option maxRecDepth 100000 in
set_option maxHeartbeats 4000000 in
theorem G_J1_indexOf_4cfef_t1_0 {sc : Nat × (Nat → Int32)} {d : Nat} (hd : 1 ≤ d) {r : Int32} {u : xS} (v1 : Int32) (v2 : Int32) (v3 : Int32) (h : f_J1_indexOf_4cfef_t1 v1 v2 v3 = some r) : xG sc mJ1_indexOf_4cfef d 0 0 (xR (some (.int r)) (xL0, u) 0 0) 0 0 0 [some (.ref (1020 + 1)), some (.int v1), some (.int v2), some (.int v3)] [] (xL0, u) := by
  rw [f_J1_indexOf_4cfef_t1] at h
  refine g_iload_n (pc := 0) dJ1_indexOf_4cfef_0 rfl ?_
  refine g_cS (pc := 1) dJ1_indexOf_4cfef_1 cS_RJ1_88 (M_J1_canEncode_9a6ad (Nat.le_refl _) rfl) (as := [.int v1]) (st := []) rfl rfl (Nat.le_of_ble_eq_true rfl) (Nat.le_trans (Nat.le_of_ble_eq_true rfl) hd) rfl ?_
  refine g_if_ne (tgt := 9) (pc := 4) dJ1_indexOf_4cfef_4 (by decide) (fun c1 => ?_) (fun c1 => ?_)
  · replace h := (if_neg c1).symm.trans h
    refine g_iload_n (pc := 9) dJ1_indexOf_4cfef_9 rfl ?_
    refine g_iconst (pc := 10) dJ1_indexOf_4cfef_10 ic_0 ?_
    refine g_max (pc := 11) dJ1_indexOf_4cfef_11 mK_RJ1_92 (Nat.le_of_ble_eq_true rfl) (Nat.le_trans (Nat.le_of_ble_eq_true rfl) hd) (Nat.le_refl _) (Nat.le_refl _) ?_
    refine g_istore_n (pc := 14) dJ1_indexOf_4cfef_14 (Nat.le_of_ble_eq_true rfl) (L' := [some (.ref (1020 + 1)), some (.int v1), some (.int (imax v2 (0 : Int32))), some (.int v3)]) rfl ?_
    refine g_iload_n (pc := 15) dJ1_indexOf_4cfef_15 rfl ?_
    refine g_aload_n (pc := 16) dJ1_indexOf_4cfef_16 rfl ?_
    refine g_blen 1 (pc := 17) dJ1_indexOf_4cfef_17 (by decide) (v := (10 : Int32)) rfl ?_
    refine g_min (pc := 18) dJ1_indexOf_4cfef_18 mK_RJ1_38 (Nat.le_of_ble_eq_true rfl) (Nat.le_trans (Nat.le_of_ble_eq_true rfl) hd) (Nat.le_refl _) (Nat.le_refl _) ?_
    refine g_istore_n (pc := 21) dJ1_indexOf_4cfef_21 (Nat.le_of_ble_eq_true rfl) (L' := [some (.ref (1020 + 1)), some (.int v1), some (.int (imax v2 (0 : Int32))), some (.int (imin v3 (10 : Int32)))]) rfl ?_
    refine g_iload_n (pc := 22) dJ1_indexOf_4cfef_22 rfl ?_
    refine g_iload_n (pc := 23) dJ1_indexOf_4cfef_23 rfl ?_
    refine g_icmp_lt (tgt := 29) (pc := 24) dJ1_indexOf_4cfef_24 (by decide) (fun c2 => ?_) (fun c2 => ?_)
    · replace h := (if_pos c2).symm.trans h
      refine g_aload_n (pc := 29) dJ1_indexOf_4cfef_29 rfl ?_
      refine g_iload_n (pc := 30) dJ1_indexOf_4cfef_30 rfl ?_
      refine g_iload_n (pc := 31) dJ1_indexOf_4cfef_31 rfl ?_
      refine g_iload_n (pc := 32) dJ1_indexOf_4cfef_32 rfl ?_
      obtain ⟨x4, e3, h⟩ := x_bind h
      refine g_cS (pc := 33) dJ1_indexOf_4cfef_33 cS_RJ1_95 (M_J1_indexOfChar_4cfef_t1 (Nat.le_refl _) e3) (as := [.ref (1020 + 1), .int v1, .int (imax v2 (0 : Int32)), .int (imin v3 (10 : Int32))]) (st := []) rfl rfl (Nat.le_of_ble_eq_true rfl) (Nat.le_trans (Nat.le_of_ble_eq_true rfl) hd) rfl ?_
      cases h
      exact g_iret (pc := 36) dJ1_indexOf_4cfef_36 rfl rfl rfl (Nat.le_refl _) (Nat.le_refl _)
    · replace h := (if_neg c2).symm.trans h
      refine g_iconst (pc := 27) dJ1_indexOf_4cfef_27 ic_m1 ?_
      cases h
      exact g_iret (pc := 28) dJ1_indexOf_4cfef_28 rfl rfl rfl (Nat.le_refl _) (Nat.le_refl _)
  · replace h := (if_pos c1).symm.trans h
    refine g_iconst (pc := 7) dJ1_indexOf_4cfef_7 ic_m1 ?_
    cases h
    exact g_iret (pc := 8) dJ1_indexOf_4cfef_8 rfl rfl rfl (Nat.le_refl _) (Nat.le_refl _)
set_option maxRecDepth 100000 in
set_option maxHeartbeats 4000000 in
theorem M_J1_indexOf_4cfef_t1 {sc : Nat × (Nat → Int32)} {d : Nat} (hd : 1 ≤ d) {r : Int32} {u : xS} {a1 : Int32} {a2 : Int32} {a3 : Int32} (h : f_J1_indexOf_4cfef_t1 a1 a2 a3 = some r) : xMt sc mJ1_indexOf_4cfef d 0 0 [.ref (1020 + 1), .int a1, .int a2, .int a3] (xL0, u) (some (.int r)) (xL0, u) :=
  xMt.of (by decide +kernel) (Nat.le_of_ble_eq_true rfl) (L := [some (.ref (1020 + 1)), some (.int a1), some (.int a2), some (.int a3)]) rfl ((G_J1_indexOf_4cfef_t1_0 hd a1 a2 a3 h))
set_option maxRecDepth 100000 in
set_option maxHeartbeats 4000000 in
theorem G_J0_indexOf_7cf53_t1_0 {sc : Nat × (Nat → Int32)} {d : Nat} (hd : 2 ≤ d) {r : Int32} {u : xS} (v1 : Int32) (v2 : Int32) (h : f_J0_indexOf_7cf53_t1 v1 v2 = some r) : xG sc mJ0_indexOf_7cf53 d 0 0 (xR (some (.int r)) (xL0, u) 0 0) 0 0 0 [some (.ref (1010 + 1)), some (.int v1), some (.int v2)] [] (xL0, u) := by
  rw [f_J0_indexOf_7cf53_t1] at h
  refine g_aload_n (pc := 0) dJ0_indexOf_7cf53_0 rfl ?_
  refine g_cT 1 (pc := 1) dJ0_indexOf_7cf53_1 cT_RJ0_492 (M_J0_isLatin1_aae02_t1 (Nat.le_refl _) (rfl : f_J0_isLatin1_aae02_t1 = (1 : Int32))) (as := []) (st := []) rfl rfl (Nat.le_of_ble_eq_true rfl) (Nat.le_trans (Nat.le_of_ble_eq_true rfl) hd) rfl ?_
  refine g_if_eq (tgt := 23) (pc := 4) dJ0_indexOf_7cf53_4 (by decide) (fun c1 => absurd c1 (by decide)) (fun _ => ?_)
  refine g_aload_n (pc := 7) dJ0_indexOf_7cf53_7 rfl ?_
  refine g_strV 1 (pc := 8) dJ0_indexOf_7cf53_8 fs_RJ0_9 (by decide) ?_
  refine g_iload_n (pc := 11) dJ0_indexOf_7cf53_11 rfl ?_
  refine g_iload_n (pc := 12) dJ0_indexOf_7cf53_12 rfl ?_
  refine g_aload_n (pc := 13) dJ0_indexOf_7cf53_13 rfl ?_
  refine g_cT 1 (pc := 14) dJ0_indexOf_7cf53_14 cT_RJ0_505 (M_J0_length_8abf5_t1 (Nat.le_refl _) rfl) (as := []) (st := [.int v2, .int v1, .ref (1020 + 1)]) rfl rfl (Nat.le_of_ble_eq_true rfl) (Nat.le_trans (Nat.le_of_ble_eq_true rfl) hd) rfl ?_
  obtain ⟨x3, e2, h⟩ := x_bind h
  refine g_cS (pc := 17) dJ0_indexOf_7cf53_17 cS_RJ0_637 (M_J1_indexOf_4cfef_t1 (Nat.le_refl _) e2) (as := [.ref (1020 + 1), .int v1, .int v2, .int (f_J0_length_8abf5_t1)]) (st := []) rfl rfl (Nat.le_of_ble_eq_true rfl) (Nat.le_trans (Nat.le_of_ble_eq_true rfl) hd) rfl ?_
  refine g_goto (tgt := 36) (pc := 20) dJ0_indexOf_7cf53_20 (by decide) ?_
  cases h
  exact g_iret (pc := 36) dJ0_indexOf_7cf53_36 rfl rfl rfl (Nat.le_refl _) (Nat.le_refl _)
set_option maxRecDepth 100000 in
set_option maxHeartbeats 4000000 in
theorem M_J0_indexOf_7cf53_t1 {sc : Nat × (Nat → Int32)} {d : Nat} (hd : 2 ≤ d) {r : Int32} {u : xS} {a1 : Int32} {a2 : Int32} (h : f_J0_indexOf_7cf53_t1 a1 a2 = some r) : xMt sc mJ0_indexOf_7cf53 d 0 0 [.ref (1010 + 1), .int a1, .int a2] (xL0, u) (some (.int r)) (xL0, u) :=
  xMt.of (by decide +kernel) (Nat.le_of_ble_eq_true rfl) (L := [some (.ref (1010 + 1)), some (.int a1), some (.int a2)]) rfl ((G_J0_indexOf_7cf53_t1_0 hd a1 a2 h))
set_option maxRecDepth 100000 in
set_option maxHeartbeats 4000000 in
theorem G_J0_indexOf_0f7a4_t1_0 {sc : Nat × (Nat → Int32)} {d : Nat} (hd : 3 ≤ d) {r : Int32} {u : xS} (v1 : Int32) (h : f_J0_indexOf_0f7a4_t1 v1 = some r) : xG sc mJ0_indexOf_0f7a4 d 0 0 (xR (some (.int r)) (xL0, u) 0 0) 0 0 0 [some (.ref (1010 + 1)), some (.int v1)] [] (xL0, u) := by
  rw [f_J0_indexOf_0f7a4_t1] at h
  refine g_aload_n (pc := 0) dJ0_indexOf_0f7a4_0 rfl ?_
  refine g_iload_n (pc := 1) dJ0_indexOf_0f7a4_1 rfl ?_
  refine g_iconst (pc := 2) dJ0_indexOf_0f7a4_2 ic_0 ?_
  obtain ⟨x2, e1, h⟩ := x_bind h
  refine g_cT 1 (pc := 3) dJ0_indexOf_0f7a4_3 cT_RJ0_633 (M_J0_indexOf_7cf53_t1 (Nat.le_refl _) e1) (as := [.int v1, .int (0 : Int32)]) (st := []) rfl rfl (Nat.le_of_ble_eq_true rfl) (Nat.le_trans (Nat.le_of_ble_eq_true rfl) hd) rfl ?_
  cases h
  exact g_iret (pc := 6) dJ0_indexOf_0f7a4_6 rfl rfl rfl (Nat.le_refl _) (Nat.le_refl _)
set_option maxRecDepth 100000 in
set_option maxHeartbeats 4000000 in
theorem M_J0_indexOf_0f7a4_t1 {sc : Nat × (Nat → Int32)} {d : Nat} (hd : 3 ≤ d) {r : Int32} {u : xS} {a1 : Int32} (h : f_J0_indexOf_0f7a4_t1 a1 = some r) : xMt sc mJ0_indexOf_0f7a4 d 0 0 [.ref (1010 + 1), .int a1] (xL0, u) (some (.int r)) (xL0, u) :=
  xMt.of (by decide +kernel) (Nat.le_of_ble_eq_true rfl) (L := [some (.ref (1010 + 1)), some (.int a1)]) rfl ((G_J0_indexOf_0f7a4_t1_0 hd a1 h))
set_option maxRecDepth 100000 in
set_option maxHeartbeats 4000000 in
theorem G_X12_isOf_t1_0 {sc : Nat × (Nat → Int32)} {d : Nat} (hd : 4 ≤ d) {r : Int32} {u : xS} (v1 : Int32) (h : f_X12_isOf_t1 u v1 = some r) : xG sc mX12_isOf d 0 0 (xR (some (.int r)) (xL0, u) 0 0) 0 0 0 [some (.ref 135), some (.int v1), some (.ref (1010 + 1))] [] (xL0, u) := by
  rw [f_X12_isOf_t1] at h
  refine g_aload_n (pc := 0) dX12_isOf_0 rfl ?_
  refine g_gI (pc := 1) dX12_isOf_1 fI_RX12_259 xc_135 (v := (rd u 135 33)) rfl ?_
  refine g_iload_n (pc := 4) dX12_isOf_4 rfl ?_
  refine g_icmp_ge (tgt := 40) (pc := 5) dX12_isOf_5 (by decide) (fun c1 => ?_) (fun c1 => ?_)
  · replace h := (if_pos c1).symm.trans h
    refine g_iconst (pc := 40) dX12_isOf_40 ic_0 ?_
    cases h
    exact g_zret (pc := 41) dX12_isOf_41 rfl (Or.inl rfl) rfl rfl (Nat.le_refl _) (Nat.le_refl _)
  · replace h := (if_neg c1).symm.trans h
    refine g_aload_n (pc := 8) dX12_isOf_8 rfl ?_
    refine g_gR (pc := 9) dX12_isOf_9 fR_RX12_84 xc_135 (v := 159) rfl ?_
    refine g_aload_n (pc := 12) dX12_isOf_12 rfl ?_
    refine g_gI (pc := 13) dX12_isOf_13 fI_RX12_259 xc_135 (v := (rd u 135 33)) rfl ?_
    obtain ⟨g2, h⟩ := x_gd h
    refine g_iaload (pc := 16) dX12_isOf_16 xc_159 (xin_of g2) (v := (rd u 159 (rd u 135 33).toNatClampNeg)) rfl ?_
    refine g_if_le (tgt := 40) (pc := 17) dX12_isOf_17 (by decide) (fun c3 => ?_) (fun c3 => ?_)
    · replace h := (if_pos c3).symm.trans h
      refine g_iconst (pc := 40) dX12_isOf_40 ic_0 ?_
      cases h
      exact g_zret (pc := 41) dX12_isOf_41 rfl (Or.inl rfl) rfl rfl (Nat.le_refl _) (Nat.le_refl _)
    · replace h := (if_neg c3).symm.trans h
      refine g_aload_n (pc := 20) dX12_isOf_20 rfl ?_
      refine g_aload_n (pc := 21) dX12_isOf_21 rfl ?_
      refine g_gR (pc := 22) dX12_isOf_22 fR_RX12_84 xc_135 (v := 159) rfl ?_
      refine g_aload_n (pc := 25) dX12_isOf_25 rfl ?_
      refine g_gI (pc := 26) dX12_isOf_26 fI_RX12_259 xc_135 (v := (rd u 135 33)) rfl ?_
      refine g_iaload (pc := 29) dX12_isOf_29 xc_159 (xin_of g2) (v := (rd u 159 (rd u 135 33).toNatClampNeg)) rfl ?_
      obtain ⟨x5, e4, h⟩ := x_bind h
      refine g_cT 1 (pc := 30) dX12_isOf_30 cT_RX12_262 (M_J0_indexOf_0f7a4_t1 (Nat.le_refl _) e4) (as := [.int (rd u 159 (rd u 135 33).toNatClampNeg)]) (st := []) rfl rfl (Nat.le_of_ble_eq_true rfl) (Nat.le_trans (Nat.le_of_ble_eq_true rfl) hd) rfl ?_
      refine g_if_lt (tgt := 40) (pc := 33) dX12_isOf_33 (by decide) (fun c6 => ?_) (fun c6 => ?_)
      · replace h := (if_pos c6).symm.trans h
        refine g_iconst (pc := 40) dX12_isOf_40 ic_0 ?_
        cases h
        exact g_zret (pc := 41) dX12_isOf_41 rfl (Or.inl rfl) rfl rfl (Nat.le_refl _) (Nat.le_refl _)
      · replace h := (if_neg c6).symm.trans h
        refine g_iconst (pc := 36) dX12_isOf_36 ic_1 ?_
        refine g_goto (tgt := 41) (pc := 37) dX12_isOf_37 (by decide) ?_
        cases h
        exact g_zret (pc := 41) dX12_isOf_41 rfl (Or.inr rfl) rfl rfl (Nat.le_refl _) (Nat.le_refl _)
set_option maxRecDepth 100000 in
set_option maxHeartbeats 4000000 in
theorem M_X12_isOf_t1 {sc : Nat × (Nat → Int32)} {d : Nat} (hd : 4 ≤ d) {r : Int32} {u : xS} {a1 : Int32} (h : f_X12_isOf_t1 u a1 = some r) : xMt sc mX12_isOf d 0 0 [.ref 135, .int a1, .ref (1010 + 1)] (xL0, u) (some (.int r)) (xL0, u) :=
  xMt.of (by decide +kernel) (Nat.le_of_ble_eq_true rfl) (L := [some (.ref 135), some (.int a1), some (.ref (1010 + 1))]) rfl ((G_X12_isOf_t1_0 hd a1 h))
theorem zb_J0_isLatin1_aae02_t0 : f_J0_isLatin1_aae02_t0 = 0 ∨ f_J0_isLatin1_aae02_t0 = 1 := by
  unfold f_J0_isLatin1_aae02_t0
  (repeat' split) <;> first | exact Or.inl rfl | exact Or.inr rfl
set_option maxRecDepth 100000 in
set_option maxHeartbeats 4000000 in
theorem G_J0_isLatin1_aae02_t0_0 {sc : Nat × (Nat → Int32)} {d : Nat} (hd : 0 ≤ d) {r : Int32} {u : xS} (h : f_J0_isLatin1_aae02_t0 = r) : xG sc mJ0_isLatin1_aae02 d 0 0 (xR (some (.int r)) (xL0, u) 0 0) 0 0 0 [some (.ref (1010 + 0))] [] (xL0, u) := by
  rw [f_J0_isLatin1_aae02_t0] at h
  refine g_getsC (pc := 0) dJ0_isLatin1_aae02_0 fs_RJ0_38 ?_
  refine g_if_eq (tgt := 17) (pc := 3) dJ0_isLatin1_aae02_3 (by decide) (fun c1 => absurd c1 (by decide)) (fun _ => ?_)
  refine g_aload_n (pc := 6) dJ0_isLatin1_aae02_6 rfl ?_
  refine g_strC 0 (pc := 7) dJ0_isLatin1_aae02_7 fs_RJ0_15 (by decide) ?_
  refine g_if_ne (tgt := 17) (pc := 10) dJ0_isLatin1_aae02_10 (by decide) (fun c2 => absurd c2 (by decide)) (fun _ => ?_)
  refine g_iconst (pc := 13) dJ0_isLatin1_aae02_13 ic_1 ?_
  refine g_goto (tgt := 18) (pc := 14) dJ0_isLatin1_aae02_14 (by decide) ?_
  subst h
  exact g_zret (pc := 18) dJ0_isLatin1_aae02_18 rfl (Or.inr rfl) rfl rfl (Nat.le_refl _) (Nat.le_refl _)
set_option maxRecDepth 100000 in
set_option maxHeartbeats 4000000 in
theorem M_J0_isLatin1_aae02_t0 {sc : Nat × (Nat → Int32)} {d : Nat} (hd : 0 ≤ d) {r : Int32} {u : xS} (h : f_J0_isLatin1_aae02_t0 = r) : xMt sc mJ0_isLatin1_aae02 d 0 0 [.ref (1010 + 0)] (xL0, u) (some (.int r)) (xL0, u) :=
  xMt.of (by decide +kernel) (Nat.le_of_ble_eq_true rfl) (L := [some (.ref (1010 + 0))]) rfl ((G_J0_isLatin1_aae02_t0_0 hd h))
set_option maxRecDepth 100000 in
set_option maxHeartbeats 4000000 in
theorem G_J0_coder_7d493_t0_0 {sc : Nat × (Nat → Int32)} {d : Nat} (hd : 0 ≤ d) {r : Int32} {u : xS} (h : f_J0_coder_7d493_t0 = r) : xG sc mJ0_coder_7d493 d 0 0 (xR (some (.int r)) (xL0, u) 0 0) 0 0 0 [some (.ref (1010 + 0))] [] (xL0, u) := by
  rw [f_J0_coder_7d493_t0] at h
  refine g_getsC (pc := 0) dJ0_coder_7d493_0 fs_RJ0_38 ?_
  refine g_if_eq (tgt := 13) (pc := 3) dJ0_coder_7d493_3 (by decide) (fun c1 => absurd c1 (by decide)) (fun _ => ?_)
  refine g_aload_n (pc := 6) dJ0_coder_7d493_6 rfl ?_
  refine g_strC 0 (pc := 7) dJ0_coder_7d493_7 fs_RJ0_15 (by decide) ?_
  refine g_goto (tgt := 14) (pc := 10) dJ0_coder_7d493_10 (by decide) ?_
  subst h
  exact g_bret (pc := 14) dJ0_coder_7d493_14 rfl rfl rfl rfl (Nat.le_refl _) (Nat.le_refl _)
set_option maxRecDepth 100000 in
set_option maxHeartbeats 4000000 in
theorem M_J0_coder_7d493_t0 {sc : Nat × (Nat → Int32)} {d : Nat} (hd : 0 ≤ d) {r : Int32} {u : xS} (h : f_J0_coder_7d493_t0 = r) : xMt sc mJ0_coder_7d493 d 0 0 [.ref (1010 + 0)] (xL0, u) (some (.int r)) (xL0, u) :=
  xMt.of (by decide +kernel) (Nat.le_of_ble_eq_true rfl) (L := [some (.ref (1010 + 0))]) rfl ((G_J0_coder_7d493_t0_0 hd h))
set_option maxRecDepth 100000 in
set_option maxHeartbeats 4000000 in
theorem G_J0_length_8abf5_t0_0 {sc : Nat × (Nat → Int32)} {d : Nat} (hd : 1 ≤ d) {r : Int32} {u : xS} (h : f_J0_length_8abf5_t0 = r) : xG sc mJ0_length_8abf5 d 0 0 (xR (some (.int r)) (xL0, u) 0 0) 0 0 0 [some (.ref (1010 + 0))] [] (xL0, u) := by
  rw [f_J0_length_8abf5_t0] at h
  refine g_aload_n (pc := 0) dJ0_length_8abf5_0 rfl ?_
  refine g_strV 0 (pc := 1) dJ0_length_8abf5_1 fs_RJ0_9 (by decide) ?_
  refine g_blen 0 (pc := 4) dJ0_length_8abf5_4 (by decide) (v := (16 : Int32)) rfl ?_
  refine g_aload_n (pc := 5) dJ0_length_8abf5_5 rfl ?_
  refine g_cT 0 (pc := 6) dJ0_length_8abf5_6 cT_RJ0_335 (M_J0_coder_7d493_t0 (Nat.le_refl _) (rfl : f_J0_coder_7d493_t0 = (0 : Int32))) (as := []) (st := [.int (16 : Int32)]) rfl rfl (Nat.le_of_ble_eq_true rfl) (Nat.le_trans (Nat.le_of_ble_eq_true rfl) hd) rfl ?_
  refine g_ishr (pc := 9) dJ0_length_8abf5_9 rfl ?_
  subst h
  exact g_iret (pc := 10) dJ0_length_8abf5_10 rfl rfl rfl (Nat.le_refl _) (Nat.le_refl _)
set_option maxRecDepth 100000 in
set_option maxHeartbeats 4000000 in
theorem M_J0_length_8abf5_t0 {sc : Nat × (Nat → Int32)} {d : Nat} (hd : 1 ≤ d) {r : Int32} {u : xS} (h : f_J0_length_8abf5_t0 = r) : xMt sc mJ0_length_8abf5 d 0 0 [.ref (1010 + 0)] (xL0, u) (some (.int r)) (xL0, u) :=
  xMt.of (by decide +kernel) (Nat.le_of_ble_eq_true rfl) (L := [some (.ref (1010 + 0))]) rfl ((G_J0_length_8abf5_t0_0 hd h))
set_option maxRecDepth 100000 in
set_option maxHeartbeats 4000000 in
theorem G_J1_indexOfChar_4cfef_t0_7 {sc : Nat × (Nat → Int32)} {d : Nat} (hd : 0 ≤ d) {r : Int32} {u : xS} : ∀ (n : Nat) (v3 : Int32) (v4 : Int32) (v5 : Int32), f_J1_indexOfChar_4cfef_t0_7 n v3 v4 v5 = some r → xG sc mJ1_indexOfChar_4cfef d 0 0 (xR (some (.int r)) (xL0, u) 0 0) 0 0 7 [some (.ref (1020 + 0)), none, none, some (.int v3), some (.int v4), some (.int v5)] [] (xL0, u) := by
  intro n
  induction n with
  | zero =>
    intro v3 v4 v5 h
    rw [f_J1_indexOfChar_4cfef_t0_7] at h
    cases h
  | succ n ih =>
    intro v3 v4 v5 h
    rw [f_J1_indexOfChar_4cfef_t0_7] at h
    refine g_iload (pc := 7) dJ1_indexOfChar_4cfef_7 rfl ?_
    refine g_iload_n (pc := 9) dJ1_indexOfChar_4cfef_9 rfl ?_
    refine g_icmp_ge (tgt := 31) (pc := 10) dJ1_indexOfChar_4cfef_10 (by decide) (fun c1 => ?_) (fun c1 => ?_)
    · replace h := (if_pos c1).symm.trans h
      refine g_iconst (pc := 31) dJ1_indexOfChar_4cfef_31 ic_m1 ?_
      cases h
      exact g_iret (pc := 32) dJ1_indexOfChar_4cfef_32 rfl rfl rfl (Nat.le_refl _) (Nat.le_refl _)
    · replace h := (if_neg c1).symm.trans h
      refine g_aload_n (pc := 13) dJ1_indexOfChar_4cfef_13 rfl ?_
      refine g_iload (pc := 14) dJ1_indexOfChar_4cfef_14 rfl ?_
      obtain ⟨g2, h⟩ := x_gd h
      refine g_bload 0 (pc := 16) dJ1_indexOfChar_4cfef_16 (by decide) (xin_of g2) rfl ?_
      refine g_iload (pc := 17) dJ1_indexOfChar_4cfef_17 rfl ?_
      refine g_icmp_ne (tgt := 25) (pc := 19) dJ1_indexOfChar_4cfef_19 (by decide) (fun c3 => ?_) (fun c3 => ?_)
      · replace h := (if_neg c3).symm.trans h
        refine g_inc (pc := 25) dJ1_indexOfChar_4cfef_25 (Nat.le_of_ble_eq_true rfl) rfl ic_1 (L' := [some (.ref (1020 + 0)), none, none, some (.int v3), some (.int v4), some (.int (v5 + (1 : Int32)))]) rfl ?_
        refine g_goto (tgt := 7) (pc := 28) dJ1_indexOfChar_4cfef_28 (by decide) ?_
        exact ih v3 v4 (v5 + (1 : Int32)) h
      · replace h := (if_pos c3).symm.trans h
        refine g_iload (pc := 22) dJ1_indexOfChar_4cfef_22 rfl ?_
        cases h
        exact g_iret (pc := 24) dJ1_indexOfChar_4cfef_24 rfl rfl rfl (Nat.le_refl _) (Nat.le_refl _)
set_option maxRecDepth 100000 in
set_option maxHeartbeats 4000000 in
theorem G_J1_indexOfChar_4cfef_t0_0 {sc : Nat × (Nat → Int32)} {d : Nat} (hd : 0 ≤ d) {r : Int32} {u : xS} (v1 : Int32) (v2 : Int32) (v3 : Int32) (h : f_J1_indexOfChar_4cfef_t0 v1 v2 v3 = some r) : xG sc mJ1_indexOfChar_4cfef d 0 0 (xR (some (.int r)) (xL0, u) 0 0) 0 0 0 [some (.ref (1020 + 0)), some (.int v1), some (.int v2), some (.int v3), none, none] [] (xL0, u) := by
  rw [f_J1_indexOfChar_4cfef_t0] at h
  refine g_iload_n (pc := 0) dJ1_indexOfChar_4cfef_0 rfl ?_
  refine g_i2b (pc := 1) dJ1_indexOfChar_4cfef_1 rfl ?_
  refine g_istore (pc := 2) dJ1_indexOfChar_4cfef_2 (Nat.le_of_ble_eq_true rfl) (L' := [some (.ref (1020 + 0)), some (.int v1), some (.int v2), some (.int v3), some (.int (v1.toInt8.toInt32)), none]) rfl ?_
  refine g_iload_n (pc := 4) dJ1_indexOfChar_4cfef_4 rfl ?_
  refine g_istore (pc := 5) dJ1_indexOfChar_4cfef_5 (Nat.le_of_ble_eq_true rfl) (L' := [some (.ref (1020 + 0)), some (.int v1), some (.int v2), some (.int v3), some (.int (v1.toInt8.toInt32)), some (.int v2)]) rfl ?_
  refine g_L (L' := [some (.ref (1020 + 0)), none, none, some (.int v3), some (.int (v1.toInt8.toInt32)), some (.int v2)]) ⟨rfl, ⟨rfl, ⟨rfl, ⟨rfl, trivial⟩⟩⟩⟩ ?_
  exact G_J1_indexOfChar_4cfef_t0_7 hd xN v3 (v1.toInt8.toInt32) v2 h
set_option maxRecDepth 100000 in
set_option maxHeartbeats 4000000 in
theorem M_J1_indexOfChar_4cfef_t0 {sc : Nat × (Nat → Int32)} {d : Nat} (hd : 0 ≤ d) {r : Int32} {u : xS} {a1 : Int32} {a2 : Int32} {a3 : Int32} (h : f_J1_indexOfChar_4cfef_t0 a1 a2 a3 = some r) : xMt sc mJ1_indexOfChar_4cfef d 0 0 [.ref (1020 + 0), .int a1, .int a2, .int a3] (xL0, u) (some (.int r)) (xL0, u) :=
  xMt.of (by decide +kernel) (Nat.le_of_ble_eq_true rfl) (L := [some (.ref (1020 + 0)), some (.int a1), some (.int a2), some (.int a3), none, none]) rfl ((G_J1_indexOfChar_4cfef_t0_0 hd a1 a2 a3 h))
set_option maxRecDepth 100000 in
set_option maxHeartbeats 4000000 in
theorem G_J1_indexOf_4cfef_t0_0 {sc : Nat × (Nat → Int32)} {d : Nat} (hd : 1 ≤ d) {r : Int32} {u : xS} (v1 : Int32) (v2 : Int32) (v3 : Int32) (h : f_J1_indexOf_4cfef_t0 v1 v2 v3 = some r) : xG sc mJ1_indexOf_4cfef d 0 0 (xR (some (.int r)) (xL0, u) 0 0) 0 0 0 [some (.ref (1020 + 0)), some (.int v1), some (.int v2), some (.int v3)] [] (xL0, u) := by
  rw [f_J1_indexOf_4cfef_t0] at h
  refine g_iload_n (pc := 0) dJ1_indexOf_4cfef_0 rfl ?_
  refine g_cS (pc := 1) dJ1_indexOf_4cfef_1 cS_RJ1_88 (M_J1_canEncode_9a6ad (Nat.le_refl _) rfl) (as := [.int v1]) (st := []) rfl rfl (Nat.le_of_ble_eq_true rfl) (Nat.le_trans (Nat.le_of_ble_eq_true rfl) hd) rfl ?_
  refine g_if_ne (tgt := 9) (pc := 4) dJ1_indexOf_4cfef_4 (by decide) (fun c1 => ?_) (fun c1 => ?_)
  · replace h := (if_neg c1).symm.trans h
    refine g_iload_n (pc := 9) dJ1_indexOf_4cfef_9 rfl ?_
    refine g_iconst (pc := 10) dJ1_indexOf_4cfef_10 ic_0 ?_
    refine g_max (pc := 11) dJ1_indexOf_4cfef_11 mK_RJ1_92 (Nat.le_of_ble_eq_true rfl) (Nat.le_trans (Nat.le_of_ble_eq_true rfl) hd) (Nat.le_refl _) (Nat.le_refl _) ?_
    refine g_istore_n (pc := 14) dJ1_indexOf_4cfef_14 (Nat.le_of_ble_eq_true rfl) (L' := [some (.ref (1020 + 0)), some (.int v1), some (.int (imax v2 (0 : Int32))), some (.int v3)]) rfl ?_
    refine g_iload_n (pc := 15) dJ1_indexOf_4cfef_15 rfl ?_
    refine g_aload_n (pc := 16) dJ1_indexOf_4cfef_16 rfl ?_
    refine g_blen 0 (pc := 17) dJ1_indexOf_4cfef_17 (by decide) (v := (16 : Int32)) rfl ?_
    refine g_min (pc := 18) dJ1_indexOf_4cfef_18 mK_RJ1_38 (Nat.le_of_ble_eq_true rfl) (Nat.le_trans (Nat.le_of_ble_eq_true rfl) hd) (Nat.le_refl _) (Nat.le_refl _) ?_
    refine g_istore_n (pc := 21) dJ1_indexOf_4cfef_21 (Nat.le_of_ble_eq_true rfl) (L' := [some (.ref (1020 + 0)), some (.int v1), some (.int (imax v2 (0 : Int32))), some (.int (imin v3 (16 : Int32)))]) rfl ?_
    refine g_iload_n (pc := 22) dJ1_indexOf_4cfef_22 rfl ?_
    refine g_iload_n (pc := 23) dJ1_indexOf_4cfef_23 rfl ?_
    refine g_icmp_lt (tgt := 29) (pc := 24) dJ1_indexOf_4cfef_24 (by decide) (fun c2 => ?_) (fun c2 => ?_)
    · replace h := (if_pos c2).symm.trans h
      refine g_aload_n (pc := 29) dJ1_indexOf_4cfef_29 rfl ?_
      refine g_iload_n (pc := 30) dJ1_indexOf_4cfef_30 rfl ?_
      refine g_iload_n (pc := 31) dJ1_indexOf_4cfef_31 rfl ?_
      refine g_iload_n (pc := 32) dJ1_indexOf_4cfef_32 rfl ?_
      obtain ⟨x4, e3, h⟩ := x_bind h
      refine g_cS (pc := 33) dJ1_indexOf_4cfef_33 cS_RJ1_95 (M_J1_indexOfChar_4cfef_t0 (Nat.le_refl _) e3) (as := [.ref (1020 + 0), .int v1, .int (imax v2 (0 : Int32)), .int (imin v3 (16 : Int32))]) (st := []) rfl rfl (Nat.le_of_ble_eq_true rfl) (Nat.le_trans (Nat.le_of_ble_eq_true rfl) hd) rfl ?_
      cases h
      exact g_iret (pc := 36) dJ1_indexOf_4cfef_36 rfl rfl rfl (Nat.le_refl _) (Nat.le_refl _)
    · replace h := (if_neg c2).symm.trans h
      refine g_iconst (pc := 27) dJ1_indexOf_4cfef_27 ic_m1 ?_
      cases h
      exact g_iret (pc := 28) dJ1_indexOf_4cfef_28 rfl rfl rfl (Nat.le_refl _) (Nat.le_refl _)
  · replace h := (if_pos c1).symm.trans h
    refine g_iconst (pc := 7) dJ1_indexOf_4cfef_7 ic_m1 ?_
    cases h
    exact g_iret (pc := 8) dJ1_indexOf_4cfef_8 rfl rfl rfl (Nat.le_refl _) (Nat.le_refl _)
set_option maxRecDepth 100000 in
set_option maxHeartbeats 4000000 in
theorem M_J1_indexOf_4cfef_t0 {sc : Nat × (Nat → Int32)} {d : Nat} (hd : 1 ≤ d) {r : Int32} {u : xS} {a1 : Int32} {a2 : Int32} {a3 : Int32} (h : f_J1_indexOf_4cfef_t0 a1 a2 a3 = some r) : xMt sc mJ1_indexOf_4cfef d 0 0 [.ref (1020 + 0), .int a1, .int a2, .int a3] (xL0, u) (some (.int r)) (xL0, u) :=
  xMt.of (by decide +kernel) (Nat.le_of_ble_eq_true rfl) (L := [some (.ref (1020 + 0)), some (.int a1), some (.int a2), some (.int a3)]) rfl ((G_J1_indexOf_4cfef_t0_0 hd a1 a2 a3 h))
set_option maxRecDepth 100000 in
set_option maxHeartbeats 4000000 in
theorem G_J0_indexOf_7cf53_t0_0 {sc : Nat × (Nat → Int32)} {d : Nat} (hd : 2 ≤ d) {r : Int32} {u : xS} (v1 : Int32) (v2 : Int32) (h : f_J0_indexOf_7cf53_t0 v1 v2 = some r) : xG sc mJ0_indexOf_7cf53 d 0 0 (xR (some (.int r)) (xL0, u) 0 0) 0 0 0 [some (.ref (1010 + 0)), some (.int v1), some (.int v2)] [] (xL0, u) := by
  rw [f_J0_indexOf_7cf53_t0] at h
  refine g_aload_n (pc := 0) dJ0_indexOf_7cf53_0 rfl ?_
  refine g_cT 0 (pc := 1) dJ0_indexOf_7cf53_1 cT_RJ0_492 (M_J0_isLatin1_aae02_t0 (Nat.le_refl _) (rfl : f_J0_isLatin1_aae02_t0 = (1 : Int32))) (as := []) (st := []) rfl rfl (Nat.le_of_ble_eq_true rfl) (Nat.le_trans (Nat.le_of_ble_eq_true rfl) hd) rfl ?_
  refine g_if_eq (tgt := 23) (pc := 4) dJ0_indexOf_7cf53_4 (by decide) (fun c1 => absurd c1 (by decide)) (fun _ => ?_)
  refine g_aload_n (pc := 7) dJ0_indexOf_7cf53_7 rfl ?_
  refine g_strV 0 (pc := 8) dJ0_indexOf_7cf53_8 fs_RJ0_9 (by decide) ?_
  refine g_iload_n (pc := 11) dJ0_indexOf_7cf53_11 rfl ?_
  refine g_iload_n (pc := 12) dJ0_indexOf_7cf53_12 rfl ?_
  refine g_aload_n (pc := 13) dJ0_indexOf_7cf53_13 rfl ?_
  refine g_cT 0 (pc := 14) dJ0_indexOf_7cf53_14 cT_RJ0_505 (M_J0_length_8abf5_t0 (Nat.le_refl _) rfl) (as := []) (st := [.int v2, .int v1, .ref (1020 + 0)]) rfl rfl (Nat.le_of_ble_eq_true rfl) (Nat.le_trans (Nat.le_of_ble_eq_true rfl) hd) rfl ?_
  obtain ⟨x3, e2, h⟩ := x_bind h
  refine g_cS (pc := 17) dJ0_indexOf_7cf53_17 cS_RJ0_637 (M_J1_indexOf_4cfef_t0 (Nat.le_refl _) e2) (as := [.ref (1020 + 0), .int v1, .int v2, .int (f_J0_length_8abf5_t0)]) (st := []) rfl rfl (Nat.le_of_ble_eq_true rfl) (Nat.le_trans (Nat.le_of_ble_eq_true rfl) hd) rfl ?_
  refine g_goto (tgt := 36) (pc := 20) dJ0_indexOf_7cf53_20 (by decide) ?_
  cases h
  exact g_iret (pc := 36) dJ0_indexOf_7cf53_36 rfl rfl rfl (Nat.le_refl _) (Nat.le_refl _)
set_option maxRecDepth 100000 in
set_option maxHeartbeats 4000000 in
theorem M_J0_indexOf_7cf53_t0 {sc : Nat × (Nat → Int32)} {d : Nat} (hd : 2 ≤ d) {r : Int32} {u : xS} {a1 : Int32} {a2 : Int32} (h : f_J0_indexOf_7cf53_t0 a1 a2 = some r) : xMt sc mJ0_indexOf_7cf53 d 0 0 [.ref (1010 + 0), .int a1, .int a2] (xL0, u) (some (.int r)) (xL0, u) :=
  xMt.of (by decide +kernel) (Nat.le_of_ble_eq_true rfl) (L := [some (.ref (1010 + 0)), some (.int a1), some (.int a2)]) rfl ((G_J0_indexOf_7cf53_t0_0 hd a1 a2 h))
set_option maxRecDepth 100000 in
set_option maxHeartbeats 4000000 in
theorem G_J0_indexOf_0f7a4_t0_0 {sc : Nat × (Nat → Int32)} {d : Nat} (hd : 3 ≤ d) {r : Int32} {u : xS} (v1 : Int32) (h : f_J0_indexOf_0f7a4_t0 v1 = some r) : xG sc mJ0_indexOf_0f7a4 d 0 0 (xR (some (.int r)) (xL0, u) 0 0) 0 0 0 [some (.ref (1010 + 0)), some (.int v1)] [] (xL0, u) := by
  rw [f_J0_indexOf_0f7a4_t0] at h
  refine g_aload_n (pc := 0) dJ0_indexOf_0f7a4_0 rfl ?_
  refine g_iload_n (pc := 1) dJ0_indexOf_0f7a4_1 rfl ?_
  refine g_iconst (pc := 2) dJ0_indexOf_0f7a4_2 ic_0 ?_
  obtain ⟨x2, e1, h⟩ := x_bind h
  refine g_cT 0 (pc := 3) dJ0_indexOf_0f7a4_3 cT_RJ0_633 (M_J0_indexOf_7cf53_t0 (Nat.le_refl _) e1) (as := [.int v1, .int (0 : Int32)]) (st := []) rfl rfl (Nat.le_of_ble_eq_true rfl) (Nat.le_trans (Nat.le_of_ble_eq_true rfl) hd) rfl ?_
  cases h
  exact g_iret (pc := 6) dJ0_indexOf_0f7a4_6 rfl rfl rfl (Nat.le_refl _) (Nat.le_refl _)
set_option maxRecDepth 100000 in
set_option maxHeartbeats 4000000 in
theorem M_J0_indexOf_0f7a4_t0 {sc : Nat × (Nat → Int32)} {d : Nat} (hd : 3 ≤ d) {r : Int32} {u : xS} {a1 : Int32} (h : f_J0_indexOf_0f7a4_t0 a1 = some r) : xMt sc mJ0_indexOf_0f7a4 d 0 0 [.ref (1010 + 0), .int a1] (xL0, u) (some (.int r)) (xL0, u) :=
  xMt.of (by decide +kernel) (Nat.le_of_ble_eq_true rfl) (L := [some (.ref (1010 + 0)), some (.int a1)]) rfl ((G_J0_indexOf_0f7a4_t0_0 hd a1 h))
set_option maxRecDepth 100000 in
set_option maxHeartbeats 4000000 in
theorem G_X12_isOf_t0_0 {sc : Nat × (Nat → Int32)} {d : Nat} (hd : 4 ≤ d) {r : Int32} {u : xS} (v1 : Int32) (h : f_X12_isOf_t0 u v1 = some r) : xG sc mX12_isOf d 0 0 (xR (some (.int r)) (xL0, u) 0 0) 0 0 0 [some (.ref 135), some (.int v1), some (.ref (1010 + 0))] [] (xL0, u) := by
  rw [f_X12_isOf_t0] at h
  refine g_aload_n (pc := 0) dX12_isOf_0 rfl ?_
  refine g_gI (pc := 1) dX12_isOf_1 fI_RX12_259 xc_135 (v := (rd u 135 33)) rfl ?_
  refine g_iload_n (pc := 4) dX12_isOf_4 rfl ?_
  refine g_icmp_ge (tgt := 40) (pc := 5) dX12_isOf_5 (by decide) (fun c1 => ?_) (fun c1 => ?_)
  · replace h := (if_pos c1).symm.trans h
    refine g_iconst (pc := 40) dX12_isOf_40 ic_0 ?_
    cases h
    exact g_zret (pc := 41) dX12_isOf_41 rfl (Or.inl rfl) rfl rfl (Nat.le_refl _) (Nat.le_refl _)
  · replace h := (if_neg c1).symm.trans h
    refine g_aload_n (pc := 8) dX12_isOf_8 rfl ?_
    refine g_gR (pc := 9) dX12_isOf_9 fR_RX12_84 xc_135 (v := 159) rfl ?_
    refine g_aload_n (pc := 12) dX12_isOf_12 rfl ?_
    refine g_gI (pc := 13) dX12_isOf_13 fI_RX12_259 xc_135 (v := (rd u 135 33)) rfl ?_
    obtain ⟨g2, h⟩ := x_gd h
    refine g_iaload (pc := 16) dX12_isOf_16 xc_159 (xin_of g2) (v := (rd u 159 (rd u 135 33).toNatClampNeg)) rfl ?_
    refine g_if_le (tgt := 40) (pc := 17) dX12_isOf_17 (by decide) (fun c3 => ?_) (fun c3 => ?_)
    · replace h := (if_pos c3).symm.trans h
      refine g_iconst (pc := 40) dX12_isOf_40 ic_0 ?_
      cases h
      exact g_zret (pc := 41) dX12_isOf_41 rfl (Or.inl rfl) rfl rfl (Nat.le_refl _) (Nat.le_refl _)
    · replace h := (if_neg c3).symm.trans h
      refine g_aload_n (pc := 20) dX12_isOf_20 rfl ?_
      refine g_aload_n (pc := 21) dX12_isOf_21 rfl ?_
      refine g_gR (pc := 22) dX12_isOf_22 fR_RX12_84 xc_135 (v := 159) rfl ?_
      refine g_aload_n (pc := 25) dX12_isOf_25 rfl ?_
      refine g_gI (pc := 26) dX12_isOf_26 fI_RX12_259 xc_135 (v := (rd u 135 33)) rfl ?_
      refine g_iaload (pc := 29) dX12_isOf_29 xc_159 (xin_of g2) (v := (rd u 159 (rd u 135 33).toNatClampNeg)) rfl ?_
      obtain ⟨x5, e4, h⟩ := x_bind h
      refine g_cT 0 (pc := 30) dX12_isOf_30 cT_RX12_262 (M_J0_indexOf_0f7a4_t0 (Nat.le_refl _) e4) (as := [.int (rd u 159 (rd u 135 33).toNatClampNeg)]) (st := []) rfl rfl (Nat.le_of_ble_eq_true rfl) (Nat.le_trans (Nat.le_of_ble_eq_true rfl) hd) rfl ?_
      refine g_if_lt (tgt := 40) (pc := 33) dX12_isOf_33 (by decide) (fun c6 => ?_) (fun c6 => ?_)
      · replace h := (if_pos c6).symm.trans h
        refine g_iconst (pc := 40) dX12_isOf_40 ic_0 ?_
        cases h
        exact g_zret (pc := 41) dX12_isOf_41 rfl (Or.inl rfl) rfl rfl (Nat.le_refl _) (Nat.le_refl _)
      · replace h := (if_neg c6).symm.trans h
        refine g_iconst (pc := 36) dX12_isOf_36 ic_1 ?_
        refine g_goto (tgt := 41) (pc := 37) dX12_isOf_37 (by decide) ?_
        cases h
        exact g_zret (pc := 41) dX12_isOf_41 rfl (Or.inr rfl) rfl rfl (Nat.le_refl _) (Nat.le_refl _)
set_option maxRecDepth 100000 in
set_option maxHeartbeats 4000000 in
theorem M_X12_isOf_t0 {sc : Nat × (Nat → Int32)} {d : Nat} (hd : 4 ≤ d) {r : Int32} {u : xS} {a1 : Int32} (h : f_X12_isOf_t0 u a1 = some r) : xMt sc mX12_isOf d 0 0 [.ref 135, .int a1, .ref (1010 + 0)] (xL0, u) (some (.int r)) (xL0, u) :=
  xMt.of (by decide +kernel) (Nat.le_of_ble_eq_true rfl) (L := [some (.ref 135), some (.int a1), some (.ref (1010 + 0))]) rfl ((G_X12_isOf_t0_0 hd a1 h))
set_option maxRecDepth 100000 in
set_option maxHeartbeats 4000000 in
theorem G_X12_thing_109 {sc : Nat × (Nat → Int32)} {d : Nat} (hd : 5 ≤ d) {r : Int32} {u' : xS} {dk : Nat} (hkd : dk + 1 ≤ d) {k_X12_some : Int32 → xS → Option (Int32 × xS)} (hk_X12_some : ∀ (a1 : Int32) (u u' : xS) (r : Int32), k_X12_some a1 u = some (r, u') → xMt sc mX12_some dk 0 0 [.ref 135, .int a1] (xL0, u) (some (.int r)) (xL0, u')) (v2 : Int32) (u : xS) (h : f_X12_thing_109 k_X12_some v2 u = some (r, u')) : xG sc mX12_thing d 0 0 (xR (some (.int r)) (xL0, u') 0 0) 0 0 109 [some (.ref 135), none, some (.int v2), none] [] (xL0, u) := by
  rw [f_X12_thing_109] at h
  refine g_aload_n (pc := 109) dX12_thing_109 rfl ?_
  refine g_iload_n (pc := 110) dX12_thing_110 rfl ?_
  obtain ⟨u2, e1, h⟩ := x_bind h
  refine g_cV (pc := 111) dX12_thing_111 cV_RX12_276 (M_X12_marks (Nat.le_refl _) e1) xc_135 (as := [.int v2]) (st := []) rfl rfl (Nat.le_of_ble_eq_true rfl) (Nat.le_trans (Nat.le_of_ble_eq_true rfl) hd) rfl ?_
  refine g_iconst (pc := 114) dX12_thing_114 ic_1 ?_
  cases h
  exact g_zret (pc := 115) dX12_thing_115 rfl (Or.inr rfl) rfl rfl (Nat.le_refl _) (Nat.le_refl _)
set_option maxRecDepth 100000 in
set_option maxHeartbeats 4000000 in
theorem G_X12_thing_59 {sc : Nat × (Nat → Int32)} {d : Nat} (hd : 5 ≤ d) {r : Int32} {u' : xS} {dk : Nat} (hkd : dk + 1 ≤ d) {k_X12_some : Int32 → xS → Option (Int32 × xS)} (hk_X12_some : ∀ (a1 : Int32) (u u' : xS) (r : Int32), k_X12_some a1 u = some (r, u') → xMt sc mX12_some dk 0 0 [.ref 135, .int a1] (xL0, u) (some (.int r)) (xL0, u')) : ∀ (n : Nat) (v1 : Int32) (v2 : Int32) (v3 : Int32) (u : xS), f_X12_thing_59 k_X12_some n v1 v2 v3 u = some (r, u') → xG sc mX12_thing d 0 0 (xR (some (.int r)) (xL0, u') 0 0) 0 0 59 [some (.ref 135), some (.int v1), some (.int v2), some (.int v3)] [] (xL0, u) := by
  intro n
  induction n with
  | zero =>
    intro v1 v2 v3 u h
    rw [f_X12_thing_59] at h
    cases h
  | succ n ih =>
    intro v1 v2 v3 u h
    rw [f_X12_thing_59] at h
    refine g_iload_n (pc := 59) dX12_thing_59 rfl ?_
    refine g_iconst (pc := 60) dX12_thing_60 ic_4 ?_
    refine g_icmp_ge (tgt := 109) (pc := 61) dX12_thing_61 (by decide) (fun c1 => ?_) (fun c1 => ?_)
    · replace h := (if_pos c1).symm.trans h
      refine g_L (L' := [some (.ref 135), none, some (.int v2), none]) ⟨rfl, ⟨rfl, trivial⟩⟩ ?_
      exact G_X12_thing_109 hd v2 u h
    · replace h := (if_neg c1).symm.trans h
      refine g_aload_n (pc := 64) dX12_thing_64 rfl ?_
      refine g_iload_n (pc := 65) dX12_thing_65 rfl ?_
      refine g_ldcS 1 (pc := 66) dX12_thing_66 rfl rfl ?_
      obtain ⟨x3, e2, h⟩ := x_bind h
      refine g_cV (pc := 69) dX12_thing_69 cV_RX12_272 (M_X12_isOf_t1 (Nat.le_refl _) e2) xc_135 (as := [.int v1, .ref (1010 + 1)]) (st := []) rfl rfl (Nat.le_of_ble_eq_true rfl) (Nat.le_trans (Nat.le_of_ble_eq_true rfl) hd) rfl ?_
      refine g_if_eq (tgt := 109) (pc := 72) dX12_thing_72 (by decide) (fun c4 => ?_) (fun c4 => ?_)
      · replace h := (if_pos c4).symm.trans h
        refine g_L (L' := [some (.ref 135), none, some (.int v2), none]) ⟨rfl, ⟨rfl, trivial⟩⟩ ?_
        exact G_X12_thing_109 hd v2 u h
      · replace h := (if_neg c4).symm.trans h
        refine g_bipush (pc := 75) dX12_thing_75 bp_10 ?_
        refine g_iload_n (pc := 77) dX12_thing_77 rfl ?_
        refine g_imul (pc := 78) dX12_thing_78 rfl ?_
        refine g_aload_n (pc := 79) dX12_thing_79 rfl ?_
        refine g_gR (pc := 80) dX12_thing_80 fR_RX12_84 xc_135 (v := 159) rfl ?_
        refine g_aload_n (pc := 83) dX12_thing_83 rfl ?_
        refine g_gI (pc := 84) dX12_thing_84 fI_RX12_259 xc_135 (v := (rd u 135 33)) rfl ?_
        obtain ⟨g5, h⟩ := x_gd h
        refine g_iaload (pc := 87) dX12_thing_87 xc_159 (xin_of g5) (v := (rd u 159 (rd u 135 33).toNatClampNeg)) rfl ?_
        refine g_iadd (pc := 88) dX12_thing_88 rfl ?_
        refine g_bipush (pc := 89) dX12_thing_89 bp_48 ?_
        refine g_isub (pc := 91) dX12_thing_91 rfl ?_
        refine g_istore_n (pc := 92) dX12_thing_92 (Nat.le_of_ble_eq_true rfl) (L' := [some (.ref 135), some (.int v1), some (.int ((((10 : Int32) * v2) + (rd u 159 (rd u 135 33).toNatClampNeg)) - (48 : Int32))), some (.int v3)]) rfl ?_
        refine g_aload_n (pc := 93) dX12_thing_93 rfl ?_
        refine g_dup (pc := 94) dX12_thing_94 rfl ?_
        refine g_gI (pc := 95) dX12_thing_95 fI_RX12_259 xc_135 (v := (rd u 135 33)) rfl ?_
        refine g_iconst (pc := 98) dX12_thing_98 ic_1 ?_
        refine g_iadd (pc := 99) dX12_thing_99 rfl ?_
        refine g_pI (pc := 100) dX12_thing_100 pI_RX12_259 xc_135 (u' := (wr u 135 33 ((rd u 135 33) + (1 : Int32)))) rfl ?_
        refine g_inc (pc := 103) dX12_thing_103 (Nat.le_of_ble_eq_true rfl) rfl ic_1 (L' := [some (.ref 135), some (.int v1), some (.int ((((10 : Int32) * v2) + (rd u 159 (rd u 135 33).toNatClampNeg)) - (48 : Int32))), some (.int (v3 + (1 : Int32)))]) rfl ?_
        refine g_goto (tgt := 59) (pc := 106) dX12_thing_106 (by decide) ?_
        exact ih v1 ((((10 : Int32) * v2) + (rd u 159 (rd u 135 33).toNatClampNeg)) - (48 : Int32)) (v3 + (1 : Int32)) (wr u 135 33 ((rd u 135 33) + (1 : Int32))) h
set_option maxRecDepth 100000 in
set_option maxHeartbeats 4000000 in
theorem G_X12_thing_0 {sc : Nat × (Nat → Int32)} {d : Nat} (hd : 5 ≤ d) {r : Int32} {u' : xS} {dk : Nat} (hkd : dk + 1 ≤ d) {k_X12_some : Int32 → xS → Option (Int32 × xS)} (hk_X12_some : ∀ (a1 : Int32) (u u' : xS) (r : Int32), k_X12_some a1 u = some (r, u') → xMt sc mX12_some dk 0 0 [.ref 135, .int a1] (xL0, u) (some (.int r)) (xL0, u')) (v1 : Int32) (u : xS) (h : f_X12_thing k_X12_some v1 u = some (r, u')) : xG sc mX12_thing d 0 0 (xR (some (.int r)) (xL0, u') 0 0) 0 0 0 [some (.ref 135), some (.int v1), none, none] [] (xL0, u) := by
  rw [f_X12_thing] at h
  refine g_aload_n (pc := 0) dX12_thing_0 rfl ?_
  refine g_iload_n (pc := 1) dX12_thing_1 rfl ?_
  refine g_ldcS 0 (pc := 2) dX12_thing_2 rfl rfl ?_
  obtain ⟨x2, e1, h⟩ := x_bind h
  refine g_cV (pc := 5) dX12_thing_5 cV_RX12_272 (M_X12_isOf_t0 (Nat.le_refl _) e1) xc_135 (as := [.int v1, .ref (1010 + 0)]) (st := []) rfl rfl (Nat.le_of_ble_eq_true rfl) (Nat.le_trans (Nat.le_of_ble_eq_true rfl) hd) rfl ?_
  refine g_if_eq (tgt := 44) (pc := 8) dX12_thing_8 (by decide) (fun c3 => ?_) (fun c3 => ?_)
  · replace h := (if_pos c3).symm.trans h
    refine g_aload_n (pc := 44) dX12_thing_44 rfl ?_
    refine g_iload_n (pc := 45) dX12_thing_45 rfl ?_
    refine g_ldcS 1 (pc := 46) dX12_thing_46 rfl rfl ?_
    obtain ⟨x5, e4, h⟩ := x_bind h
    refine g_cV (pc := 49) dX12_thing_49 cV_RX12_272 (M_X12_isOf_t1 (Nat.le_refl _) e4) xc_135 (as := [.int v1, .ref (1010 + 1)]) (st := []) rfl rfl (Nat.le_of_ble_eq_true rfl) (Nat.le_trans (Nat.le_of_ble_eq_true rfl) hd) rfl ?_
    refine g_if_eq (tgt := 116) (pc := 52) dX12_thing_52 (by decide) (fun c6 => ?_) (fun c6 => ?_)
    · replace h := (if_pos c6).symm.trans h
      refine g_aload_n (pc := 116) dX12_thing_116 rfl ?_
      refine g_iload_n (pc := 117) dX12_thing_117 rfl ?_
      refine g_bipush (pc := 118) dX12_thing_118 bp_40 ?_
      obtain ⟨x8, e7, h⟩ := x_bind h
      refine g_cV (pc := 120) dX12_thing_120 cV_RX12_282 (M_X12_isSign (Nat.le_refl _) e7) xc_135 (as := [.int v1, .int (40 : Int32)]) (st := []) rfl rfl (Nat.le_of_ble_eq_true rfl) (Nat.le_trans (Nat.le_of_ble_eq_true rfl) hd) rfl ?_
      refine g_if_ne (tgt := 128) (pc := 123) dX12_thing_123 (by decide) (fun c9 => ?_) (fun c9 => ?_)
      · replace h := (if_neg c9).symm.trans h
        refine g_aload_n (pc := 128) dX12_thing_128 rfl ?_
        refine g_dup (pc := 129) dX12_thing_129 rfl ?_
        refine g_gI (pc := 130) dX12_thing_130 fI_RX12_259 xc_135 (v := (rd u 135 33)) rfl ?_
        refine g_iconst (pc := 133) dX12_thing_133 ic_1 ?_
        refine g_iadd (pc := 134) dX12_thing_134 rfl ?_
        refine g_pI (pc := 135) dX12_thing_135 pI_RX12_259 xc_135 (u' := (wr u 135 33 ((rd u 135 33) + (1 : Int32)))) rfl ?_
        refine g_aload_n (pc := 138) dX12_thing_138 rfl ?_
        refine g_iload_n (pc := 139) dX12_thing_139 rfl ?_
        obtain ⟨⟨x11, u12⟩, e10, h⟩ := x_bind h
        dsimp only at h
        refine g_cV (pc := 140) dX12_thing_140 cV_RX12_286 (hk_X12_some _ _ _ _ e10) xc_135 (as := [.int v1]) (st := []) rfl rfl (Nat.le_of_ble_eq_true rfl) hkd rfl ?_
        refine g_if_eq (tgt := 156) (pc := 143) dX12_thing_143 (by decide) (fun c13 => ?_) (fun c13 => ?_)
        · replace h := (if_pos c13).symm.trans h
          refine g_iconst (pc := 156) dX12_thing_156 ic_0 ?_
          cases h
          exact g_zret (pc := 157) dX12_thing_157 rfl (Or.inl rfl) rfl rfl (Nat.le_refl _) (Nat.le_refl _)
        · replace h := (if_neg c13).symm.trans h
          refine g_aload_n (pc := 146) dX12_thing_146 rfl ?_
          refine g_iload_n (pc := 147) dX12_thing_147 rfl ?_
          refine g_bipush (pc := 148) dX12_thing_148 bp_41 ?_
          obtain ⟨x15, e14, h⟩ := x_bind h
          refine g_cV (pc := 150) dX12_thing_150 cV_RX12_282 (M_X12_isSign (Nat.le_refl _) e14) xc_135 (as := [.int v1, .int (41 : Int32)]) (st := []) rfl rfl (Nat.le_of_ble_eq_true rfl) (Nat.le_trans (Nat.le_of_ble_eq_true rfl) hd) rfl ?_
          refine g_if_ne (tgt := 158) (pc := 153) dX12_thing_153 (by decide) (fun c16 => ?_) (fun c16 => ?_)
          · replace h := (if_neg c16).symm.trans h
            refine g_aload_n (pc := 158) dX12_thing_158 rfl ?_
            refine g_dup (pc := 159) dX12_thing_159 rfl ?_
            refine g_gI (pc := 160) dX12_thing_160 fI_RX12_259 xc_135 (v := (rd u12 135 33)) rfl ?_
            refine g_iconst (pc := 163) dX12_thing_163 ic_1 ?_
            refine g_iadd (pc := 164) dX12_thing_164 rfl ?_
            refine g_pI (pc := 165) dX12_thing_165 pI_RX12_259 xc_135 (u' := (wr u12 135 33 ((rd u12 135 33) + (1 : Int32)))) rfl ?_
            refine g_iconst (pc := 168) dX12_thing_168 ic_1 ?_
            cases h
            exact g_zret (pc := 169) dX12_thing_169 rfl (Or.inr rfl) rfl rfl (Nat.le_refl _) (Nat.le_refl _)
          · replace h := (if_pos c16).symm.trans h
            refine g_iconst (pc := 156) dX12_thing_156 ic_0 ?_
            cases h
            exact g_zret (pc := 157) dX12_thing_157 rfl (Or.inl rfl) rfl rfl (Nat.le_refl _) (Nat.le_refl _)
      · replace h := (if_pos c9).symm.trans h
        refine g_iconst (pc := 126) dX12_thing_126 ic_0 ?_
        cases h
        exact g_zret (pc := 127) dX12_thing_127 rfl (Or.inl rfl) rfl rfl (Nat.le_refl _) (Nat.le_refl _)
    · replace h := (if_neg c6).symm.trans h
      refine g_iconst (pc := 55) dX12_thing_55 ic_0 ?_
      refine g_istore_n (pc := 56) dX12_thing_56 (Nat.le_of_ble_eq_true rfl) (L' := [some (.ref 135), some (.int v1), some (.int (0 : Int32)), none]) rfl ?_
      refine g_iconst (pc := 57) dX12_thing_57 ic_0 ?_
      refine g_istore_n (pc := 58) dX12_thing_58 (Nat.le_of_ble_eq_true rfl) (L' := [some (.ref 135), some (.int v1), some (.int (0 : Int32)), some (.int (0 : Int32))]) rfl ?_
      exact G_X12_thing_59 hd hkd hk_X12_some xN v1 (0 : Int32) (0 : Int32) u h
  · replace h := (if_neg c3).symm.trans h
    refine g_aload_n (pc := 11) dX12_thing_11 rfl ?_
    refine g_iconst (pc := 12) dX12_thing_12 ic_m1 ?_
    refine g_ldcS 0 (pc := 13) dX12_thing_13 rfl rfl ?_
    refine g_aload_n (pc := 16) dX12_thing_16 rfl ?_
    refine g_gR (pc := 17) dX12_thing_17 fR_RX12_84 xc_135 (v := 159) rfl ?_
    refine g_aload_n (pc := 20) dX12_thing_20 rfl ?_
    refine g_gI (pc := 21) dX12_thing_21 fI_RX12_259 xc_135 (v := (rd u 135 33)) rfl ?_
    obtain ⟨g18, h⟩ := x_gd h
    refine g_iaload (pc := 24) dX12_thing_24 xc_159 (xin_of g18) (v := (rd u 159 (rd u 135 33).toNatClampNeg)) rfl ?_
    obtain ⟨x20, e19, h⟩ := x_bind h
    refine g_cT 0 (pc := 25) dX12_thing_25 cT_RX12_262 (M_J0_indexOf_0f7a4_t0 (Nat.le_refl _) e19) (as := [.int (rd u 159 (rd u 135 33).toNatClampNeg)]) (st := [.int (-1 : Int32), .ref 135]) rfl rfl (Nat.le_of_ble_eq_true rfl) (Nat.le_trans (Nat.le_of_ble_eq_true rfl) hd) rfl ?_
    refine g_isub (pc := 28) dX12_thing_28 rfl ?_
    obtain ⟨u22, e21, h⟩ := x_bind h
    refine g_cV (pc := 29) dX12_thing_29 cV_RX12_276 (M_X12_marks (Nat.le_refl _) e21) xc_135 (as := [.int ((-1 : Int32) - x20)]) (st := []) rfl rfl (Nat.le_of_ble_eq_true rfl) (Nat.le_trans (Nat.le_of_ble_eq_true rfl) hd) rfl ?_
    refine g_aload_n (pc := 32) dX12_thing_32 rfl ?_
    refine g_dup (pc := 33) dX12_thing_33 rfl ?_
    refine g_gI (pc := 34) dX12_thing_34 fI_RX12_259 xc_135 (v := (rd u22 135 33)) rfl ?_
    refine g_iconst (pc := 37) dX12_thing_37 ic_1 ?_
    refine g_iadd (pc := 38) dX12_thing_38 rfl ?_
    refine g_pI (pc := 39) dX12_thing_39 pI_RX12_259 xc_135 (u' := (wr u22 135 33 ((rd u22 135 33) + (1 : Int32)))) rfl ?_
    refine g_iconst (pc := 42) dX12_thing_42 ic_1 ?_
    cases h
    exact g_zret (pc := 43) dX12_thing_43 rfl (Or.inr rfl) rfl rfl (Nat.le_refl _) (Nat.le_refl _)
set_option maxRecDepth 100000 in
set_option maxHeartbeats 4000000 in
theorem M_X12_thing {sc : Nat × (Nat → Int32)} {d : Nat} (hd : 5 ≤ d) {r : Int32} {u u' : xS} {dk : Nat} (hkd : dk + 1 ≤ d) {k_X12_some : Int32 → xS → Option (Int32 × xS)} (hk_X12_some : ∀ (a1 : Int32) (u u' : xS) (r : Int32), k_X12_some a1 u = some (r, u') → xMt sc mX12_some dk 0 0 [.ref 135, .int a1] (xL0, u) (some (.int r)) (xL0, u')) {a1 : Int32} (h : f_X12_thing k_X12_some a1 u = some (r, u')) : xMt sc mX12_thing d 0 0 [.ref 135, .int a1] (xL0, u) (some (.int r)) (xL0, u') :=
  xMt.of (by decide +kernel) (Nat.le_of_ble_eq_true rfl) (L := [some (.ref 135), some (.int a1), none, none]) rfl ((G_X12_thing_0 hd hkd hk_X12_some a1 u h))
theorem zb_J0_isLatin1_aae02_t2 : f_J0_isLatin1_aae02_t2 = 0 ∨ f_J0_isLatin1_aae02_t2 = 1 := by
  unfold f_J0_isLatin1_aae02_t2
  (repeat' split) <;> first | exact Or.inl rfl | exact Or.inr rfl
set_option maxRecDepth 100000 in
set_option maxHeartbeats 4000000 in
theorem G_J0_isLatin1_aae02_t2_0 {sc : Nat × (Nat → Int32)} {d : Nat} (hd : 0 ≤ d) {r : Int32} {u : xS} (h : f_J0_isLatin1_aae02_t2 = r) : xG sc mJ0_isLatin1_aae02 d 0 0 (xR (some (.int r)) (xL0, u) 0 0) 0 0 0 [some (.ref (1010 + 2))] [] (xL0, u) := by
  rw [f_J0_isLatin1_aae02_t2] at h
  refine g_getsC (pc := 0) dJ0_isLatin1_aae02_0 fs_RJ0_38 ?_
  refine g_if_eq (tgt := 17) (pc := 3) dJ0_isLatin1_aae02_3 (by decide) (fun c1 => absurd c1 (by decide)) (fun _ => ?_)
  refine g_aload_n (pc := 6) dJ0_isLatin1_aae02_6 rfl ?_
  refine g_strC 2 (pc := 7) dJ0_isLatin1_aae02_7 fs_RJ0_15 (by decide) ?_
  refine g_if_ne (tgt := 17) (pc := 10) dJ0_isLatin1_aae02_10 (by decide) (fun c2 => absurd c2 (by decide)) (fun _ => ?_)
  refine g_iconst (pc := 13) dJ0_isLatin1_aae02_13 ic_1 ?_
  refine g_goto (tgt := 18) (pc := 14) dJ0_isLatin1_aae02_14 (by decide) ?_
  subst h
  exact g_zret (pc := 18) dJ0_isLatin1_aae02_18 rfl (Or.inr rfl) rfl rfl (Nat.le_refl _) (Nat.le_refl _)
set_option maxRecDepth 100000 in
set_option maxHeartbeats 4000000 in
theorem M_J0_isLatin1_aae02_t2 {sc : Nat × (Nat → Int32)} {d : Nat} (hd : 0 ≤ d) {r : Int32} {u : xS} (h : f_J0_isLatin1_aae02_t2 = r) : xMt sc mJ0_isLatin1_aae02 d 0 0 [.ref (1010 + 2)] (xL0, u) (some (.int r)) (xL0, u) :=
  xMt.of (by decide +kernel) (Nat.le_of_ble_eq_true rfl) (L := [some (.ref (1010 + 2))]) rfl ((G_J0_isLatin1_aae02_t2_0 hd h))
set_option maxRecDepth 100000 in
set_option maxHeartbeats 4000000 in
theorem G_J0_coder_7d493_t2_0 {sc : Nat × (Nat → Int32)} {d : Nat} (hd : 0 ≤ d) {r : Int32} {u : xS} (h : f_J0_coder_7d493_t2 = r) : xG sc mJ0_coder_7d493 d 0 0 (xR (some (.int r)) (xL0, u) 0 0) 0 0 0 [some (.ref (1010 + 2))] [] (xL0, u) := by
  rw [f_J0_coder_7d493_t2] at h
  refine g_getsC (pc := 0) dJ0_coder_7d493_0 fs_RJ0_38 ?_
  refine g_if_eq (tgt := 13) (pc := 3) dJ0_coder_7d493_3 (by decide) (fun c1 => absurd c1 (by decide)) (fun _ => ?_)
  refine g_aload_n (pc := 6) dJ0_coder_7d493_6 rfl ?_
  refine g_strC 2 (pc := 7) dJ0_coder_7d493_7 fs_RJ0_15 (by decide) ?_
  refine g_goto (tgt := 14) (pc := 10) dJ0_coder_7d493_10 (by decide) ?_
  subst h
  exact g_bret (pc := 14) dJ0_coder_7d493_14 rfl rfl rfl rfl (Nat.le_refl _) (Nat.le_refl _)
set_option maxRecDepth 100000 in
set_option maxHeartbeats 4000000 in
theorem M_J0_coder_7d493_t2 {sc : Nat × (Nat → Int32)} {d : Nat} (hd : 0 ≤ d) {r : Int32} {u : xS} (h : f_J0_coder_7d493_t2 = r) : xMt sc mJ0_coder_7d493 d 0 0 [.ref (1010 + 2)] (xL0, u) (some (.int r)) (xL0, u) :=
  xMt.of (by decide +kernel) (Nat.le_of_ble_eq_true rfl) (L := [some (.ref (1010 + 2))]) rfl ((G_J0_coder_7d493_t2_0 hd h))
set_option maxRecDepth 100000 in
set_option maxHeartbeats 4000000 in
theorem G_J0_length_8abf5_t2_0 {sc : Nat × (Nat → Int32)} {d : Nat} (hd : 1 ≤ d) {r : Int32} {u : xS} (h : f_J0_length_8abf5_t2 = r) : xG sc mJ0_length_8abf5 d 0 0 (xR (some (.int r)) (xL0, u) 0 0) 0 0 0 [some (.ref (1010 + 2))] [] (xL0, u) := by
  rw [f_J0_length_8abf5_t2] at h
  refine g_aload_n (pc := 0) dJ0_length_8abf5_0 rfl ?_
  refine g_strV 2 (pc := 1) dJ0_length_8abf5_1 fs_RJ0_9 (by decide) ?_
  refine g_blen 2 (pc := 4) dJ0_length_8abf5_4 (by decide) (v := (2 : Int32)) rfl ?_
  refine g_aload_n (pc := 5) dJ0_length_8abf5_5 rfl ?_
  refine g_cT 2 (pc := 6) dJ0_length_8abf5_6 cT_RJ0_335 (M_J0_coder_7d493_t2 (Nat.le_refl _) (rfl : f_J0_coder_7d493_t2 = (0 : Int32))) (as := []) (st := [.int (2 : Int32)]) rfl rfl (Nat.le_of_ble_eq_true rfl) (Nat.le_trans (Nat.le_of_ble_eq_true rfl) hd) rfl ?_
  refine g_ishr (pc := 9) dJ0_length_8abf5_9 rfl ?_
  subst h
  exact g_iret (pc := 10) dJ0_length_8abf5_10 rfl rfl rfl (Nat.le_refl _) (Nat.le_refl _)
set_option maxRecDepth 100000 in
set_option maxHeartbeats 4000000 in
theorem M_J0_length_8abf5_t2 {sc : Nat × (Nat → Int32)} {d : Nat} (hd : 1 ≤ d) {r : Int32} {u : xS} (h : f_J0_length_8abf5_t2 = r) : xMt sc mJ0_length_8abf5 d 0 0 [.ref (1010 + 2)] (xL0, u) (some (.int r)) (xL0, u) :=
  xMt.of (by decide +kernel) (Nat.le_of_ble_eq_true rfl) (L := [some (.ref (1010 + 2))]) rfl ((G_J0_length_8abf5_t2_0 hd h))
set_option maxRecDepth 100000 in
set_option maxHeartbeats 4000000 in
theorem G_J1_indexOfChar_4cfef_t2_7 {sc : Nat × (Nat → Int32)} {d : Nat} (hd : 0 ≤ d) {r : Int32} {u : xS} : ∀ (n : Nat) (v3 : Int32) (v4 : Int32) (v5 : Int32), f_J1_indexOfChar_4cfef_t2_7 n v3 v4 v5 = some r → xG sc mJ1_indexOfChar_4cfef d 0 0 (xR (some (.int r)) (xL0, u) 0 0) 0 0 7 [some (.ref (1020 + 2)), none, none, some (.int v3), some (.int v4), some (.int v5)] [] (xL0, u) := by
  intro n
  induction n with
  | zero =>
    intro v3 v4 v5 h
    rw [f_J1_indexOfChar_4cfef_t2_7] at h
    cases h
  | succ n ih =>
    intro v3 v4 v5 h
    rw [f_J1_indexOfChar_4cfef_t2_7] at h
    refine g_iload (pc := 7) dJ1_indexOfChar_4cfef_7 rfl ?_
    refine g_iload_n (pc := 9) dJ1_indexOfChar_4cfef_9 rfl ?_
    refine g_icmp_ge (tgt := 31) (pc := 10) dJ1_indexOfChar_4cfef_10 (by decide) (fun c1 => ?_) (fun c1 => ?_)
    · replace h := (if_pos c1).symm.trans h
      refine g_iconst (pc := 31) dJ1_indexOfChar_4cfef_31 ic_m1 ?_
      cases h
      exact g_iret (pc := 32) dJ1_indexOfChar_4cfef_32 rfl rfl rfl (Nat.le_refl _) (Nat.le_refl _)
    · replace h := (if_neg c1).symm.trans h
      refine g_aload_n (pc := 13) dJ1_indexOfChar_4cfef_13 rfl ?_
      refine g_iload (pc := 14) dJ1_indexOfChar_4cfef_14 rfl ?_
      obtain ⟨g2, h⟩ := x_gd h
      refine g_bload 2 (pc := 16) dJ1_indexOfChar_4cfef_16 (by decide) (xin_of g2) rfl ?_
      refine g_iload (pc := 17) dJ1_indexOfChar_4cfef_17 rfl ?_
      refine g_icmp_ne (tgt := 25) (pc := 19) dJ1_indexOfChar_4cfef_19 (by decide) (fun c3 => ?_) (fun c3 => ?_)
      · replace h := (if_neg c3).symm.trans h
        refine g_inc (pc := 25) dJ1_indexOfChar_4cfef_25 (Nat.le_of_ble_eq_true rfl) rfl ic_1 (L' := [some (.ref (1020 + 2)), none, none, some (.int v3), some (.int v4), some (.int (v5 + (1 : Int32)))]) rfl ?_
        refine g_goto (tgt := 7) (pc := 28) dJ1_indexOfChar_4cfef_28 (by decide) ?_
        exact ih v3 v4 (v5 + (1 : Int32)) h
      · replace h := (if_pos c3).symm.trans h
        refine g_iload (pc := 22) dJ1_indexOfChar_4cfef_22 rfl ?_
        cases h
        exact g_iret (pc := 24) dJ1_indexOfChar_4cfef_24 rfl rfl rfl (Nat.le_refl _) (Nat.le_refl _)
set_option maxRecDepth 100000 in
set_option maxHeartbeats 4000000 in
theorem G_J1_indexOfChar_4cfef_t2_0 {sc : Nat × (Nat → Int32)} {d : Nat} (hd : 0 ≤ d) {r : Int32} {u : xS} (v1 : Int32) (v2 : Int32) (v3 : Int32) (h : f_J1_indexOfChar_4cfef_t2 v1 v2 v3 = some r) : xG sc mJ1_indexOfChar_4cfef d 0 0 (xR (some (.int r)) (xL0, u) 0 0) 0 0 0 [some (.ref (1020 + 2)), some (.int v1), some (.int v2), some (.int v3), none, none] [] (xL0, u) := by
  rw [f_J1_indexOfChar_4cfef_t2] at h
  refine g_iload_n (pc := 0) dJ1_indexOfChar_4cfef_0 rfl ?_
  refine g_i2b (pc := 1) dJ1_indexOfChar_4cfef_1 rfl ?_
  refine g_istore (pc := 2) dJ1_indexOfChar_4cfef_2 (Nat.le_of_ble_eq_true rfl) (L' := [some (.ref (1020 + 2)), some (.int v1), some (.int v2), some (.int v3), some (.int (v1.toInt8.toInt32)), none]) rfl ?_
  refine g_iload_n (pc := 4) dJ1_indexOfChar_4cfef_4 rfl ?_
  refine g_istore (pc := 5) dJ1_indexOfChar_4cfef_5 (Nat.le_of_ble_eq_true rfl) (L' := [some (.ref (1020 + 2)), some (.int v1), some (.int v2), some (.int v3), some (.int (v1.toInt8.toInt32)), some (.int v2)]) rfl ?_
  refine g_L (L' := [some (.ref (1020 + 2)), none, none, some (.int v3), some (.int (v1.toInt8.toInt32)), some (.int v2)]) ⟨rfl, ⟨rfl, ⟨rfl, ⟨rfl, trivial⟩⟩⟩⟩ ?_
  exact G_J1_indexOfChar_4cfef_t2_7 hd xN v3 (v1.toInt8.toInt32) v2 h
set_option maxRecDepth 100000 in
set_option maxHeartbeats 4000000 in
theorem M_J1_indexOfChar_4cfef_t2 {sc : Nat × (Nat → Int32)} {d : Nat} (hd : 0 ≤ d) {r : Int32} {u : xS} {a1 : Int32} {a2 : Int32} {a3 : Int32} (h : f_J1_indexOfChar_4cfef_t2 a1 a2 a3 = some r) : xMt sc mJ1_indexOfChar_4cfef d 0 0 [.ref (1020 + 2), .int a1, .int a2, .int a3] (xL0, u) (some (.int r)) (xL0, u) :=
  xMt.of (by decide +kernel) (Nat.le_of_ble_eq_true rfl) (L := [some (.ref (1020 + 2)), some (.int a1), some (.int a2), some (.int a3), none, none]) rfl ((G_J1_indexOfChar_4cfef_t2_0 hd a1 a2 a3 h))
set_option maxRecDepth 100000 in
set_option maxHeartbeats 4000000 in
theorem G_J1_indexOf_4cfef_t2_0 {sc : Nat × (Nat → Int32)} {d : Nat} (hd : 1 ≤ d) {r : Int32} {u : xS} (v1 : Int32) (v2 : Int32) (v3 : Int32) (h : f_J1_indexOf_4cfef_t2 v1 v2 v3 = some r) : xG sc mJ1_indexOf_4cfef d 0 0 (xR (some (.int r)) (xL0, u) 0 0) 0 0 0 [some (.ref (1020 + 2)), some (.int v1), some (.int v2), some (.int v3)] [] (xL0, u) := by
  rw [f_J1_indexOf_4cfef_t2] at h
  refine g_iload_n (pc := 0) dJ1_indexOf_4cfef_0 rfl ?_
  refine g_cS (pc := 1) dJ1_indexOf_4cfef_1 cS_RJ1_88 (M_J1_canEncode_9a6ad (Nat.le_refl _) rfl) (as := [.int v1]) (st := []) rfl rfl (Nat.le_of_ble_eq_true rfl) (Nat.le_trans (Nat.le_of_ble_eq_true rfl) hd) rfl ?_
  refine g_if_ne (tgt := 9) (pc := 4) dJ1_indexOf_4cfef_4 (by decide) (fun c1 => ?_) (fun c1 => ?_)
  · replace h := (if_neg c1).symm.trans h
    refine g_iload_n (pc := 9) dJ1_indexOf_4cfef_9 rfl ?_
    refine g_iconst (pc := 10) dJ1_indexOf_4cfef_10 ic_0 ?_
    refine g_max (pc := 11) dJ1_indexOf_4cfef_11 mK_RJ1_92 (Nat.le_of_ble_eq_true rfl) (Nat.le_trans (Nat.le_of_ble_eq_true rfl) hd) (Nat.le_refl _) (Nat.le_refl _) ?_
    refine g_istore_n (pc := 14) dJ1_indexOf_4cfef_14 (Nat.le_of_ble_eq_true rfl) (L' := [some (.ref (1020 + 2)), some (.int v1), some (.int (imax v2 (0 : Int32))), some (.int v3)]) rfl ?_
    refine g_iload_n (pc := 15) dJ1_indexOf_4cfef_15 rfl ?_
    refine g_aload_n (pc := 16) dJ1_indexOf_4cfef_16 rfl ?_
    refine g_blen 2 (pc := 17) dJ1_indexOf_4cfef_17 (by decide) (v := (2 : Int32)) rfl ?_
    refine g_min (pc := 18) dJ1_indexOf_4cfef_18 mK_RJ1_38 (Nat.le_of_ble_eq_true rfl) (Nat.le_trans (Nat.le_of_ble_eq_true rfl) hd) (Nat.le_refl _) (Nat.le_refl _) ?_
    refine g_istore_n (pc := 21) dJ1_indexOf_4cfef_21 (Nat.le_of_ble_eq_true rfl) (L' := [some (.ref (1020 + 2)), some (.int v1), some (.int (imax v2 (0 : Int32))), some (.int (imin v3 (2 : Int32)))]) rfl ?_
    refine g_iload_n (pc := 22) dJ1_indexOf_4cfef_22 rfl ?_
    refine g_iload_n (pc := 23) dJ1_indexOf_4cfef_23 rfl ?_
    refine g_icmp_lt (tgt := 29) (pc := 24) dJ1_indexOf_4cfef_24 (by decide) (fun c2 => ?_) (fun c2 => ?_)
    · replace h := (if_pos c2).symm.trans h
      refine g_aload_n (pc := 29) dJ1_indexOf_4cfef_29 rfl ?_
      refine g_iload_n (pc := 30) dJ1_indexOf_4cfef_30 rfl ?_
      refine g_iload_n (pc := 31) dJ1_indexOf_4cfef_31 rfl ?_
      refine g_iload_n (pc := 32) dJ1_indexOf_4cfef_32 rfl ?_
      obtain ⟨x4, e3, h⟩ := x_bind h
      refine g_cS (pc := 33) dJ1_indexOf_4cfef_33 cS_RJ1_95 (M_J1_indexOfChar_4cfef_t2 (Nat.le_refl _) e3) (as := [.ref (1020 + 2), .int v1, .int (imax v2 (0 : Int32)), .int (imin v3 (2 : Int32))]) (st := []) rfl rfl (Nat.le_of_ble_eq_true rfl) (Nat.le_trans (Nat.le_of_ble_eq_true rfl) hd) rfl ?_
      cases h
      exact g_iret (pc := 36) dJ1_indexOf_4cfef_36 rfl rfl rfl (Nat.le_refl _) (Nat.le_refl _)
    · replace h := (if_neg c2).symm.trans h
      refine g_iconst (pc := 27) dJ1_indexOf_4cfef_27 ic_m1 ?_
      cases h
      exact g_iret (pc := 28) dJ1_indexOf_4cfef_28 rfl rfl rfl (Nat.le_refl _) (Nat.le_refl _)
  · replace h := (if_pos c1).symm.trans h
    refine g_iconst (pc := 7) dJ1_indexOf_4cfef_7 ic_m1 ?_
    cases h
    exact g_iret (pc := 8) dJ1_indexOf_4cfef_8 rfl rfl rfl (Nat.le_refl _) (Nat.le_refl _)
set_option maxRecDepth 100000 in
set_option maxHeartbeats 4000000 in
theorem M_J1_indexOf_4cfef_t2 {sc : Nat × (Nat → Int32)} {d : Nat} (hd : 1 ≤ d) {r : Int32} {u : xS} {a1 : Int32} {a2 : Int32} {a3 : Int32} (h : f_J1_indexOf_4cfef_t2 a1 a2 a3 = some r) : xMt sc mJ1_indexOf_4cfef d 0 0 [.ref (1020 + 2), .int a1, .int a2, .int a3] (xL0, u) (some (.int r)) (xL0, u) :=
  xMt.of (by decide +kernel) (Nat.le_of_ble_eq_true rfl) (L := [some (.ref (1020 + 2)), some (.int a1), some (.int a2), some (.int a3)]) rfl ((G_J1_indexOf_4cfef_t2_0 hd a1 a2 a3 h))
set_option maxRecDepth 100000 in
set_option maxHeartbeats 4000000 in
theorem G_J0_indexOf_7cf53_t2_0 {sc : Nat × (Nat → Int32)} {d : Nat} (hd : 2 ≤ d) {r : Int32} {u : xS} (v1 : Int32) (v2 : Int32) (h : f_J0_indexOf_7cf53_t2 v1 v2 = some r) : xG sc mJ0_indexOf_7cf53 d 0 0 (xR (some (.int r)) (xL0, u) 0 0) 0 0 0 [some (.ref (1010 + 2)), some (.int v1), some (.int v2)] [] (xL0, u) := by
  rw [f_J0_indexOf_7cf53_t2] at h
  refine g_aload_n (pc := 0) dJ0_indexOf_7cf53_0 rfl ?_
  refine g_cT 2 (pc := 1) dJ0_indexOf_7cf53_1 cT_RJ0_492 (M_J0_isLatin1_aae02_t2 (Nat.le_refl _) (rfl : f_J0_isLatin1_aae02_t2 = (1 : Int32))) (as := []) (st := []) rfl rfl (Nat.le_of_ble_eq_true rfl) (Nat.le_trans (Nat.le_of_ble_eq_true rfl) hd) rfl ?_
  refine g_if_eq (tgt := 23) (pc := 4) dJ0_indexOf_7cf53_4 (by decide) (fun c1 => absurd c1 (by decide)) (fun _ => ?_)
  refine g_aload_n (pc := 7) dJ0_indexOf_7cf53_7 rfl ?_
  refine g_strV 2 (pc := 8) dJ0_indexOf_7cf53_8 fs_RJ0_9 (by decide) ?_
  refine g_iload_n (pc := 11) dJ0_indexOf_7cf53_11 rfl ?_
  refine g_iload_n (pc := 12) dJ0_indexOf_7cf53_12 rfl ?_
  refine g_aload_n (pc := 13) dJ0_indexOf_7cf53_13 rfl ?_
  refine g_cT 2 (pc := 14) dJ0_indexOf_7cf53_14 cT_RJ0_505 (M_J0_length_8abf5_t2 (Nat.le_refl _) rfl) (as := []) (st := [.int v2, .int v1, .ref (1020 + 2)]) rfl rfl (Nat.le_of_ble_eq_true rfl) (Nat.le_trans (Nat.le_of_ble_eq_true rfl) hd) rfl ?_
  obtain ⟨x3, e2, h⟩ := x_bind h
  refine g_cS (pc := 17) dJ0_indexOf_7cf53_17 cS_RJ0_637 (M_J1_indexOf_4cfef_t2 (Nat.le_refl _) e2) (as := [.ref (1020 + 2), .int v1, .int v2, .int (f_J0_length_8abf5_t2)]) (st := []) rfl rfl (Nat.le_of_ble_eq_true rfl) (Nat.le_trans (Nat.le_of_ble_eq_true rfl) hd) rfl ?_
  refine g_goto (tgt := 36) (pc := 20) dJ0_indexOf_7cf53_20 (by decide) ?_
  cases h
  exact g_iret (pc := 36) dJ0_indexOf_7cf53_36 rfl rfl rfl (Nat.le_refl _) (Nat.le_refl _)
set_option maxRecDepth 100000 in
set_option maxHeartbeats 4000000 in
theorem M_J0_indexOf_7cf53_t2 {sc : Nat × (Nat → Int32)} {d : Nat} (hd : 2 ≤ d) {r : Int32} {u : xS} {a1 : Int32} {a2 : Int32} (h : f_J0_indexOf_7cf53_t2 a1 a2 = some r) : xMt sc mJ0_indexOf_7cf53 d 0 0 [.ref (1010 + 2), .int a1, .int a2] (xL0, u) (some (.int r)) (xL0, u) :=
  xMt.of (by decide +kernel) (Nat.le_of_ble_eq_true rfl) (L := [some (.ref (1010 + 2)), some (.int a1), some (.int a2)]) rfl ((G_J0_indexOf_7cf53_t2_0 hd a1 a2 h))
set_option maxRecDepth 100000 in
set_option maxHeartbeats 4000000 in
theorem G_J0_indexOf_0f7a4_t2_0 {sc : Nat × (Nat → Int32)} {d : Nat} (hd : 3 ≤ d) {r : Int32} {u : xS} (v1 : Int32) (h : f_J0_indexOf_0f7a4_t2 v1 = some r) : xG sc mJ0_indexOf_0f7a4 d 0 0 (xR (some (.int r)) (xL0, u) 0 0) 0 0 0 [some (.ref (1010 + 2)), some (.int v1)] [] (xL0, u) := by
  rw [f_J0_indexOf_0f7a4_t2] at h
  refine g_aload_n (pc := 0) dJ0_indexOf_0f7a4_0 rfl ?_
  refine g_iload_n (pc := 1) dJ0_indexOf_0f7a4_1 rfl ?_
  refine g_iconst (pc := 2) dJ0_indexOf_0f7a4_2 ic_0 ?_
  obtain ⟨x2, e1, h⟩ := x_bind h
  refine g_cT 2 (pc := 3) dJ0_indexOf_0f7a4_3 cT_RJ0_633 (M_J0_indexOf_7cf53_t2 (Nat.le_refl _) e1) (as := [.int v1, .int (0 : Int32)]) (st := []) rfl rfl (Nat.le_of_ble_eq_true rfl) (Nat.le_trans (Nat.le_of_ble_eq_true rfl) hd) rfl ?_
  cases h
  exact g_iret (pc := 6) dJ0_indexOf_0f7a4_6 rfl rfl rfl (Nat.le_refl _) (Nat.le_refl _)
set_option maxRecDepth 100000 in
set_option maxHeartbeats 4000000 in
theorem M_J0_indexOf_0f7a4_t2 {sc : Nat × (Nat → Int32)} {d : Nat} (hd : 3 ≤ d) {r : Int32} {u : xS} {a1 : Int32} (h : f_J0_indexOf_0f7a4_t2 a1 = some r) : xMt sc mJ0_indexOf_0f7a4 d 0 0 [.ref (1010 + 2), .int a1] (xL0, u) (some (.int r)) (xL0, u) :=
  xMt.of (by decide +kernel) (Nat.le_of_ble_eq_true rfl) (L := [some (.ref (1010 + 2)), some (.int a1)]) rfl ((G_J0_indexOf_0f7a4_t2_0 hd a1 h))
set_option maxRecDepth 100000 in
set_option maxHeartbeats 4000000 in
theorem G_X12_isOf_t2_0 {sc : Nat × (Nat → Int32)} {d : Nat} (hd : 4 ≤ d) {r : Int32} {u : xS} (v1 : Int32) (h : f_X12_isOf_t2 u v1 = some r) : xG sc mX12_isOf d 0 0 (xR (some (.int r)) (xL0, u) 0 0) 0 0 0 [some (.ref 135), some (.int v1), some (.ref (1010 + 2))] [] (xL0, u) := by
  rw [f_X12_isOf_t2] at h
  refine g_aload_n (pc := 0) dX12_isOf_0 rfl ?_
  refine g_gI (pc := 1) dX12_isOf_1 fI_RX12_259 xc_135 (v := (rd u 135 33)) rfl ?_
  refine g_iload_n (pc := 4) dX12_isOf_4 rfl ?_
  refine g_icmp_ge (tgt := 40) (pc := 5) dX12_isOf_5 (by decide) (fun c1 => ?_) (fun c1 => ?_)
  · replace h := (if_pos c1).symm.trans h
    refine g_iconst (pc := 40) dX12_isOf_40 ic_0 ?_
    cases h
    exact g_zret (pc := 41) dX12_isOf_41 rfl (Or.inl rfl) rfl rfl (Nat.le_refl _) (Nat.le_refl _)
  · replace h := (if_neg c1).symm.trans h
    refine g_aload_n (pc := 8) dX12_isOf_8 rfl ?_
    refine g_gR (pc := 9) dX12_isOf_9 fR_RX12_84 xc_135 (v := 159) rfl ?_
    refine g_aload_n (pc := 12) dX12_isOf_12 rfl ?_
    refine g_gI (pc := 13) dX12_isOf_13 fI_RX12_259 xc_135 (v := (rd u 135 33)) rfl ?_
    obtain ⟨g2, h⟩ := x_gd h
    refine g_iaload (pc := 16) dX12_isOf_16 xc_159 (xin_of g2) (v := (rd u 159 (rd u 135 33).toNatClampNeg)) rfl ?_
    refine g_if_le (tgt := 40) (pc := 17) dX12_isOf_17 (by decide) (fun c3 => ?_) (fun c3 => ?_)
    · replace h := (if_pos c3).symm.trans h
      refine g_iconst (pc := 40) dX12_isOf_40 ic_0 ?_
      cases h
      exact g_zret (pc := 41) dX12_isOf_41 rfl (Or.inl rfl) rfl rfl (Nat.le_refl _) (Nat.le_refl _)
    · replace h := (if_neg c3).symm.trans h
      refine g_aload_n (pc := 20) dX12_isOf_20 rfl ?_
      refine g_aload_n (pc := 21) dX12_isOf_21 rfl ?_
      refine g_gR (pc := 22) dX12_isOf_22 fR_RX12_84 xc_135 (v := 159) rfl ?_
      refine g_aload_n (pc := 25) dX12_isOf_25 rfl ?_
      refine g_gI (pc := 26) dX12_isOf_26 fI_RX12_259 xc_135 (v := (rd u 135 33)) rfl ?_
      refine g_iaload (pc := 29) dX12_isOf_29 xc_159 (xin_of g2) (v := (rd u 159 (rd u 135 33).toNatClampNeg)) rfl ?_
      obtain ⟨x5, e4, h⟩ := x_bind h
      refine g_cT 2 (pc := 30) dX12_isOf_30 cT_RX12_262 (M_J0_indexOf_0f7a4_t2 (Nat.le_refl _) e4) (as := [.int (rd u 159 (rd u 135 33).toNatClampNeg)]) (st := []) rfl rfl (Nat.le_of_ble_eq_true rfl) (Nat.le_trans (Nat.le_of_ble_eq_true rfl) hd) rfl ?_
      refine g_if_lt (tgt := 40) (pc := 33) dX12_isOf_33 (by decide) (fun c6 => ?_) (fun c6 => ?_)
      · replace h := (if_pos c6).symm.trans h
        refine g_iconst (pc := 40) dX12_isOf_40 ic_0 ?_
        cases h
        exact g_zret (pc := 41) dX12_isOf_41 rfl (Or.inl rfl) rfl rfl (Nat.le_refl _) (Nat.le_refl _)
      · replace h := (if_neg c6).symm.trans h
        refine g_iconst (pc := 36) dX12_isOf_36 ic_1 ?_
        refine g_goto (tgt := 41) (pc := 37) dX12_isOf_37 (by decide) ?_
        cases h
        exact g_zret (pc := 41) dX12_isOf_41 rfl (Or.inr rfl) rfl rfl (Nat.le_refl _) (Nat.le_refl _)
set_option maxRecDepth 100000 in
set_option maxHeartbeats 4000000 in
theorem M_X12_isOf_t2 {sc : Nat × (Nat → Int32)} {d : Nat} (hd : 4 ≤ d) {r : Int32} {u : xS} {a1 : Int32} (h : f_X12_isOf_t2 u a1 = some r) : xMt sc mX12_isOf d 0 0 [.ref 135, .int a1, .ref (1010 + 2)] (xL0, u) (some (.int r)) (xL0, u) :=
  xMt.of (by decide +kernel) (Nat.le_of_ble_eq_true rfl) (L := [some (.ref 135), some (.int a1), some (.ref (1010 + 2))]) rfl ((G_X12_isOf_t2_0 hd a1 h))
set_option maxRecDepth 100000 in
set_option maxHeartbeats 4000000 in
theorem G_X12_unary_61 {sc : Nat × (Nat → Int32)} {d : Nat} (hd : 5 ≤ d) {r : Int32} {u' : xS} {dk : Nat} (hkd : dk + 1 ≤ d) {k_X12_unary : Int32 → xS → Option (Int32 × xS)} (hk_X12_unary : ∀ (a1 : Int32) (u u' : xS) (r : Int32), k_X12_unary a1 u = some (r, u') → xMt sc mX12_unary dk 0 0 [.ref 135, .int a1] (xL0, u) (some (.int r)) (xL0, u')) {k_X12_thing : Int32 → xS → Option (Int32 × xS)} (hk_X12_thing : ∀ (a1 : Int32) (u u' : xS) (r : Int32), k_X12_thing a1 u = some (r, u') → xMt sc mX12_thing dk 0 0 [.ref 135, .int a1] (xL0, u) (some (.int r)) (xL0, u')) (v3 : Int32) (s1 : Int32) (u : xS) (h : f_X12_unary_61 k_X12_unary k_X12_thing v3 s1 u = some (r, u')) : xG sc mX12_unary d 0 0 (xR (some (.int r)) (xL0, u') 0 0) 0 0 61 [none, none, none, some (.int v3)] [.int s1, .ref 135] (xL0, u) := by
  rw [f_X12_unary_61] at h
  refine g_cS (pc := 61) dX12_unary_61 cS_RX12_297 (M_X12_act (Nat.le_refl _) rfl) (as := [.int s1]) (st := [.ref 135]) rfl rfl (Nat.le_of_ble_eq_true rfl) (Nat.le_trans (Nat.le_of_ble_eq_true rfl) hd) rfl ?_
  obtain ⟨u2, e1, h⟩ := x_bind h
  refine g_cV (pc := 64) dX12_unary_64 cV_RX12_276 (M_X12_marks (Nat.le_refl _) e1) xc_135 (as := [.int (f_X12_act s1)]) (st := []) rfl rfl (Nat.le_of_ble_eq_true rfl) (Nat.le_trans (Nat.le_of_ble_eq_true rfl) hd) rfl ?_
  refine g_iload_n (pc := 67) dX12_unary_67 rfl ?_
  obtain ⟨g3, h⟩ := x_gd h
  cases h
  exact g_zret (pc := 68) dX12_unary_68 rfl (xb_of g3) rfl rfl (Nat.le_refl _) (Nat.le_refl _)
set_option maxRecDepth 100000 in
set_option maxHeartbeats 4000000 in
theorem G_X12_unary_0 {sc : Nat × (Nat → Int32)} {d : Nat} (hd : 5 ≤ d) {r : Int32} {u' : xS} {dk : Nat} (hkd : dk + 1 ≤ d) {k_X12_unary : Int32 → xS → Option (Int32 × xS)} (hk_X12_unary : ∀ (a1 : Int32) (u u' : xS) (r : Int32), k_X12_unary a1 u = some (r, u') → xMt sc mX12_unary dk 0 0 [.ref 135, .int a1] (xL0, u) (some (.int r)) (xL0, u')) {k_X12_thing : Int32 → xS → Option (Int32 × xS)} (hk_X12_thing : ∀ (a1 : Int32) (u u' : xS) (r : Int32), k_X12_thing a1 u = some (r, u') → xMt sc mX12_thing dk 0 0 [.ref 135, .int a1] (xL0, u) (some (.int r)) (xL0, u')) (v1 : Int32) (u : xS) (h : f_X12_unary k_X12_unary k_X12_thing v1 u = some (r, u')) : xG sc mX12_unary d 0 0 (xR (some (.int r)) (xL0, u') 0 0) 0 0 0 [some (.ref 135), some (.int v1), none, none] [] (xL0, u) := by
  rw [f_X12_unary] at h
  refine g_aload_n (pc := 0) dX12_unary_0 rfl ?_
  refine g_iload_n (pc := 1) dX12_unary_1 rfl ?_
  refine g_ldcS 2 (pc := 2) dX12_unary_2 rfl rfl ?_
  obtain ⟨x2, e1, h⟩ := x_bind h
  refine g_cV (pc := 5) dX12_unary_5 cV_RX12_272 (M_X12_isOf_t2 (Nat.le_refl _) e1) xc_135 (as := [.int v1, .ref (1010 + 2)]) (st := []) rfl rfl (Nat.le_of_ble_eq_true rfl) (Nat.le_trans (Nat.le_of_ble_eq_true rfl) hd) rfl ?_
  refine g_if_ne (tgt := 17) (pc := 8) dX12_unary_8 (by decide) (fun c3 => ?_) (fun c3 => ?_)
  · replace h := (if_neg c3).symm.trans h
    refine g_aload_n (pc := 17) dX12_unary_17 rfl ?_
    refine g_gR (pc := 18) dX12_unary_18 fR_RX12_84 xc_135 (v := 159) rfl ?_
    refine g_aload_n (pc := 21) dX12_unary_21 rfl ?_
    refine g_gI (pc := 22) dX12_unary_22 fI_RX12_259 xc_135 (v := (rd u 135 33)) rfl ?_
    obtain ⟨g4, h⟩ := x_gd h
    refine g_iaload (pc := 25) dX12_unary_25 xc_159 (xin_of g4) (v := (rd u 159 (rd u 135 33).toNatClampNeg)) rfl ?_
    refine g_istore_n (pc := 26) dX12_unary_26 (Nat.le_of_ble_eq_true rfl) (L' := [some (.ref 135), some (.int v1), some (.int (rd u 159 (rd u 135 33).toNatClampNeg)), none]) rfl ?_
    refine g_aload_n (pc := 27) dX12_unary_27 rfl ?_
    refine g_dup (pc := 28) dX12_unary_28 rfl ?_
    refine g_gI (pc := 29) dX12_unary_29 fI_RX12_259 xc_135 (v := (rd u 135 33)) rfl ?_
    refine g_iconst (pc := 32) dX12_unary_32 ic_1 ?_
    refine g_iadd (pc := 33) dX12_unary_33 rfl ?_
    refine g_pI (pc := 34) dX12_unary_34 pI_RX12_259 xc_135 (u' := (wr u 135 33 ((rd u 135 33) + (1 : Int32)))) rfl ?_
    refine g_aload_n (pc := 37) dX12_unary_37 rfl ?_
    refine g_iload_n (pc := 38) dX12_unary_38 rfl ?_
    obtain ⟨⟨x6, u7⟩, e5, h⟩ := x_bind h
    dsimp only at h
    refine g_cV (pc := 39) dX12_unary_39 cV_RX12_294 (hk_X12_unary _ _ _ _ e5) xc_135 (as := [.int v1]) (st := []) rfl rfl (Nat.le_of_ble_eq_true rfl) hkd rfl ?_
    refine g_istore_n (pc := 42) dX12_unary_42 (Nat.le_of_ble_eq_true rfl) (L' := [some (.ref 135), some (.int v1), some (.int (rd u 159 (rd u 135 33).toNatClampNeg)), some (.int x6)]) rfl ?_
    refine g_iload_n (pc := 43) dX12_unary_43 rfl ?_
    refine g_if_eq (tgt := 67) (pc := 44) dX12_unary_44 (by decide) (fun c8 => ?_) (fun c8 => ?_)
    · replace h := (if_pos c8).symm.trans h
      refine g_iload_n (pc := 67) dX12_unary_67 rfl ?_
      obtain ⟨g9, h⟩ := x_gd h
      cases h
      exact g_zret (pc := 68) dX12_unary_68 rfl (xb_of g9) rfl rfl (Nat.le_refl _) (Nat.le_refl _)
    · replace h := (if_neg c8).symm.trans h
      refine g_aload_n (pc := 47) dX12_unary_47 rfl ?_
      refine g_iload_n (pc := 48) dX12_unary_48 rfl ?_
      refine g_bipush (pc := 49) dX12_unary_49 bp_33 ?_
      refine g_icmp_ne (tgt := 59) (pc := 51) dX12_unary_51 (by decide) (fun c10 => ?_) (fun c10 => ?_)
      · replace h := (if_neg c10).symm.trans h
        refine g_bipush (pc := 59) dX12_unary_59 bp_126 ?_
        refine g_L (L' := [none, none, none, some (.int x6)]) ⟨rfl, trivial⟩ ?_
        exact G_X12_unary_61 hd hkd hk_X12_unary x6 (126 : Int32) u7 h
      · replace h := (if_pos c10).symm.trans h
        refine g_bipush (pc := 54) dX12_unary_54 bp_33 ?_
        refine g_goto (tgt := 61) (pc := 56) dX12_unary_56 (by decide) ?_
        refine g_L (L' := [none, none, none, some (.int x6)]) ⟨rfl, trivial⟩ ?_
        exact G_X12_unary_61 hd hkd hk_X12_unary x6 (33 : Int32) u7 h
  · replace h := (if_pos c3).symm.trans h
    refine g_aload_n (pc := 11) dX12_unary_11 rfl ?_
    refine g_iload_n (pc := 12) dX12_unary_12 rfl ?_
    obtain ⟨⟨x13, u14⟩, e12, h⟩ := x_bind h
    dsimp only at h
    refine g_cV (pc := 13) dX12_unary_13 cV_RX12_291 (hk_X12_thing _ _ _ _ e12) xc_135 (as := [.int v1]) (st := []) rfl rfl (Nat.le_of_ble_eq_true rfl) hkd rfl ?_
    obtain ⟨g15, h⟩ := x_gd h
    cases h
    exact g_zret (pc := 16) dX12_unary_16 rfl (xb_of g15) rfl rfl (Nat.le_refl _) (Nat.le_refl _)
set_option maxRecDepth 100000 in
set_option maxHeartbeats 4000000 in
theorem M_X12_unary {sc : Nat × (Nat → Int32)} {d : Nat} (hd : 5 ≤ d) {r : Int32} {u u' : xS} {dk : Nat} (hkd : dk + 1 ≤ d) {k_X12_unary : Int32 → xS → Option (Int32 × xS)} (hk_X12_unary : ∀ (a1 : Int32) (u u' : xS) (r : Int32), k_X12_unary a1 u = some (r, u') → xMt sc mX12_unary dk 0 0 [.ref 135, .int a1] (xL0, u) (some (.int r)) (xL0, u')) {k_X12_thing : Int32 → xS → Option (Int32 × xS)} (hk_X12_thing : ∀ (a1 : Int32) (u u' : xS) (r : Int32), k_X12_thing a1 u = some (r, u') → xMt sc mX12_thing dk 0 0 [.ref 135, .int a1] (xL0, u) (some (.int r)) (xL0, u')) {a1 : Int32} (h : f_X12_unary k_X12_unary k_X12_thing a1 u = some (r, u')) : xMt sc mX12_unary d 0 0 [.ref 135, .int a1] (xL0, u) (some (.int r)) (xL0, u') :=
  xMt.of (by decide +kernel) (Nat.le_of_ble_eq_true rfl) (L := [some (.ref 135), some (.int a1), none, none]) rfl ((G_X12_unary_0 hd hkd hk_X12_unary hk_X12_thing a1 u h))
theorem zb_J0_isLatin1_aae02_t3 : f_J0_isLatin1_aae02_t3 = 0 ∨ f_J0_isLatin1_aae02_t3 = 1 := by
  unfold f_J0_isLatin1_aae02_t3
  (repeat' split) <;> first | exact Or.inl rfl | exact Or.inr rfl
set_option maxRecDepth 100000 in
set_option maxHeartbeats 4000000 in
theorem G_J0_isLatin1_aae02_t3_0 {sc : Nat × (Nat → Int32)} {d : Nat} (hd : 0 ≤ d) {r : Int32} {u : xS} (h : f_J0_isLatin1_aae02_t3 = r) : xG sc mJ0_isLatin1_aae02 d 0 0 (xR (some (.int r)) (xL0, u) 0 0) 0 0 0 [some (.ref (1010 + 3))] [] (xL0, u) := by
  rw [f_J0_isLatin1_aae02_t3] at h
  refine g_getsC (pc := 0) dJ0_isLatin1_aae02_0 fs_RJ0_38 ?_
  refine g_if_eq (tgt := 17) (pc := 3) dJ0_isLatin1_aae02_3 (by decide) (fun c1 => absurd c1 (by decide)) (fun _ => ?_)
  refine g_aload_n (pc := 6) dJ0_isLatin1_aae02_6 rfl ?_
  refine g_strC 3 (pc := 7) dJ0_isLatin1_aae02_7 fs_RJ0_15 (by decide) ?_
  refine g_if_ne (tgt := 17) (pc := 10) dJ0_isLatin1_aae02_10 (by decide) (fun c2 => absurd c2 (by decide)) (fun _ => ?_)
  refine g_iconst (pc := 13) dJ0_isLatin1_aae02_13 ic_1 ?_
  refine g_goto (tgt := 18) (pc := 14) dJ0_isLatin1_aae02_14 (by decide) ?_
  subst h
  exact g_zret (pc := 18) dJ0_isLatin1_aae02_18 rfl (Or.inr rfl) rfl rfl (Nat.le_refl _) (Nat.le_refl _)
set_option maxRecDepth 100000 in
set_option maxHeartbeats 4000000 in
theorem M_J0_isLatin1_aae02_t3 {sc : Nat × (Nat → Int32)} {d : Nat} (hd : 0 ≤ d) {r : Int32} {u : xS} (h : f_J0_isLatin1_aae02_t3 = r) : xMt sc mJ0_isLatin1_aae02 d 0 0 [.ref (1010 + 3)] (xL0, u) (some (.int r)) (xL0, u) :=
  xMt.of (by decide +kernel) (Nat.le_of_ble_eq_true rfl) (L := [some (.ref (1010 + 3))]) rfl ((G_J0_isLatin1_aae02_t3_0 hd h))
set_option maxRecDepth 100000 in
set_option maxHeartbeats 4000000 in
theorem G_J0_coder_7d493_t3_0 {sc : Nat × (Nat → Int32)} {d : Nat} (hd : 0 ≤ d) {r : Int32} {u : xS} (h : f_J0_coder_7d493_t3 = r) : xG sc mJ0_coder_7d493 d 0 0 (xR (some (.int r)) (xL0, u) 0 0) 0 0 0 [some (.ref (1010 + 3))] [] (xL0, u) := by
  rw [f_J0_coder_7d493_t3] at h
  refine g_getsC (pc := 0) dJ0_coder_7d493_0 fs_RJ0_38 ?_
  refine g_if_eq (tgt := 13) (pc := 3) dJ0_coder_7d493_3 (by decide) (fun c1 => absurd c1 (by decide)) (fun _ => ?_)
  refine g_aload_n (pc := 6) dJ0_coder_7d493_6 rfl ?_
  refine g_strC 3 (pc := 7) dJ0_coder_7d493_7 fs_RJ0_15 (by decide) ?_
  refine g_goto (tgt := 14) (pc := 10) dJ0_coder_7d493_10 (by decide) ?_
  subst h
  exact g_bret (pc := 14) dJ0_coder_7d493_14 rfl rfl rfl rfl (Nat.le_refl _) (Nat.le_refl _)
set_option maxRecDepth 100000 in
set_option maxHeartbeats 4000000 in
theorem M_J0_coder_7d493_t3 {sc : Nat × (Nat → Int32)} {d : Nat} (hd : 0 ≤ d) {r : Int32} {u : xS} (h : f_J0_coder_7d493_t3 = r) : xMt sc mJ0_coder_7d493 d 0 0 [.ref (1010 + 3)] (xL0, u) (some (.int r)) (xL0, u) :=
  xMt.of (by decide +kernel) (Nat.le_of_ble_eq_true rfl) (L := [some (.ref (1010 + 3))]) rfl ((G_J0_coder_7d493_t3_0 hd h))
set_option maxRecDepth 100000 in
set_option maxHeartbeats 4000000 in
theorem G_J0_length_8abf5_t3_0 {sc : Nat × (Nat → Int32)} {d : Nat} (hd : 1 ≤ d) {r : Int32} {u : xS} (h : f_J0_length_8abf5_t3 = r) : xG sc mJ0_length_8abf5 d 0 0 (xR (some (.int r)) (xL0, u) 0 0) 0 0 0 [some (.ref (1010 + 3))] [] (xL0, u) := by
  rw [f_J0_length_8abf5_t3] at h
  refine g_aload_n (pc := 0) dJ0_length_8abf5_0 rfl ?_
  refine g_strV 3 (pc := 1) dJ0_length_8abf5_1 fs_RJ0_9 (by decide) ?_
  refine g_blen 3 (pc := 4) dJ0_length_8abf5_4 (by decide) (v := (3 : Int32)) rfl ?_
  refine g_aload_n (pc := 5) dJ0_length_8abf5_5 rfl ?_
  refine g_cT 3 (pc := 6) dJ0_length_8abf5_6 cT_RJ0_335 (M_J0_coder_7d493_t3 (Nat.le_refl _) (rfl : f_J0_coder_7d493_t3 = (0 : Int32))) (as := []) (st := [.int (3 : Int32)]) rfl rfl (Nat.le_of_ble_eq_true rfl) (Nat.le_trans (Nat.le_of_ble_eq_true rfl) hd) rfl ?_
  refine g_ishr (pc := 9) dJ0_length_8abf5_9 rfl ?_
  subst h
  exact g_iret (pc := 10) dJ0_length_8abf5_10 rfl rfl rfl (Nat.le_refl _) (Nat.le_refl _)
set_option maxRecDepth 100000 in
set_option maxHeartbeats 4000000 in
theorem M_J0_length_8abf5_t3 {sc : Nat × (Nat → Int32)} {d : Nat} (hd : 1 ≤ d) {r : Int32} {u : xS} (h : f_J0_length_8abf5_t3 = r) : xMt sc mJ0_length_8abf5 d 0 0 [.ref (1010 + 3)] (xL0, u) (some (.int r)) (xL0, u) :=
  xMt.of (by decide +kernel) (Nat.le_of_ble_eq_true rfl) (L := [some (.ref (1010 + 3))]) rfl ((G_J0_length_8abf5_t3_0 hd h))
set_option maxRecDepth 100000 in
set_option maxHeartbeats 4000000 in
theorem G_J1_indexOfChar_4cfef_t3_7 {sc : Nat × (Nat → Int32)} {d : Nat} (hd : 0 ≤ d) {r : Int32} {u : xS} : ∀ (n : Nat) (v3 : Int32) (v4 : Int32) (v5 : Int32), f_J1_indexOfChar_4cfef_t3_7 n v3 v4 v5 = some r → xG sc mJ1_indexOfChar_4cfef d 0 0 (xR (some (.int r)) (xL0, u) 0 0) 0 0 7 [some (.ref (1020 + 3)), none, none, some (.int v3), some (.int v4), some (.int v5)] [] (xL0, u) := by
  intro n
  induction n with
  | zero =>
    intro v3 v4 v5 h
    rw [f_J1_indexOfChar_4cfef_t3_7] at h
    cases h
  | succ n ih =>
    intro v3 v4 v5 h
    rw [f_J1_indexOfChar_4cfef_t3_7] at h
    refine g_iload (pc := 7) dJ1_indexOfChar_4cfef_7 rfl ?_
    refine g_iload_n (pc := 9) dJ1_indexOfChar_4cfef_9 rfl ?_
    refine g_icmp_ge (tgt := 31) (pc := 10) dJ1_indexOfChar_4cfef_10 (by decide) (fun c1 => ?_) (fun c1 => ?_)
    · replace h := (if_pos c1).symm.trans h
      refine g_iconst (pc := 31) dJ1_indexOfChar_4cfef_31 ic_m1 ?_
      cases h
      exact g_iret (pc := 32) dJ1_indexOfChar_4cfef_32 rfl rfl rfl (Nat.le_refl _) (Nat.le_refl _)
    · replace h := (if_neg c1).symm.trans h
      refine g_aload_n (pc := 13) dJ1_indexOfChar_4cfef_13 rfl ?_
      refine g_iload (pc := 14) dJ1_indexOfChar_4cfef_14 rfl ?_
      obtain ⟨g2, h⟩ := x_gd h
      refine g_bload 3 (pc := 16) dJ1_indexOfChar_4cfef_16 (by decide) (xin_of g2) rfl ?_
      refine g_iload (pc := 17) dJ1_indexOfChar_4cfef_17 rfl ?_
      refine g_icmp_ne (tgt := 25) (pc := 19) dJ1_indexOfChar_4cfef_19 (by decide) (fun c3 => ?_) (fun c3 => ?_)
      · replace h := (if_neg c3).symm.trans h
        refine g_inc (pc := 25) dJ1_indexOfChar_4cfef_25 (Nat.le_of_ble_eq_true rfl) rfl ic_1 (L' := [some (.ref (1020 + 3)), none, none, some (.int v3), some (.int v4), some (.int (v5 + (1 : Int32)))]) rfl ?_
        refine g_goto (tgt := 7) (pc := 28) dJ1_indexOfChar_4cfef_28 (by decide) ?_
        exact ih v3 v4 (v5 + (1 : Int32)) h
      · replace h := (if_pos c3).symm.trans h
        refine g_iload (pc := 22) dJ1_indexOfChar_4cfef_22 rfl ?_
        cases h
        exact g_iret (pc := 24) dJ1_indexOfChar_4cfef_24 rfl rfl rfl (Nat.le_refl _) (Nat.le_refl _)
set_option maxRecDepth 100000 in
set_option maxHeartbeats 4000000 in
theorem G_J1_indexOfChar_4cfef_t3_0 {sc : Nat × (Nat → Int32)} {d : Nat} (hd : 0 ≤ d) {r : Int32} {u : xS} (v1 : Int32) (v2 : Int32) (v3 : Int32) (h : f_J1_indexOfChar_4cfef_t3 v1 v2 v3 = some r) : xG sc mJ1_indexOfChar_4cfef d 0 0 (xR (some (.int r)) (xL0, u) 0 0) 0 0 0 [some (.ref (1020 + 3)), some (.int v1), some (.int v2), some (.int v3), none, none] [] (xL0, u) := by
  rw [f_J1_indexOfChar_4cfef_t3] at h
  refine g_iload_n (pc := 0) dJ1_indexOfChar_4cfef_0 rfl ?_
  refine g_i2b (pc := 1) dJ1_indexOfChar_4cfef_1 rfl ?_
  refine g_istore (pc := 2) dJ1_indexOfChar_4cfef_2 (Nat.le_of_ble_eq_true rfl) (L' := [some (.ref (1020 + 3)), some (.int v1), some (.int v2), some (.int v3), some (.int (v1.toInt8.toInt32)), none]) rfl ?_
  refine g_iload_n (pc := 4) dJ1_indexOfChar_4cfef_4 rfl ?_
  refine g_istore (pc := 5) dJ1_indexOfChar_4cfef_5 (Nat.le_of_ble_eq_true rfl) (L' := [some (.ref (1020 + 3)), some (.int v1), some (.int v2), some (.int v3), some (.int (v1.toInt8.toInt32)), some (.int v2)]) rfl ?_
  refine g_L (L' := [some (.ref (1020 + 3)), none, none, some (.int v3), some (.int (v1.toInt8.toInt32)), some (.int v2)]) ⟨rfl, ⟨rfl, ⟨rfl, ⟨rfl, trivial⟩⟩⟩⟩ ?_
  exact G_J1_indexOfChar_4cfef_t3_7 hd xN v3 (v1.toInt8.toInt32) v2 h
set_option maxRecDepth 100000 in
set_option maxHeartbeats 4000000 in
theorem M_J1_indexOfChar_4cfef_t3 {sc : Nat × (Nat → Int32)} {d : Nat} (hd : 0 ≤ d) {r : Int32} {u : xS} {a1 : Int32} {a2 : Int32} {a3 : Int32} (h : f_J1_indexOfChar_4cfef_t3 a1 a2 a3 = some r) : xMt sc mJ1_indexOfChar_4cfef d 0 0 [.ref (1020 + 3), .int a1, .int a2, .int a3] (xL0, u) (some (.int r)) (xL0, u) :=
  xMt.of (by decide +kernel) (Nat.le_of_ble_eq_true rfl) (L := [some (.ref (1020 + 3)), some (.int a1), some (.int a2), some (.int a3), none, none]) rfl ((G_J1_indexOfChar_4cfef_t3_0 hd a1 a2 a3 h))
set_option maxRecDepth 100000 in
set_option maxHeartbeats 4000000 in
theorem G_J1_indexOf_4cfef_t3_0 {sc : Nat × (Nat → Int32)} {d : Nat} (hd : 1 ≤ d) {r : Int32} {u : xS} (v1 : Int32) (v2 : Int32) (v3 : Int32) (h : f_J1_indexOf_4cfef_t3 v1 v2 v3 = some r) : xG sc mJ1_indexOf_4cfef d 0 0 (xR (some (.int r)) (xL0, u) 0 0) 0 0 0 [some (.ref (1020 + 3)), some (.int v1), some (.int v2), some (.int v3)] [] (xL0, u) := by
  rw [f_J1_indexOf_4cfef_t3] at h
  refine g_iload_n (pc := 0) dJ1_indexOf_4cfef_0 rfl ?_
  refine g_cS (pc := 1) dJ1_indexOf_4cfef_1 cS_RJ1_88 (M_J1_canEncode_9a6ad (Nat.le_refl _) rfl) (as := [.int v1]) (st := []) rfl rfl (Nat.le_of_ble_eq_true rfl) (Nat.le_trans (Nat.le_of_ble_eq_true rfl) hd) rfl ?_
  refine g_if_ne (tgt := 9) (pc := 4) dJ1_indexOf_4cfef_4 (by decide) (fun c1 => ?_) (fun c1 => ?_)
  · replace h := (if_neg c1).symm.trans h
    refine g_iload_n (pc := 9) dJ1_indexOf_4cfef_9 rfl ?_
    refine g_iconst (pc := 10) dJ1_indexOf_4cfef_10 ic_0 ?_
    refine g_max (pc := 11) dJ1_indexOf_4cfef_11 mK_RJ1_92 (Nat.le_of_ble_eq_true rfl) (Nat.le_trans (Nat.le_of_ble_eq_true rfl) hd) (Nat.le_refl _) (Nat.le_refl _) ?_
    refine g_istore_n (pc := 14) dJ1_indexOf_4cfef_14 (Nat.le_of_ble_eq_true rfl) (L' := [some (.ref (1020 + 3)), some (.int v1), some (.int (imax v2 (0 : Int32))), some (.int v3)]) rfl ?_
    refine g_iload_n (pc := 15) dJ1_indexOf_4cfef_15 rfl ?_
    refine g_aload_n (pc := 16) dJ1_indexOf_4cfef_16 rfl ?_
    refine g_blen 3 (pc := 17) dJ1_indexOf_4cfef_17 (by decide) (v := (3 : Int32)) rfl ?_
    refine g_min (pc := 18) dJ1_indexOf_4cfef_18 mK_RJ1_38 (Nat.le_of_ble_eq_true rfl) (Nat.le_trans (Nat.le_of_ble_eq_true rfl) hd) (Nat.le_refl _) (Nat.le_refl _) ?_
    refine g_istore_n (pc := 21) dJ1_indexOf_4cfef_21 (Nat.le_of_ble_eq_true rfl) (L' := [some (.ref (1020 + 3)), some (.int v1), some (.int (imax v2 (0 : Int32))), some (.int (imin v3 (3 : Int32)))]) rfl ?_
    refine g_iload_n (pc := 22) dJ1_indexOf_4cfef_22 rfl ?_
    refine g_iload_n (pc := 23) dJ1_indexOf_4cfef_23 rfl ?_
    refine g_icmp_lt (tgt := 29) (pc := 24) dJ1_indexOf_4cfef_24 (by decide) (fun c2 => ?_) (fun c2 => ?_)
    · replace h := (if_pos c2).symm.trans h
      refine g_aload_n (pc := 29) dJ1_indexOf_4cfef_29 rfl ?_
      refine g_iload_n (pc := 30) dJ1_indexOf_4cfef_30 rfl ?_
      refine g_iload_n (pc := 31) dJ1_indexOf_4cfef_31 rfl ?_
      refine g_iload_n (pc := 32) dJ1_indexOf_4cfef_32 rfl ?_
      obtain ⟨x4, e3, h⟩ := x_bind h
      refine g_cS (pc := 33) dJ1_indexOf_4cfef_33 cS_RJ1_95 (M_J1_indexOfChar_4cfef_t3 (Nat.le_refl _) e3) (as := [.ref (1020 + 3), .int v1, .int (imax v2 (0 : Int32)), .int (imin v3 (3 : Int32))]) (st := []) rfl rfl (Nat.le_of_ble_eq_true rfl) (Nat.le_trans (Nat.le_of_ble_eq_true rfl) hd) rfl ?_
      cases h
      exact g_iret (pc := 36) dJ1_indexOf_4cfef_36 rfl rfl rfl (Nat.le_refl _) (Nat.le_refl _)
    · replace h := (if_neg c2).symm.trans h
      refine g_iconst (pc := 27) dJ1_indexOf_4cfef_27 ic_m1 ?_
      cases h
      exact g_iret (pc := 28) dJ1_indexOf_4cfef_28 rfl rfl rfl (Nat.le_refl _) (Nat.le_refl _)
  · replace h := (if_pos c1).symm.trans h
    refine g_iconst (pc := 7) dJ1_indexOf_4cfef_7 ic_m1 ?_
    cases h
    exact g_iret (pc := 8) dJ1_indexOf_4cfef_8 rfl rfl rfl (Nat.le_refl _) (Nat.le_refl _)
set_option maxRecDepth 100000 in
set_option maxHeartbeats 4000000 in
theorem M_J1_indexOf_4cfef_t3 {sc : Nat × (Nat → Int32)} {d : Nat} (hd : 1 ≤ d) {r : Int32} {u : xS} {a1 : Int32} {a2 : Int32} {a3 : Int32} (h : f_J1_indexOf_4cfef_t3 a1 a2 a3 = some r) : xMt sc mJ1_indexOf_4cfef d 0 0 [.ref (1020 + 3), .int a1, .int a2, .int a3] (xL0, u) (some (.int r)) (xL0, u) :=
  xMt.of (by decide +kernel) (Nat.le_of_ble_eq_true rfl) (L := [some (.ref (1020 + 3)), some (.int a1), some (.int a2), some (.int a3)]) rfl ((G_J1_indexOf_4cfef_t3_0 hd a1 a2 a3 h))
set_option maxRecDepth 100000 in
set_option maxHeartbeats 4000000 in
theorem G_J0_indexOf_7cf53_t3_0 {sc : Nat × (Nat → Int32)} {d : Nat} (hd : 2 ≤ d) {r : Int32} {u : xS} (v1 : Int32) (v2 : Int32) (h : f_J0_indexOf_7cf53_t3 v1 v2 = some r) : xG sc mJ0_indexOf_7cf53 d 0 0 (xR (some (.int r)) (xL0, u) 0 0) 0 0 0 [some (.ref (1010 + 3)), some (.int v1), some (.int v2)] [] (xL0, u) := by
  rw [f_J0_indexOf_7cf53_t3] at h
  refine g_aload_n (pc := 0) dJ0_indexOf_7cf53_0 rfl ?_
  refine g_cT 3 (pc := 1) dJ0_indexOf_7cf53_1 cT_RJ0_492 (M_J0_isLatin1_aae02_t3 (Nat.le_refl _) (rfl : f_J0_isLatin1_aae02_t3 = (1 : Int32))) (as := []) (st := []) rfl rfl (Nat.le_of_ble_eq_true rfl) (Nat.le_trans (Nat.le_of_ble_eq_true rfl) hd) rfl ?_
  refine g_if_eq (tgt := 23) (pc := 4) dJ0_indexOf_7cf53_4 (by decide) (fun c1 => absurd c1 (by decide)) (fun _ => ?_)
  refine g_aload_n (pc := 7) dJ0_indexOf_7cf53_7 rfl ?_
  refine g_strV 3 (pc := 8) dJ0_indexOf_7cf53_8 fs_RJ0_9 (by decide) ?_
  refine g_iload_n (pc := 11) dJ0_indexOf_7cf53_11 rfl ?_
  refine g_iload_n (pc := 12) dJ0_indexOf_7cf53_12 rfl ?_
  refine g_aload_n (pc := 13) dJ0_indexOf_7cf53_13 rfl ?_
  refine g_cT 3 (pc := 14) dJ0_indexOf_7cf53_14 cT_RJ0_505 (M_J0_length_8abf5_t3 (Nat.le_refl _) rfl) (as := []) (st := [.int v2, .int v1, .ref (1020 + 3)]) rfl rfl (Nat.le_of_ble_eq_true rfl) (Nat.le_trans (Nat.le_of_ble_eq_true rfl) hd) rfl ?_
  obtain ⟨x3, e2, h⟩ := x_bind h
  refine g_cS (pc := 17) dJ0_indexOf_7cf53_17 cS_RJ0_637 (M_J1_indexOf_4cfef_t3 (Nat.le_refl _) e2) (as := [.ref (1020 + 3), .int v1, .int v2, .int (f_J0_length_8abf5_t3)]) (st := []) rfl rfl (Nat.le_of_ble_eq_true rfl) (Nat.le_trans (Nat.le_of_ble_eq_true rfl) hd) rfl ?_
  refine g_goto (tgt := 36) (pc := 20) dJ0_indexOf_7cf53_20 (by decide) ?_
  cases h
  exact g_iret (pc := 36) dJ0_indexOf_7cf53_36 rfl rfl rfl (Nat.le_refl _) (Nat.le_refl _)
set_option maxRecDepth 100000 in
set_option maxHeartbeats 4000000 in
theorem M_J0_indexOf_7cf53_t3 {sc : Nat × (Nat → Int32)} {d : Nat} (hd : 2 ≤ d) {r : Int32} {u : xS} {a1 : Int32} {a2 : Int32} (h : f_J0_indexOf_7cf53_t3 a1 a2 = some r) : xMt sc mJ0_indexOf_7cf53 d 0 0 [.ref (1010 + 3), .int a1, .int a2] (xL0, u) (some (.int r)) (xL0, u) :=
  xMt.of (by decide +kernel) (Nat.le_of_ble_eq_true rfl) (L := [some (.ref (1010 + 3)), some (.int a1), some (.int a2)]) rfl ((G_J0_indexOf_7cf53_t3_0 hd a1 a2 h))
set_option maxRecDepth 100000 in
set_option maxHeartbeats 4000000 in
theorem G_J0_indexOf_0f7a4_t3_0 {sc : Nat × (Nat → Int32)} {d : Nat} (hd : 3 ≤ d) {r : Int32} {u : xS} (v1 : Int32) (h : f_J0_indexOf_0f7a4_t3 v1 = some r) : xG sc mJ0_indexOf_0f7a4 d 0 0 (xR (some (.int r)) (xL0, u) 0 0) 0 0 0 [some (.ref (1010 + 3)), some (.int v1)] [] (xL0, u) := by
  rw [f_J0_indexOf_0f7a4_t3] at h
  refine g_aload_n (pc := 0) dJ0_indexOf_0f7a4_0 rfl ?_
  refine g_iload_n (pc := 1) dJ0_indexOf_0f7a4_1 rfl ?_
  refine g_iconst (pc := 2) dJ0_indexOf_0f7a4_2 ic_0 ?_
  obtain ⟨x2, e1, h⟩ := x_bind h
  refine g_cT 3 (pc := 3) dJ0_indexOf_0f7a4_3 cT_RJ0_633 (M_J0_indexOf_7cf53_t3 (Nat.le_refl _) e1) (as := [.int v1, .int (0 : Int32)]) (st := []) rfl rfl (Nat.le_of_ble_eq_true rfl) (Nat.le_trans (Nat.le_of_ble_eq_true rfl) hd) rfl ?_
  cases h
  exact g_iret (pc := 6) dJ0_indexOf_0f7a4_6 rfl rfl rfl (Nat.le_refl _) (Nat.le_refl _)
set_option maxRecDepth 100000 in
set_option maxHeartbeats 4000000 in
theorem M_J0_indexOf_0f7a4_t3 {sc : Nat × (Nat → Int32)} {d : Nat} (hd : 3 ≤ d) {r : Int32} {u : xS} {a1 : Int32} (h : f_J0_indexOf_0f7a4_t3 a1 = some r) : xMt sc mJ0_indexOf_0f7a4 d 0 0 [.ref (1010 + 3), .int a1] (xL0, u) (some (.int r)) (xL0, u) :=
  xMt.of (by decide +kernel) (Nat.le_of_ble_eq_true rfl) (L := [some (.ref (1010 + 3)), some (.int a1)]) rfl ((G_J0_indexOf_0f7a4_t3_0 hd a1 h))
set_option maxRecDepth 100000 in
set_option maxHeartbeats 4000000 in
theorem G_X12_isOf_t3_0 {sc : Nat × (Nat → Int32)} {d : Nat} (hd : 4 ≤ d) {r : Int32} {u : xS} (v1 : Int32) (h : f_X12_isOf_t3 u v1 = some r) : xG sc mX12_isOf d 0 0 (xR (some (.int r)) (xL0, u) 0 0) 0 0 0 [some (.ref 135), some (.int v1), some (.ref (1010 + 3))] [] (xL0, u) := by
  rw [f_X12_isOf_t3] at h
  refine g_aload_n (pc := 0) dX12_isOf_0 rfl ?_
  refine g_gI (pc := 1) dX12_isOf_1 fI_RX12_259 xc_135 (v := (rd u 135 33)) rfl ?_
  refine g_iload_n (pc := 4) dX12_isOf_4 rfl ?_
  refine g_icmp_ge (tgt := 40) (pc := 5) dX12_isOf_5 (by decide) (fun c1 => ?_) (fun c1 => ?_)
  · replace h := (if_pos c1).symm.trans h
    refine g_iconst (pc := 40) dX12_isOf_40 ic_0 ?_
    cases h
    exact g_zret (pc := 41) dX12_isOf_41 rfl (Or.inl rfl) rfl rfl (Nat.le_refl _) (Nat.le_refl _)
  · replace h := (if_neg c1).symm.trans h
    refine g_aload_n (pc := 8) dX12_isOf_8 rfl ?_
    refine g_gR (pc := 9) dX12_isOf_9 fR_RX12_84 xc_135 (v := 159) rfl ?_
    refine g_aload_n (pc := 12) dX12_isOf_12 rfl ?_
    refine g_gI (pc := 13) dX12_isOf_13 fI_RX12_259 xc_135 (v := (rd u 135 33)) rfl ?_
    obtain ⟨g2, h⟩ := x_gd h
    refine g_iaload (pc := 16) dX12_isOf_16 xc_159 (xin_of g2) (v := (rd u 159 (rd u 135 33).toNatClampNeg)) rfl ?_
    refine g_if_le (tgt := 40) (pc := 17) dX12_isOf_17 (by decide) (fun c3 => ?_) (fun c3 => ?_)
    · replace h := (if_pos c3).symm.trans h
      refine g_iconst (pc := 40) dX12_isOf_40 ic_0 ?_
      cases h
      exact g_zret (pc := 41) dX12_isOf_41 rfl (Or.inl rfl) rfl rfl (Nat.le_refl _) (Nat.le_refl _)
    · replace h := (if_neg c3).symm.trans h
      refine g_aload_n (pc := 20) dX12_isOf_20 rfl ?_
      refine g_aload_n (pc := 21) dX12_isOf_21 rfl ?_
      refine g_gR (pc := 22) dX12_isOf_22 fR_RX12_84 xc_135 (v := 159) rfl ?_
      refine g_aload_n (pc := 25) dX12_isOf_25 rfl ?_
      refine g_gI (pc := 26) dX12_isOf_26 fI_RX12_259 xc_135 (v := (rd u 135 33)) rfl ?_
      refine g_iaload (pc := 29) dX12_isOf_29 xc_159 (xin_of g2) (v := (rd u 159 (rd u 135 33).toNatClampNeg)) rfl ?_
      obtain ⟨x5, e4, h⟩ := x_bind h
      refine g_cT 3 (pc := 30) dX12_isOf_30 cT_RX12_262 (M_J0_indexOf_0f7a4_t3 (Nat.le_refl _) e4) (as := [.int (rd u 159 (rd u 135 33).toNatClampNeg)]) (st := []) rfl rfl (Nat.le_of_ble_eq_true rfl) (Nat.le_trans (Nat.le_of_ble_eq_true rfl) hd) rfl ?_
      refine g_if_lt (tgt := 40) (pc := 33) dX12_isOf_33 (by decide) (fun c6 => ?_) (fun c6 => ?_)
      · replace h := (if_pos c6).symm.trans h
        refine g_iconst (pc := 40) dX12_isOf_40 ic_0 ?_
        cases h
        exact g_zret (pc := 41) dX12_isOf_41 rfl (Or.inl rfl) rfl rfl (Nat.le_refl _) (Nat.le_refl _)
      · replace h := (if_neg c6).symm.trans h
        refine g_iconst (pc := 36) dX12_isOf_36 ic_1 ?_
        refine g_goto (tgt := 41) (pc := 37) dX12_isOf_37 (by decide) ?_
        cases h
        exact g_zret (pc := 41) dX12_isOf_41 rfl (Or.inr rfl) rfl rfl (Nat.le_refl _) (Nat.le_refl _)
set_option maxRecDepth 100000 in
set_option maxHeartbeats 4000000 in
theorem M_X12_isOf_t3 {sc : Nat × (Nat → Int32)} {d : Nat} (hd : 4 ≤ d) {r : Int32} {u : xS} {a1 : Int32} (h : f_X12_isOf_t3 u a1 = some r) : xMt sc mX12_isOf d 0 0 [.ref 135, .int a1, .ref (1010 + 3)] (xL0, u) (some (.int r)) (xL0, u) :=
  xMt.of (by decide +kernel) (Nat.le_of_ble_eq_true rfl) (L := [some (.ref 135), some (.int a1), some (.ref (1010 + 3))]) rfl ((G_X12_isOf_t3_0 hd a1 h))
set_option maxRecDepth 100000 in
set_option maxHeartbeats 4000000 in
theorem G_X12_product_59 {sc : Nat × (Nat → Int32)} {d : Nat} (hd : 5 ≤ d) {r : Int32} {u' : xS} {dk : Nat} (hkd : dk + 1 ≤ d) {k_X12_unary : Int32 → xS → Option (Int32 × xS)} (hk_X12_unary : ∀ (a1 : Int32) (u u' : xS) (r : Int32), k_X12_unary a1 u = some (r, u') → xMt sc mX12_unary dk 0 0 [.ref 135, .int a1] (xL0, u) (some (.int r)) (xL0, u')) {k6 : Int32 → Int32 → xS → Option (Int32 × xS)} (hk6 : ∀ (v1 : Int32) (v2 : Int32) (u : xS), k6 v1 v2 u = some (r, u') → xG sc mX12_product d 0 0 (xR (some (.int r)) (xL0, u') 0 0) 0 0 6 [some (.ref 135), some (.int v1), some (.int v2), none] [] (xL0, u)) (v1 : Int32) (v2 : Int32) (u : xS) (h : f_X12_product_59 k_X12_unary k6 v1 v2 u = some (r, u')) : xG sc mX12_product d 0 0 (xR (some (.int r)) (xL0, u') 0 0) 0 0 59 [some (.ref 135), some (.int v1), some (.int v2), none] [] (xL0, u) := by
  rw [f_X12_product_59] at h
  refine g_goto (tgt := 6) (pc := 59) dX12_product_59 (by decide) ?_
  exact hk6 v1 v2 u h
set_option maxRecDepth 100000 in
set_option maxHeartbeats 4000000 in
theorem G_X12_product_6 {sc : Nat × (Nat → Int32)} {d : Nat} (hd : 5 ≤ d) {r : Int32} {u' : xS} {dk : Nat} (hkd : dk + 1 ≤ d) {k_X12_unary : Int32 → xS → Option (Int32 × xS)} (hk_X12_unary : ∀ (a1 : Int32) (u u' : xS) (r : Int32), k_X12_unary a1 u = some (r, u') → xMt sc mX12_unary dk 0 0 [.ref 135, .int a1] (xL0, u) (some (.int r)) (xL0, u')) : ∀ (n : Nat) (v1 : Int32) (v2 : Int32) (u : xS), f_X12_product_6 k_X12_unary n v1 v2 u = some (r, u') → xG sc mX12_product d 0 0 (xR (some (.int r)) (xL0, u') 0 0) 0 0 6 [some (.ref 135), some (.int v1), some (.int v2), none] [] (xL0, u) := by
  intro n
  induction n with
  | zero =>
    intro v1 v2 u h
    rw [f_X12_product_6] at h
    cases h
  | succ n ih =>
    intro v1 v2 u h
    rw [f_X12_product_6] at h
    refine g_iload_n (pc := 6) dX12_product_6 rfl ?_
    refine g_if_eq (tgt := 62) (pc := 7) dX12_product_7 (by decide) (fun c1 => ?_) (fun c1 => ?_)
    · replace h := (if_pos c1).symm.trans h
      refine g_iload_n (pc := 62) dX12_product_62 rfl ?_
      obtain ⟨g2, h⟩ := x_gd h
      cases h
      exact g_zret (pc := 63) dX12_product_63 rfl (xb_of g2) rfl rfl (Nat.le_refl _) (Nat.le_refl _)
    · replace h := (if_neg c1).symm.trans h
      refine g_aload_n (pc := 10) dX12_product_10 rfl ?_
      refine g_iload_n (pc := 11) dX12_product_11 rfl ?_
      refine g_ldcS 3 (pc := 12) dX12_product_12 rfl rfl ?_
      obtain ⟨x4, e3, h⟩ := x_bind h
      refine g_cV (pc := 15) dX12_product_15 cV_RX12_272 (M_X12_isOf_t3 (Nat.le_refl _) e3) xc_135 (as := [.int v1, .ref (1010 + 3)]) (st := []) rfl rfl (Nat.le_of_ble_eq_true rfl) (Nat.le_trans (Nat.le_of_ble_eq_true rfl) hd) rfl ?_
      refine g_if_eq (tgt := 62) (pc := 18) dX12_product_18 (by decide) (fun c5 => ?_) (fun c5 => ?_)
      · replace h := (if_pos c5).symm.trans h
        refine g_iload_n (pc := 62) dX12_product_62 rfl ?_
        obtain ⟨g6, h⟩ := x_gd h
        cases h
        exact g_zret (pc := 63) dX12_product_63 rfl (xb_of g6) rfl rfl (Nat.le_refl _) (Nat.le_refl _)
      · replace h := (if_neg c5).symm.trans h
        refine g_aload_n (pc := 21) dX12_product_21 rfl ?_
        refine g_gR (pc := 22) dX12_product_22 fR_RX12_84 xc_135 (v := 159) rfl ?_
        refine g_aload_n (pc := 25) dX12_product_25 rfl ?_
        refine g_gI (pc := 26) dX12_product_26 fI_RX12_259 xc_135 (v := (rd u 135 33)) rfl ?_
        obtain ⟨g7, h⟩ := x_gd h
        refine g_iaload (pc := 29) dX12_product_29 xc_159 (xin_of g7) (v := (rd u 159 (rd u 135 33).toNatClampNeg)) rfl ?_
        refine g_istore_n (pc := 30) dX12_product_30 (Nat.le_of_ble_eq_true rfl) (L' := [some (.ref 135), some (.int v1), some (.int v2), some (.int (rd u 159 (rd u 135 33).toNatClampNeg))]) rfl ?_
        refine g_aload_n (pc := 31) dX12_product_31 rfl ?_
        refine g_dup (pc := 32) dX12_product_32 rfl ?_
        refine g_gI (pc := 33) dX12_product_33 fI_RX12_259 xc_135 (v := (rd u 135 33)) rfl ?_
        refine g_iconst (pc := 36) dX12_product_36 ic_1 ?_
        refine g_iadd (pc := 37) dX12_product_37 rfl ?_
        refine g_pI (pc := 38) dX12_product_38 pI_RX12_259 xc_135 (u' := (wr u 135 33 ((rd u 135 33) + (1 : Int32)))) rfl ?_
        refine g_aload_n (pc := 41) dX12_product_41 rfl ?_
        refine g_iload_n (pc := 42) dX12_product_42 rfl ?_
        obtain ⟨⟨x9, u10⟩, e8, h⟩ := x_bind h
        dsimp only at h
        refine g_cV (pc := 43) dX12_product_43 cV_RX12_294 (hk_X12_unary _ _ _ _ e8) xc_135 (as := [.int v1]) (st := []) rfl rfl (Nat.le_of_ble_eq_true rfl) hkd rfl ?_
        refine g_istore_n (pc := 46) dX12_product_46 (Nat.le_of_ble_eq_true rfl) (L' := [some (.ref 135), some (.int v1), some (.int x9), some (.int (rd u 159 (rd u 135 33).toNatClampNeg))]) rfl ?_
        refine g_iload_n (pc := 47) dX12_product_47 rfl ?_
        refine g_if_eq (tgt := 59) (pc := 48) dX12_product_48 (by decide) (fun c11 => ?_) (fun c11 => ?_)
        · replace h := (if_pos c11).symm.trans h
          refine g_L (L' := [some (.ref 135), some (.int v1), some (.int x9), none]) ⟨rfl, ⟨rfl, ⟨rfl, trivial⟩⟩⟩ ?_
          exact G_X12_product_59 hd hkd hk_X12_unary ih v1 x9 u10 h
        · replace h := (if_neg c11).symm.trans h
          refine g_aload_n (pc := 51) dX12_product_51 rfl ?_
          refine g_iload_n (pc := 52) dX12_product_52 rfl ?_
          refine g_cS (pc := 53) dX12_product_53 cS_RX12_297 (M_X12_act (Nat.le_refl _) rfl) (as := [.int (rd u 159 (rd u 135 33).toNatClampNeg)]) (st := [.ref 135]) rfl rfl (Nat.le_of_ble_eq_true rfl) (Nat.le_trans (Nat.le_of_ble_eq_true rfl) hd) rfl ?_
          obtain ⟨u13, e12, h⟩ := x_bind h
          refine g_cV (pc := 56) dX12_product_56 cV_RX12_276 (M_X12_marks (Nat.le_refl _) e12) xc_135 (as := [.int (f_X12_act (rd u 159 (rd u 135 33).toNatClampNeg))]) (st := []) rfl rfl (Nat.le_of_ble_eq_true rfl) (Nat.le_trans (Nat.le_of_ble_eq_true rfl) hd) rfl ?_
          refine g_L (L' := [some (.ref 135), some (.int v1), some (.int x9), none]) ⟨rfl, ⟨rfl, ⟨rfl, trivial⟩⟩⟩ ?_
          exact G_X12_product_59 hd hkd hk_X12_unary ih v1 x9 u13 h
set_option maxRecDepth 100000 in
set_option maxHeartbeats 4000000 in
theorem G_X12_product_0 {sc : Nat × (Nat → Int32)} {d : Nat} (hd : 5 ≤ d) {r : Int32} {u' : xS} {dk : Nat} (hkd : dk + 1 ≤ d) {k_X12_unary : Int32 → xS → Option (Int32 × xS)} (hk_X12_unary : ∀ (a1 : Int32) (u u' : xS) (r : Int32), k_X12_unary a1 u = some (r, u') → xMt sc mX12_unary dk 0 0 [.ref 135, .int a1] (xL0, u) (some (.int r)) (xL0, u')) (v1 : Int32) (u : xS) (h : f_X12_product k_X12_unary v1 u = some (r, u')) : xG sc mX12_product d 0 0 (xR (some (.int r)) (xL0, u') 0 0) 0 0 0 [some (.ref 135), some (.int v1), none, none] [] (xL0, u) := by
  rw [f_X12_product] at h
  refine g_aload_n (pc := 0) dX12_product_0 rfl ?_
  refine g_iload_n (pc := 1) dX12_product_1 rfl ?_
  obtain ⟨⟨x2, u3⟩, e1, h⟩ := x_bind h
  dsimp only at h
  refine g_cV (pc := 2) dX12_product_2 cV_RX12_294 (hk_X12_unary _ _ _ _ e1) xc_135 (as := [.int v1]) (st := []) rfl rfl (Nat.le_of_ble_eq_true rfl) hkd rfl ?_
  refine g_istore_n (pc := 5) dX12_product_5 (Nat.le_of_ble_eq_true rfl) (L' := [some (.ref 135), some (.int v1), some (.int x2), none]) rfl ?_
  exact G_X12_product_6 hd hkd hk_X12_unary xN v1 x2 u3 h
set_option maxRecDepth 100000 in
set_option maxHeartbeats 4000000 in
theorem M_X12_product {sc : Nat × (Nat → Int32)} {d : Nat} (hd : 5 ≤ d) {r : Int32} {u u' : xS} {dk : Nat} (hkd : dk + 1 ≤ d) {k_X12_unary : Int32 → xS → Option (Int32 × xS)} (hk_X12_unary : ∀ (a1 : Int32) (u u' : xS) (r : Int32), k_X12_unary a1 u = some (r, u') → xMt sc mX12_unary dk 0 0 [.ref 135, .int a1] (xL0, u) (some (.int r)) (xL0, u')) {a1 : Int32} (h : f_X12_product k_X12_unary a1 u = some (r, u')) : xMt sc mX12_product d 0 0 [.ref 135, .int a1] (xL0, u) (some (.int r)) (xL0, u') :=
  xMt.of (by decide +kernel) (Nat.le_of_ble_eq_true rfl) (L := [some (.ref 135), some (.int a1), none, none]) rfl ((G_X12_product_0 hd hkd hk_X12_unary a1 u h))
theorem zb_J0_isLatin1_aae02_t4 : f_J0_isLatin1_aae02_t4 = 0 ∨ f_J0_isLatin1_aae02_t4 = 1 := by
  unfold f_J0_isLatin1_aae02_t4
  (repeat' split) <;> first | exact Or.inl rfl | exact Or.inr rfl
set_option maxRecDepth 100000 in
set_option maxHeartbeats 4000000 in
theorem G_J0_isLatin1_aae02_t4_0 {sc : Nat × (Nat → Int32)} {d : Nat} (hd : 0 ≤ d) {r : Int32} {u : xS} (h : f_J0_isLatin1_aae02_t4 = r) : xG sc mJ0_isLatin1_aae02 d 0 0 (xR (some (.int r)) (xL0, u) 0 0) 0 0 0 [some (.ref (1010 + 4))] [] (xL0, u) := by
  rw [f_J0_isLatin1_aae02_t4] at h
  refine g_getsC (pc := 0) dJ0_isLatin1_aae02_0 fs_RJ0_38 ?_
  refine g_if_eq (tgt := 17) (pc := 3) dJ0_isLatin1_aae02_3 (by decide) (fun c1 => absurd c1 (by decide)) (fun _ => ?_)
  refine g_aload_n (pc := 6) dJ0_isLatin1_aae02_6 rfl ?_
  refine g_strC 4 (pc := 7) dJ0_isLatin1_aae02_7 fs_RJ0_15 (by decide) ?_
  refine g_if_ne (tgt := 17) (pc := 10) dJ0_isLatin1_aae02_10 (by decide) (fun c2 => absurd c2 (by decide)) (fun _ => ?_)
  refine g_iconst (pc := 13) dJ0_isLatin1_aae02_13 ic_1 ?_
  refine g_goto (tgt := 18) (pc := 14) dJ0_isLatin1_aae02_14 (by decide) ?_
  subst h
  exact g_zret (pc := 18) dJ0_isLatin1_aae02_18 rfl (Or.inr rfl) rfl rfl (Nat.le_refl _) (Nat.le_refl _)
set_option maxRecDepth 100000 in
set_option maxHeartbeats 4000000 in
theorem M_J0_isLatin1_aae02_t4 {sc : Nat × (Nat → Int32)} {d : Nat} (hd : 0 ≤ d) {r : Int32} {u : xS} (h : f_J0_isLatin1_aae02_t4 = r) : xMt sc mJ0_isLatin1_aae02 d 0 0 [.ref (1010 + 4)] (xL0, u) (some (.int r)) (xL0, u) :=
  xMt.of (by decide +kernel) (Nat.le_of_ble_eq_true rfl) (L := [some (.ref (1010 + 4))]) rfl ((G_J0_isLatin1_aae02_t4_0 hd h))
set_option maxRecDepth 100000 in
set_option maxHeartbeats 4000000 in
theorem G_J0_coder_7d493_t4_0 {sc : Nat × (Nat → Int32)} {d : Nat} (hd : 0 ≤ d) {r : Int32} {u : xS} (h : f_J0_coder_7d493_t4 = r) : xG sc mJ0_coder_7d493 d 0 0 (xR (some (.int r)) (xL0, u) 0 0) 0 0 0 [some (.ref (1010 + 4))] [] (xL0, u) := by
  rw [f_J0_coder_7d493_t4] at h
  refine g_getsC (pc := 0) dJ0_coder_7d493_0 fs_RJ0_38 ?_
  refine g_if_eq (tgt := 13) (pc := 3) dJ0_coder_7d493_3 (by decide) (fun c1 => absurd c1 (by decide)) (fun _ => ?_)
  refine g_aload_n (pc := 6) dJ0_coder_7d493_6 rfl ?_
  refine g_strC 4 (pc := 7) dJ0_coder_7d493_7 fs_RJ0_15 (by decide) ?_
  refine g_goto (tgt := 14) (pc := 10) dJ0_coder_7d493_10 (by decide) ?_
  subst h
  exact g_bret (pc := 14) dJ0_coder_7d493_14 rfl rfl rfl rfl (Nat.le_refl _) (Nat.le_refl _)
set_option maxRecDepth 100000 in
set_option maxHeartbeats 4000000 in
theorem M_J0_coder_7d493_t4 {sc : Nat × (Nat → Int32)} {d : Nat} (hd : 0 ≤ d) {r : Int32} {u : xS} (h : f_J0_coder_7d493_t4 = r) : xMt sc mJ0_coder_7d493 d 0 0 [.ref (1010 + 4)] (xL0, u) (some (.int r)) (xL0, u) :=
  xMt.of (by decide +kernel) (Nat.le_of_ble_eq_true rfl) (L := [some (.ref (1010 + 4))]) rfl ((G_J0_coder_7d493_t4_0 hd h))
set_option maxRecDepth 100000 in
set_option maxHeartbeats 4000000 in
theorem G_J0_length_8abf5_t4_0 {sc : Nat × (Nat → Int32)} {d : Nat} (hd : 1 ≤ d) {r : Int32} {u : xS} (h : f_J0_length_8abf5_t4 = r) : xG sc mJ0_length_8abf5 d 0 0 (xR (some (.int r)) (xL0, u) 0 0) 0 0 0 [some (.ref (1010 + 4))] [] (xL0, u) := by
  rw [f_J0_length_8abf5_t4] at h
  refine g_aload_n (pc := 0) dJ0_length_8abf5_0 rfl ?_
  refine g_strV 4 (pc := 1) dJ0_length_8abf5_1 fs_RJ0_9 (by decide) ?_
  refine g_blen 4 (pc := 4) dJ0_length_8abf5_4 (by decide) (v := (2 : Int32)) rfl ?_
  refine g_aload_n (pc := 5) dJ0_length_8abf5_5 rfl ?_
  refine g_cT 4 (pc := 6) dJ0_length_8abf5_6 cT_RJ0_335 (M_J0_coder_7d493_t4 (Nat.le_refl _) (rfl : f_J0_coder_7d493_t4 = (0 : Int32))) (as := []) (st := [.int (2 : Int32)]) rfl rfl (Nat.le_of_ble_eq_true rfl) (Nat.le_trans (Nat.le_of_ble_eq_true rfl) hd) rfl ?_
  refine g_ishr (pc := 9) dJ0_length_8abf5_9 rfl ?_
  subst h
  exact g_iret (pc := 10) dJ0_length_8abf5_10 rfl rfl rfl (Nat.le_refl _) (Nat.le_refl _)
set_option maxRecDepth 100000 in
set_option maxHeartbeats 4000000 in
theorem M_J0_length_8abf5_t4 {sc : Nat × (Nat → Int32)} {d : Nat} (hd : 1 ≤ d) {r : Int32} {u : xS} (h : f_J0_length_8abf5_t4 = r) : xMt sc mJ0_length_8abf5 d 0 0 [.ref (1010 + 4)] (xL0, u) (some (.int r)) (xL0, u) :=
  xMt.of (by decide +kernel) (Nat.le_of_ble_eq_true rfl) (L := [some (.ref (1010 + 4))]) rfl ((G_J0_length_8abf5_t4_0 hd h))
set_option maxRecDepth 100000 in
set_option maxHeartbeats 4000000 in
theorem G_J1_indexOfChar_4cfef_t4_7 {sc : Nat × (Nat → Int32)} {d : Nat} (hd : 0 ≤ d) {r : Int32} {u : xS} : ∀ (n : Nat) (v3 : Int32) (v4 : Int32) (v5 : Int32), f_J1_indexOfChar_4cfef_t4_7 n v3 v4 v5 = some r → xG sc mJ1_indexOfChar_4cfef d 0 0 (xR (some (.int r)) (xL0, u) 0 0) 0 0 7 [some (.ref (1020 + 4)), none, none, some (.int v3), some (.int v4), some (.int v5)] [] (xL0, u) := by
  intro n
  induction n with
  | zero =>
    intro v3 v4 v5 h
    rw [f_J1_indexOfChar_4cfef_t4_7] at h
    cases h
  | succ n ih =>
    intro v3 v4 v5 h
    rw [f_J1_indexOfChar_4cfef_t4_7] at h
    refine g_iload (pc := 7) dJ1_indexOfChar_4cfef_7 rfl ?_
    refine g_iload_n (pc := 9) dJ1_indexOfChar_4cfef_9 rfl ?_
    refine g_icmp_ge (tgt := 31) (pc := 10) dJ1_indexOfChar_4cfef_10 (by decide) (fun c1 => ?_) (fun c1 => ?_)
    · replace h := (if_pos c1).symm.trans h
      refine g_iconst (pc := 31) dJ1_indexOfChar_4cfef_31 ic_m1 ?_
      cases h
      exact g_iret (pc := 32) dJ1_indexOfChar_4cfef_32 rfl rfl rfl (Nat.le_refl _) (Nat.le_refl _)
    · replace h := (if_neg c1).symm.trans h
      refine g_aload_n (pc := 13) dJ1_indexOfChar_4cfef_13 rfl ?_
      refine g_iload (pc := 14) dJ1_indexOfChar_4cfef_14 rfl ?_
      obtain ⟨g2, h⟩ := x_gd h
      refine g_bload 4 (pc := 16) dJ1_indexOfChar_4cfef_16 (by decide) (xin_of g2) rfl ?_
      refine g_iload (pc := 17) dJ1_indexOfChar_4cfef_17 rfl ?_
      refine g_icmp_ne (tgt := 25) (pc := 19) dJ1_indexOfChar_4cfef_19 (by decide) (fun c3 => ?_) (fun c3 => ?_)
      · replace h := (if_neg c3).symm.trans h
        refine g_inc (pc := 25) dJ1_indexOfChar_4cfef_25 (Nat.le_of_ble_eq_true rfl) rfl ic_1 (L' := [some (.ref (1020 + 4)), none, none, some (.int v3), some (.int v4), some (.int (v5 + (1 : Int32)))]) rfl ?_
        refine g_goto (tgt := 7) (pc := 28) dJ1_indexOfChar_4cfef_28 (by decide) ?_
        exact ih v3 v4 (v5 + (1 : Int32)) h
      · replace h := (if_pos c3).symm.trans h
        refine g_iload (pc := 22) dJ1_indexOfChar_4cfef_22 rfl ?_
        cases h
        exact g_iret (pc := 24) dJ1_indexOfChar_4cfef_24 rfl rfl rfl (Nat.le_refl _) (Nat.le_refl _)
set_option maxRecDepth 100000 in
set_option maxHeartbeats 4000000 in
theorem G_J1_indexOfChar_4cfef_t4_0 {sc : Nat × (Nat → Int32)} {d : Nat} (hd : 0 ≤ d) {r : Int32} {u : xS} (v1 : Int32) (v2 : Int32) (v3 : Int32) (h : f_J1_indexOfChar_4cfef_t4 v1 v2 v3 = some r) : xG sc mJ1_indexOfChar_4cfef d 0 0 (xR (some (.int r)) (xL0, u) 0 0) 0 0 0 [some (.ref (1020 + 4)), some (.int v1), some (.int v2), some (.int v3), none, none] [] (xL0, u) := by
  rw [f_J1_indexOfChar_4cfef_t4] at h
  refine g_iload_n (pc := 0) dJ1_indexOfChar_4cfef_0 rfl ?_
  refine g_i2b (pc := 1) dJ1_indexOfChar_4cfef_1 rfl ?_
  refine g_istore (pc := 2) dJ1_indexOfChar_4cfef_2 (Nat.le_of_ble_eq_true rfl) (L' := [some (.ref (1020 + 4)), some (.int v1), some (.int v2), some (.int v3), some (.int (v1.toInt8.toInt32)), none]) rfl ?_
  refine g_iload_n (pc := 4) dJ1_indexOfChar_4cfef_4 rfl ?_
  refine g_istore (pc := 5) dJ1_indexOfChar_4cfef_5 (Nat.le_of_ble_eq_true rfl) (L' := [some (.ref (1020 + 4)), some (.int v1), some (.int v2), some (.int v3), some (.int (v1.toInt8.toInt32)), some (.int v2)]) rfl ?_
  refine g_L (L' := [some (.ref (1020 + 4)), none, none, some (.int v3), some (.int (v1.toInt8.toInt32)), some (.int v2)]) ⟨rfl, ⟨rfl, ⟨rfl, ⟨rfl, trivial⟩⟩⟩⟩ ?_
  exact G_J1_indexOfChar_4cfef_t4_7 hd xN v3 (v1.toInt8.toInt32) v2 h
set_option maxRecDepth 100000 in
set_option maxHeartbeats 4000000 in
theorem M_J1_indexOfChar_4cfef_t4 {sc : Nat × (Nat → Int32)} {d : Nat} (hd : 0 ≤ d) {r : Int32} {u : xS} {a1 : Int32} {a2 : Int32} {a3 : Int32} (h : f_J1_indexOfChar_4cfef_t4 a1 a2 a3 = some r) : xMt sc mJ1_indexOfChar_4cfef d 0 0 [.ref (1020 + 4), .int a1, .int a2, .int a3] (xL0, u) (some (.int r)) (xL0, u) :=
  xMt.of (by decide +kernel) (Nat.le_of_ble_eq_true rfl) (L := [some (.ref (1020 + 4)), some (.int a1), some (.int a2), some (.int a3), none, none]) rfl ((G_J1_indexOfChar_4cfef_t4_0 hd a1 a2 a3 h))
set_option maxRecDepth 100000 in
set_option maxHeartbeats 4000000 in
theorem G_J1_indexOf_4cfef_t4_0 {sc : Nat × (Nat → Int32)} {d : Nat} (hd : 1 ≤ d) {r : Int32} {u : xS} (v1 : Int32) (v2 : Int32) (v3 : Int32) (h : f_J1_indexOf_4cfef_t4 v1 v2 v3 = some r) : xG sc mJ1_indexOf_4cfef d 0 0 (xR (some (.int r)) (xL0, u) 0 0) 0 0 0 [some (.ref (1020 + 4)), some (.int v1), some (.int v2), some (.int v3)] [] (xL0, u) := by
  rw [f_J1_indexOf_4cfef_t4] at h
  refine g_iload_n (pc := 0) dJ1_indexOf_4cfef_0 rfl ?_
  refine g_cS (pc := 1) dJ1_indexOf_4cfef_1 cS_RJ1_88 (M_J1_canEncode_9a6ad (Nat.le_refl _) rfl) (as := [.int v1]) (st := []) rfl rfl (Nat.le_of_ble_eq_true rfl) (Nat.le_trans (Nat.le_of_ble_eq_true rfl) hd) rfl ?_
  refine g_if_ne (tgt := 9) (pc := 4) dJ1_indexOf_4cfef_4 (by decide) (fun c1 => ?_) (fun c1 => ?_)
  · replace h := (if_neg c1).symm.trans h
    refine g_iload_n (pc := 9) dJ1_indexOf_4cfef_9 rfl ?_
    refine g_iconst (pc := 10) dJ1_indexOf_4cfef_10 ic_0 ?_
    refine g_max (pc := 11) dJ1_indexOf_4cfef_11 mK_RJ1_92 (Nat.le_of_ble_eq_true rfl) (Nat.le_trans (Nat.le_of_ble_eq_true rfl) hd) (Nat.le_refl _) (Nat.le_refl _) ?_
    refine g_istore_n (pc := 14) dJ1_indexOf_4cfef_14 (Nat.le_of_ble_eq_true rfl) (L' := [some (.ref (1020 + 4)), some (.int v1), some (.int (imax v2 (0 : Int32))), some (.int v3)]) rfl ?_
    refine g_iload_n (pc := 15) dJ1_indexOf_4cfef_15 rfl ?_
    refine g_aload_n (pc := 16) dJ1_indexOf_4cfef_16 rfl ?_
    refine g_blen 4 (pc := 17) dJ1_indexOf_4cfef_17 (by decide) (v := (2 : Int32)) rfl ?_
    refine g_min (pc := 18) dJ1_indexOf_4cfef_18 mK_RJ1_38 (Nat.le_of_ble_eq_true rfl) (Nat.le_trans (Nat.le_of_ble_eq_true rfl) hd) (Nat.le_refl _) (Nat.le_refl _) ?_
    refine g_istore_n (pc := 21) dJ1_indexOf_4cfef_21 (Nat.le_of_ble_eq_true rfl) (L' := [some (.ref (1020 + 4)), some (.int v1), some (.int (imax v2 (0 : Int32))), some (.int (imin v3 (2 : Int32)))]) rfl ?_
    refine g_iload_n (pc := 22) dJ1_indexOf_4cfef_22 rfl ?_
    refine g_iload_n (pc := 23) dJ1_indexOf_4cfef_23 rfl ?_
    refine g_icmp_lt (tgt := 29) (pc := 24) dJ1_indexOf_4cfef_24 (by decide) (fun c2 => ?_) (fun c2 => ?_)
    · replace h := (if_pos c2).symm.trans h
      refine g_aload_n (pc := 29) dJ1_indexOf_4cfef_29 rfl ?_
      refine g_iload_n (pc := 30) dJ1_indexOf_4cfef_30 rfl ?_
      refine g_iload_n (pc := 31) dJ1_indexOf_4cfef_31 rfl ?_
      refine g_iload_n (pc := 32) dJ1_indexOf_4cfef_32 rfl ?_
      obtain ⟨x4, e3, h⟩ := x_bind h
      refine g_cS (pc := 33) dJ1_indexOf_4cfef_33 cS_RJ1_95 (M_J1_indexOfChar_4cfef_t4 (Nat.le_refl _) e3) (as := [.ref (1020 + 4), .int v1, .int (imax v2 (0 : Int32)), .int (imin v3 (2 : Int32))]) (st := []) rfl rfl (Nat.le_of_ble_eq_true rfl) (Nat.le_trans (Nat.le_of_ble_eq_true rfl) hd) rfl ?_
      cases h
      exact g_iret (pc := 36) dJ1_indexOf_4cfef_36 rfl rfl rfl (Nat.le_refl _) (Nat.le_refl _)
    · replace h := (if_neg c2).symm.trans h
      refine g_iconst (pc := 27) dJ1_indexOf_4cfef_27 ic_m1 ?_
      cases h
      exact g_iret (pc := 28) dJ1_indexOf_4cfef_28 rfl rfl rfl (Nat.le_refl _) (Nat.le_refl _)
  · replace h := (if_pos c1).symm.trans h
    refine g_iconst (pc := 7) dJ1_indexOf_4cfef_7 ic_m1 ?_
    cases h
    exact g_iret (pc := 8) dJ1_indexOf_4cfef_8 rfl rfl rfl (Nat.le_refl _) (Nat.le_refl _)
set_option maxRecDepth 100000 in
set_option maxHeartbeats 4000000 in
theorem M_J1_indexOf_4cfef_t4 {sc : Nat × (Nat → Int32)} {d : Nat} (hd : 1 ≤ d) {r : Int32} {u : xS} {a1 : Int32} {a2 : Int32} {a3 : Int32} (h : f_J1_indexOf_4cfef_t4 a1 a2 a3 = some r) : xMt sc mJ1_indexOf_4cfef d 0 0 [.ref (1020 + 4), .int a1, .int a2, .int a3] (xL0, u) (some (.int r)) (xL0, u) :=
  xMt.of (by decide +kernel) (Nat.le_of_ble_eq_true rfl) (L := [some (.ref (1020 + 4)), some (.int a1), some (.int a2), some (.int a3)]) rfl ((G_J1_indexOf_4cfef_t4_0 hd a1 a2 a3 h))
set_option maxRecDepth 100000 in
set_option maxHeartbeats 4000000 in
theorem G_J0_indexOf_7cf53_t4_0 {sc : Nat × (Nat → Int32)} {d : Nat} (hd : 2 ≤ d) {r : Int32} {u : xS} (v1 : Int32) (v2 : Int32) (h : f_J0_indexOf_7cf53_t4 v1 v2 = some r) : xG sc mJ0_indexOf_7cf53 d 0 0 (xR (some (.int r)) (xL0, u) 0 0) 0 0 0 [some (.ref (1010 + 4)), some (.int v1), some (.int v2)] [] (xL0, u) := by
  rw [f_J0_indexOf_7cf53_t4] at h
  refine g_aload_n (pc := 0) dJ0_indexOf_7cf53_0 rfl ?_
  refine g_cT 4 (pc := 1) dJ0_indexOf_7cf53_1 cT_RJ0_492 (M_J0_isLatin1_aae02_t4 (Nat.le_refl _) (rfl : f_J0_isLatin1_aae02_t4 = (1 : Int32))) (as := []) (st := []) rfl rfl (Nat.le_of_ble_eq_true rfl) (Nat.le_trans (Nat.le_of_ble_eq_true rfl) hd) rfl ?_
  refine g_if_eq (tgt := 23) (pc := 4) dJ0_indexOf_7cf53_4 (by decide) (fun c1 => absurd c1 (by decide)) (fun _ => ?_)
  refine g_aload_n (pc := 7) dJ0_indexOf_7cf53_7 rfl ?_
  refine g_strV 4 (pc := 8) dJ0_indexOf_7cf53_8 fs_RJ0_9 (by decide) ?_
  refine g_iload_n (pc := 11) dJ0_indexOf_7cf53_11 rfl ?_
  refine g_iload_n (pc := 12) dJ0_indexOf_7cf53_12 rfl ?_
  refine g_aload_n (pc := 13) dJ0_indexOf_7cf53_13 rfl ?_
  refine g_cT 4 (pc := 14) dJ0_indexOf_7cf53_14 cT_RJ0_505 (M_J0_length_8abf5_t4 (Nat.le_refl _) rfl) (as := []) (st := [.int v2, .int v1, .ref (1020 + 4)]) rfl rfl (Nat.le_of_ble_eq_true rfl) (Nat.le_trans (Nat.le_of_ble_eq_true rfl) hd) rfl ?_
  obtain ⟨x3, e2, h⟩ := x_bind h
  refine g_cS (pc := 17) dJ0_indexOf_7cf53_17 cS_RJ0_637 (M_J1_indexOf_4cfef_t4 (Nat.le_refl _) e2) (as := [.ref (1020 + 4), .int v1, .int v2, .int (f_J0_length_8abf5_t4)]) (st := []) rfl rfl (Nat.le_of_ble_eq_true rfl) (Nat.le_trans (Nat.le_of_ble_eq_true rfl) hd) rfl ?_
  refine g_goto (tgt := 36) (pc := 20) dJ0_indexOf_7cf53_20 (by decide) ?_
  cases h
  exact g_iret (pc := 36) dJ0_indexOf_7cf53_36 rfl rfl rfl (Nat.le_refl _) (Nat.le_refl _)
set_option maxRecDepth 100000 in
set_option maxHeartbeats 4000000 in
theorem M_J0_indexOf_7cf53_t4 {sc : Nat × (Nat → Int32)} {d : Nat} (hd : 2 ≤ d) {r : Int32} {u : xS} {a1 : Int32} {a2 : Int32} (h : f_J0_indexOf_7cf53_t4 a1 a2 = some r) : xMt sc mJ0_indexOf_7cf53 d 0 0 [.ref (1010 + 4), .int a1, .int a2] (xL0, u) (some (.int r)) (xL0, u) :=
  xMt.of (by decide +kernel) (Nat.le_of_ble_eq_true rfl) (L := [some (.ref (1010 + 4)), some (.int a1), some (.int a2)]) rfl ((G_J0_indexOf_7cf53_t4_0 hd a1 a2 h))
set_option maxRecDepth 100000 in
set_option maxHeartbeats 4000000 in
theorem G_J0_indexOf_0f7a4_t4_0 {sc : Nat × (Nat → Int32)} {d : Nat} (hd : 3 ≤ d) {r : Int32} {u : xS} (v1 : Int32) (h : f_J0_indexOf_0f7a4_t4 v1 = some r) : xG sc mJ0_indexOf_0f7a4 d 0 0 (xR (some (.int r)) (xL0, u) 0 0) 0 0 0 [some (.ref (1010 + 4)), some (.int v1)] [] (xL0, u) := by
  rw [f_J0_indexOf_0f7a4_t4] at h
  refine g_aload_n (pc := 0) dJ0_indexOf_0f7a4_0 rfl ?_
  refine g_iload_n (pc := 1) dJ0_indexOf_0f7a4_1 rfl ?_
  refine g_iconst (pc := 2) dJ0_indexOf_0f7a4_2 ic_0 ?_
  obtain ⟨x2, e1, h⟩ := x_bind h
  refine g_cT 4 (pc := 3) dJ0_indexOf_0f7a4_3 cT_RJ0_633 (M_J0_indexOf_7cf53_t4 (Nat.le_refl _) e1) (as := [.int v1, .int (0 : Int32)]) (st := []) rfl rfl (Nat.le_of_ble_eq_true rfl) (Nat.le_trans (Nat.le_of_ble_eq_true rfl) hd) rfl ?_
  cases h
  exact g_iret (pc := 6) dJ0_indexOf_0f7a4_6 rfl rfl rfl (Nat.le_refl _) (Nat.le_refl _)
set_option maxRecDepth 100000 in
set_option maxHeartbeats 4000000 in
theorem M_J0_indexOf_0f7a4_t4 {sc : Nat × (Nat → Int32)} {d : Nat} (hd : 3 ≤ d) {r : Int32} {u : xS} {a1 : Int32} (h : f_J0_indexOf_0f7a4_t4 a1 = some r) : xMt sc mJ0_indexOf_0f7a4 d 0 0 [.ref (1010 + 4), .int a1] (xL0, u) (some (.int r)) (xL0, u) :=
  xMt.of (by decide +kernel) (Nat.le_of_ble_eq_true rfl) (L := [some (.ref (1010 + 4)), some (.int a1)]) rfl ((G_J0_indexOf_0f7a4_t4_0 hd a1 h))
set_option maxRecDepth 100000 in
set_option maxHeartbeats 4000000 in
theorem G_X12_isOf_t4_0 {sc : Nat × (Nat → Int32)} {d : Nat} (hd : 4 ≤ d) {r : Int32} {u : xS} (v1 : Int32) (h : f_X12_isOf_t4 u v1 = some r) : xG sc mX12_isOf d 0 0 (xR (some (.int r)) (xL0, u) 0 0) 0 0 0 [some (.ref 135), some (.int v1), some (.ref (1010 + 4))] [] (xL0, u) := by
  rw [f_X12_isOf_t4] at h
  refine g_aload_n (pc := 0) dX12_isOf_0 rfl ?_
  refine g_gI (pc := 1) dX12_isOf_1 fI_RX12_259 xc_135 (v := (rd u 135 33)) rfl ?_
  refine g_iload_n (pc := 4) dX12_isOf_4 rfl ?_
  refine g_icmp_ge (tgt := 40) (pc := 5) dX12_isOf_5 (by decide) (fun c1 => ?_) (fun c1 => ?_)
  · replace h := (if_pos c1).symm.trans h
    refine g_iconst (pc := 40) dX12_isOf_40 ic_0 ?_
    cases h
    exact g_zret (pc := 41) dX12_isOf_41 rfl (Or.inl rfl) rfl rfl (Nat.le_refl _) (Nat.le_refl _)
  · replace h := (if_neg c1).symm.trans h
    refine g_aload_n (pc := 8) dX12_isOf_8 rfl ?_
    refine g_gR (pc := 9) dX12_isOf_9 fR_RX12_84 xc_135 (v := 159) rfl ?_
    refine g_aload_n (pc := 12) dX12_isOf_12 rfl ?_
    refine g_gI (pc := 13) dX12_isOf_13 fI_RX12_259 xc_135 (v := (rd u 135 33)) rfl ?_
    obtain ⟨g2, h⟩ := x_gd h
    refine g_iaload (pc := 16) dX12_isOf_16 xc_159 (xin_of g2) (v := (rd u 159 (rd u 135 33).toNatClampNeg)) rfl ?_
    refine g_if_le (tgt := 40) (pc := 17) dX12_isOf_17 (by decide) (fun c3 => ?_) (fun c3 => ?_)
    · replace h := (if_pos c3).symm.trans h
      refine g_iconst (pc := 40) dX12_isOf_40 ic_0 ?_
      cases h
      exact g_zret (pc := 41) dX12_isOf_41 rfl (Or.inl rfl) rfl rfl (Nat.le_refl _) (Nat.le_refl _)
    · replace h := (if_neg c3).symm.trans h
      refine g_aload_n (pc := 20) dX12_isOf_20 rfl ?_
      refine g_aload_n (pc := 21) dX12_isOf_21 rfl ?_
      refine g_gR (pc := 22) dX12_isOf_22 fR_RX12_84 xc_135 (v := 159) rfl ?_
      refine g_aload_n (pc := 25) dX12_isOf_25 rfl ?_
      refine g_gI (pc := 26) dX12_isOf_26 fI_RX12_259 xc_135 (v := (rd u 135 33)) rfl ?_
      refine g_iaload (pc := 29) dX12_isOf_29 xc_159 (xin_of g2) (v := (rd u 159 (rd u 135 33).toNatClampNeg)) rfl ?_
      obtain ⟨x5, e4, h⟩ := x_bind h
      refine g_cT 4 (pc := 30) dX12_isOf_30 cT_RX12_262 (M_J0_indexOf_0f7a4_t4 (Nat.le_refl _) e4) (as := [.int (rd u 159 (rd u 135 33).toNatClampNeg)]) (st := []) rfl rfl (Nat.le_of_ble_eq_true rfl) (Nat.le_trans (Nat.le_of_ble_eq_true rfl) hd) rfl ?_
      refine g_if_lt (tgt := 40) (pc := 33) dX12_isOf_33 (by decide) (fun c6 => ?_) (fun c6 => ?_)
      · replace h := (if_pos c6).symm.trans h
        refine g_iconst (pc := 40) dX12_isOf_40 ic_0 ?_
        cases h
        exact g_zret (pc := 41) dX12_isOf_41 rfl (Or.inl rfl) rfl rfl (Nat.le_refl _) (Nat.le_refl _)
      · replace h := (if_neg c6).symm.trans h
        refine g_iconst (pc := 36) dX12_isOf_36 ic_1 ?_
        refine g_goto (tgt := 41) (pc := 37) dX12_isOf_37 (by decide) ?_
        cases h
        exact g_zret (pc := 41) dX12_isOf_41 rfl (Or.inr rfl) rfl rfl (Nat.le_refl _) (Nat.le_refl _)
set_option maxRecDepth 100000 in
set_option maxHeartbeats 4000000 in
theorem M_X12_isOf_t4 {sc : Nat × (Nat → Int32)} {d : Nat} (hd : 4 ≤ d) {r : Int32} {u : xS} {a1 : Int32} (h : f_X12_isOf_t4 u a1 = some r) : xMt sc mX12_isOf d 0 0 [.ref 135, .int a1, .ref (1010 + 4)] (xL0, u) (some (.int r)) (xL0, u) :=
  xMt.of (by decide +kernel) (Nat.le_of_ble_eq_true rfl) (L := [some (.ref 135), some (.int a1), some (.ref (1010 + 4))]) rfl ((G_X12_isOf_t4_0 hd a1 h))
set_option maxRecDepth 100000 in
set_option maxHeartbeats 4000000 in
theorem G_X12_total_59 {sc : Nat × (Nat → Int32)} {d : Nat} (hd : 5 ≤ d) {r : Int32} {u' : xS} {dk : Nat} (hkd : dk + 1 ≤ d) {k_X12_product : Int32 → xS → Option (Int32 × xS)} (hk_X12_product : ∀ (a1 : Int32) (u u' : xS) (r : Int32), k_X12_product a1 u = some (r, u') → xMt sc mX12_product dk 0 0 [.ref 135, .int a1] (xL0, u) (some (.int r)) (xL0, u')) {k6 : Int32 → Int32 → xS → Option (Int32 × xS)} (hk6 : ∀ (v1 : Int32) (v2 : Int32) (u : xS), k6 v1 v2 u = some (r, u') → xG sc mX12_total d 0 0 (xR (some (.int r)) (xL0, u') 0 0) 0 0 6 [some (.ref 135), some (.int v1), some (.int v2), none] [] (xL0, u)) (v1 : Int32) (v2 : Int32) (u : xS) (h : f_X12_total_59 k_X12_product k6 v1 v2 u = some (r, u')) : xG sc mX12_total d 0 0 (xR (some (.int r)) (xL0, u') 0 0) 0 0 59 [some (.ref 135), some (.int v1), some (.int v2), none] [] (xL0, u) := by
  rw [f_X12_total_59] at h
  refine g_goto (tgt := 6) (pc := 59) dX12_total_59 (by decide) ?_
  exact hk6 v1 v2 u h
set_option maxRecDepth 100000 in
set_option maxHeartbeats 4000000 in
theorem G_X12_total_6 {sc : Nat × (Nat → Int32)} {d : Nat} (hd : 5 ≤ d) {r : Int32} {u' : xS} {dk : Nat} (hkd : dk + 1 ≤ d) {k_X12_product : Int32 → xS → Option (Int32 × xS)} (hk_X12_product : ∀ (a1 : Int32) (u u' : xS) (r : Int32), k_X12_product a1 u = some (r, u') → xMt sc mX12_product dk 0 0 [.ref 135, .int a1] (xL0, u) (some (.int r)) (xL0, u')) : ∀ (n : Nat) (v1 : Int32) (v2 : Int32) (u : xS), f_X12_total_6 k_X12_product n v1 v2 u = some (r, u') → xG sc mX12_total d 0 0 (xR (some (.int r)) (xL0, u') 0 0) 0 0 6 [some (.ref 135), some (.int v1), some (.int v2), none] [] (xL0, u) := by
  intro n
  induction n with
  | zero =>
    intro v1 v2 u h
    rw [f_X12_total_6] at h
    cases h
  | succ n ih =>
    intro v1 v2 u h
    rw [f_X12_total_6] at h
    refine g_iload_n (pc := 6) dX12_total_6 rfl ?_
    refine g_if_eq (tgt := 62) (pc := 7) dX12_total_7 (by decide) (fun c1 => ?_) (fun c1 => ?_)
    · replace h := (if_pos c1).symm.trans h
      refine g_iload_n (pc := 62) dX12_total_62 rfl ?_
      obtain ⟨g2, h⟩ := x_gd h
      cases h
      exact g_zret (pc := 63) dX12_total_63 rfl (xb_of g2) rfl rfl (Nat.le_refl _) (Nat.le_refl _)
    · replace h := (if_neg c1).symm.trans h
      refine g_aload_n (pc := 10) dX12_total_10 rfl ?_
      refine g_iload_n (pc := 11) dX12_total_11 rfl ?_
      refine g_ldcS 4 (pc := 12) dX12_total_12 rfl rfl ?_
      obtain ⟨x4, e3, h⟩ := x_bind h
      refine g_cV (pc := 15) dX12_total_15 cV_RX12_272 (M_X12_isOf_t4 (Nat.le_refl _) e3) xc_135 (as := [.int v1, .ref (1010 + 4)]) (st := []) rfl rfl (Nat.le_of_ble_eq_true rfl) (Nat.le_trans (Nat.le_of_ble_eq_true rfl) hd) rfl ?_
      refine g_if_eq (tgt := 62) (pc := 18) dX12_total_18 (by decide) (fun c5 => ?_) (fun c5 => ?_)
      · replace h := (if_pos c5).symm.trans h
        refine g_iload_n (pc := 62) dX12_total_62 rfl ?_
        obtain ⟨g6, h⟩ := x_gd h
        cases h
        exact g_zret (pc := 63) dX12_total_63 rfl (xb_of g6) rfl rfl (Nat.le_refl _) (Nat.le_refl _)
      · replace h := (if_neg c5).symm.trans h
        refine g_aload_n (pc := 21) dX12_total_21 rfl ?_
        refine g_gR (pc := 22) dX12_total_22 fR_RX12_84 xc_135 (v := 159) rfl ?_
        refine g_aload_n (pc := 25) dX12_total_25 rfl ?_
        refine g_gI (pc := 26) dX12_total_26 fI_RX12_259 xc_135 (v := (rd u 135 33)) rfl ?_
        obtain ⟨g7, h⟩ := x_gd h
        refine g_iaload (pc := 29) dX12_total_29 xc_159 (xin_of g7) (v := (rd u 159 (rd u 135 33).toNatClampNeg)) rfl ?_
        refine g_istore_n (pc := 30) dX12_total_30 (Nat.le_of_ble_eq_true rfl) (L' := [some (.ref 135), some (.int v1), some (.int v2), some (.int (rd u 159 (rd u 135 33).toNatClampNeg))]) rfl ?_
        refine g_aload_n (pc := 31) dX12_total_31 rfl ?_
        refine g_dup (pc := 32) dX12_total_32 rfl ?_
        refine g_gI (pc := 33) dX12_total_33 fI_RX12_259 xc_135 (v := (rd u 135 33)) rfl ?_
        refine g_iconst (pc := 36) dX12_total_36 ic_1 ?_
        refine g_iadd (pc := 37) dX12_total_37 rfl ?_
        refine g_pI (pc := 38) dX12_total_38 pI_RX12_259 xc_135 (u' := (wr u 135 33 ((rd u 135 33) + (1 : Int32)))) rfl ?_
        refine g_aload_n (pc := 41) dX12_total_41 rfl ?_
        refine g_iload_n (pc := 42) dX12_total_42 rfl ?_
        obtain ⟨⟨x9, u10⟩, e8, h⟩ := x_bind h
        dsimp only at h
        refine g_cV (pc := 43) dX12_total_43 cV_RX12_302 (hk_X12_product _ _ _ _ e8) xc_135 (as := [.int v1]) (st := []) rfl rfl (Nat.le_of_ble_eq_true rfl) hkd rfl ?_
        refine g_istore_n (pc := 46) dX12_total_46 (Nat.le_of_ble_eq_true rfl) (L' := [some (.ref 135), some (.int v1), some (.int x9), some (.int (rd u 159 (rd u 135 33).toNatClampNeg))]) rfl ?_
        refine g_iload_n (pc := 47) dX12_total_47 rfl ?_
        refine g_if_eq (tgt := 59) (pc := 48) dX12_total_48 (by decide) (fun c11 => ?_) (fun c11 => ?_)
        · replace h := (if_pos c11).symm.trans h
          refine g_L (L' := [some (.ref 135), some (.int v1), some (.int x9), none]) ⟨rfl, ⟨rfl, ⟨rfl, trivial⟩⟩⟩ ?_
          exact G_X12_total_59 hd hkd hk_X12_product ih v1 x9 u10 h
        · replace h := (if_neg c11).symm.trans h
          refine g_aload_n (pc := 51) dX12_total_51 rfl ?_
          refine g_iload_n (pc := 52) dX12_total_52 rfl ?_
          refine g_cS (pc := 53) dX12_total_53 cS_RX12_297 (M_X12_act (Nat.le_refl _) rfl) (as := [.int (rd u 159 (rd u 135 33).toNatClampNeg)]) (st := [.ref 135]) rfl rfl (Nat.le_of_ble_eq_true rfl) (Nat.le_trans (Nat.le_of_ble_eq_true rfl) hd) rfl ?_
          obtain ⟨u13, e12, h⟩ := x_bind h
          refine g_cV (pc := 56) dX12_total_56 cV_RX12_276 (M_X12_marks (Nat.le_refl _) e12) xc_135 (as := [.int (f_X12_act (rd u 159 (rd u 135 33).toNatClampNeg))]) (st := []) rfl rfl (Nat.le_of_ble_eq_true rfl) (Nat.le_trans (Nat.le_of_ble_eq_true rfl) hd) rfl ?_
          refine g_L (L' := [some (.ref 135), some (.int v1), some (.int x9), none]) ⟨rfl, ⟨rfl, ⟨rfl, trivial⟩⟩⟩ ?_
          exact G_X12_total_59 hd hkd hk_X12_product ih v1 x9 u13 h
set_option maxRecDepth 100000 in
set_option maxHeartbeats 4000000 in
theorem G_X12_total_0 {sc : Nat × (Nat → Int32)} {d : Nat} (hd : 5 ≤ d) {r : Int32} {u' : xS} {dk : Nat} (hkd : dk + 1 ≤ d) {k_X12_product : Int32 → xS → Option (Int32 × xS)} (hk_X12_product : ∀ (a1 : Int32) (u u' : xS) (r : Int32), k_X12_product a1 u = some (r, u') → xMt sc mX12_product dk 0 0 [.ref 135, .int a1] (xL0, u) (some (.int r)) (xL0, u')) (v1 : Int32) (u : xS) (h : f_X12_total k_X12_product v1 u = some (r, u')) : xG sc mX12_total d 0 0 (xR (some (.int r)) (xL0, u') 0 0) 0 0 0 [some (.ref 135), some (.int v1), none, none] [] (xL0, u) := by
  rw [f_X12_total] at h
  refine g_aload_n (pc := 0) dX12_total_0 rfl ?_
  refine g_iload_n (pc := 1) dX12_total_1 rfl ?_
  obtain ⟨⟨x2, u3⟩, e1, h⟩ := x_bind h
  dsimp only at h
  refine g_cV (pc := 2) dX12_total_2 cV_RX12_302 (hk_X12_product _ _ _ _ e1) xc_135 (as := [.int v1]) (st := []) rfl rfl (Nat.le_of_ble_eq_true rfl) hkd rfl ?_
  refine g_istore_n (pc := 5) dX12_total_5 (Nat.le_of_ble_eq_true rfl) (L' := [some (.ref 135), some (.int v1), some (.int x2), none]) rfl ?_
  exact G_X12_total_6 hd hkd hk_X12_product xN v1 x2 u3 h
set_option maxRecDepth 100000 in
set_option maxHeartbeats 4000000 in
theorem M_X12_total {sc : Nat × (Nat → Int32)} {d : Nat} (hd : 5 ≤ d) {r : Int32} {u u' : xS} {dk : Nat} (hkd : dk + 1 ≤ d) {k_X12_product : Int32 → xS → Option (Int32 × xS)} (hk_X12_product : ∀ (a1 : Int32) (u u' : xS) (r : Int32), k_X12_product a1 u = some (r, u') → xMt sc mX12_product dk 0 0 [.ref 135, .int a1] (xL0, u) (some (.int r)) (xL0, u')) {a1 : Int32} (h : f_X12_total k_X12_product a1 u = some (r, u')) : xMt sc mX12_total d 0 0 [.ref 135, .int a1] (xL0, u) (some (.int r)) (xL0, u') :=
  xMt.of (by decide +kernel) (Nat.le_of_ble_eq_true rfl) (L := [some (.ref 135), some (.int a1), none, none]) rfl ((G_X12_total_0 hd hkd hk_X12_product a1 u h))
theorem zb_J0_isLatin1_aae02_t5 : f_J0_isLatin1_aae02_t5 = 0 ∨ f_J0_isLatin1_aae02_t5 = 1 := by
  unfold f_J0_isLatin1_aae02_t5
  (repeat' split) <;> first | exact Or.inl rfl | exact Or.inr rfl
set_option maxRecDepth 100000 in
set_option maxHeartbeats 4000000 in
theorem G_J0_isLatin1_aae02_t5_0 {sc : Nat × (Nat → Int32)} {d : Nat} (hd : 0 ≤ d) {r : Int32} {u : xS} (h : f_J0_isLatin1_aae02_t5 = r) : xG sc mJ0_isLatin1_aae02 d 0 0 (xR (some (.int r)) (xL0, u) 0 0) 0 0 0 [some (.ref (1010 + 5))] [] (xL0, u) := by
  rw [f_J0_isLatin1_aae02_t5] at h
  refine g_getsC (pc := 0) dJ0_isLatin1_aae02_0 fs_RJ0_38 ?_
  refine g_if_eq (tgt := 17) (pc := 3) dJ0_isLatin1_aae02_3 (by decide) (fun c1 => absurd c1 (by decide)) (fun _ => ?_)
  refine g_aload_n (pc := 6) dJ0_isLatin1_aae02_6 rfl ?_
  refine g_strC 5 (pc := 7) dJ0_isLatin1_aae02_7 fs_RJ0_15 (by decide) ?_
  refine g_if_ne (tgt := 17) (pc := 10) dJ0_isLatin1_aae02_10 (by decide) (fun c2 => absurd c2 (by decide)) (fun _ => ?_)
  refine g_iconst (pc := 13) dJ0_isLatin1_aae02_13 ic_1 ?_
  refine g_goto (tgt := 18) (pc := 14) dJ0_isLatin1_aae02_14 (by decide) ?_
  subst h
  exact g_zret (pc := 18) dJ0_isLatin1_aae02_18 rfl (Or.inr rfl) rfl rfl (Nat.le_refl _) (Nat.le_refl _)
set_option maxRecDepth 100000 in
set_option maxHeartbeats 4000000 in
theorem M_J0_isLatin1_aae02_t5 {sc : Nat × (Nat → Int32)} {d : Nat} (hd : 0 ≤ d) {r : Int32} {u : xS} (h : f_J0_isLatin1_aae02_t5 = r) : xMt sc mJ0_isLatin1_aae02 d 0 0 [.ref (1010 + 5)] (xL0, u) (some (.int r)) (xL0, u) :=
  xMt.of (by decide +kernel) (Nat.le_of_ble_eq_true rfl) (L := [some (.ref (1010 + 5))]) rfl ((G_J0_isLatin1_aae02_t5_0 hd h))
set_option maxRecDepth 100000 in
set_option maxHeartbeats 4000000 in
theorem G_J0_coder_7d493_t5_0 {sc : Nat × (Nat → Int32)} {d : Nat} (hd : 0 ≤ d) {r : Int32} {u : xS} (h : f_J0_coder_7d493_t5 = r) : xG sc mJ0_coder_7d493 d 0 0 (xR (some (.int r)) (xL0, u) 0 0) 0 0 0 [some (.ref (1010 + 5))] [] (xL0, u) := by
  rw [f_J0_coder_7d493_t5] at h
  refine g_getsC (pc := 0) dJ0_coder_7d493_0 fs_RJ0_38 ?_
  refine g_if_eq (tgt := 13) (pc := 3) dJ0_coder_7d493_3 (by decide) (fun c1 => absurd c1 (by decide)) (fun _ => ?_)
  refine g_aload_n (pc := 6) dJ0_coder_7d493_6 rfl ?_
  refine g_strC 5 (pc := 7) dJ0_coder_7d493_7 fs_RJ0_15 (by decide) ?_
  refine g_goto (tgt := 14) (pc := 10) dJ0_coder_7d493_10 (by decide) ?_
  subst h
  exact g_bret (pc := 14) dJ0_coder_7d493_14 rfl rfl rfl rfl (Nat.le_refl _) (Nat.le_refl _)
set_option maxRecDepth 100000 in
set_option maxHeartbeats 4000000 in
theorem M_J0_coder_7d493_t5 {sc : Nat × (Nat → Int32)} {d : Nat} (hd : 0 ≤ d) {r : Int32} {u : xS} (h : f_J0_coder_7d493_t5 = r) : xMt sc mJ0_coder_7d493 d 0 0 [.ref (1010 + 5)] (xL0, u) (some (.int r)) (xL0, u) :=
  xMt.of (by decide +kernel) (Nat.le_of_ble_eq_true rfl) (L := [some (.ref (1010 + 5))]) rfl ((G_J0_coder_7d493_t5_0 hd h))
set_option maxRecDepth 100000 in
set_option maxHeartbeats 4000000 in
theorem G_J0_length_8abf5_t5_0 {sc : Nat × (Nat → Int32)} {d : Nat} (hd : 1 ≤ d) {r : Int32} {u : xS} (h : f_J0_length_8abf5_t5 = r) : xG sc mJ0_length_8abf5 d 0 0 (xR (some (.int r)) (xL0, u) 0 0) 0 0 0 [some (.ref (1010 + 5))] [] (xL0, u) := by
  rw [f_J0_length_8abf5_t5] at h
  refine g_aload_n (pc := 0) dJ0_length_8abf5_0 rfl ?_
  refine g_strV 5 (pc := 1) dJ0_length_8abf5_1 fs_RJ0_9 (by decide) ?_
  refine g_blen 5 (pc := 4) dJ0_length_8abf5_4 (by decide) (v := (3 : Int32)) rfl ?_
  refine g_aload_n (pc := 5) dJ0_length_8abf5_5 rfl ?_
  refine g_cT 5 (pc := 6) dJ0_length_8abf5_6 cT_RJ0_335 (M_J0_coder_7d493_t5 (Nat.le_refl _) (rfl : f_J0_coder_7d493_t5 = (0 : Int32))) (as := []) (st := [.int (3 : Int32)]) rfl rfl (Nat.le_of_ble_eq_true rfl) (Nat.le_trans (Nat.le_of_ble_eq_true rfl) hd) rfl ?_
  refine g_ishr (pc := 9) dJ0_length_8abf5_9 rfl ?_
  subst h
  exact g_iret (pc := 10) dJ0_length_8abf5_10 rfl rfl rfl (Nat.le_refl _) (Nat.le_refl _)
set_option maxRecDepth 100000 in
set_option maxHeartbeats 4000000 in
theorem M_J0_length_8abf5_t5 {sc : Nat × (Nat → Int32)} {d : Nat} (hd : 1 ≤ d) {r : Int32} {u : xS} (h : f_J0_length_8abf5_t5 = r) : xMt sc mJ0_length_8abf5 d 0 0 [.ref (1010 + 5)] (xL0, u) (some (.int r)) (xL0, u) :=
  xMt.of (by decide +kernel) (Nat.le_of_ble_eq_true rfl) (L := [some (.ref (1010 + 5))]) rfl ((G_J0_length_8abf5_t5_0 hd h))
set_option maxRecDepth 100000 in
set_option maxHeartbeats 4000000 in
theorem G_J1_indexOfChar_4cfef_t5_7 {sc : Nat × (Nat → Int32)} {d : Nat} (hd : 0 ≤ d) {r : Int32} {u : xS} : ∀ (n : Nat) (v3 : Int32) (v4 : Int32) (v5 : Int32), f_J1_indexOfChar_4cfef_t5_7 n v3 v4 v5 = some r → xG sc mJ1_indexOfChar_4cfef d 0 0 (xR (some (.int r)) (xL0, u) 0 0) 0 0 7 [some (.ref (1020 + 5)), none, none, some (.int v3), some (.int v4), some (.int v5)] [] (xL0, u) := by
  intro n
  induction n with
  | zero =>
    intro v3 v4 v5 h
    rw [f_J1_indexOfChar_4cfef_t5_7] at h
    cases h
  | succ n ih =>
    intro v3 v4 v5 h
    rw [f_J1_indexOfChar_4cfef_t5_7] at h
    refine g_iload (pc := 7) dJ1_indexOfChar_4cfef_7 rfl ?_
    refine g_iload_n (pc := 9) dJ1_indexOfChar_4cfef_9 rfl ?_
    refine g_icmp_ge (tgt := 31) (pc := 10) dJ1_indexOfChar_4cfef_10 (by decide) (fun c1 => ?_) (fun c1 => ?_)
    · replace h := (if_pos c1).symm.trans h
      refine g_iconst (pc := 31) dJ1_indexOfChar_4cfef_31 ic_m1 ?_
      cases h
      exact g_iret (pc := 32) dJ1_indexOfChar_4cfef_32 rfl rfl rfl (Nat.le_refl _) (Nat.le_refl _)
    · replace h := (if_neg c1).symm.trans h
      refine g_aload_n (pc := 13) dJ1_indexOfChar_4cfef_13 rfl ?_
      refine g_iload (pc := 14) dJ1_indexOfChar_4cfef_14 rfl ?_
      obtain ⟨g2, h⟩ := x_gd h
      refine g_bload 5 (pc := 16) dJ1_indexOfChar_4cfef_16 (by decide) (xin_of g2) rfl ?_
      refine g_iload (pc := 17) dJ1_indexOfChar_4cfef_17 rfl ?_
      refine g_icmp_ne (tgt := 25) (pc := 19) dJ1_indexOfChar_4cfef_19 (by decide) (fun c3 => ?_) (fun c3 => ?_)
      · replace h := (if_neg c3).symm.trans h
        refine g_inc (pc := 25) dJ1_indexOfChar_4cfef_25 (Nat.le_of_ble_eq_true rfl) rfl ic_1 (L' := [some (.ref (1020 + 5)), none, none, some (.int v3), some (.int v4), some (.int (v5 + (1 : Int32)))]) rfl ?_
        refine g_goto (tgt := 7) (pc := 28) dJ1_indexOfChar_4cfef_28 (by decide) ?_
        exact ih v3 v4 (v5 + (1 : Int32)) h
      · replace h := (if_pos c3).symm.trans h
        refine g_iload (pc := 22) dJ1_indexOfChar_4cfef_22 rfl ?_
        cases h
        exact g_iret (pc := 24) dJ1_indexOfChar_4cfef_24 rfl rfl rfl (Nat.le_refl _) (Nat.le_refl _)
set_option maxRecDepth 100000 in
set_option maxHeartbeats 4000000 in
theorem G_J1_indexOfChar_4cfef_t5_0 {sc : Nat × (Nat → Int32)} {d : Nat} (hd : 0 ≤ d) {r : Int32} {u : xS} (v1 : Int32) (v2 : Int32) (v3 : Int32) (h : f_J1_indexOfChar_4cfef_t5 v1 v2 v3 = some r) : xG sc mJ1_indexOfChar_4cfef d 0 0 (xR (some (.int r)) (xL0, u) 0 0) 0 0 0 [some (.ref (1020 + 5)), some (.int v1), some (.int v2), some (.int v3), none, none] [] (xL0, u) := by
  rw [f_J1_indexOfChar_4cfef_t5] at h
  refine g_iload_n (pc := 0) dJ1_indexOfChar_4cfef_0 rfl ?_
  refine g_i2b (pc := 1) dJ1_indexOfChar_4cfef_1 rfl ?_
  refine g_istore (pc := 2) dJ1_indexOfChar_4cfef_2 (Nat.le_of_ble_eq_true rfl) (L' := [some (.ref (1020 + 5)), some (.int v1), some (.int v2), some (.int v3), some (.int (v1.toInt8.toInt32)), none]) rfl ?_
  refine g_iload_n (pc := 4) dJ1_indexOfChar_4cfef_4 rfl ?_
  refine g_istore (pc := 5) dJ1_indexOfChar_4cfef_5 (Nat.le_of_ble_eq_true rfl) (L' := [some (.ref (1020 + 5)), some (.int v1), some (.int v2), some (.int v3), some (.int (v1.toInt8.toInt32)), some (.int v2)]) rfl ?_
  refine g_L (L' := [some (.ref (1020 + 5)), none, none, some (.int v3), some (.int (v1.toInt8.toInt32)), some (.int v2)]) ⟨rfl, ⟨rfl, ⟨rfl, ⟨rfl, trivial⟩⟩⟩⟩ ?_
  exact G_J1_indexOfChar_4cfef_t5_7 hd xN v3 (v1.toInt8.toInt32) v2 h
set_option maxRecDepth 100000 in
set_option maxHeartbeats 4000000 in
theorem M_J1_indexOfChar_4cfef_t5 {sc : Nat × (Nat → Int32)} {d : Nat} (hd : 0 ≤ d) {r : Int32} {u : xS} {a1 : Int32} {a2 : Int32} {a3 : Int32} (h : f_J1_indexOfChar_4cfef_t5 a1 a2 a3 = some r) : xMt sc mJ1_indexOfChar_4cfef d 0 0 [.ref (1020 + 5), .int a1, .int a2, .int a3] (xL0, u) (some (.int r)) (xL0, u) :=
  xMt.of (by decide +kernel) (Nat.le_of_ble_eq_true rfl) (L := [some (.ref (1020 + 5)), some (.int a1), some (.int a2), some (.int a3), none, none]) rfl ((G_J1_indexOfChar_4cfef_t5_0 hd a1 a2 a3 h))
set_option maxRecDepth 100000 in
set_option maxHeartbeats 4000000 in
theorem G_J1_indexOf_4cfef_t5_0 {sc : Nat × (Nat → Int32)} {d : Nat} (hd : 1 ≤ d) {r : Int32} {u : xS} (v1 : Int32) (v2 : Int32) (v3 : Int32) (h : f_J1_indexOf_4cfef_t5 v1 v2 v3 = some r) : xG sc mJ1_indexOf_4cfef d 0 0 (xR (some (.int r)) (xL0, u) 0 0) 0 0 0 [some (.ref (1020 + 5)), some (.int v1), some (.int v2), some (.int v3)] [] (xL0, u) := by
  rw [f_J1_indexOf_4cfef_t5] at h
  refine g_iload_n (pc := 0) dJ1_indexOf_4cfef_0 rfl ?_
  refine g_cS (pc := 1) dJ1_indexOf_4cfef_1 cS_RJ1_88 (M_J1_canEncode_9a6ad (Nat.le_refl _) rfl) (as := [.int v1]) (st := []) rfl rfl (Nat.le_of_ble_eq_true rfl) (Nat.le_trans (Nat.le_of_ble_eq_true rfl) hd) rfl ?_
  refine g_if_ne (tgt := 9) (pc := 4) dJ1_indexOf_4cfef_4 (by decide) (fun c1 => ?_) (fun c1 => ?_)
  · replace h := (if_neg c1).symm.trans h
    refine g_iload_n (pc := 9) dJ1_indexOf_4cfef_9 rfl ?_
    refine g_iconst (pc := 10) dJ1_indexOf_4cfef_10 ic_0 ?_
    refine g_max (pc := 11) dJ1_indexOf_4cfef_11 mK_RJ1_92 (Nat.le_of_ble_eq_true rfl) (Nat.le_trans (Nat.le_of_ble_eq_true rfl) hd) (Nat.le_refl _) (Nat.le_refl _) ?_
    refine g_istore_n (pc := 14) dJ1_indexOf_4cfef_14 (Nat.le_of_ble_eq_true rfl) (L' := [some (.ref (1020 + 5)), some (.int v1), some (.int (imax v2 (0 : Int32))), some (.int v3)]) rfl ?_
    refine g_iload_n (pc := 15) dJ1_indexOf_4cfef_15 rfl ?_
    refine g_aload_n (pc := 16) dJ1_indexOf_4cfef_16 rfl ?_
    refine g_blen 5 (pc := 17) dJ1_indexOf_4cfef_17 (by decide) (v := (3 : Int32)) rfl ?_
    refine g_min (pc := 18) dJ1_indexOf_4cfef_18 mK_RJ1_38 (Nat.le_of_ble_eq_true rfl) (Nat.le_trans (Nat.le_of_ble_eq_true rfl) hd) (Nat.le_refl _) (Nat.le_refl _) ?_
    refine g_istore_n (pc := 21) dJ1_indexOf_4cfef_21 (Nat.le_of_ble_eq_true rfl) (L' := [some (.ref (1020 + 5)), some (.int v1), some (.int (imax v2 (0 : Int32))), some (.int (imin v3 (3 : Int32)))]) rfl ?_
    refine g_iload_n (pc := 22) dJ1_indexOf_4cfef_22 rfl ?_
    refine g_iload_n (pc := 23) dJ1_indexOf_4cfef_23 rfl ?_
    refine g_icmp_lt (tgt := 29) (pc := 24) dJ1_indexOf_4cfef_24 (by decide) (fun c2 => ?_) (fun c2 => ?_)
    · replace h := (if_pos c2).symm.trans h
      refine g_aload_n (pc := 29) dJ1_indexOf_4cfef_29 rfl ?_
      refine g_iload_n (pc := 30) dJ1_indexOf_4cfef_30 rfl ?_
      refine g_iload_n (pc := 31) dJ1_indexOf_4cfef_31 rfl ?_
      refine g_iload_n (pc := 32) dJ1_indexOf_4cfef_32 rfl ?_
      obtain ⟨x4, e3, h⟩ := x_bind h
      refine g_cS (pc := 33) dJ1_indexOf_4cfef_33 cS_RJ1_95 (M_J1_indexOfChar_4cfef_t5 (Nat.le_refl _) e3) (as := [.ref (1020 + 5), .int v1, .int (imax v2 (0 : Int32)), .int (imin v3 (3 : Int32))]) (st := []) rfl rfl (Nat.le_of_ble_eq_true rfl) (Nat.le_trans (Nat.le_of_ble_eq_true rfl) hd) rfl ?_
      cases h
      exact g_iret (pc := 36) dJ1_indexOf_4cfef_36 rfl rfl rfl (Nat.le_refl _) (Nat.le_refl _)
    · replace h := (if_neg c2).symm.trans h
      refine g_iconst (pc := 27) dJ1_indexOf_4cfef_27 ic_m1 ?_
      cases h
      exact g_iret (pc := 28) dJ1_indexOf_4cfef_28 rfl rfl rfl (Nat.le_refl _) (Nat.le_refl _)
  · replace h := (if_pos c1).symm.trans h
    refine g_iconst (pc := 7) dJ1_indexOf_4cfef_7 ic_m1 ?_
    cases h
    exact g_iret (pc := 8) dJ1_indexOf_4cfef_8 rfl rfl rfl (Nat.le_refl _) (Nat.le_refl _)
set_option maxRecDepth 100000 in
set_option maxHeartbeats 4000000 in
theorem M_J1_indexOf_4cfef_t5 {sc : Nat × (Nat → Int32)} {d : Nat} (hd : 1 ≤ d) {r : Int32} {u : xS} {a1 : Int32} {a2 : Int32} {a3 : Int32} (h : f_J1_indexOf_4cfef_t5 a1 a2 a3 = some r) : xMt sc mJ1_indexOf_4cfef d 0 0 [.ref (1020 + 5), .int a1, .int a2, .int a3] (xL0, u) (some (.int r)) (xL0, u) :=
  xMt.of (by decide +kernel) (Nat.le_of_ble_eq_true rfl) (L := [some (.ref (1020 + 5)), some (.int a1), some (.int a2), some (.int a3)]) rfl ((G_J1_indexOf_4cfef_t5_0 hd a1 a2 a3 h))
set_option maxRecDepth 100000 in
set_option maxHeartbeats 4000000 in
theorem G_J0_indexOf_7cf53_t5_0 {sc : Nat × (Nat → Int32)} {d : Nat} (hd : 2 ≤ d) {r : Int32} {u : xS} (v1 : Int32) (v2 : Int32) (h : f_J0_indexOf_7cf53_t5 v1 v2 = some r) : xG sc mJ0_indexOf_7cf53 d 0 0 (xR (some (.int r)) (xL0, u) 0 0) 0 0 0 [some (.ref (1010 + 5)), some (.int v1), some (.int v2)] [] (xL0, u) := by
  rw [f_J0_indexOf_7cf53_t5] at h
  refine g_aload_n (pc := 0) dJ0_indexOf_7cf53_0 rfl ?_
  refine g_cT 5 (pc := 1) dJ0_indexOf_7cf53_1 cT_RJ0_492 (M_J0_isLatin1_aae02_t5 (Nat.le_refl _) (rfl : f_J0_isLatin1_aae02_t5 = (1 : Int32))) (as := []) (st := []) rfl rfl (Nat.le_of_ble_eq_true rfl) (Nat.le_trans (Nat.le_of_ble_eq_true rfl) hd) rfl ?_
  refine g_if_eq (tgt := 23) (pc := 4) dJ0_indexOf_7cf53_4 (by decide) (fun c1 => absurd c1 (by decide)) (fun _ => ?_)
  refine g_aload_n (pc := 7) dJ0_indexOf_7cf53_7 rfl ?_
  refine g_strV 5 (pc := 8) dJ0_indexOf_7cf53_8 fs_RJ0_9 (by decide) ?_
  refine g_iload_n (pc := 11) dJ0_indexOf_7cf53_11 rfl ?_
  refine g_iload_n (pc := 12) dJ0_indexOf_7cf53_12 rfl ?_
  refine g_aload_n (pc := 13) dJ0_indexOf_7cf53_13 rfl ?_
  refine g_cT 5 (pc := 14) dJ0_indexOf_7cf53_14 cT_RJ0_505 (M_J0_length_8abf5_t5 (Nat.le_refl _) rfl) (as := []) (st := [.int v2, .int v1, .ref (1020 + 5)]) rfl rfl (Nat.le_of_ble_eq_true rfl) (Nat.le_trans (Nat.le_of_ble_eq_true rfl) hd) rfl ?_
  obtain ⟨x3, e2, h⟩ := x_bind h
  refine g_cS (pc := 17) dJ0_indexOf_7cf53_17 cS_RJ0_637 (M_J1_indexOf_4cfef_t5 (Nat.le_refl _) e2) (as := [.ref (1020 + 5), .int v1, .int v2, .int (f_J0_length_8abf5_t5)]) (st := []) rfl rfl (Nat.le_of_ble_eq_true rfl) (Nat.le_trans (Nat.le_of_ble_eq_true rfl) hd) rfl ?_
  refine g_goto (tgt := 36) (pc := 20) dJ0_indexOf_7cf53_20 (by decide) ?_
  cases h
  exact g_iret (pc := 36) dJ0_indexOf_7cf53_36 rfl rfl rfl (Nat.le_refl _) (Nat.le_refl _)
set_option maxRecDepth 100000 in
set_option maxHeartbeats 4000000 in
theorem M_J0_indexOf_7cf53_t5 {sc : Nat × (Nat → Int32)} {d : Nat} (hd : 2 ≤ d) {r : Int32} {u : xS} {a1 : Int32} {a2 : Int32} (h : f_J0_indexOf_7cf53_t5 a1 a2 = some r) : xMt sc mJ0_indexOf_7cf53 d 0 0 [.ref (1010 + 5), .int a1, .int a2] (xL0, u) (some (.int r)) (xL0, u) :=
  xMt.of (by decide +kernel) (Nat.le_of_ble_eq_true rfl) (L := [some (.ref (1010 + 5)), some (.int a1), some (.int a2)]) rfl ((G_J0_indexOf_7cf53_t5_0 hd a1 a2 h))
set_option maxRecDepth 100000 in
set_option maxHeartbeats 4000000 in
theorem G_J0_indexOf_0f7a4_t5_0 {sc : Nat × (Nat → Int32)} {d : Nat} (hd : 3 ≤ d) {r : Int32} {u : xS} (v1 : Int32) (h : f_J0_indexOf_0f7a4_t5 v1 = some r) : xG sc mJ0_indexOf_0f7a4 d 0 0 (xR (some (.int r)) (xL0, u) 0 0) 0 0 0 [some (.ref (1010 + 5)), some (.int v1)] [] (xL0, u) := by
  rw [f_J0_indexOf_0f7a4_t5] at h
  refine g_aload_n (pc := 0) dJ0_indexOf_0f7a4_0 rfl ?_
  refine g_iload_n (pc := 1) dJ0_indexOf_0f7a4_1 rfl ?_
  refine g_iconst (pc := 2) dJ0_indexOf_0f7a4_2 ic_0 ?_
  obtain ⟨x2, e1, h⟩ := x_bind h
  refine g_cT 5 (pc := 3) dJ0_indexOf_0f7a4_3 cT_RJ0_633 (M_J0_indexOf_7cf53_t5 (Nat.le_refl _) e1) (as := [.int v1, .int (0 : Int32)]) (st := []) rfl rfl (Nat.le_of_ble_eq_true rfl) (Nat.le_trans (Nat.le_of_ble_eq_true rfl) hd) rfl ?_
  cases h
  exact g_iret (pc := 6) dJ0_indexOf_0f7a4_6 rfl rfl rfl (Nat.le_refl _) (Nat.le_refl _)
set_option maxRecDepth 100000 in
set_option maxHeartbeats 4000000 in
theorem M_J0_indexOf_0f7a4_t5 {sc : Nat × (Nat → Int32)} {d : Nat} (hd : 3 ≤ d) {r : Int32} {u : xS} {a1 : Int32} (h : f_J0_indexOf_0f7a4_t5 a1 = some r) : xMt sc mJ0_indexOf_0f7a4 d 0 0 [.ref (1010 + 5), .int a1] (xL0, u) (some (.int r)) (xL0, u) :=
  xMt.of (by decide +kernel) (Nat.le_of_ble_eq_true rfl) (L := [some (.ref (1010 + 5)), some (.int a1)]) rfl ((G_J0_indexOf_0f7a4_t5_0 hd a1 h))
set_option maxRecDepth 100000 in
set_option maxHeartbeats 4000000 in
theorem G_X12_isOf_t5_0 {sc : Nat × (Nat → Int32)} {d : Nat} (hd : 4 ≤ d) {r : Int32} {u : xS} (v1 : Int32) (h : f_X12_isOf_t5 u v1 = some r) : xG sc mX12_isOf d 0 0 (xR (some (.int r)) (xL0, u) 0 0) 0 0 0 [some (.ref 135), some (.int v1), some (.ref (1010 + 5))] [] (xL0, u) := by
  rw [f_X12_isOf_t5] at h
  refine g_aload_n (pc := 0) dX12_isOf_0 rfl ?_
  refine g_gI (pc := 1) dX12_isOf_1 fI_RX12_259 xc_135 (v := (rd u 135 33)) rfl ?_
  refine g_iload_n (pc := 4) dX12_isOf_4 rfl ?_
  refine g_icmp_ge (tgt := 40) (pc := 5) dX12_isOf_5 (by decide) (fun c1 => ?_) (fun c1 => ?_)
  · replace h := (if_pos c1).symm.trans h
    refine g_iconst (pc := 40) dX12_isOf_40 ic_0 ?_
    cases h
    exact g_zret (pc := 41) dX12_isOf_41 rfl (Or.inl rfl) rfl rfl (Nat.le_refl _) (Nat.le_refl _)
  · replace h := (if_neg c1).symm.trans h
    refine g_aload_n (pc := 8) dX12_isOf_8 rfl ?_
    refine g_gR (pc := 9) dX12_isOf_9 fR_RX12_84 xc_135 (v := 159) rfl ?_
    refine g_aload_n (pc := 12) dX12_isOf_12 rfl ?_
    refine g_gI (pc := 13) dX12_isOf_13 fI_RX12_259 xc_135 (v := (rd u 135 33)) rfl ?_
    obtain ⟨g2, h⟩ := x_gd h
    refine g_iaload (pc := 16) dX12_isOf_16 xc_159 (xin_of g2) (v := (rd u 159 (rd u 135 33).toNatClampNeg)) rfl ?_
    refine g_if_le (tgt := 40) (pc := 17) dX12_isOf_17 (by decide) (fun c3 => ?_) (fun c3 => ?_)
    · replace h := (if_pos c3).symm.trans h
      refine g_iconst (pc := 40) dX12_isOf_40 ic_0 ?_
      cases h
      exact g_zret (pc := 41) dX12_isOf_41 rfl (Or.inl rfl) rfl rfl (Nat.le_refl _) (Nat.le_refl _)
    · replace h := (if_neg c3).symm.trans h
      refine g_aload_n (pc := 20) dX12_isOf_20 rfl ?_
      refine g_aload_n (pc := 21) dX12_isOf_21 rfl ?_
      refine g_gR (pc := 22) dX12_isOf_22 fR_RX12_84 xc_135 (v := 159) rfl ?_
      refine g_aload_n (pc := 25) dX12_isOf_25 rfl ?_
      refine g_gI (pc := 26) dX12_isOf_26 fI_RX12_259 xc_135 (v := (rd u 135 33)) rfl ?_
      refine g_iaload (pc := 29) dX12_isOf_29 xc_159 (xin_of g2) (v := (rd u 159 (rd u 135 33).toNatClampNeg)) rfl ?_
      obtain ⟨x5, e4, h⟩ := x_bind h
      refine g_cT 5 (pc := 30) dX12_isOf_30 cT_RX12_262 (M_J0_indexOf_0f7a4_t5 (Nat.le_refl _) e4) (as := [.int (rd u 159 (rd u 135 33).toNatClampNeg)]) (st := []) rfl rfl (Nat.le_of_ble_eq_true rfl) (Nat.le_trans (Nat.le_of_ble_eq_true rfl) hd) rfl ?_
      refine g_if_lt (tgt := 40) (pc := 33) dX12_isOf_33 (by decide) (fun c6 => ?_) (fun c6 => ?_)
      · replace h := (if_pos c6).symm.trans h
        refine g_iconst (pc := 40) dX12_isOf_40 ic_0 ?_
        cases h
        exact g_zret (pc := 41) dX12_isOf_41 rfl (Or.inl rfl) rfl rfl (Nat.le_refl _) (Nat.le_refl _)
      · replace h := (if_neg c6).symm.trans h
        refine g_iconst (pc := 36) dX12_isOf_36 ic_1 ?_
        refine g_goto (tgt := 41) (pc := 37) dX12_isOf_37 (by decide) ?_
        cases h
        exact g_zret (pc := 41) dX12_isOf_41 rfl (Or.inr rfl) rfl rfl (Nat.le_refl _) (Nat.le_refl _)
set_option maxRecDepth 100000 in
set_option maxHeartbeats 4000000 in
theorem M_X12_isOf_t5 {sc : Nat × (Nat → Int32)} {d : Nat} (hd : 4 ≤ d) {r : Int32} {u : xS} {a1 : Int32} (h : f_X12_isOf_t5 u a1 = some r) : xMt sc mX12_isOf d 0 0 [.ref 135, .int a1, .ref (1010 + 5)] (xL0, u) (some (.int r)) (xL0, u) :=
  xMt.of (by decide +kernel) (Nat.le_of_ble_eq_true rfl) (L := [some (.ref 135), some (.int a1), some (.ref (1010 + 5))]) rfl ((G_X12_isOf_t5_0 hd a1 h))
set_option maxRecDepth 100000 in
set_option maxHeartbeats 4000000 in
theorem G_X12_compared_0 {sc : Nat × (Nat → Int32)} {d : Nat} (hd : 5 ≤ d) {r : Int32} {u' : xS} {dk : Nat} (hkd : dk + 1 ≤ d) {k_X12_total : Int32 → xS → Option (Int32 × xS)} (hk_X12_total : ∀ (a1 : Int32) (u u' : xS) (r : Int32), k_X12_total a1 u = some (r, u') → xMt sc mX12_total dk 0 0 [.ref 135, .int a1] (xL0, u) (some (.int r)) (xL0, u')) (v1 : Int32) (u : xS) (h : f_X12_compared k_X12_total v1 u = some (r, u')) : xG sc mX12_compared d 0 0 (xR (some (.int r)) (xL0, u') 0 0) 0 0 0 [some (.ref 135), some (.int v1), none, none] [] (xL0, u) := by
  rw [f_X12_compared] at h
  refine g_aload_n (pc := 0) dX12_compared_0 rfl ?_
  refine g_iload_n (pc := 1) dX12_compared_1 rfl ?_
  obtain ⟨⟨x2, u3⟩, e1, h⟩ := x_bind h
  dsimp only at h
  refine g_cV (pc := 2) dX12_compared_2 cV_RX12_307 (hk_X12_total _ _ _ _ e1) xc_135 (as := [.int v1]) (st := []) rfl rfl (Nat.le_of_ble_eq_true rfl) hkd rfl ?_
  refine g_istore_n (pc := 5) dX12_compared_5 (Nat.le_of_ble_eq_true rfl) (L' := [some (.ref 135), some (.int v1), some (.int x2), none]) rfl ?_
  refine g_iload_n (pc := 6) dX12_compared_6 rfl ?_
  refine g_if_eq (tgt := 59) (pc := 7) dX12_compared_7 (by decide) (fun c4 => ?_) (fun c4 => ?_)
  · replace h := (if_pos c4).symm.trans h
    refine g_iload_n (pc := 59) dX12_compared_59 rfl ?_
    obtain ⟨g5, h⟩ := x_gd h
    cases h
    exact g_zret (pc := 60) dX12_compared_60 rfl (xb_of g5) rfl rfl (Nat.le_refl _) (Nat.le_refl _)
  · replace h := (if_neg c4).symm.trans h
    refine g_aload_n (pc := 10) dX12_compared_10 rfl ?_
    refine g_iload_n (pc := 11) dX12_compared_11 rfl ?_
    refine g_ldcS 5 (pc := 12) dX12_compared_12 rfl rfl ?_
    obtain ⟨x7, e6, h⟩ := x_bind h
    refine g_cV (pc := 15) dX12_compared_15 cV_RX12_272 (M_X12_isOf_t5 (Nat.le_refl _) e6) xc_135 (as := [.int v1, .ref (1010 + 5)]) (st := []) rfl rfl (Nat.le_of_ble_eq_true rfl) (Nat.le_trans (Nat.le_of_ble_eq_true rfl) hd) rfl ?_
    refine g_if_eq (tgt := 59) (pc := 18) dX12_compared_18 (by decide) (fun c8 => ?_) (fun c8 => ?_)
    · replace h := (if_pos c8).symm.trans h
      refine g_iload_n (pc := 59) dX12_compared_59 rfl ?_
      obtain ⟨g9, h⟩ := x_gd h
      cases h
      exact g_zret (pc := 60) dX12_compared_60 rfl (xb_of g9) rfl rfl (Nat.le_refl _) (Nat.le_refl _)
    · replace h := (if_neg c8).symm.trans h
      refine g_aload_n (pc := 21) dX12_compared_21 rfl ?_
      refine g_gR (pc := 22) dX12_compared_22 fR_RX12_84 xc_135 (v := 159) rfl ?_
      refine g_aload_n (pc := 25) dX12_compared_25 rfl ?_
      refine g_gI (pc := 26) dX12_compared_26 fI_RX12_259 xc_135 (v := (rd u3 135 33)) rfl ?_
      obtain ⟨g10, h⟩ := x_gd h
      refine g_iaload (pc := 29) dX12_compared_29 xc_159 (xin_of g10) (v := (rd u3 159 (rd u3 135 33).toNatClampNeg)) rfl ?_
      refine g_istore_n (pc := 30) dX12_compared_30 (Nat.le_of_ble_eq_true rfl) (L' := [some (.ref 135), some (.int v1), some (.int x2), some (.int (rd u3 159 (rd u3 135 33).toNatClampNeg))]) rfl ?_
      refine g_aload_n (pc := 31) dX12_compared_31 rfl ?_
      refine g_dup (pc := 32) dX12_compared_32 rfl ?_
      refine g_gI (pc := 33) dX12_compared_33 fI_RX12_259 xc_135 (v := (rd u3 135 33)) rfl ?_
      refine g_iconst (pc := 36) dX12_compared_36 ic_1 ?_
      refine g_iadd (pc := 37) dX12_compared_37 rfl ?_
      refine g_pI (pc := 38) dX12_compared_38 pI_RX12_259 xc_135 (u' := (wr u3 135 33 ((rd u3 135 33) + (1 : Int32)))) rfl ?_
      refine g_aload_n (pc := 41) dX12_compared_41 rfl ?_
      refine g_iload_n (pc := 42) dX12_compared_42 rfl ?_
      obtain ⟨⟨x12, u13⟩, e11, h⟩ := x_bind h
      dsimp only at h
      refine g_cV (pc := 43) dX12_compared_43 cV_RX12_307 (hk_X12_total _ _ _ _ e11) xc_135 (as := [.int v1]) (st := []) rfl rfl (Nat.le_of_ble_eq_true rfl) hkd rfl ?_
      refine g_istore_n (pc := 46) dX12_compared_46 (Nat.le_of_ble_eq_true rfl) (L' := [some (.ref 135), some (.int v1), some (.int x12), some (.int (rd u3 159 (rd u3 135 33).toNatClampNeg))]) rfl ?_
      refine g_iload_n (pc := 47) dX12_compared_47 rfl ?_
      refine g_if_eq (tgt := 59) (pc := 48) dX12_compared_48 (by decide) (fun c14 => ?_) (fun c14 => ?_)
      · replace h := (if_pos c14).symm.trans h
        refine g_iload_n (pc := 59) dX12_compared_59 rfl ?_
        obtain ⟨g15, h⟩ := x_gd h
        cases h
        exact g_zret (pc := 60) dX12_compared_60 rfl (xb_of g15) rfl rfl (Nat.le_refl _) (Nat.le_refl _)
      · replace h := (if_neg c14).symm.trans h
        refine g_aload_n (pc := 51) dX12_compared_51 rfl ?_
        refine g_iload_n (pc := 52) dX12_compared_52 rfl ?_
        refine g_cS (pc := 53) dX12_compared_53 cS_RX12_297 (M_X12_act (Nat.le_refl _) rfl) (as := [.int (rd u3 159 (rd u3 135 33).toNatClampNeg)]) (st := [.ref 135]) rfl rfl (Nat.le_of_ble_eq_true rfl) (Nat.le_trans (Nat.le_of_ble_eq_true rfl) hd) rfl ?_
        obtain ⟨u17, e16, h⟩ := x_bind h
        refine g_cV (pc := 56) dX12_compared_56 cV_RX12_276 (M_X12_marks (Nat.le_refl _) e16) xc_135 (as := [.int (f_X12_act (rd u3 159 (rd u3 135 33).toNatClampNeg))]) (st := []) rfl rfl (Nat.le_of_ble_eq_true rfl) (Nat.le_trans (Nat.le_of_ble_eq_true rfl) hd) rfl ?_
        refine g_iload_n (pc := 59) dX12_compared_59 rfl ?_
        obtain ⟨g18, h⟩ := x_gd h
        cases h
        exact g_zret (pc := 60) dX12_compared_60 rfl (xb_of g18) rfl rfl (Nat.le_refl _) (Nat.le_refl _)
set_option maxRecDepth 100000 in
set_option maxHeartbeats 4000000 in
theorem M_X12_compared {sc : Nat × (Nat → Int32)} {d : Nat} (hd : 5 ≤ d) {r : Int32} {u u' : xS} {dk : Nat} (hkd : dk + 1 ≤ d) {k_X12_total : Int32 → xS → Option (Int32 × xS)} (hk_X12_total : ∀ (a1 : Int32) (u u' : xS) (r : Int32), k_X12_total a1 u = some (r, u') → xMt sc mX12_total dk 0 0 [.ref 135, .int a1] (xL0, u) (some (.int r)) (xL0, u')) {a1 : Int32} (h : f_X12_compared k_X12_total a1 u = some (r, u')) : xMt sc mX12_compared d 0 0 [.ref 135, .int a1] (xL0, u) (some (.int r)) (xL0, u') :=
  xMt.of (by decide +kernel) (Nat.le_of_ble_eq_true rfl) (L := [some (.ref 135), some (.int a1), none, none]) rfl ((G_X12_compared_0 hd hkd hk_X12_total a1 u h))
set_option maxRecDepth 100000 in
set_option maxHeartbeats 4000000 in
theorem G_X12_every_6 {sc : Nat × (Nat → Int32)} {d : Nat} (hd : 1 ≤ d) {r : Int32} {u' : xS} {dk : Nat} (hkd : dk + 1 ≤ d) {k_X12_compared : Int32 → xS → Option (Int32 × xS)} (hk_X12_compared : ∀ (a1 : Int32) (u u' : xS) (r : Int32), k_X12_compared a1 u = some (r, u') → xMt sc mX12_compared dk 0 0 [.ref 135, .int a1] (xL0, u) (some (.int r)) (xL0, u')) : ∀ (n : Nat) (v1 : Int32) (v2 : Int32) (u : xS), f_X12_every_6 k_X12_compared n v1 v2 u = some (r, u') → xG sc mX12_every d 0 0 (xR (some (.int r)) (xL0, u') 0 0) 0 0 6 [some (.ref 135), some (.int v1), some (.int v2)] [] (xL0, u) := by
  intro n
  induction n with
  | zero =>
    intro v1 v2 u h
    rw [f_X12_every_6] at h
    cases h
  | succ n ih =>
    intro v1 v2 u h
    rw [f_X12_every_6] at h
    refine g_iload_n (pc := 6) dX12_every_6 rfl ?_
    refine g_if_eq (tgt := 52) (pc := 7) dX12_every_7 (by decide) (fun c1 => ?_) (fun c1 => ?_)
    · replace h := (if_pos c1).symm.trans h
      refine g_iload_n (pc := 52) dX12_every_52 rfl ?_
      obtain ⟨g2, h⟩ := x_gd h
      cases h
      exact g_zret (pc := 53) dX12_every_53 rfl (xb_of g2) rfl rfl (Nat.le_refl _) (Nat.le_refl _)
    · replace h := (if_neg c1).symm.trans h
      refine g_aload_n (pc := 10) dX12_every_10 rfl ?_
      refine g_iload_n (pc := 11) dX12_every_11 rfl ?_
      refine g_bipush (pc := 12) dX12_every_12 bp_38 ?_
      obtain ⟨x4, e3, h⟩ := x_bind h
      refine g_cV (pc := 14) dX12_every_14 cV_RX12_282 (M_X12_isSign (Nat.le_refl _) e3) xc_135 (as := [.int v1, .int (38 : Int32)]) (st := []) rfl rfl (Nat.le_of_ble_eq_true rfl) (Nat.le_trans (Nat.le_of_ble_eq_true rfl) hd) rfl ?_
      refine g_if_eq (tgt := 52) (pc := 17) dX12_every_17 (by decide) (fun c5 => ?_) (fun c5 => ?_)
      · replace h := (if_pos c5).symm.trans h
        refine g_iload_n (pc := 52) dX12_every_52 rfl ?_
        obtain ⟨g6, h⟩ := x_gd h
        cases h
        exact g_zret (pc := 53) dX12_every_53 rfl (xb_of g6) rfl rfl (Nat.le_refl _) (Nat.le_refl _)
      · replace h := (if_neg c5).symm.trans h
        refine g_aload_n (pc := 20) dX12_every_20 rfl ?_
        refine g_dup (pc := 21) dX12_every_21 rfl ?_
        refine g_gI (pc := 22) dX12_every_22 fI_RX12_259 xc_135 (v := (rd u 135 33)) rfl ?_
        refine g_iconst (pc := 25) dX12_every_25 ic_1 ?_
        refine g_iadd (pc := 26) dX12_every_26 rfl ?_
        refine g_pI (pc := 27) dX12_every_27 pI_RX12_259 xc_135 (u' := (wr u 135 33 ((rd u 135 33) + (1 : Int32)))) rfl ?_
        refine g_aload_n (pc := 30) dX12_every_30 rfl ?_
        refine g_iload_n (pc := 31) dX12_every_31 rfl ?_
        obtain ⟨⟨x8, u9⟩, e7, h⟩ := x_bind h
        dsimp only at h
        refine g_cV (pc := 32) dX12_every_32 cV_RX12_312 (hk_X12_compared _ _ _ _ e7) xc_135 (as := [.int v1]) (st := []) rfl rfl (Nat.le_of_ble_eq_true rfl) hkd rfl ?_
        refine g_istore_n (pc := 35) dX12_every_35 (Nat.le_of_ble_eq_true rfl) (L' := [some (.ref 135), some (.int v1), some (.int x8)]) rfl ?_
        refine g_iload_n (pc := 36) dX12_every_36 rfl ?_
        refine g_if_eq (tgt := 6) (pc := 37) dX12_every_37 (by decide) (fun c10 => ?_) (fun c10 => ?_)
        · replace h := (if_pos c10).symm.trans h
          exact ih v1 x8 u9 h
        · replace h := (if_neg c10).symm.trans h
          refine g_aload_n (pc := 40) dX12_every_40 rfl ?_
          refine g_bipush (pc := 41) dX12_every_41 bp_38 ?_
          refine g_cS (pc := 43) dX12_every_43 cS_RX12_297 (M_X12_act (Nat.le_refl _) rfl) (as := [.int (38 : Int32)]) (st := [.ref 135]) rfl rfl (Nat.le_of_ble_eq_true rfl) (Nat.le_trans (Nat.le_of_ble_eq_true rfl) hd) rfl ?_
          obtain ⟨u12, e11, h⟩ := x_bind h
          refine g_cV (pc := 46) dX12_every_46 cV_RX12_276 (M_X12_marks (Nat.le_refl _) e11) xc_135 (as := [.int (f_X12_act (38 : Int32))]) (st := []) rfl rfl (Nat.le_of_ble_eq_true rfl) (Nat.le_trans (Nat.le_of_ble_eq_true rfl) hd) rfl ?_
          refine g_goto (tgt := 6) (pc := 49) dX12_every_49 (by decide) ?_
          exact ih v1 x8 u12 h
set_option maxRecDepth 100000 in
set_option maxHeartbeats 4000000 in
theorem G_X12_every_0 {sc : Nat × (Nat → Int32)} {d : Nat} (hd : 1 ≤ d) {r : Int32} {u' : xS} {dk : Nat} (hkd : dk + 1 ≤ d) {k_X12_compared : Int32 → xS → Option (Int32 × xS)} (hk_X12_compared : ∀ (a1 : Int32) (u u' : xS) (r : Int32), k_X12_compared a1 u = some (r, u') → xMt sc mX12_compared dk 0 0 [.ref 135, .int a1] (xL0, u) (some (.int r)) (xL0, u')) (v1 : Int32) (u : xS) (h : f_X12_every k_X12_compared v1 u = some (r, u')) : xG sc mX12_every d 0 0 (xR (some (.int r)) (xL0, u') 0 0) 0 0 0 [some (.ref 135), some (.int v1), none] [] (xL0, u) := by
  rw [f_X12_every] at h
  refine g_aload_n (pc := 0) dX12_every_0 rfl ?_
  refine g_iload_n (pc := 1) dX12_every_1 rfl ?_
  obtain ⟨⟨x2, u3⟩, e1, h⟩ := x_bind h
  dsimp only at h
  refine g_cV (pc := 2) dX12_every_2 cV_RX12_312 (hk_X12_compared _ _ _ _ e1) xc_135 (as := [.int v1]) (st := []) rfl rfl (Nat.le_of_ble_eq_true rfl) hkd rfl ?_
  refine g_istore_n (pc := 5) dX12_every_5 (Nat.le_of_ble_eq_true rfl) (L' := [some (.ref 135), some (.int v1), some (.int x2)]) rfl ?_
  exact G_X12_every_6 hd hkd hk_X12_compared xN v1 x2 u3 h
set_option maxRecDepth 100000 in
set_option maxHeartbeats 4000000 in
theorem M_X12_every {sc : Nat × (Nat → Int32)} {d : Nat} (hd : 1 ≤ d) {r : Int32} {u u' : xS} {dk : Nat} (hkd : dk + 1 ≤ d) {k_X12_compared : Int32 → xS → Option (Int32 × xS)} (hk_X12_compared : ∀ (a1 : Int32) (u u' : xS) (r : Int32), k_X12_compared a1 u = some (r, u') → xMt sc mX12_compared dk 0 0 [.ref 135, .int a1] (xL0, u) (some (.int r)) (xL0, u')) {a1 : Int32} (h : f_X12_every k_X12_compared a1 u = some (r, u')) : xMt sc mX12_every d 0 0 [.ref 135, .int a1] (xL0, u) (some (.int r)) (xL0, u') :=
  xMt.of (by decide +kernel) (Nat.le_of_ble_eq_true rfl) (L := [some (.ref 135), some (.int a1), none]) rfl ((G_X12_every_0 hd hkd hk_X12_compared a1 u h))
set_option maxRecDepth 100000 in
set_option maxHeartbeats 4000000 in
theorem G_X12_some_6 {sc : Nat × (Nat → Int32)} {d : Nat} (hd : 1 ≤ d) {r : Int32} {u' : xS} {dk : Nat} (hkd : dk + 1 ≤ d) {k_X12_every : Int32 → xS → Option (Int32 × xS)} (hk_X12_every : ∀ (a1 : Int32) (u u' : xS) (r : Int32), k_X12_every a1 u = some (r, u') → xMt sc mX12_every dk 0 0 [.ref 135, .int a1] (xL0, u) (some (.int r)) (xL0, u')) : ∀ (n : Nat) (v1 : Int32) (v2 : Int32) (u : xS), f_X12_some_6 k_X12_every n v1 v2 u = some (r, u') → xG sc mX12_some d 0 0 (xR (some (.int r)) (xL0, u') 0 0) 0 0 6 [some (.ref 135), some (.int v1), some (.int v2)] [] (xL0, u) := by
  intro n
  induction n with
  | zero =>
    intro v1 v2 u h
    rw [f_X12_some_6] at h
    cases h
  | succ n ih =>
    intro v1 v2 u h
    rw [f_X12_some_6] at h
    refine g_iload_n (pc := 6) dX12_some_6 rfl ?_
    refine g_if_eq (tgt := 52) (pc := 7) dX12_some_7 (by decide) (fun c1 => ?_) (fun c1 => ?_)
    · replace h := (if_pos c1).symm.trans h
      refine g_iload_n (pc := 52) dX12_some_52 rfl ?_
      obtain ⟨g2, h⟩ := x_gd h
      cases h
      exact g_zret (pc := 53) dX12_some_53 rfl (xb_of g2) rfl rfl (Nat.le_refl _) (Nat.le_refl _)
    · replace h := (if_neg c1).symm.trans h
      refine g_aload_n (pc := 10) dX12_some_10 rfl ?_
      refine g_iload_n (pc := 11) dX12_some_11 rfl ?_
      refine g_bipush (pc := 12) dX12_some_12 bp_124 ?_
      obtain ⟨x4, e3, h⟩ := x_bind h
      refine g_cV (pc := 14) dX12_some_14 cV_RX12_282 (M_X12_isSign (Nat.le_refl _) e3) xc_135 (as := [.int v1, .int (124 : Int32)]) (st := []) rfl rfl (Nat.le_of_ble_eq_true rfl) (Nat.le_trans (Nat.le_of_ble_eq_true rfl) hd) rfl ?_
      refine g_if_eq (tgt := 52) (pc := 17) dX12_some_17 (by decide) (fun c5 => ?_) (fun c5 => ?_)
      · replace h := (if_pos c5).symm.trans h
        refine g_iload_n (pc := 52) dX12_some_52 rfl ?_
        obtain ⟨g6, h⟩ := x_gd h
        cases h
        exact g_zret (pc := 53) dX12_some_53 rfl (xb_of g6) rfl rfl (Nat.le_refl _) (Nat.le_refl _)
      · replace h := (if_neg c5).symm.trans h
        refine g_aload_n (pc := 20) dX12_some_20 rfl ?_
        refine g_dup (pc := 21) dX12_some_21 rfl ?_
        refine g_gI (pc := 22) dX12_some_22 fI_RX12_259 xc_135 (v := (rd u 135 33)) rfl ?_
        refine g_iconst (pc := 25) dX12_some_25 ic_1 ?_
        refine g_iadd (pc := 26) dX12_some_26 rfl ?_
        refine g_pI (pc := 27) dX12_some_27 pI_RX12_259 xc_135 (u' := (wr u 135 33 ((rd u 135 33) + (1 : Int32)))) rfl ?_
        refine g_aload_n (pc := 30) dX12_some_30 rfl ?_
        refine g_iload_n (pc := 31) dX12_some_31 rfl ?_
        obtain ⟨⟨x8, u9⟩, e7, h⟩ := x_bind h
        dsimp only at h
        refine g_cV (pc := 32) dX12_some_32 cV_RX12_315 (hk_X12_every _ _ _ _ e7) xc_135 (as := [.int v1]) (st := []) rfl rfl (Nat.le_of_ble_eq_true rfl) hkd rfl ?_
        refine g_istore_n (pc := 35) dX12_some_35 (Nat.le_of_ble_eq_true rfl) (L' := [some (.ref 135), some (.int v1), some (.int x8)]) rfl ?_
        refine g_iload_n (pc := 36) dX12_some_36 rfl ?_
        refine g_if_eq (tgt := 6) (pc := 37) dX12_some_37 (by decide) (fun c10 => ?_) (fun c10 => ?_)
        · replace h := (if_pos c10).symm.trans h
          exact ih v1 x8 u9 h
        · replace h := (if_neg c10).symm.trans h
          refine g_aload_n (pc := 40) dX12_some_40 rfl ?_
          refine g_bipush (pc := 41) dX12_some_41 bp_124 ?_
          refine g_cS (pc := 43) dX12_some_43 cS_RX12_297 (M_X12_act (Nat.le_refl _) rfl) (as := [.int (124 : Int32)]) (st := [.ref 135]) rfl rfl (Nat.le_of_ble_eq_true rfl) (Nat.le_trans (Nat.le_of_ble_eq_true rfl) hd) rfl ?_
          obtain ⟨u12, e11, h⟩ := x_bind h
          refine g_cV (pc := 46) dX12_some_46 cV_RX12_276 (M_X12_marks (Nat.le_refl _) e11) xc_135 (as := [.int (f_X12_act (124 : Int32))]) (st := []) rfl rfl (Nat.le_of_ble_eq_true rfl) (Nat.le_trans (Nat.le_of_ble_eq_true rfl) hd) rfl ?_
          refine g_goto (tgt := 6) (pc := 49) dX12_some_49 (by decide) ?_
          exact ih v1 x8 u12 h
set_option maxRecDepth 100000 in
set_option maxHeartbeats 4000000 in
theorem G_X12_some_0 {sc : Nat × (Nat → Int32)} {d : Nat} (hd : 1 ≤ d) {r : Int32} {u' : xS} {dk : Nat} (hkd : dk + 1 ≤ d) {k_X12_every : Int32 → xS → Option (Int32 × xS)} (hk_X12_every : ∀ (a1 : Int32) (u u' : xS) (r : Int32), k_X12_every a1 u = some (r, u') → xMt sc mX12_every dk 0 0 [.ref 135, .int a1] (xL0, u) (some (.int r)) (xL0, u')) (v1 : Int32) (u : xS) (h : f_X12_some k_X12_every v1 u = some (r, u')) : xG sc mX12_some d 0 0 (xR (some (.int r)) (xL0, u') 0 0) 0 0 0 [some (.ref 135), some (.int v1), none] [] (xL0, u) := by
  rw [f_X12_some] at h
  refine g_aload_n (pc := 0) dX12_some_0 rfl ?_
  refine g_iload_n (pc := 1) dX12_some_1 rfl ?_
  obtain ⟨⟨x2, u3⟩, e1, h⟩ := x_bind h
  dsimp only at h
  refine g_cV (pc := 2) dX12_some_2 cV_RX12_315 (hk_X12_every _ _ _ _ e1) xc_135 (as := [.int v1]) (st := []) rfl rfl (Nat.le_of_ble_eq_true rfl) hkd rfl ?_
  refine g_istore_n (pc := 5) dX12_some_5 (Nat.le_of_ble_eq_true rfl) (L' := [some (.ref 135), some (.int v1), some (.int x2)]) rfl ?_
  exact G_X12_some_6 hd hkd hk_X12_every xN v1 x2 u3 h
set_option maxRecDepth 100000 in
set_option maxHeartbeats 4000000 in
theorem M_X12_some {sc : Nat × (Nat → Int32)} {d : Nat} (hd : 1 ≤ d) {r : Int32} {u u' : xS} {dk : Nat} (hkd : dk + 1 ≤ d) {k_X12_every : Int32 → xS → Option (Int32 × xS)} (hk_X12_every : ∀ (a1 : Int32) (u u' : xS) (r : Int32), k_X12_every a1 u = some (r, u') → xMt sc mX12_every dk 0 0 [.ref 135, .int a1] (xL0, u) (some (.int r)) (xL0, u')) {a1 : Int32} (h : f_X12_some k_X12_every a1 u = some (r, u')) : xMt sc mX12_some d 0 0 [.ref 135, .int a1] (xL0, u) (some (.int r)) (xL0, u') :=
  xMt.of (by decide +kernel) (Nat.le_of_ble_eq_true rfl) (L := [some (.ref 135), some (.int a1), none]) rfl ((G_X12_some_0 hd hkd hk_X12_every a1 u h))
theorem Mr_parse {sc : Nat × (Nat → Int32)} : ∀ n : Nat, (∀ (a1 : Int32) (u u' : xS) (r : Int32), fr_parse n 0 a1 u = some (r, u') → xMt sc mX12_thing (n + 5) 0 0 [.ref 135, .int a1] (xL0, u) (some (.int r)) (xL0, u')) ∧ (∀ (a1 : Int32) (u u' : xS) (r : Int32), fr_parse n 1 a1 u = some (r, u') → xMt sc mX12_unary (n + 5) 0 0 [.ref 135, .int a1] (xL0, u) (some (.int r)) (xL0, u')) ∧ (∀ (a1 : Int32) (u u' : xS) (r : Int32), fr_parse n 2 a1 u = some (r, u') → xMt sc mX12_product (n + 5) 0 0 [.ref 135, .int a1] (xL0, u) (some (.int r)) (xL0, u')) ∧ (∀ (a1 : Int32) (u u' : xS) (r : Int32), fr_parse n 3 a1 u = some (r, u') → xMt sc mX12_total (n + 5) 0 0 [.ref 135, .int a1] (xL0, u) (some (.int r)) (xL0, u')) ∧ (∀ (a1 : Int32) (u u' : xS) (r : Int32), fr_parse n 4 a1 u = some (r, u') → xMt sc mX12_compared (n + 5) 0 0 [.ref 135, .int a1] (xL0, u) (some (.int r)) (xL0, u')) ∧ (∀ (a1 : Int32) (u u' : xS) (r : Int32), fr_parse n 5 a1 u = some (r, u') → xMt sc mX12_every (n + 5) 0 0 [.ref 135, .int a1] (xL0, u) (some (.int r)) (xL0, u')) ∧ (∀ (a1 : Int32) (u u' : xS) (r : Int32), fr_parse n 6 a1 u = some (r, u') → xMt sc mX12_some (n + 5) 0 0 [.ref 135, .int a1] (xL0, u) (some (.int r)) (xL0, u')) := by
  intro n
  induction n with
  | zero => exact ⟨fun _ _ _ _ h => by cases h, fun _ _ _ _ h => by cases h, fun _ _ _ _ h => by cases h, fun _ _ _ _ h => by cases h, fun _ _ _ _ h => by cases h, fun _ _ _ _ h => by cases h, fun _ _ _ _ h => by cases h⟩
  | succ n ih =>
    obtain ⟨i0, i1, i2, i3, i4, i5, i6⟩ := ih
    exact ⟨fun _ _ _ _ h => M_X12_thing (dk := n + 5) (by omega) (by omega) i6 h, fun _ _ _ _ h => M_X12_unary (dk := n + 5) (by omega) (by omega) i1 i0 h, fun _ _ _ _ h => M_X12_product (dk := n + 5) (by omega) (by omega) i1 h, fun _ _ _ _ h => M_X12_total (dk := n + 5) (by omega) (by omega) i2 h, fun _ _ _ _ h => M_X12_compared (dk := n + 5) (by omega) (by omega) i3 h, fun _ _ _ _ h => M_X12_every (dk := n + 5) (by omega) (by omega) i4 h, fun _ _ _ _ h => M_X12_some (dk := n + 5) (by omega) (by omega) i5 h⟩
set_option maxRecDepth 100000 in
set_option maxHeartbeats 4000000 in
theorem M_r_X12_thing {sc : Nat × (Nat → Int32)} {d : Nat} (hd : 605 ≤ d) {u u' : xS} {r : Int32} {a1 : Int32} (h : f_r_X12_thing a1 u = some (r, u')) : xMt sc mX12_thing 605 0 0 [.ref 135, .int a1] (xL0, u) (some (.int r)) (xL0, u') := (Mr_parse 600).1 _ _ _ _ h
set_option maxRecDepth 100000 in
set_option maxHeartbeats 4000000 in
theorem M_r_X12_unary {sc : Nat × (Nat → Int32)} {d : Nat} (hd : 605 ≤ d) {u u' : xS} {r : Int32} {a1 : Int32} (h : f_r_X12_unary a1 u = some (r, u')) : xMt sc mX12_unary 605 0 0 [.ref 135, .int a1] (xL0, u) (some (.int r)) (xL0, u') := (Mr_parse 600).2.1 _ _ _ _ h
set_option maxRecDepth 100000 in
set_option maxHeartbeats 4000000 in
theorem M_r_X12_product {sc : Nat × (Nat → Int32)} {d : Nat} (hd : 605 ≤ d) {u u' : xS} {r : Int32} {a1 : Int32} (h : f_r_X12_product a1 u = some (r, u')) : xMt sc mX12_product 605 0 0 [.ref 135, .int a1] (xL0, u) (some (.int r)) (xL0, u') := (Mr_parse 600).2.2.1 _ _ _ _ h
set_option maxRecDepth 100000 in
set_option maxHeartbeats 4000000 in
theorem M_r_X12_total {sc : Nat × (Nat → Int32)} {d : Nat} (hd : 605 ≤ d) {u u' : xS} {r : Int32} {a1 : Int32} (h : f_r_X12_total a1 u = some (r, u')) : xMt sc mX12_total 605 0 0 [.ref 135, .int a1] (xL0, u) (some (.int r)) (xL0, u') := (Mr_parse 600).2.2.2.1 _ _ _ _ h
set_option maxRecDepth 100000 in
set_option maxHeartbeats 4000000 in
theorem M_r_X12_compared {sc : Nat × (Nat → Int32)} {d : Nat} (hd : 605 ≤ d) {u u' : xS} {r : Int32} {a1 : Int32} (h : f_r_X12_compared a1 u = some (r, u')) : xMt sc mX12_compared 605 0 0 [.ref 135, .int a1] (xL0, u) (some (.int r)) (xL0, u') := (Mr_parse 600).2.2.2.2.1 _ _ _ _ h
set_option maxRecDepth 100000 in
set_option maxHeartbeats 4000000 in
theorem M_r_X12_every {sc : Nat × (Nat → Int32)} {d : Nat} (hd : 605 ≤ d) {u u' : xS} {r : Int32} {a1 : Int32} (h : f_r_X12_every a1 u = some (r, u')) : xMt sc mX12_every 605 0 0 [.ref 135, .int a1] (xL0, u) (some (.int r)) (xL0, u') := (Mr_parse 600).2.2.2.2.2.1 _ _ _ _ h
set_option maxRecDepth 100000 in
set_option maxHeartbeats 4000000 in
theorem M_r_X12_some {sc : Nat × (Nat → Int32)} {d : Nat} (hd : 605 ≤ d) {u u' : xS} {r : Int32} {a1 : Int32} (h : f_r_X12_some a1 u = some (r, u')) : xMt sc mX12_some 605 0 0 [.ref 135, .int a1] (xL0, u) (some (.int r)) (xL0, u') := (Mr_parse 600).2.2.2.2.2.2 _ _ _ _ h
set_option maxRecDepth 100000 in
set_option maxHeartbeats 4000000 in
theorem G_X12_all_50 {sc : Nat × (Nat → Int32)} {d : Nat} (hd : 606 ≤ d) {r : Int32} {u' : xS} (v1 : Int32) (v3 : Int32) (u : xS) (h : f_X12_all_50 v1 v3 u = some (r, u')) : xG sc mX12_all d 0 0 (xR (some (.int r)) (xL0, u') 0 0) 0 0 50 [some (.ref 135), some (.int v1), none, some (.int v3)] [] (xL0, u) := by
  rw [f_X12_all_50] at h
  refine g_iload_n (pc := 50) dX12_all_50 rfl ?_
  refine g_if_eq (tgt := 66) (pc := 51) dX12_all_51 (by decide) (fun c1 => ?_) (fun c1 => ?_)
  · replace h := (if_pos c1).symm.trans h
    refine g_iconst (pc := 66) dX12_all_66 ic_0 ?_
    cases h
    exact g_zret (pc := 67) dX12_all_67 rfl (Or.inl rfl) rfl rfl (Nat.le_refl _) (Nat.le_refl _)
  · replace h := (if_neg c1).symm.trans h
    refine g_aload_n (pc := 54) dX12_all_54 rfl ?_
    refine g_gI (pc := 55) dX12_all_55 fI_RX12_259 xc_135 (v := (rd u 135 33)) rfl ?_
    refine g_iload_n (pc := 58) dX12_all_58 rfl ?_
    refine g_icmp_ne (tgt := 66) (pc := 59) dX12_all_59 (by decide) (fun c2 => ?_) (fun c2 => ?_)
    · replace h := (if_neg c2).symm.trans h
      refine g_iconst (pc := 66) dX12_all_66 ic_0 ?_
      cases h
      exact g_zret (pc := 67) dX12_all_67 rfl (Or.inl rfl) rfl rfl (Nat.le_refl _) (Nat.le_refl _)
    · replace h := (if_pos c2).symm.trans h
      refine g_iconst (pc := 62) dX12_all_62 ic_1 ?_
      refine g_goto (tgt := 67) (pc := 63) dX12_all_63 (by decide) ?_
      cases h
      exact g_zret (pc := 67) dX12_all_67 rfl (Or.inr rfl) rfl rfl (Nat.le_refl _) (Nat.le_refl _)
set_option maxRecDepth 100000 in
set_option maxHeartbeats 4000000 in
theorem G_X12_all_6 {sc : Nat × (Nat → Int32)} {d : Nat} (hd : 606 ≤ d) {r : Int32} {u' : xS} : ∀ (n : Nat) (v1 : Int32) (v2 : Int32) (v3 : Int32) (u : xS), f_X12_all_6 n v1 v2 v3 u = some (r, u') → xG sc mX12_all d 0 0 (xR (some (.int r)) (xL0, u') 0 0) 0 0 6 [some (.ref 135), some (.int v1), some (.int v2), some (.int v3)] [] (xL0, u) := by
  intro n
  induction n with
  | zero =>
    intro v1 v2 v3 u h
    rw [f_X12_all_6] at h
    cases h
  | succ n ih =>
    intro v1 v2 v3 u h
    rw [f_X12_all_6] at h
    refine g_iload_n (pc := 6) dX12_all_6 rfl ?_
    refine g_if_eq (tgt := 50) (pc := 7) dX12_all_7 (by decide) (fun c1 => ?_) (fun c1 => ?_)
    · replace h := (if_pos c1).symm.trans h
      refine g_L (L' := [some (.ref 135), some (.int v1), none, some (.int v3)]) ⟨rfl, ⟨rfl, ⟨rfl, trivial⟩⟩⟩ ?_
      exact G_X12_all_50 hd v1 v3 u h
    · replace h := (if_neg c1).symm.trans h
      refine g_iload_n (pc := 10) dX12_all_10 rfl ?_
      refine g_if_eq (tgt := 50) (pc := 11) dX12_all_11 (by decide) (fun c2 => ?_) (fun c2 => ?_)
      · replace h := (if_pos c2).symm.trans h
        refine g_L (L' := [some (.ref 135), some (.int v1), none, some (.int v3)]) ⟨rfl, ⟨rfl, ⟨rfl, trivial⟩⟩⟩ ?_
        exact G_X12_all_50 hd v1 v3 u h
      · replace h := (if_neg c2).symm.trans h
        refine g_aload_n (pc := 14) dX12_all_14 rfl ?_
        refine g_iload_n (pc := 15) dX12_all_15 rfl ?_
        refine g_bipush (pc := 16) dX12_all_16 bp_59 ?_
        obtain ⟨x4, e3, h⟩ := x_bind h
        refine g_cV (pc := 18) dX12_all_18 cV_RX12_282 (M_X12_isSign (Nat.le_refl _) e3) xc_135 (as := [.int v1, .int (59 : Int32)]) (st := []) rfl rfl (Nat.le_of_ble_eq_true rfl) (Nat.le_trans (Nat.le_of_ble_eq_true rfl) hd) rfl ?_
        refine g_if_eq (tgt := 50) (pc := 21) dX12_all_21 (by decide) (fun c5 => ?_) (fun c5 => ?_)
        · replace h := (if_pos c5).symm.trans h
          refine g_L (L' := [some (.ref 135), some (.int v1), none, some (.int v3)]) ⟨rfl, ⟨rfl, ⟨rfl, trivial⟩⟩⟩ ?_
          exact G_X12_all_50 hd v1 v3 u h
        · replace h := (if_neg c5).symm.trans h
          refine g_aload_n (pc := 24) dX12_all_24 rfl ?_
          refine g_dup (pc := 25) dX12_all_25 rfl ?_
          refine g_gI (pc := 26) dX12_all_26 fI_RX12_259 xc_135 (v := (rd u 135 33)) rfl ?_
          refine g_iconst (pc := 29) dX12_all_29 ic_1 ?_
          refine g_iadd (pc := 30) dX12_all_30 rfl ?_
          refine g_pI (pc := 31) dX12_all_31 pI_RX12_259 xc_135 (u' := (wr u 135 33 ((rd u 135 33) + (1 : Int32)))) rfl ?_
          refine g_aload_n (pc := 34) dX12_all_34 rfl ?_
          refine g_sipush (pc := 35) dX12_all_35 sp_m300 ?_
          obtain ⟨u7, e6, h⟩ := x_bind h
          refine g_cV (pc := 38) dX12_all_38 cV_RX12_276 (M_X12_marks (Nat.le_refl _) e6) xc_135 (as := [.int (-300 : Int32)]) (st := []) rfl rfl (Nat.le_of_ble_eq_true rfl) (Nat.le_trans (Nat.le_of_ble_eq_true rfl) hd) rfl ?_
          refine g_aload_n (pc := 41) dX12_all_41 rfl ?_
          refine g_iload_n (pc := 42) dX12_all_42 rfl ?_
          obtain ⟨⟨x9, u10⟩, e8, h⟩ := x_bind h
          dsimp only at h
          refine g_cV (pc := 43) dX12_all_43 cV_RX12_286 (M_r_X12_some (Nat.le_refl _) e8) xc_135 (as := [.int v1]) (st := []) rfl rfl (Nat.le_of_ble_eq_true rfl) (Nat.le_trans (Nat.le_of_ble_eq_true rfl) hd) rfl ?_
          refine g_istore_n (pc := 46) dX12_all_46 (Nat.le_of_ble_eq_true rfl) (L' := [some (.ref 135), some (.int v1), some (.int v2), some (.int x9)]) rfl ?_
          refine g_goto (tgt := 6) (pc := 47) dX12_all_47 (by decide) ?_
          exact ih v1 v2 x9 u10 h
set_option maxRecDepth 100000 in
set_option maxHeartbeats 4000000 in
theorem G_X12_all_0 {sc : Nat × (Nat → Int32)} {d : Nat} (hd : 606 ≤ d) {r : Int32} {u' : xS} (v1 : Int32) (v2 : Int32) (u : xS) (h : f_X12_all v1 v2 u = some (r, u')) : xG sc mX12_all d 0 0 (xR (some (.int r)) (xL0, u') 0 0) 0 0 0 [some (.ref 135), some (.int v1), some (.int v2), none] [] (xL0, u) := by
  rw [f_X12_all] at h
  refine g_aload_n (pc := 0) dX12_all_0 rfl ?_
  refine g_iload_n (pc := 1) dX12_all_1 rfl ?_
  obtain ⟨⟨x2, u3⟩, e1, h⟩ := x_bind h
  dsimp only at h
  refine g_cV (pc := 2) dX12_all_2 cV_RX12_286 (M_r_X12_some (Nat.le_refl _) e1) xc_135 (as := [.int v1]) (st := []) rfl rfl (Nat.le_of_ble_eq_true rfl) (Nat.le_trans (Nat.le_of_ble_eq_true rfl) hd) rfl ?_
  refine g_istore_n (pc := 5) dX12_all_5 (Nat.le_of_ble_eq_true rfl) (L' := [some (.ref 135), some (.int v1), some (.int v2), some (.int x2)]) rfl ?_
  exact G_X12_all_6 hd xN v1 v2 x2 u3 h
set_option maxRecDepth 100000 in
set_option maxHeartbeats 4000000 in
theorem M_X12_all {sc : Nat × (Nat → Int32)} {d : Nat} (hd : 606 ≤ d) {r : Int32} {u u' : xS} {a1 : Int32} {a2 : Int32} (h : f_X12_all a1 a2 u = some (r, u')) : xMt sc mX12_all d 0 0 [.ref 135, .int a1, .int a2] (xL0, u) (some (.int r)) (xL0, u') :=
  xMt.of (by decide +kernel) (Nat.le_of_ble_eq_true rfl) (L := [some (.ref 135), some (.int a1), some (.int a2), none]) rfl ((G_X12_all_0 hd a1 a2 u h))
set_option maxRecDepth 100000 in
set_option maxHeartbeats 4000000 in
theorem G_X12_areAll_90 {sc : Nat × (Nat → Int32)} {d : Nat} (hd : 0 ≤ d) {r : Int32} {u : xS} {k4 : Int32 → Int32 → Int32 → Option Int32} (hk4 : ∀ (v1 : Int32) (v2 : Int32) (v3 : Int32), k4 v1 v2 v3 = some r → xG sc mX12_areAll d 0 0 (xR (some (.int r)) (xL0, u) 0 0) 0 0 4 [some (.ref 135), some (.int v1), some (.int v2), some (.int v3), none, none] [] (xL0, u)) (v1 : Int32) (v3 : Int32) (s0 : Int32) (h : f_X12_areAll_90 k4 u v1 v3 s0 = some r) : xG sc mX12_areAll d 0 0 (xR (some (.int r)) (xL0, u) 0 0) 0 0 90 [some (.ref 135), some (.int v1), none, some (.int v3), none, none] [.int s0] (xL0, u) := by
  rw [f_X12_areAll_90] at h
  refine g_istore_n (pc := 90) dX12_areAll_90 (Nat.le_of_ble_eq_true rfl) (L' := [some (.ref 135), some (.int v1), some (.int s0), some (.int v3), none, none]) rfl ?_
  refine g_inc (pc := 91) dX12_areAll_91 (Nat.le_of_ble_eq_true rfl) rfl ic_1 (L' := [some (.ref 135), some (.int v1), some (.int s0), some (.int (v3 + (1 : Int32))), none, none]) rfl ?_
  refine g_goto (tgt := 4) (pc := 94) dX12_areAll_94 (by decide) ?_
  exact hk4 v1 s0 (v3 + (1 : Int32)) h
set_option maxRecDepth 100000 in
set_option maxHeartbeats 4000000 in
theorem G_X12_areAll_89 {sc : Nat × (Nat → Int32)} {d : Nat} (hd : 0 ≤ d) {r : Int32} {u : xS} {k4 : Int32 → Int32 → Int32 → Option Int32} (hk4 : ∀ (v1 : Int32) (v2 : Int32) (v3 : Int32), k4 v1 v2 v3 = some r → xG sc mX12_areAll d 0 0 (xR (some (.int r)) (xL0, u) 0 0) 0 0 4 [some (.ref 135), some (.int v1), some (.int v2), some (.int v3), none, none] [] (xL0, u)) (v1 : Int32) (v3 : Int32) (h : f_X12_areAll_89 k4 u v1 v3 = some r) : xG sc mX12_areAll d 0 0 (xR (some (.int r)) (xL0, u) 0 0) 0 0 89 [some (.ref 135), some (.int v1), none, some (.int v3), none, none] [] (xL0, u) := by
  rw [f_X12_areAll_89] at h
  refine g_iconst (pc := 89) dX12_areAll_89 ic_0 ?_
  exact G_X12_areAll_90 hd hk4 v1 v3 (0 : Int32) h
set_option maxRecDepth 100000 in
set_option maxHeartbeats 4000000 in
theorem G_X12_areAll_68 {sc : Nat × (Nat → Int32)} {d : Nat} (hd : 0 ≤ d) {r : Int32} {u : xS} {k32 : Int32 → Int32 → Int32 → Int32 → Int32 → Option Int32} (hk32 : ∀ (v1 : Int32) (v2 : Int32) (v3 : Int32) (v4 : Int32) (v5 : Int32), k32 v1 v2 v3 v4 v5 = some r → xG sc mX12_areAll d 0 0 (xR (some (.int r)) (xL0, u) 0 0) 0 0 32 [some (.ref 135), some (.int v1), some (.int v2), some (.int v3), some (.int v4), some (.int v5)] [] (xL0, u)) {k4 : Int32 → Int32 → Int32 → Option Int32} (hk4 : ∀ (v1 : Int32) (v2 : Int32) (v3 : Int32), k4 v1 v2 v3 = some r → xG sc mX12_areAll d 0 0 (xR (some (.int r)) (xL0, u) 0 0) 0 0 4 [some (.ref 135), some (.int v1), some (.int v2), some (.int v3), none, none] [] (xL0, u)) (v1 : Int32) (v2 : Int32) (v3 : Int32) (v5 : Int32) (s0 : Int32) (h : f_X12_areAll_68 k32 k4 u v1 v2 v3 v5 s0 = some r) : xG sc mX12_areAll d 0 0 (xR (some (.int r)) (xL0, u) 0 0) 0 0 68 [some (.ref 135), some (.int v1), some (.int v2), some (.int v3), none, some (.int v5)] [.int s0] (xL0, u) := by
  rw [f_X12_areAll_68] at h
  refine g_istore (pc := 68) dX12_areAll_68 (Nat.le_of_ble_eq_true rfl) (L' := [some (.ref 135), some (.int v1), some (.int v2), some (.int v3), some (.int s0), some (.int v5)]) rfl ?_
  refine g_inc (pc := 70) dX12_areAll_70 (Nat.le_of_ble_eq_true rfl) rfl ic_1 (L' := [some (.ref 135), some (.int v1), some (.int v2), some (.int v3), some (.int s0), some (.int (v5 + (1 : Int32)))]) rfl ?_
  refine g_goto (tgt := 32) (pc := 73) dX12_areAll_73 (by decide) ?_
  exact hk32 v1 v2 v3 s0 (v5 + (1 : Int32)) h
set_option maxRecDepth 100000 in
set_option maxHeartbeats 4000000 in
theorem G_X12_areAll_63 {sc : Nat × (Nat → Int32)} {d : Nat} (hd : 0 ≤ d) {r : Int32} {u : xS} {k32 : Int32 → Int32 → Int32 → Int32 → Int32 → Option Int32} (hk32 : ∀ (v1 : Int32) (v2 : Int32) (v3 : Int32) (v4 : Int32) (v5 : Int32), k32 v1 v2 v3 v4 v5 = some r → xG sc mX12_areAll d 0 0 (xR (some (.int r)) (xL0, u) 0 0) 0 0 32 [some (.ref 135), some (.int v1), some (.int v2), some (.int v3), some (.int v4), some (.int v5)] [] (xL0, u)) {k4 : Int32 → Int32 → Int32 → Option Int32} (hk4 : ∀ (v1 : Int32) (v2 : Int32) (v3 : Int32), k4 v1 v2 v3 = some r → xG sc mX12_areAll d 0 0 (xR (some (.int r)) (xL0, u) 0 0) 0 0 4 [some (.ref 135), some (.int v1), some (.int v2), some (.int v3), none, none] [] (xL0, u)) (v1 : Int32) (v2 : Int32) (v3 : Int32) (v5 : Int32) (h : f_X12_areAll_63 k32 k4 u v1 v2 v3 v5 = some r) : xG sc mX12_areAll d 0 0 (xR (some (.int r)) (xL0, u) 0 0) 0 0 63 [some (.ref 135), some (.int v1), some (.int v2), some (.int v3), none, some (.int v5)] [] (xL0, u) := by
  rw [f_X12_areAll_63] at h
  refine g_iconst (pc := 63) dX12_areAll_63 ic_1 ?_
  refine g_goto (tgt := 68) (pc := 64) dX12_areAll_64 (by decide) ?_
  exact G_X12_areAll_68 hd hk32 hk4 v1 v2 v3 v5 (1 : Int32) h
set_option maxRecDepth 100000 in
set_option maxHeartbeats 4000000 in
theorem G_X12_areAll_32 {sc : Nat × (Nat → Int32)} {d : Nat} (hd : 0 ≤ d) {r : Int32} {u : xS} {k4 : Int32 → Int32 → Int32 → Option Int32} (hk4 : ∀ (v1 : Int32) (v2 : Int32) (v3 : Int32), k4 v1 v2 v3 = some r → xG sc mX12_areAll d 0 0 (xR (some (.int r)) (xL0, u) 0 0) 0 0 4 [some (.ref 135), some (.int v1), some (.int v2), some (.int v3), none, none] [] (xL0, u)) : ∀ (n : Nat) (v1 : Int32) (v2 : Int32) (v3 : Int32) (v4 : Int32) (v5 : Int32), f_X12_areAll_32 k4 u n v1 v2 v3 v4 v5 = some r → xG sc mX12_areAll d 0 0 (xR (some (.int r)) (xL0, u) 0 0) 0 0 32 [some (.ref 135), some (.int v1), some (.int v2), some (.int v3), some (.int v4), some (.int v5)] [] (xL0, u) := by
  intro n
  induction n with
  | zero =>
    intro v1 v2 v3 v4 v5 h
    rw [f_X12_areAll_32] at h
    cases h
  | succ n ih =>
    intro v1 v2 v3 v4 v5 h
    rw [f_X12_areAll_32] at h
    refine g_iload (pc := 32) dX12_areAll_32 rfl ?_
    refine g_iload_n (pc := 34) dX12_areAll_34 rfl ?_
    refine g_icmp_ge (tgt := 76) (pc := 35) dX12_areAll_35 (by decide) (fun c1 => ?_) (fun c1 => ?_)
    · replace h := (if_pos c1).symm.trans h
      refine g_iload_n (pc := 76) dX12_areAll_76 rfl ?_
      refine g_if_eq (tgt := 89) (pc := 77) dX12_areAll_77 (by decide) (fun c2 => ?_) (fun c2 => ?_)
      · replace h := (if_pos c2).symm.trans h
        refine g_L (L' := [some (.ref 135), some (.int v1), none, some (.int v3), none, none]) ⟨rfl, ⟨rfl, ⟨rfl, trivial⟩⟩⟩ ?_
        exact G_X12_areAll_89 hd hk4 v1 v3 h
      · replace h := (if_neg c2).symm.trans h
        refine g_iload (pc := 80) dX12_areAll_80 rfl ?_
        refine g_if_eq (tgt := 89) (pc := 82) dX12_areAll_82 (by decide) (fun c3 => ?_) (fun c3 => ?_)
        · replace h := (if_pos c3).symm.trans h
          refine g_L (L' := [some (.ref 135), some (.int v1), none, some (.int v3), none, none]) ⟨rfl, ⟨rfl, ⟨rfl, trivial⟩⟩⟩ ?_
          exact G_X12_areAll_89 hd hk4 v1 v3 h
        · replace h := (if_neg c3).symm.trans h
          refine g_iconst (pc := 85) dX12_areAll_85 ic_1 ?_
          refine g_goto (tgt := 90) (pc := 86) dX12_areAll_86 (by decide) ?_
          refine g_L (L' := [some (.ref 135), some (.int v1), none, some (.int v3), none, none]) ⟨rfl, ⟨rfl, ⟨rfl, trivial⟩⟩⟩ ?_
          exact G_X12_areAll_90 hd hk4 v1 v3 (1 : Int32) h
    · replace h := (if_neg c1).symm.trans h
      refine g_iload (pc := 38) dX12_areAll_38 rfl ?_
      refine g_if_ne (tgt := 63) (pc := 40) dX12_areAll_40 (by decide) (fun c4 => ?_) (fun c4 => ?_)
      · replace h := (if_neg c4).symm.trans h
        refine g_L (L' := [some (.ref 135), some (.int v1), some (.int v2), some (.int v3), none, some (.int v5)]) ⟨rfl, ⟨rfl, ⟨rfl, ⟨rfl, ⟨rfl, trivial⟩⟩⟩⟩⟩ ?_
        exact G_X12_areAll_63 hd ih hk4 v1 v2 v3 v5 h
      · replace h := (if_pos c4).symm.trans h
        refine g_aload_n (pc := 43) dX12_areAll_43 rfl ?_
        refine g_gR (pc := 44) dX12_areAll_44 fR_RX12_90 xc_135 (v := 161) rfl ?_
        refine g_bipush (pc := 47) dX12_areAll_47 bp_24 ?_
        refine g_iload_n (pc := 49) dX12_areAll_49 rfl ?_
        refine g_imul (pc := 50) dX12_areAll_50 rfl ?_
        refine g_aload_n (pc := 51) dX12_areAll_51 rfl ?_
        refine g_gR (pc := 52) dX12_areAll_52 fR_RX12_105 xc_135 (v := 166) rfl ?_
        refine g_iload (pc := 55) dX12_areAll_55 rfl ?_
        obtain ⟨g5, h⟩ := x_gd h
        refine g_iaload (pc := 57) dX12_areAll_57 xc_166 (xin_of g5) (v := (rd u 166 v5.toNatClampNeg)) rfl ?_
        refine g_iadd (pc := 58) dX12_areAll_58 rfl ?_
        obtain ⟨g6, h⟩ := x_gd h
        refine g_iaload (pc := 59) dX12_areAll_59 xc_161 (xin_of g6) (v := (rd u 161 (((24 : Int32) * v3) + (rd u 166 v5.toNatClampNeg)).toNatClampNeg)) rfl ?_
        refine g_if_le (tgt := 67) (pc := 60) dX12_areAll_60 (by decide) (fun c7 => ?_) (fun c7 => ?_)
        · replace h := (if_pos c7).symm.trans h
          refine g_iconst (pc := 67) dX12_areAll_67 ic_0 ?_
          refine g_L (L' := [some (.ref 135), some (.int v1), some (.int v2), some (.int v3), none, some (.int v5)]) ⟨rfl, ⟨rfl, ⟨rfl, ⟨rfl, ⟨rfl, trivial⟩⟩⟩⟩⟩ ?_
          exact G_X12_areAll_68 hd ih hk4 v1 v2 v3 v5 (0 : Int32) h
        · replace h := (if_neg c7).symm.trans h
          refine g_L (L' := [some (.ref 135), some (.int v1), some (.int v2), some (.int v3), none, some (.int v5)]) ⟨rfl, ⟨rfl, ⟨rfl, ⟨rfl, ⟨rfl, trivial⟩⟩⟩⟩⟩ ?_
          exact G_X12_areAll_63 hd ih hk4 v1 v2 v3 v5 h
set_option maxRecDepth 100000 in
set_option maxHeartbeats 4000000 in
theorem G_X12_areAll_27 {sc : Nat × (Nat → Int32)} {d : Nat} (hd : 0 ≤ d) {r : Int32} {u : xS} {k4 : Int32 → Int32 → Int32 → Option Int32} (hk4 : ∀ (v1 : Int32) (v2 : Int32) (v3 : Int32), k4 v1 v2 v3 = some r → xG sc mX12_areAll d 0 0 (xR (some (.int r)) (xL0, u) 0 0) 0 0 4 [some (.ref 135), some (.int v1), some (.int v2), some (.int v3), none, none] [] (xL0, u)) (v1 : Int32) (v2 : Int32) (v3 : Int32) (s0 : Int32) (h : f_X12_areAll_27 k4 u v1 v2 v3 s0 = some r) : xG sc mX12_areAll d 0 0 (xR (some (.int r)) (xL0, u) 0 0) 0 0 27 [some (.ref 135), some (.int v1), some (.int v2), some (.int v3), none, none] [.int s0] (xL0, u) := by
  rw [f_X12_areAll_27] at h
  refine g_istore (pc := 27) dX12_areAll_27 (Nat.le_of_ble_eq_true rfl) (L' := [some (.ref 135), some (.int v1), some (.int v2), some (.int v3), some (.int s0), none]) rfl ?_
  refine g_iconst (pc := 29) dX12_areAll_29 ic_0 ?_
  refine g_istore (pc := 30) dX12_areAll_30 (Nat.le_of_ble_eq_true rfl) (L' := [some (.ref 135), some (.int v1), some (.int v2), some (.int v3), some (.int s0), some (.int (0 : Int32))]) rfl ?_
  exact G_X12_areAll_32 hd hk4 xN v1 v2 v3 s0 (0 : Int32) h
set_option maxRecDepth 100000 in
set_option maxHeartbeats 4000000 in
theorem G_X12_areAll_4 {sc : Nat × (Nat → Int32)} {d : Nat} (hd : 0 ≤ d) {r : Int32} {u : xS} : ∀ (n : Nat) (v1 : Int32) (v2 : Int32) (v3 : Int32), f_X12_areAll_4 u n v1 v2 v3 = some r → xG sc mX12_areAll d 0 0 (xR (some (.int r)) (xL0, u) 0 0) 0 0 4 [some (.ref 135), some (.int v1), some (.int v2), some (.int v3), none, none] [] (xL0, u) := by
  intro n
  induction n with
  | zero =>
    intro v1 v2 v3 h
    rw [f_X12_areAll_4] at h
    cases h
  | succ n ih =>
    intro v1 v2 v3 h
    rw [f_X12_areAll_4] at h
    refine g_iload_n (pc := 4) dX12_areAll_4 rfl ?_
    refine g_aload_n (pc := 5) dX12_areAll_5 rfl ?_
    refine g_gI (pc := 6) dX12_areAll_6 fI_RX12_223 xc_135 (v := (rd u 135 37)) rfl ?_
    refine g_icmp_ge (tgt := 97) (pc := 9) dX12_areAll_9 (by decide) (fun c1 => ?_) (fun c1 => ?_)
    · replace h := (if_pos c1).symm.trans h
      refine g_iload_n (pc := 97) dX12_areAll_97 rfl ?_
      obtain ⟨g2, h⟩ := x_gd h
      cases h
      exact g_zret (pc := 98) dX12_areAll_98 rfl (xb_of g2) rfl rfl (Nat.le_refl _) (Nat.le_refl _)
    · replace h := (if_neg c1).symm.trans h
      refine g_aload_n (pc := 12) dX12_areAll_12 rfl ?_
      refine g_gR (pc := 13) dX12_areAll_13 fR_RX12_93 xc_135 (v := 162) rfl ?_
      refine g_iload_n (pc := 16) dX12_areAll_16 rfl ?_
      obtain ⟨g3, h⟩ := x_gd h
      refine g_iaload (pc := 17) dX12_areAll_17 xc_162 (xin_of g3) (v := (rd u 162 v3.toNatClampNeg)) rfl ?_
      refine g_iconst (pc := 18) dX12_areAll_18 ic_1 ?_
      refine g_icmp_eq (tgt := 26) (pc := 19) dX12_areAll_19 (by decide) (fun c4 => ?_) (fun c4 => ?_)
      · replace h := (if_pos c4).symm.trans h
        refine g_iconst (pc := 26) dX12_areAll_26 ic_0 ?_
        exact G_X12_areAll_27 hd ih v1 v2 v3 (0 : Int32) h
      · replace h := (if_neg c4).symm.trans h
        refine g_iconst (pc := 22) dX12_areAll_22 ic_1 ?_
        refine g_goto (tgt := 27) (pc := 23) dX12_areAll_23 (by decide) ?_
        exact G_X12_areAll_27 hd ih v1 v2 v3 (1 : Int32) h
set_option maxRecDepth 100000 in
set_option maxHeartbeats 4000000 in
theorem G_X12_areAll_0 {sc : Nat × (Nat → Int32)} {d : Nat} (hd : 0 ≤ d) {r : Int32} {u : xS} (v1 : Int32) (h : f_X12_areAll u v1 = some r) : xG sc mX12_areAll d 0 0 (xR (some (.int r)) (xL0, u) 0 0) 0 0 0 [some (.ref 135), some (.int v1), none, none, none, none] [] (xL0, u) := by
  rw [f_X12_areAll] at h
  refine g_iconst (pc := 0) dX12_areAll_0 ic_1 ?_
  refine g_istore_n (pc := 1) dX12_areAll_1 (Nat.le_of_ble_eq_true rfl) (L' := [some (.ref 135), some (.int v1), some (.int (1 : Int32)), none, none, none]) rfl ?_
  refine g_iconst (pc := 2) dX12_areAll_2 ic_0 ?_
  refine g_istore_n (pc := 3) dX12_areAll_3 (Nat.le_of_ble_eq_true rfl) (L' := [some (.ref 135), some (.int v1), some (.int (1 : Int32)), some (.int (0 : Int32)), none, none]) rfl ?_
  exact G_X12_areAll_4 hd xN v1 (1 : Int32) (0 : Int32) h
set_option maxRecDepth 100000 in
set_option maxHeartbeats 4000000 in
theorem M_X12_areAll {sc : Nat × (Nat → Int32)} {d : Nat} (hd : 0 ≤ d) {r : Int32} {u : xS} {a1 : Int32} (h : f_X12_areAll u a1 = some r) : xMt sc mX12_areAll d 0 0 [.ref 135, .int a1] (xL0, u) (some (.int r)) (xL0, u) :=
  xMt.of (by decide +kernel) (Nat.le_of_ble_eq_true rfl) (L := [some (.ref 135), some (.int a1), none, none, none, none]) rfl ((G_X12_areAll_0 hd a1 h))
theorem zb_X12_in (v0 : Int64) (v2 : Int64) (v4 : Int64) : f_X12_in v0 v2 v4 = 0 ∨ f_X12_in v0 v2 v4 = 1 := by
  unfold f_X12_in
  (repeat' split) <;> first | exact Or.inl rfl | exact Or.inr rfl
set_option maxRecDepth 100000 in
set_option maxHeartbeats 4000000 in
theorem G_X12_in_0 {sc : Nat × (Nat → Int32)} {d : Nat} (hd : 0 ≤ d) {r : Int32} {u : xS} (v0 : Int64) (v2 : Int64) (v4 : Int64) (h : f_X12_in v0 v2 v4 = r) : xG sc mX12_in d 0 0 (xR (some (.int r)) (xL0, u) 0 0) 0 0 0 [some (.long v0), none, some (.long v2), none, some (.long v4), none] [] (xL0, u) := by
  rw [f_X12_in] at h
  refine g_lload_n (pc := 0) dX12_in_0 rfl ?_
  refine g_lload_n (pc := 1) dX12_in_1 rfl ?_
  refine g_lcmp (pc := 2) dX12_in_2 rfl ?_
  refine g_if_lt (tgt := 17) (pc := 3) dX12_in_3 (by decide) (fun c1 => ?_) (fun c1 => ?_)
  · replace h := (if_pos c1).symm.trans h
    refine g_iconst (pc := 17) dX12_in_17 ic_0 ?_
    subst h
    exact g_zret (pc := 18) dX12_in_18 rfl (Or.inl rfl) rfl rfl (Nat.le_refl _) (Nat.le_refl _)
  · replace h := (if_neg c1).symm.trans h
    refine g_lload_n (pc := 6) dX12_in_6 rfl ?_
    refine g_lload (pc := 7) dX12_in_7 rfl ?_
    refine g_lcmp (pc := 9) dX12_in_9 rfl ?_
    refine g_if_gt (tgt := 17) (pc := 10) dX12_in_10 (by decide) (fun c2 => ?_) (fun c2 => ?_)
    · replace h := (if_pos c2).symm.trans h
      refine g_iconst (pc := 17) dX12_in_17 ic_0 ?_
      subst h
      exact g_zret (pc := 18) dX12_in_18 rfl (Or.inl rfl) rfl rfl (Nat.le_refl _) (Nat.le_refl _)
    · replace h := (if_neg c2).symm.trans h
      refine g_iconst (pc := 13) dX12_in_13 ic_1 ?_
      refine g_goto (tgt := 18) (pc := 14) dX12_in_14 (by decide) ?_
      subst h
      exact g_zret (pc := 18) dX12_in_18 rfl (Or.inr rfl) rfl rfl (Nat.le_refl _) (Nat.le_refl _)
set_option maxRecDepth 100000 in
set_option maxHeartbeats 4000000 in
theorem M_X12_in {sc : Nat × (Nat → Int32)} {d : Nat} (hd : 0 ≤ d) {r : Int32} {u : xS} {a0 : Int64} {a2 : Int64} {a4 : Int64} (h : f_X12_in a0 a2 a4 = r) : xMt sc mX12_in d 0 0 [.long a0, .long a2, .long a4] (xL0, u) (some (.int r)) (xL0, u) :=
  xMt.of (by decide +kernel) (Nat.le_of_ble_eq_true rfl) (L := [some (.long a0), none, some (.long a2), none, some (.long a4), none]) rfl ((G_X12_in_0 hd a0 a2 a4 h))
