set_option maxRecDepth 100000 in
set_option maxHeartbeats 4000000 in
theorem G_X12_act_0 {sc : Nat × (Nat → Int32)} {d : Nat} (hd : 0 ≤ d) {r : Int32} {u : xS} (v0 : Int32) (h : f_X12_act v0 = r) : xG sc mX12_act d 0 0 (xR (some (.int r)) (xL0, u) 0 0) 0 0 0 [some (.int v0)] [] (xL0, u) := by
  rw [f_X12_act] at h
  refine g_iload_n (pc := 0) dX12_act_0 rfl ?_
  refine g_sipush (pc := 1) dX12_act_1 sp_200 ?_
  refine g_isub (pc := 4) dX12_act_4 rfl ?_
  subst h
  exact g_iret (pc := 5) dX12_act_5 rfl rfl rfl (Nat.le_refl _) (Nat.le_refl _)
set_option maxRecDepth 100000 in
set_option maxHeartbeats 4000000 in
theorem M_X12_act {sc : Nat × (Nat → Int32)} {d : Nat} (hd : 0 ≤ d) {r : Int32} {u : xS} {a0 : Int32} (h : f_X12_act a0 = r) : xMt sc mX12_act d 0 0 [.int a0] (xL0, u) (some (.int r)) (xL0, u) :=
  xMt.of (by decide +kernel) (by decide +kernel) (Nat.le_of_ble_eq_true rfl) (L := [some (.int a0)]) rfl ((G_X12_act_0 hd a0 h))
set_option maxRecDepth 100000 in
set_option maxHeartbeats 4000000 in
theorem G_X12_truth_0 {sc : Nat × (Nat → Int32)} {d : Nat} (hd : 0 ≤ d) {r : Int32} {u : xS} (v0 : Int32) (h : f_X12_truth v0 = r) : xG sc mX12_truth d 0 0 (xR (some (.int r)) (xL0, u) 0 0) 0 0 0 [some (.int v0)] [] (xL0, u) := by
  rw [f_X12_truth] at h
  refine g_iload_n (pc := 0) dX12_truth_0 rfl ?_
  refine g_if_eq (tgt := 8) (pc := 1) dX12_truth_1 (by decide) (fun c1 => ?_) (fun c1 => ?_)
  · replace h := (if_pos c1).symm.trans h
    refine g_iconst (pc := 8) dX12_truth_8 ic_0 ?_
    subst h
    exact g_iret (pc := 9) dX12_truth_9 rfl rfl rfl (Nat.le_refl _) (Nat.le_refl _)
  · replace h := (if_neg c1).symm.trans h
    refine g_iconst (pc := 4) dX12_truth_4 ic_1 ?_
    refine g_goto (tgt := 9) (pc := 5) dX12_truth_5 (by decide) ?_
    subst h
    exact g_iret (pc := 9) dX12_truth_9 rfl rfl rfl (Nat.le_refl _) (Nat.le_refl _)
set_option maxRecDepth 100000 in
set_option maxHeartbeats 4000000 in
theorem M_X12_truth {sc : Nat × (Nat → Int32)} {d : Nat} (hd : 0 ≤ d) {r : Int32} {u : xS} {a0 : Int32} (h : f_X12_truth a0 = r) : xMt sc mX12_truth d 0 0 [.int a0] (xL0, u) (some (.int r)) (xL0, u) :=
  xMt.of (by decide +kernel) (by decide +kernel) (Nat.le_of_ble_eq_true rfl) (L := [some (.int a0)]) rfl ((G_X12_truth_0 hd a0 h))
set_option maxRecDepth 100000 in
set_option maxHeartbeats 4000000 in
theorem G_X12_acted_211 {sc : Nat × (Nat → Int32)} {d : Nat} (hd : 1 ≤ d) {r : Int32} {u : xS} (s0 : Int32) (h : f_X12_acted_211 s0 = some r) : xG sc mX12_acted d 0 0 (xR (some (.int r)) (xL0, u) 0 0) 0 0 211 [none, none, none] [.int s0] (xL0, u) := by
  rw [f_X12_acted_211] at h
  refine g_cS (pc := 211) dX12_acted_211 cS_RX12_190 (M_X12_truth (Nat.le_refl _) rfl) (as := [.int s0]) (st := []) rfl rfl (Nat.le_of_ble_eq_true rfl) (Nat.le_trans (Nat.le_of_ble_eq_true rfl) hd) rfl ?_
  replace h := Option.some.inj h
  subst h
  exact g_iret (pc := 214) dX12_acted_214 rfl rfl rfl (Nat.le_refl _) (Nat.le_refl _)
set_option maxRecDepth 100000 in
set_option maxHeartbeats 4000000 in
theorem G_X12_acted_210 {sc : Nat × (Nat → Int32)} {d : Nat} (hd : 1 ≤ d) {r : Int32} {u : xS} (h : f_X12_acted_210 = some r) : xG sc mX12_acted d 0 0 (xR (some (.int r)) (xL0, u) 0 0) 0 0 210 [none, none, none] [] (xL0, u) := by
  rw [f_X12_acted_210] at h
  refine g_iconst (pc := 210) dX12_acted_210 ic_0 ?_
  exact G_X12_acted_211 hd (0 : Int32) h
set_option maxRecDepth 100000 in
set_option maxHeartbeats 4000000 in
theorem G_X12_acted_228 {sc : Nat × (Nat → Int32)} {d : Nat} (hd : 1 ≤ d) {r : Int32} {u : xS} (s0 : Int32) (h : f_X12_acted_228 s0 = some r) : xG sc mX12_acted d 0 0 (xR (some (.int r)) (xL0, u) 0 0) 0 0 228 [none, none, none] [.int s0] (xL0, u) := by
  rw [f_X12_acted_228] at h
  refine g_cS (pc := 228) dX12_acted_228 cS_RX12_190 (M_X12_truth (Nat.le_refl _) rfl) (as := [.int s0]) (st := []) rfl rfl (Nat.le_of_ble_eq_true rfl) (Nat.le_trans (Nat.le_of_ble_eq_true rfl) hd) rfl ?_
  replace h := Option.some.inj h
  subst h
  exact g_iret (pc := 231) dX12_acted_231 rfl rfl rfl (Nat.le_refl _) (Nat.le_refl _)
set_option maxRecDepth 100000 in
set_option maxHeartbeats 4000000 in
theorem G_X12_acted_223 {sc : Nat × (Nat → Int32)} {d : Nat} (hd : 1 ≤ d) {r : Int32} {u : xS} (h : f_X12_acted_223 = some r) : xG sc mX12_acted d 0 0 (xR (some (.int r)) (xL0, u) 0 0) 0 0 223 [none, none, none] [] (xL0, u) := by
  rw [f_X12_acted_223] at h
  refine g_iconst (pc := 223) dX12_acted_223 ic_1 ?_
  refine g_goto (tgt := 228) (pc := 224) dX12_acted_224 (by decide) ?_
  exact G_X12_acted_228 hd (1 : Int32) h
set_option maxRecDepth 100000 in
set_option maxHeartbeats 4000000 in
theorem G_X12_acted_166 {sc : Nat × (Nat → Int32)} {d : Nat} (hd : 1 ≤ d) {r : Int32} {u : xS} (s0 : Int32) (h : f_X12_acted_166 s0 = some r) : xG sc mX12_acted d 0 0 (xR (some (.int r)) (xL0, u) 0 0) 0 0 166 [none, none, none] [.int s0] (xL0, u) := by
  rw [f_X12_acted_166] at h
  refine g_cS (pc := 166) dX12_acted_166 cS_RX12_190 (M_X12_truth (Nat.le_refl _) rfl) (as := [.int s0]) (st := []) rfl rfl (Nat.le_of_ble_eq_true rfl) (Nat.le_trans (Nat.le_of_ble_eq_true rfl) hd) rfl ?_
  replace h := Option.some.inj h
  subst h
  exact g_iret (pc := 169) dX12_acted_169 rfl rfl rfl (Nat.le_refl _) (Nat.le_refl _)
set_option maxRecDepth 100000 in
set_option maxHeartbeats 4000000 in
theorem G_X12_acted_194 {sc : Nat × (Nat → Int32)} {d : Nat} (hd : 1 ≤ d) {r : Int32} {u : xS} (s0 : Int32) (h : f_X12_acted_194 s0 = some r) : xG sc mX12_acted d 0 0 (xR (some (.int r)) (xL0, u) 0 0) 0 0 194 [none, none, none] [.int s0] (xL0, u) := by
  rw [f_X12_acted_194] at h
  refine g_cS (pc := 194) dX12_acted_194 cS_RX12_190 (M_X12_truth (Nat.le_refl _) rfl) (as := [.int s0]) (st := []) rfl rfl (Nat.le_of_ble_eq_true rfl) (Nat.le_trans (Nat.le_of_ble_eq_true rfl) hd) rfl ?_
  replace h := Option.some.inj h
  subst h
  exact g_iret (pc := 197) dX12_acted_197 rfl rfl rfl (Nat.le_refl _) (Nat.le_refl _)
set_option maxRecDepth 100000 in
set_option maxHeartbeats 4000000 in
theorem G_X12_acted_180 {sc : Nat × (Nat → Int32)} {d : Nat} (hd : 1 ≤ d) {r : Int32} {u : xS} (s0 : Int32) (h : f_X12_acted_180 s0 = some r) : xG sc mX12_acted d 0 0 (xR (some (.int r)) (xL0, u) 0 0) 0 0 180 [none, none, none] [.int s0] (xL0, u) := by
  rw [f_X12_acted_180] at h
  refine g_cS (pc := 180) dX12_acted_180 cS_RX12_190 (M_X12_truth (Nat.le_refl _) rfl) (as := [.int s0]) (st := []) rfl rfl (Nat.le_of_ble_eq_true rfl) (Nat.le_trans (Nat.le_of_ble_eq_true rfl) hd) rfl ?_
  replace h := Option.some.inj h
  subst h
  exact g_iret (pc := 183) dX12_acted_183 rfl rfl rfl (Nat.le_refl _) (Nat.le_refl _)
set_option maxRecDepth 100000 in
set_option maxHeartbeats 4000000 in
theorem G_X12_acted_0 {sc : Nat × (Nat → Int32)} {d : Nat} (hd : 1 ≤ d) {r : Int32} {u : xS} (v0 : Int32) (v1 : Int32) (v2 : Int32) (h : f_X12_acted v0 v1 v2 = some r) : xG sc mX12_acted d 0 0 (xR (some (.int r)) (xL0, u) 0 0) 0 0 0 [some (.int v0), some (.int v1), some (.int v2)] [] (xL0, u) := by
  rw [f_X12_acted] at h
  refine g_iload_n (pc := 0) dX12_acted_0 rfl ?_
  by_cases c1 : v0 = (37 : Int32)
  · replace h := (if_pos c1).symm.trans h
    refine g_tableIn (tgt := 136) (off := 135) (pc := 1) dX12_acted_1 (by rw [c1]; decide) (by rw [c1]; decide) (by rw [c1]; rfl) (by decide) ?_
    refine g_iload_n (pc := 136) dX12_acted_136 rfl ?_
    refine g_if_ne (tgt := 144) (pc := 137) dX12_acted_137 (by decide) (fun c2 => ?_) (fun c2 => ?_)
    · replace h := (if_neg c2).symm.trans h
      refine g_iload_n (pc := 144) dX12_acted_144 rfl ?_
      refine g_iload_n (pc := 145) dX12_acted_145 rfl ?_
      obtain ⟨g3, h⟩ := x_gd h
      refine g_irem (pc := 146) dX12_acted_146 (xnz_of g3) rfl ?_
      replace h := Option.some.inj h
      subst h
      exact g_iret (pc := 147) dX12_acted_147 rfl rfl rfl (Nat.le_refl _) (Nat.le_refl _)
    · replace h := (if_pos c2).symm.trans h
      refine g_iconst (pc := 140) dX12_acted_140 ic_0 ?_
      refine g_goto (tgt := 147) (pc := 141) dX12_acted_141 (by decide) ?_
      replace h := Option.some.inj h
      subst h
      exact g_iret (pc := 147) dX12_acted_147 rfl rfl rfl (Nat.le_refl _) (Nat.le_refl _)
  replace h := (if_neg c1).symm.trans h
  by_cases c4 : v0 = (38 : Int32)
  · replace h := (if_pos c4).symm.trans h
    refine g_tableIn (tgt := 198) (off := 197) (pc := 1) dX12_acted_1 (by rw [c4]; decide) (by rw [c4]; decide) (by rw [c4]; rfl) (by decide) ?_
    refine g_iload_n (pc := 198) dX12_acted_198 rfl ?_
    refine g_if_eq (tgt := 210) (pc := 199) dX12_acted_199 (by decide) (fun c5 => ?_) (fun c5 => ?_)
    · replace h := (if_pos c5).symm.trans h
      refine g_L (L' := [none, none, none]) trivial ?_
      exact G_X12_acted_210 hd h
    · replace h := (if_neg c5).symm.trans h
      refine g_iload_n (pc := 202) dX12_acted_202 rfl ?_
      refine g_if_eq (tgt := 210) (pc := 203) dX12_acted_203 (by decide) (fun c6 => ?_) (fun c6 => ?_)
      · replace h := (if_pos c6).symm.trans h
        refine g_L (L' := [none, none, none]) trivial ?_
        exact G_X12_acted_210 hd h
      · replace h := (if_neg c6).symm.trans h
        refine g_iconst (pc := 206) dX12_acted_206 ic_1 ?_
        refine g_goto (tgt := 211) (pc := 207) dX12_acted_207 (by decide) ?_
        refine g_L (L' := [none, none, none]) trivial ?_
        exact G_X12_acted_211 hd (1 : Int32) h
  replace h := (if_neg c4).symm.trans h
  by_cases c7 : v0 = (39 : Int32)
  · replace h := (if_pos c7).symm.trans h
    refine g_tableIn (tgt := 215) (off := 214) (pc := 1) dX12_acted_1 (by rw [c7]; decide) (by rw [c7]; decide) (by rw [c7]; rfl) (by decide) ?_
    refine g_iload_n (pc := 215) dX12_acted_215 rfl ?_
    refine g_if_ne (tgt := 223) (pc := 216) dX12_acted_216 (by decide) (fun c8 => ?_) (fun c8 => ?_)
    · replace h := (if_neg c8).symm.trans h
      refine g_L (L' := [none, none, none]) trivial ?_
      exact G_X12_acted_223 hd h
    · replace h := (if_pos c8).symm.trans h
      refine g_iload_n (pc := 219) dX12_acted_219 rfl ?_
      refine g_if_eq (tgt := 227) (pc := 220) dX12_acted_220 (by decide) (fun c9 => ?_) (fun c9 => ?_)
      · replace h := (if_pos c9).symm.trans h
        refine g_iconst (pc := 227) dX12_acted_227 ic_0 ?_
        refine g_L (L' := [none, none, none]) trivial ?_
        exact G_X12_acted_228 hd (0 : Int32) h
      · replace h := (if_neg c9).symm.trans h
        refine g_L (L' := [none, none, none]) trivial ?_
        exact G_X12_acted_223 hd h
  replace h := (if_neg c7).symm.trans h
  by_cases c10 : v0 = (40 : Int32)
  · replace h := (if_pos c10).symm.trans h
    refine g_tableIn (tgt := 215) (off := 214) (pc := 1) dX12_acted_1 (by rw [c10]; decide) (by rw [c10]; decide) (by rw [c10]; rfl) (by decide) ?_
    refine g_iload_n (pc := 215) dX12_acted_215 rfl ?_
    refine g_if_ne (tgt := 223) (pc := 216) dX12_acted_216 (by decide) (fun c11 => ?_) (fun c11 => ?_)
    · replace h := (if_neg c11).symm.trans h
      refine g_L (L' := [none, none, none]) trivial ?_
      exact G_X12_acted_223 hd h
    · replace h := (if_pos c11).symm.trans h
      refine g_iload_n (pc := 219) dX12_acted_219 rfl ?_
      refine g_if_eq (tgt := 227) (pc := 220) dX12_acted_220 (by decide) (fun c12 => ?_) (fun c12 => ?_)
      · replace h := (if_pos c12).symm.trans h
        refine g_iconst (pc := 227) dX12_acted_227 ic_0 ?_
        refine g_L (L' := [none, none, none]) trivial ?_
        exact G_X12_acted_228 hd (0 : Int32) h
      · replace h := (if_neg c12).symm.trans h
        refine g_L (L' := [none, none, none]) trivial ?_
        exact G_X12_acted_223 hd h
  replace h := (if_neg c10).symm.trans h
  by_cases c13 : v0 = (41 : Int32)
  · replace h := (if_pos c13).symm.trans h
    refine g_tableIn (tgt := 215) (off := 214) (pc := 1) dX12_acted_1 (by rw [c13]; decide) (by rw [c13]; decide) (by rw [c13]; rfl) (by decide) ?_
    refine g_iload_n (pc := 215) dX12_acted_215 rfl ?_
    refine g_if_ne (tgt := 223) (pc := 216) dX12_acted_216 (by decide) (fun c14 => ?_) (fun c14 => ?_)
    · replace h := (if_neg c14).symm.trans h
      refine g_L (L' := [none, none, none]) trivial ?_
      exact G_X12_acted_223 hd h
    · replace h := (if_pos c14).symm.trans h
      refine g_iload_n (pc := 219) dX12_acted_219 rfl ?_
      refine g_if_eq (tgt := 227) (pc := 220) dX12_acted_220 (by decide) (fun c15 => ?_) (fun c15 => ?_)
      · replace h := (if_pos c15).symm.trans h
        refine g_iconst (pc := 227) dX12_acted_227 ic_0 ?_
        refine g_L (L' := [none, none, none]) trivial ?_
        exact G_X12_acted_228 hd (0 : Int32) h
      · replace h := (if_neg c15).symm.trans h
        refine g_L (L' := [none, none, none]) trivial ?_
        exact G_X12_acted_223 hd h
  replace h := (if_neg c13).symm.trans h
  by_cases c16 : v0 = (42 : Int32)
  · replace h := (if_pos c16).symm.trans h
    refine g_tableIn (tgt := 120) (off := 119) (pc := 1) dX12_acted_1 (by rw [c16]; decide) (by rw [c16]; decide) (by rw [c16]; rfl) (by decide) ?_
    refine g_iload_n (pc := 120) dX12_acted_120 rfl ?_
    refine g_iload_n (pc := 121) dX12_acted_121 rfl ?_
    refine g_imul (pc := 122) dX12_acted_122 rfl ?_
    replace h := Option.some.inj h
    subst h
    exact g_iret (pc := 123) dX12_acted_123 rfl rfl rfl (Nat.le_refl _) (Nat.le_refl _)
  replace h := (if_neg c16).symm.trans h
  by_cases c17 : v0 = (43 : Int32)
  · replace h := (if_pos c17).symm.trans h
    refine g_tableIn (tgt := 148) (off := 147) (pc := 1) dX12_acted_1 (by rw [c17]; decide) (by rw [c17]; decide) (by rw [c17]; rfl) (by decide) ?_
    refine g_iload_n (pc := 148) dX12_acted_148 rfl ?_
    refine g_iload_n (pc := 149) dX12_acted_149 rfl ?_
    refine g_iadd (pc := 150) dX12_acted_150 rfl ?_
    replace h := Option.some.inj h
    subst h
    exact g_iret (pc := 151) dX12_acted_151 rfl rfl rfl (Nat.le_refl _) (Nat.le_refl _)
  replace h := (if_neg c17).symm.trans h
  by_cases c18 : v0 = (44 : Int32)
  · replace h := (if_pos c18).symm.trans h
    refine g_tableIn (tgt := 215) (off := 214) (pc := 1) dX12_acted_1 (by rw [c18]; decide) (by rw [c18]; decide) (by rw [c18]; rfl) (by decide) ?_
    refine g_iload_n (pc := 215) dX12_acted_215 rfl ?_
    refine g_if_ne (tgt := 223) (pc := 216) dX12_acted_216 (by decide) (fun c19 => ?_) (fun c19 => ?_)
    · replace h := (if_neg c19).symm.trans h
      refine g_L (L' := [none, none, none]) trivial ?_
      exact G_X12_acted_223 hd h
    · replace h := (if_pos c19).symm.trans h
      refine g_iload_n (pc := 219) dX12_acted_219 rfl ?_
      refine g_if_eq (tgt := 227) (pc := 220) dX12_acted_220 (by decide) (fun c20 => ?_) (fun c20 => ?_)
      · replace h := (if_pos c20).symm.trans h
        refine g_iconst (pc := 227) dX12_acted_227 ic_0 ?_
        refine g_L (L' := [none, none, none]) trivial ?_
        exact G_X12_acted_228 hd (0 : Int32) h
      · replace h := (if_neg c20).symm.trans h
        refine g_L (L' := [none, none, none]) trivial ?_
        exact G_X12_acted_223 hd h
  replace h := (if_neg c18).symm.trans h
  by_cases c21 : v0 = (45 : Int32)
  · replace h := (if_pos c21).symm.trans h
    refine g_tableIn (tgt := 152) (off := 151) (pc := 1) dX12_acted_1 (by rw [c21]; decide) (by rw [c21]; decide) (by rw [c21]; rfl) (by decide) ?_
    refine g_iload_n (pc := 152) dX12_acted_152 rfl ?_
    refine g_iload_n (pc := 153) dX12_acted_153 rfl ?_
    refine g_isub (pc := 154) dX12_acted_154 rfl ?_
    replace h := Option.some.inj h
    subst h
    exact g_iret (pc := 155) dX12_acted_155 rfl rfl rfl (Nat.le_refl _) (Nat.le_refl _)
  replace h := (if_neg c21).symm.trans h
  by_cases c22 : v0 = (46 : Int32)
  · replace h := (if_pos c22).symm.trans h
    refine g_tableIn (tgt := 215) (off := 214) (pc := 1) dX12_acted_1 (by rw [c22]; decide) (by rw [c22]; decide) (by rw [c22]; rfl) (by decide) ?_
    refine g_iload_n (pc := 215) dX12_acted_215 rfl ?_
    refine g_if_ne (tgt := 223) (pc := 216) dX12_acted_216 (by decide) (fun c23 => ?_) (fun c23 => ?_)
    · replace h := (if_neg c23).symm.trans h
      refine g_L (L' := [none, none, none]) trivial ?_
      exact G_X12_acted_223 hd h
    · replace h := (if_pos c23).symm.trans h
      refine g_iload_n (pc := 219) dX12_acted_219 rfl ?_
      refine g_if_eq (tgt := 227) (pc := 220) dX12_acted_220 (by decide) (fun c24 => ?_) (fun c24 => ?_)
      · replace h := (if_pos c24).symm.trans h
        refine g_iconst (pc := 227) dX12_acted_227 ic_0 ?_
        refine g_L (L' := [none, none, none]) trivial ?_
        exact G_X12_acted_228 hd (0 : Int32) h
      · replace h := (if_neg c24).symm.trans h
        refine g_L (L' := [none, none, none]) trivial ?_
        exact G_X12_acted_223 hd h
  replace h := (if_neg c22).symm.trans h
  by_cases c25 : v0 = (47 : Int32)
  · replace h := (if_pos c25).symm.trans h
    refine g_tableIn (tgt := 124) (off := 123) (pc := 1) dX12_acted_1 (by rw [c25]; decide) (by rw [c25]; decide) (by rw [c25]; rfl) (by decide) ?_
    refine g_iload_n (pc := 124) dX12_acted_124 rfl ?_
    refine g_if_ne (tgt := 132) (pc := 125) dX12_acted_125 (by decide) (fun c26 => ?_) (fun c26 => ?_)
    · replace h := (if_neg c26).symm.trans h
      refine g_iload_n (pc := 132) dX12_acted_132 rfl ?_
      refine g_iload_n (pc := 133) dX12_acted_133 rfl ?_
      obtain ⟨g27, h⟩ := x_gd h
      refine g_idiv (pc := 134) dX12_acted_134 (xnz_of g27) rfl ?_
      replace h := Option.some.inj h
      subst h
      exact g_iret (pc := 135) dX12_acted_135 rfl rfl rfl (Nat.le_refl _) (Nat.le_refl _)
    · replace h := (if_pos c26).symm.trans h
      refine g_iconst (pc := 128) dX12_acted_128 ic_0 ?_
      refine g_goto (tgt := 135) (pc := 129) dX12_acted_129 (by decide) ?_
      replace h := Option.some.inj h
      subst h
      exact g_iret (pc := 135) dX12_acted_135 rfl rfl rfl (Nat.le_refl _) (Nat.le_refl _)
  replace h := (if_neg c25).symm.trans h
  by_cases c28 : v0 = (48 : Int32)
  · replace h := (if_pos c28).symm.trans h
    refine g_tableIn (tgt := 215) (off := 214) (pc := 1) dX12_acted_1 (by rw [c28]; decide) (by rw [c28]; decide) (by rw [c28]; rfl) (by decide) ?_
    refine g_iload_n (pc := 215) dX12_acted_215 rfl ?_
    refine g_if_ne (tgt := 223) (pc := 216) dX12_acted_216 (by decide) (fun c29 => ?_) (fun c29 => ?_)
    · replace h := (if_neg c29).symm.trans h
      refine g_L (L' := [none, none, none]) trivial ?_
      exact G_X12_acted_223 hd h
    · replace h := (if_pos c29).symm.trans h
      refine g_iload_n (pc := 219) dX12_acted_219 rfl ?_
      refine g_if_eq (tgt := 227) (pc := 220) dX12_acted_220 (by decide) (fun c30 => ?_) (fun c30 => ?_)
      · replace h := (if_pos c30).symm.trans h
        refine g_iconst (pc := 227) dX12_acted_227 ic_0 ?_
        refine g_L (L' := [none, none, none]) trivial ?_
        exact G_X12_acted_228 hd (0 : Int32) h
      · replace h := (if_neg c30).symm.trans h
        refine g_L (L' := [none, none, none]) trivial ?_
        exact G_X12_acted_223 hd h
  replace h := (if_neg c28).symm.trans h
  by_cases c31 : v0 = (49 : Int32)
  · replace h := (if_pos c31).symm.trans h
    refine g_tableIn (tgt := 215) (off := 214) (pc := 1) dX12_acted_1 (by rw [c31]; decide) (by rw [c31]; decide) (by rw [c31]; rfl) (by decide) ?_
    refine g_iload_n (pc := 215) dX12_acted_215 rfl ?_
    refine g_if_ne (tgt := 223) (pc := 216) dX12_acted_216 (by decide) (fun c32 => ?_) (fun c32 => ?_)
    · replace h := (if_neg c32).symm.trans h
      refine g_L (L' := [none, none, none]) trivial ?_
      exact G_X12_acted_223 hd h
    · replace h := (if_pos c32).symm.trans h
      refine g_iload_n (pc := 219) dX12_acted_219 rfl ?_
      refine g_if_eq (tgt := 227) (pc := 220) dX12_acted_220 (by decide) (fun c33 => ?_) (fun c33 => ?_)
      · replace h := (if_pos c33).symm.trans h
        refine g_iconst (pc := 227) dX12_acted_227 ic_0 ?_
        refine g_L (L' := [none, none, none]) trivial ?_
        exact G_X12_acted_228 hd (0 : Int32) h
      · replace h := (if_neg c33).symm.trans h
        refine g_L (L' := [none, none, none]) trivial ?_
        exact G_X12_acted_223 hd h
  replace h := (if_neg c31).symm.trans h
  by_cases c34 : v0 = (50 : Int32)
  · replace h := (if_pos c34).symm.trans h
    refine g_tableIn (tgt := 215) (off := 214) (pc := 1) dX12_acted_1 (by rw [c34]; decide) (by rw [c34]; decide) (by rw [c34]; rfl) (by decide) ?_
    refine g_iload_n (pc := 215) dX12_acted_215 rfl ?_
    refine g_if_ne (tgt := 223) (pc := 216) dX12_acted_216 (by decide) (fun c35 => ?_) (fun c35 => ?_)
    · replace h := (if_neg c35).symm.trans h
      refine g_L (L' := [none, none, none]) trivial ?_
      exact G_X12_acted_223 hd h
    · replace h := (if_pos c35).symm.trans h
      refine g_iload_n (pc := 219) dX12_acted_219 rfl ?_
      refine g_if_eq (tgt := 227) (pc := 220) dX12_acted_220 (by decide) (fun c36 => ?_) (fun c36 => ?_)
      · replace h := (if_pos c36).symm.trans h
        refine g_iconst (pc := 227) dX12_acted_227 ic_0 ?_
        refine g_L (L' := [none, none, none]) trivial ?_
        exact G_X12_acted_228 hd (0 : Int32) h
      · replace h := (if_neg c36).symm.trans h
        refine g_L (L' := [none, none, none]) trivial ?_
        exact G_X12_acted_223 hd h
  replace h := (if_neg c34).symm.trans h
  by_cases c37 : v0 = (51 : Int32)
  · replace h := (if_pos c37).symm.trans h
    refine g_tableIn (tgt := 215) (off := 214) (pc := 1) dX12_acted_1 (by rw [c37]; decide) (by rw [c37]; decide) (by rw [c37]; rfl) (by decide) ?_
    refine g_iload_n (pc := 215) dX12_acted_215 rfl ?_
    refine g_if_ne (tgt := 223) (pc := 216) dX12_acted_216 (by decide) (fun c38 => ?_) (fun c38 => ?_)
    · replace h := (if_neg c38).symm.trans h
      refine g_L (L' := [none, none, none]) trivial ?_
      exact G_X12_acted_223 hd h
    · replace h := (if_pos c38).symm.trans h
      refine g_iload_n (pc := 219) dX12_acted_219 rfl ?_
      refine g_if_eq (tgt := 227) (pc := 220) dX12_acted_220 (by decide) (fun c39 => ?_) (fun c39 => ?_)
      · replace h := (if_pos c39).symm.trans h
        refine g_iconst (pc := 227) dX12_acted_227 ic_0 ?_
        refine g_L (L' := [none, none, none]) trivial ?_
        exact G_X12_acted_228 hd (0 : Int32) h
      · replace h := (if_neg c39).symm.trans h
        refine g_L (L' := [none, none, none]) trivial ?_
        exact G_X12_acted_223 hd h
  replace h := (if_neg c37).symm.trans h
  by_cases c40 : v0 = (52 : Int32)
  · replace h := (if_pos c40).symm.trans h
    refine g_tableIn (tgt := 215) (off := 214) (pc := 1) dX12_acted_1 (by rw [c40]; decide) (by rw [c40]; decide) (by rw [c40]; rfl) (by decide) ?_
    refine g_iload_n (pc := 215) dX12_acted_215 rfl ?_
    refine g_if_ne (tgt := 223) (pc := 216) dX12_acted_216 (by decide) (fun c41 => ?_) (fun c41 => ?_)
    · replace h := (if_neg c41).symm.trans h
      refine g_L (L' := [none, none, none]) trivial ?_
      exact G_X12_acted_223 hd h
    · replace h := (if_pos c41).symm.trans h
      refine g_iload_n (pc := 219) dX12_acted_219 rfl ?_
      refine g_if_eq (tgt := 227) (pc := 220) dX12_acted_220 (by decide) (fun c42 => ?_) (fun c42 => ?_)
      · replace h := (if_pos c42).symm.trans h
        refine g_iconst (pc := 227) dX12_acted_227 ic_0 ?_
        refine g_L (L' := [none, none, none]) trivial ?_
        exact G_X12_acted_228 hd (0 : Int32) h
      · replace h := (if_neg c42).symm.trans h
        refine g_L (L' := [none, none, none]) trivial ?_
        exact G_X12_acted_223 hd h
  replace h := (if_neg c40).symm.trans h
  by_cases c43 : v0 = (53 : Int32)
  · replace h := (if_pos c43).symm.trans h
    refine g_tableIn (tgt := 215) (off := 214) (pc := 1) dX12_acted_1 (by rw [c43]; decide) (by rw [c43]; decide) (by rw [c43]; rfl) (by decide) ?_
    refine g_iload_n (pc := 215) dX12_acted_215 rfl ?_
    refine g_if_ne (tgt := 223) (pc := 216) dX12_acted_216 (by decide) (fun c44 => ?_) (fun c44 => ?_)
    · replace h := (if_neg c44).symm.trans h
      refine g_L (L' := [none, none, none]) trivial ?_
      exact G_X12_acted_223 hd h
    · replace h := (if_pos c44).symm.trans h
      refine g_iload_n (pc := 219) dX12_acted_219 rfl ?_
      refine g_if_eq (tgt := 227) (pc := 220) dX12_acted_220 (by decide) (fun c45 => ?_) (fun c45 => ?_)
      · replace h := (if_pos c45).symm.trans h
        refine g_iconst (pc := 227) dX12_acted_227 ic_0 ?_
        refine g_L (L' := [none, none, none]) trivial ?_
        exact G_X12_acted_228 hd (0 : Int32) h
      · replace h := (if_neg c45).symm.trans h
        refine g_L (L' := [none, none, none]) trivial ?_
        exact G_X12_acted_223 hd h
  replace h := (if_neg c43).symm.trans h
  by_cases c46 : v0 = (54 : Int32)
  · replace h := (if_pos c46).symm.trans h
    refine g_tableIn (tgt := 215) (off := 214) (pc := 1) dX12_acted_1 (by rw [c46]; decide) (by rw [c46]; decide) (by rw [c46]; rfl) (by decide) ?_
    refine g_iload_n (pc := 215) dX12_acted_215 rfl ?_
    refine g_if_ne (tgt := 223) (pc := 216) dX12_acted_216 (by decide) (fun c47 => ?_) (fun c47 => ?_)
    · replace h := (if_neg c47).symm.trans h
      refine g_L (L' := [none, none, none]) trivial ?_
      exact G_X12_acted_223 hd h
    · replace h := (if_pos c47).symm.trans h
      refine g_iload_n (pc := 219) dX12_acted_219 rfl ?_
      refine g_if_eq (tgt := 227) (pc := 220) dX12_acted_220 (by decide) (fun c48 => ?_) (fun c48 => ?_)
      · replace h := (if_pos c48).symm.trans h
        refine g_iconst (pc := 227) dX12_acted_227 ic_0 ?_
        refine g_L (L' := [none, none, none]) trivial ?_
        exact G_X12_acted_228 hd (0 : Int32) h
      · replace h := (if_neg c48).symm.trans h
        refine g_L (L' := [none, none, none]) trivial ?_
        exact G_X12_acted_223 hd h
  replace h := (if_neg c46).symm.trans h
  by_cases c49 : v0 = (55 : Int32)
  · replace h := (if_pos c49).symm.trans h
    refine g_tableIn (tgt := 215) (off := 214) (pc := 1) dX12_acted_1 (by rw [c49]; decide) (by rw [c49]; decide) (by rw [c49]; rfl) (by decide) ?_
    refine g_iload_n (pc := 215) dX12_acted_215 rfl ?_
    refine g_if_ne (tgt := 223) (pc := 216) dX12_acted_216 (by decide) (fun c50 => ?_) (fun c50 => ?_)
    · replace h := (if_neg c50).symm.trans h
      refine g_L (L' := [none, none, none]) trivial ?_
      exact G_X12_acted_223 hd h
    · replace h := (if_pos c50).symm.trans h
      refine g_iload_n (pc := 219) dX12_acted_219 rfl ?_
      refine g_if_eq (tgt := 227) (pc := 220) dX12_acted_220 (by decide) (fun c51 => ?_) (fun c51 => ?_)
      · replace h := (if_pos c51).symm.trans h
        refine g_iconst (pc := 227) dX12_acted_227 ic_0 ?_
        refine g_L (L' := [none, none, none]) trivial ?_
        exact G_X12_acted_228 hd (0 : Int32) h
      · replace h := (if_neg c51).symm.trans h
        refine g_L (L' := [none, none, none]) trivial ?_
        exact G_X12_acted_223 hd h
  replace h := (if_neg c49).symm.trans h
  by_cases c52 : v0 = (56 : Int32)
  · replace h := (if_pos c52).symm.trans h
    refine g_tableIn (tgt := 215) (off := 214) (pc := 1) dX12_acted_1 (by rw [c52]; decide) (by rw [c52]; decide) (by rw [c52]; rfl) (by decide) ?_
    refine g_iload_n (pc := 215) dX12_acted_215 rfl ?_
    refine g_if_ne (tgt := 223) (pc := 216) dX12_acted_216 (by decide) (fun c53 => ?_) (fun c53 => ?_)
    · replace h := (if_neg c53).symm.trans h
      refine g_L (L' := [none, none, none]) trivial ?_
      exact G_X12_acted_223 hd h
    · replace h := (if_pos c53).symm.trans h
      refine g_iload_n (pc := 219) dX12_acted_219 rfl ?_
      refine g_if_eq (tgt := 227) (pc := 220) dX12_acted_220 (by decide) (fun c54 => ?_) (fun c54 => ?_)
      · replace h := (if_pos c54).symm.trans h
        refine g_iconst (pc := 227) dX12_acted_227 ic_0 ?_
        refine g_L (L' := [none, none, none]) trivial ?_
        exact G_X12_acted_228 hd (0 : Int32) h
      · replace h := (if_neg c54).symm.trans h
        refine g_L (L' := [none, none, none]) trivial ?_
        exact G_X12_acted_223 hd h
  replace h := (if_neg c52).symm.trans h
  by_cases c55 : v0 = (57 : Int32)
  · replace h := (if_pos c55).symm.trans h
    refine g_tableIn (tgt := 215) (off := 214) (pc := 1) dX12_acted_1 (by rw [c55]; decide) (by rw [c55]; decide) (by rw [c55]; rfl) (by decide) ?_
    refine g_iload_n (pc := 215) dX12_acted_215 rfl ?_
    refine g_if_ne (tgt := 223) (pc := 216) dX12_acted_216 (by decide) (fun c56 => ?_) (fun c56 => ?_)
    · replace h := (if_neg c56).symm.trans h
      refine g_L (L' := [none, none, none]) trivial ?_
      exact G_X12_acted_223 hd h
    · replace h := (if_pos c56).symm.trans h
      refine g_iload_n (pc := 219) dX12_acted_219 rfl ?_
      refine g_if_eq (tgt := 227) (pc := 220) dX12_acted_220 (by decide) (fun c57 => ?_) (fun c57 => ?_)
      · replace h := (if_pos c57).symm.trans h
        refine g_iconst (pc := 227) dX12_acted_227 ic_0 ?_
        refine g_L (L' := [none, none, none]) trivial ?_
        exact G_X12_acted_228 hd (0 : Int32) h
      · replace h := (if_neg c57).symm.trans h
        refine g_L (L' := [none, none, none]) trivial ?_
        exact G_X12_acted_223 hd h
  replace h := (if_neg c55).symm.trans h
  by_cases c58 : v0 = (58 : Int32)
  · replace h := (if_pos c58).symm.trans h
    refine g_tableIn (tgt := 215) (off := 214) (pc := 1) dX12_acted_1 (by rw [c58]; decide) (by rw [c58]; decide) (by rw [c58]; rfl) (by decide) ?_
    refine g_iload_n (pc := 215) dX12_acted_215 rfl ?_
    refine g_if_ne (tgt := 223) (pc := 216) dX12_acted_216 (by decide) (fun c59 => ?_) (fun c59 => ?_)
    · replace h := (if_neg c59).symm.trans h
      refine g_L (L' := [none, none, none]) trivial ?_
      exact G_X12_acted_223 hd h
    · replace h := (if_pos c59).symm.trans h
      refine g_iload_n (pc := 219) dX12_acted_219 rfl ?_
      refine g_if_eq (tgt := 227) (pc := 220) dX12_acted_220 (by decide) (fun c60 => ?_) (fun c60 => ?_)
      · replace h := (if_pos c60).symm.trans h
        refine g_iconst (pc := 227) dX12_acted_227 ic_0 ?_
        refine g_L (L' := [none, none, none]) trivial ?_
        exact G_X12_acted_228 hd (0 : Int32) h
      · replace h := (if_neg c60).symm.trans h
        refine g_L (L' := [none, none, none]) trivial ?_
        exact G_X12_acted_223 hd h
  replace h := (if_neg c58).symm.trans h
  by_cases c61 : v0 = (59 : Int32)
  · replace h := (if_pos c61).symm.trans h
    refine g_tableIn (tgt := 215) (off := 214) (pc := 1) dX12_acted_1 (by rw [c61]; decide) (by rw [c61]; decide) (by rw [c61]; rfl) (by decide) ?_
    refine g_iload_n (pc := 215) dX12_acted_215 rfl ?_
    refine g_if_ne (tgt := 223) (pc := 216) dX12_acted_216 (by decide) (fun c62 => ?_) (fun c62 => ?_)
    · replace h := (if_neg c62).symm.trans h
      refine g_L (L' := [none, none, none]) trivial ?_
      exact G_X12_acted_223 hd h
    · replace h := (if_pos c62).symm.trans h
      refine g_iload_n (pc := 219) dX12_acted_219 rfl ?_
      refine g_if_eq (tgt := 227) (pc := 220) dX12_acted_220 (by decide) (fun c63 => ?_) (fun c63 => ?_)
      · replace h := (if_pos c63).symm.trans h
        refine g_iconst (pc := 227) dX12_acted_227 ic_0 ?_
        refine g_L (L' := [none, none, none]) trivial ?_
        exact G_X12_acted_228 hd (0 : Int32) h
      · replace h := (if_neg c63).symm.trans h
        refine g_L (L' := [none, none, none]) trivial ?_
        exact G_X12_acted_223 hd h
  replace h := (if_neg c61).symm.trans h
  by_cases c64 : v0 = (60 : Int32)
  · replace h := (if_pos c64).symm.trans h
    refine g_tableIn (tgt := 156) (off := 155) (pc := 1) dX12_acted_1 (by rw [c64]; decide) (by rw [c64]; decide) (by rw [c64]; rfl) (by decide) ?_
    refine g_iload_n (pc := 156) dX12_acted_156 rfl ?_
    refine g_iload_n (pc := 157) dX12_acted_157 rfl ?_
    refine g_icmp_ge (tgt := 165) (pc := 158) dX12_acted_158 (by decide) (fun c65 => ?_) (fun c65 => ?_)
    · replace h := (if_pos c65).symm.trans h
      refine g_iconst (pc := 165) dX12_acted_165 ic_0 ?_
      refine g_L (L' := [none, none, none]) trivial ?_
      exact G_X12_acted_166 hd (0 : Int32) h
    · replace h := (if_neg c65).symm.trans h
      refine g_iconst (pc := 161) dX12_acted_161 ic_1 ?_
      refine g_goto (tgt := 166) (pc := 162) dX12_acted_162 (by decide) ?_
      refine g_L (L' := [none, none, none]) trivial ?_
      exact G_X12_acted_166 hd (1 : Int32) h
  replace h := (if_neg c64).symm.trans h
  by_cases c66 : v0 = (61 : Int32)
  · replace h := (if_pos c66).symm.trans h
    refine g_tableIn (tgt := 184) (off := 183) (pc := 1) dX12_acted_1 (by rw [c66]; decide) (by rw [c66]; decide) (by rw [c66]; rfl) (by decide) ?_
    refine g_iload_n (pc := 184) dX12_acted_184 rfl ?_
    refine g_iload_n (pc := 185) dX12_acted_185 rfl ?_
    refine g_icmp_ne (tgt := 193) (pc := 186) dX12_acted_186 (by decide) (fun c67 => ?_) (fun c67 => ?_)
    · replace h := (if_neg c67).symm.trans h
      refine g_iconst (pc := 193) dX12_acted_193 ic_0 ?_
      refine g_L (L' := [none, none, none]) trivial ?_
      exact G_X12_acted_194 hd (0 : Int32) h
    · replace h := (if_pos c67).symm.trans h
      refine g_iconst (pc := 189) dX12_acted_189 ic_1 ?_
      refine g_goto (tgt := 194) (pc := 190) dX12_acted_190 (by decide) ?_
      refine g_L (L' := [none, none, none]) trivial ?_
      exact G_X12_acted_194 hd (1 : Int32) h
  replace h := (if_neg c66).symm.trans h
  by_cases c68 : v0 = (62 : Int32)
  · replace h := (if_pos c68).symm.trans h
    refine g_tableIn (tgt := 170) (off := 169) (pc := 1) dX12_acted_1 (by rw [c68]; decide) (by rw [c68]; decide) (by rw [c68]; rfl) (by decide) ?_
    refine g_iload_n (pc := 170) dX12_acted_170 rfl ?_
    refine g_iload_n (pc := 171) dX12_acted_171 rfl ?_
    refine g_icmp_le (tgt := 179) (pc := 172) dX12_acted_172 (by decide) (fun c69 => ?_) (fun c69 => ?_)
    · replace h := (if_pos c69).symm.trans h
      refine g_iconst (pc := 179) dX12_acted_179 ic_0 ?_
      refine g_L (L' := [none, none, none]) trivial ?_
      exact G_X12_acted_180 hd (0 : Int32) h
    · replace h := (if_neg c69).symm.trans h
      refine g_iconst (pc := 175) dX12_acted_175 ic_1 ?_
      refine g_goto (tgt := 180) (pc := 176) dX12_acted_176 (by decide) ?_
      refine g_L (L' := [none, none, none]) trivial ?_
      exact G_X12_acted_180 hd (1 : Int32) h
  replace h := (if_neg c68).symm.trans h
  have c1i := i32_ne c1 (m := 37) (by decide)
  have c4i := i32_ne c4 (m := 38) (by decide)
  have c7i := i32_ne c7 (m := 39) (by decide)
  have c10i := i32_ne c10 (m := 40) (by decide)
  have c13i := i32_ne c13 (m := 41) (by decide)
  have c16i := i32_ne c16 (m := 42) (by decide)
  have c17i := i32_ne c17 (m := 43) (by decide)
  have c18i := i32_ne c18 (m := 44) (by decide)
  have c21i := i32_ne c21 (m := 45) (by decide)
  have c22i := i32_ne c22 (m := 46) (by decide)
  have c25i := i32_ne c25 (m := 47) (by decide)
  have c28i := i32_ne c28 (m := 48) (by decide)
  have c31i := i32_ne c31 (m := 49) (by decide)
  have c34i := i32_ne c34 (m := 50) (by decide)
  have c37i := i32_ne c37 (m := 51) (by decide)
  have c40i := i32_ne c40 (m := 52) (by decide)
  have c43i := i32_ne c43 (m := 53) (by decide)
  have c46i := i32_ne c46 (m := 54) (by decide)
  have c49i := i32_ne c49 (m := 55) (by decide)
  have c52i := i32_ne c52 (m := 56) (by decide)
  have c55i := i32_ne c55 (m := 57) (by decide)
  have c58i := i32_ne c58 (m := 58) (by decide)
  have c61i := i32_ne c61 (m := 59) (by decide)
  have c64i := i32_ne c64 (m := 60) (by decide)
  have c66i := i32_ne c66 (m := 61) (by decide)
  have c68i := i32_ne c68 (m := 62) (by decide)
  refine g_tableOut (tgt := 215) (pc := 1) dX12_acted_1 (by omega) (by decide) ?_
  refine g_iload_n (pc := 215) dX12_acted_215 rfl ?_
  refine g_if_ne (tgt := 223) (pc := 216) dX12_acted_216 (by decide) (fun c70 => ?_) (fun c70 => ?_)
  · replace h := (if_neg c70).symm.trans h
    refine g_L (L' := [none, none, none]) trivial ?_
    exact G_X12_acted_223 hd h
  · replace h := (if_pos c70).symm.trans h
    refine g_iload_n (pc := 219) dX12_acted_219 rfl ?_
    refine g_if_eq (tgt := 227) (pc := 220) dX12_acted_220 (by decide) (fun c71 => ?_) (fun c71 => ?_)
    · replace h := (if_pos c71).symm.trans h
      refine g_iconst (pc := 227) dX12_acted_227 ic_0 ?_
      refine g_L (L' := [none, none, none]) trivial ?_
      exact G_X12_acted_228 hd (0 : Int32) h
    · replace h := (if_neg c71).symm.trans h
      refine g_L (L' := [none, none, none]) trivial ?_
      exact G_X12_acted_223 hd h
set_option maxRecDepth 100000 in
set_option maxHeartbeats 4000000 in
theorem M_X12_acted {sc : Nat × (Nat → Int32)} {d : Nat} (hd : 1 ≤ d) {r : Int32} {u : xS} {a0 : Int32} {a1 : Int32} {a2 : Int32} (h : f_X12_acted a0 a1 a2 = some r) : xMt sc mX12_acted d 0 0 [.int a0, .int a1, .int a2] (xL0, u) (some (.int r)) (xL0, u) :=
  xMt.of (by decide +kernel) (by decide +kernel) (Nat.le_of_ble_eq_true rfl) (L := [some (.int a0), some (.int a1), some (.int a2)]) rfl ((G_X12_acted_0 hd a0 a1 a2 h))
set_option maxRecDepth 100000 in
set_option maxHeartbeats 4000000 in
theorem G_X12_alike_115 {sc : Nat × (Nat → Int32)} {d : Nat} (hd : 1 ≤ d) {r : Int32} {u : xS} {k8 : Int32 → Int32 → Int32 → Int32 → Int32 → Option Int32} (hk8 : ∀ (v1 : Int32) (v2 : Int32) (v3 : Int32) (v4 : Int32) (v5 : Int32), k8 v1 v2 v3 v4 v5 = some r → xG sc mX12_alike d 0 0 (xR (some (.int r)) (xL0, u) 0 0) 0 0 8 [some (.ref 135), some (.int v1), some (.int v2), some (.int v3), some (.int v4), some (.int v5), none] [] (xL0, u)) (v1 : Int32) (v2 : Int32) (v3 : Int32) (v5 : Int32) (s0 : Int32) (s1 : Int32) (h : f_X12_alike_115 k8 u v1 v2 v3 v5 s0 s1 = some r) : xG sc mX12_alike d 0 0 (xR (some (.int r)) (xL0, u) 0 0) 0 0 115 [some (.ref 135), some (.int v1), some (.int v2), some (.int v3), none, some (.int v5), none] [.int s1, .int s0] (xL0, u) := by
  rw [f_X12_alike_115] at h
  refine g_cS (pc := 115) dX12_alike_115 cS_RX12_190 (M_X12_truth (Nat.le_refl _) rfl) (as := [.int s1]) (st := [.int s0]) rfl rfl (Nat.le_of_ble_eq_true rfl) (Nat.le_trans (Nat.le_of_ble_eq_true rfl) hd) rfl ?_
  refine g_iadd (pc := 118) dX12_alike_118 rfl ?_
  refine g_istore (pc := 119) dX12_alike_119 (Nat.le_of_ble_eq_true rfl) (L' := [some (.ref 135), some (.int v1), some (.int v2), some (.int v3), some (.int (s0 + (f_X12_truth s1))), some (.int v5), none]) rfl ?_
  refine g_inc (pc := 121) dX12_alike_121 (Nat.le_of_ble_eq_true rfl) rfl ic_1 (L' := [some (.ref 135), some (.int v1), some (.int v2), some (.int v3), some (.int (s0 + (f_X12_truth s1))), some (.int (v5 + (1 : Int32))), none]) rfl ?_
  refine g_goto (tgt := 8) (pc := 124) dX12_alike_124 (by decide) ?_
  exact hk8 v1 v2 v3 (s0 + (f_X12_truth s1)) (v5 + (1 : Int32)) h
set_option maxRecDepth 100000 in
set_option maxHeartbeats 4000000 in
theorem G_X12_alike_114 {sc : Nat × (Nat → Int32)} {d : Nat} (hd : 1 ≤ d) {r : Int32} {u : xS} {k8 : Int32 → Int32 → Int32 → Int32 → Int32 → Option Int32} (hk8 : ∀ (v1 : Int32) (v2 : Int32) (v3 : Int32) (v4 : Int32) (v5 : Int32), k8 v1 v2 v3 v4 v5 = some r → xG sc mX12_alike d 0 0 (xR (some (.int r)) (xL0, u) 0 0) 0 0 8 [some (.ref 135), some (.int v1), some (.int v2), some (.int v3), some (.int v4), some (.int v5), none] [] (xL0, u)) (v1 : Int32) (v2 : Int32) (v3 : Int32) (v5 : Int32) (s0 : Int32) (h : f_X12_alike_114 k8 u v1 v2 v3 v5 s0 = some r) : xG sc mX12_alike d 0 0 (xR (some (.int r)) (xL0, u) 0 0) 0 0 114 [some (.ref 135), some (.int v1), some (.int v2), some (.int v3), none, some (.int v5), none] [.int s0] (xL0, u) := by
  rw [f_X12_alike_114] at h
  refine g_iconst (pc := 114) dX12_alike_114 ic_0 ?_
  exact G_X12_alike_115 hd hk8 v1 v2 v3 v5 s0 (0 : Int32) h
set_option maxRecDepth 100000 in
set_option maxHeartbeats 4000000 in
theorem G_X12_alike_76 {sc : Nat × (Nat → Int32)} {d : Nat} (hd : 1 ≤ d) {r : Int32} {u : xS} {k8 : Int32 → Int32 → Int32 → Int32 → Int32 → Option Int32} (hk8 : ∀ (v1 : Int32) (v2 : Int32) (v3 : Int32) (v4 : Int32) (v5 : Int32), k8 v1 v2 v3 v4 v5 = some r → xG sc mX12_alike d 0 0 (xR (some (.int r)) (xL0, u) 0 0) 0 0 8 [some (.ref 135), some (.int v1), some (.int v2), some (.int v3), some (.int v4), some (.int v5), none] [] (xL0, u)) (v1 : Int32) (v2 : Int32) (v3 : Int32) (v4 : Int32) (v5 : Int32) (s0 : Int32) (h : f_X12_alike_76 k8 u v1 v2 v3 v4 v5 s0 = some r) : xG sc mX12_alike d 0 0 (xR (some (.int r)) (xL0, u) 0 0) 0 0 76 [some (.ref 135), some (.int v1), some (.int v2), some (.int v3), some (.int v4), some (.int v5), none] [.int s0] (xL0, u) := by
  rw [f_X12_alike_76] at h
  refine g_istore (pc := 76) dX12_alike_76 (Nat.le_of_ble_eq_true rfl) (L' := [some (.ref 135), some (.int v1), some (.int v2), some (.int v3), some (.int v4), some (.int v5), some (.int s0)]) rfl ?_
  refine g_iload_n (pc := 78) dX12_alike_78 rfl ?_
  refine g_iload (pc := 79) dX12_alike_79 rfl ?_
  refine g_cS (pc := 81) dX12_alike_81 cS_RX12_190 (M_X12_truth (Nat.le_refl _) rfl) (as := [.int s0]) (st := [.int v3]) rfl rfl (Nat.le_of_ble_eq_true rfl) (Nat.le_trans (Nat.le_of_ble_eq_true rfl) hd) rfl ?_
  refine g_iadd (pc := 84) dX12_alike_84 rfl ?_
  refine g_istore_n (pc := 85) dX12_alike_85 (Nat.le_of_ble_eq_true rfl) (L' := [some (.ref 135), some (.int v1), some (.int v2), some (.int (v3 + (f_X12_truth s0))), some (.int v4), some (.int v5), some (.int s0)]) rfl ?_
  refine g_iload (pc := 86) dX12_alike_86 rfl ?_
  refine g_iload (pc := 88) dX12_alike_88 rfl ?_
  refine g_if_eq (tgt := 114) (pc := 90) dX12_alike_90 (by decide) (fun c1 => ?_) (fun c1 => ?_)
  · replace h := (if_pos c1).symm.trans h
    refine g_L (L' := [some (.ref 135), some (.int v1), some (.int v2), some (.int (v3 + (f_X12_truth s0))), none, some (.int v5), none]) ⟨rfl, ⟨rfl, ⟨rfl, ⟨rfl, ⟨rfl, trivial⟩⟩⟩⟩⟩ ?_
    exact G_X12_alike_114 hd hk8 v1 v2 (v3 + (f_X12_truth s0)) v5 v4 h
  · replace h := (if_neg c1).symm.trans h
    refine g_aload_n (pc := 93) dX12_alike_93 rfl ?_
    refine g_gR (pc := 94) dX12_alike_94 fR_RX12_114 xc_135 (v := 169) rfl ?_
    refine g_iload (pc := 97) dX12_alike_97 rfl ?_
    obtain ⟨g2, h⟩ := x_gd h
    refine g_iaload (pc := 99) dX12_alike_99 xc_169 (xin_of g2) (v := (rd u 169 v5.toNatClampNeg)) rfl ?_
    refine g_aload_n (pc := 100) dX12_alike_100 rfl ?_
    refine g_gR (pc := 101) dX12_alike_101 fR_RX12_117 xc_135 (v := 170) rfl ?_
    refine g_iload (pc := 104) dX12_alike_104 rfl ?_
    refine g_iaload (pc := 106) dX12_alike_106 xc_170 (xin_of g2) (v := (rd u 170 v5.toNatClampNeg)) rfl ?_
    refine g_icmp_ne (tgt := 114) (pc := 107) dX12_alike_107 (by decide) (fun c3 => ?_) (fun c3 => ?_)
    · replace h := (if_neg c3).symm.trans h
      refine g_L (L' := [some (.ref 135), some (.int v1), some (.int v2), some (.int (v3 + (f_X12_truth s0))), none, some (.int v5), none]) ⟨rfl, ⟨rfl, ⟨rfl, ⟨rfl, ⟨rfl, trivial⟩⟩⟩⟩⟩ ?_
      exact G_X12_alike_114 hd hk8 v1 v2 (v3 + (f_X12_truth s0)) v5 v4 h
    · replace h := (if_pos c3).symm.trans h
      refine g_iconst (pc := 110) dX12_alike_110 ic_1 ?_
      refine g_goto (tgt := 115) (pc := 111) dX12_alike_111 (by decide) ?_
      refine g_L (L' := [some (.ref 135), some (.int v1), some (.int v2), some (.int (v3 + (f_X12_truth s0))), none, some (.int v5), none]) ⟨rfl, ⟨rfl, ⟨rfl, ⟨rfl, ⟨rfl, trivial⟩⟩⟩⟩⟩ ?_
      exact G_X12_alike_115 hd hk8 v1 v2 (v3 + (f_X12_truth s0)) v5 v4 (1 : Int32) h
set_option maxRecDepth 100000 in
set_option maxHeartbeats 4000000 in
theorem G_X12_alike_75 {sc : Nat × (Nat → Int32)} {d : Nat} (hd : 1 ≤ d) {r : Int32} {u : xS} {k8 : Int32 → Int32 → Int32 → Int32 → Int32 → Option Int32} (hk8 : ∀ (v1 : Int32) (v2 : Int32) (v3 : Int32) (v4 : Int32) (v5 : Int32), k8 v1 v2 v3 v4 v5 = some r → xG sc mX12_alike d 0 0 (xR (some (.int r)) (xL0, u) 0 0) 0 0 8 [some (.ref 135), some (.int v1), some (.int v2), some (.int v3), some (.int v4), some (.int v5), none] [] (xL0, u)) (v1 : Int32) (v2 : Int32) (v3 : Int32) (v4 : Int32) (v5 : Int32) (h : f_X12_alike_75 k8 u v1 v2 v3 v4 v5 = some r) : xG sc mX12_alike d 0 0 (xR (some (.int r)) (xL0, u) 0 0) 0 0 75 [some (.ref 135), some (.int v1), some (.int v2), some (.int v3), some (.int v4), some (.int v5), none] [] (xL0, u) := by
  rw [f_X12_alike_75] at h
  refine g_iconst (pc := 75) dX12_alike_75 ic_0 ?_
  exact G_X12_alike_76 hd hk8 v1 v2 v3 v4 v5 (0 : Int32) h
set_option maxRecDepth 100000 in
set_option maxHeartbeats 4000000 in
theorem G_X12_alike_71 {sc : Nat × (Nat → Int32)} {d : Nat} (hd : 1 ≤ d) {r : Int32} {u : xS} {k8 : Int32 → Int32 → Int32 → Int32 → Int32 → Option Int32} (hk8 : ∀ (v1 : Int32) (v2 : Int32) (v3 : Int32) (v4 : Int32) (v5 : Int32), k8 v1 v2 v3 v4 v5 = some r → xG sc mX12_alike d 0 0 (xR (some (.int r)) (xL0, u) 0 0) 0 0 8 [some (.ref 135), some (.int v1), some (.int v2), some (.int v3), some (.int v4), some (.int v5), none] [] (xL0, u)) (v1 : Int32) (v2 : Int32) (v3 : Int32) (v4 : Int32) (v5 : Int32) (h : f_X12_alike_71 k8 u v1 v2 v3 v4 v5 = some r) : xG sc mX12_alike d 0 0 (xR (some (.int r)) (xL0, u) 0 0) 0 0 71 [some (.ref 135), some (.int v1), some (.int v2), some (.int v3), some (.int v4), some (.int v5), none] [] (xL0, u) := by
  rw [f_X12_alike_71] at h
  refine g_iconst (pc := 71) dX12_alike_71 ic_1 ?_
  refine g_goto (tgt := 76) (pc := 72) dX12_alike_72 (by decide) ?_
  exact G_X12_alike_76 hd hk8 v1 v2 v3 v4 v5 (1 : Int32) h
set_option maxRecDepth 100000 in
set_option maxHeartbeats 4000000 in
theorem G_X12_alike_44 {sc : Nat × (Nat → Int32)} {d : Nat} (hd : 1 ≤ d) {r : Int32} {u : xS} {k8 : Int32 → Int32 → Int32 → Int32 → Int32 → Option Int32} (hk8 : ∀ (v1 : Int32) (v2 : Int32) (v3 : Int32) (v4 : Int32) (v5 : Int32), k8 v1 v2 v3 v4 v5 = some r → xG sc mX12_alike d 0 0 (xR (some (.int r)) (xL0, u) 0 0) 0 0 8 [some (.ref 135), some (.int v1), some (.int v2), some (.int v3), some (.int v4), some (.int v5), none] [] (xL0, u)) (v1 : Int32) (v2 : Int32) (v3 : Int32) (v4 : Int32) (v5 : Int32) (h : f_X12_alike_44 k8 u v1 v2 v3 v4 v5 = some r) : xG sc mX12_alike d 0 0 (xR (some (.int r)) (xL0, u) 0 0) 0 0 44 [some (.ref 135), some (.int v1), some (.int v2), some (.int v3), some (.int v4), some (.int v5), none] [] (xL0, u) := by
  rw [f_X12_alike_44] at h
  refine g_aload_n (pc := 44) dX12_alike_44 rfl ?_
  refine g_gR (pc := 45) dX12_alike_45 fR_RX12_111 xc_135 (v := 168) rfl ?_
  refine g_iload (pc := 48) dX12_alike_48 rfl ?_
  obtain ⟨g1, h⟩ := x_gd h
  refine g_iaload (pc := 50) dX12_alike_50 xc_168 (xin_of g1) (v := (rd u 168 v5.toNatClampNeg)) rfl ?_
  refine g_iload_n (pc := 51) dX12_alike_51 rfl ?_
  refine g_icmp_ne (tgt := 75) (pc := 52) dX12_alike_52 (by decide) (fun c2 => ?_) (fun c2 => ?_)
  · replace h := (if_neg c2).symm.trans h
    exact G_X12_alike_75 hd hk8 v1 v2 v3 v4 v5 h
  · replace h := (if_pos c2).symm.trans h
    refine g_iload_n (pc := 55) dX12_alike_55 rfl ?_
    refine g_iconst (pc := 56) dX12_alike_56 ic_m1 ?_
    refine g_icmp_eq (tgt := 71) (pc := 57) dX12_alike_57 (by decide) (fun c3 => ?_) (fun c3 => ?_)
    · replace h := (if_pos c3).symm.trans h
      exact G_X12_alike_71 hd hk8 v1 v2 v3 v4 v5 h
    · replace h := (if_neg c3).symm.trans h
      refine g_aload_n (pc := 60) dX12_alike_60 rfl ?_
      refine g_gR (pc := 61) dX12_alike_61 fR_RX12_108 xc_135 (v := 167) rfl ?_
      refine g_iload (pc := 64) dX12_alike_64 rfl ?_
      refine g_iaload (pc := 66) dX12_alike_66 xc_167 (xin_of g1) (v := (rd u 167 v5.toNatClampNeg)) rfl ?_
      refine g_iload_n (pc := 67) dX12_alike_67 rfl ?_
      refine g_icmp_ne (tgt := 75) (pc := 68) dX12_alike_68 (by decide) (fun c4 => ?_) (fun c4 => ?_)
      · replace h := (if_neg c4).symm.trans h
        exact G_X12_alike_75 hd hk8 v1 v2 v3 v4 v5 h
      · replace h := (if_pos c4).symm.trans h
        exact G_X12_alike_71 hd hk8 v1 v2 v3 v4 v5 h
set_option maxRecDepth 100000 in
set_option maxHeartbeats 4000000 in
theorem G_X12_alike_8 {sc : Nat × (Nat → Int32)} {d : Nat} (hd : 1 ≤ d) {r : Int32} {u : xS} : ∀ (n : Nat) (v1 : Int32) (v2 : Int32) (v3 : Int32) (v4 : Int32) (v5 : Int32), f_X12_alike_8 u n v1 v2 v3 v4 v5 = some r → xG sc mX12_alike d 0 0 (xR (some (.int r)) (xL0, u) 0 0) 0 0 8 [some (.ref 135), some (.int v1), some (.int v2), some (.int v3), some (.int v4), some (.int v5), none] [] (xL0, u) := by
  intro n
  induction n with
  | zero =>
    intro v1 v2 v3 v4 v5 h
    rw [f_X12_alike_8] at h
    cases h
  | succ n ih =>
    intro v1 v2 v3 v4 v5 h
    rw [f_X12_alike_8] at h
    refine g_iload (pc := 8) dX12_alike_8 rfl ?_
    refine g_aload_n (pc := 10) dX12_alike_10 rfl ?_
    refine g_gI (pc := 11) dX12_alike_11 fI_RX12_409 xc_135 (v := (rd u 135 46)) rfl ?_
    refine g_icmp_ge (tgt := 127) (pc := 14) dX12_alike_14 (by decide) (fun c1 => ?_) (fun c1 => ?_)
    · replace h := (if_pos c1).symm.trans h
      refine g_iload_n (pc := 127) dX12_alike_127 rfl ?_
      refine g_if_ne (tgt := 135) (pc := 128) dX12_alike_128 (by decide) (fun c2 => ?_) (fun c2 => ?_)
      · replace h := (if_neg c2).symm.trans h
        refine g_iload (pc := 135) dX12_alike_135 rfl ?_
        refine g_sipush (pc := 137) dX12_alike_137 sp_1000 ?_
        refine g_imul (pc := 140) dX12_alike_140 rfl ?_
        refine g_iload_n (pc := 141) dX12_alike_141 rfl ?_
        obtain ⟨g3, h⟩ := x_gd h
        refine g_idiv (pc := 142) dX12_alike_142 (xnz_of g3) rfl ?_
        replace h := Option.some.inj h
        subst h
        exact g_iret (pc := 143) dX12_alike_143 rfl rfl rfl (Nat.le_refl _) (Nat.le_refl _)
      · replace h := (if_pos c2).symm.trans h
        refine g_iconst (pc := 131) dX12_alike_131 ic_m1 ?_
        refine g_goto (tgt := 143) (pc := 132) dX12_alike_132 (by decide) ?_
        replace h := Option.some.inj h
        subst h
        exact g_iret (pc := 143) dX12_alike_143 rfl rfl rfl (Nat.le_refl _) (Nat.le_refl _)
    · replace h := (if_neg c1).symm.trans h
      refine g_aload_n (pc := 17) dX12_alike_17 rfl ?_
      refine g_gR (pc := 18) dX12_alike_18 fR_RX12_108 xc_135 (v := 167) rfl ?_
      refine g_iload (pc := 21) dX12_alike_21 rfl ?_
      obtain ⟨g4, h⟩ := x_gd h
      refine g_iaload (pc := 23) dX12_alike_23 xc_167 (xin_of g4) (v := (rd u 167 v5.toNatClampNeg)) rfl ?_
      refine g_iload_n (pc := 24) dX12_alike_24 rfl ?_
      refine g_icmp_ne (tgt := 44) (pc := 25) dX12_alike_25 (by decide) (fun c5 => ?_) (fun c5 => ?_)
      · replace h := (if_neg c5).symm.trans h
        exact G_X12_alike_44 hd ih v1 v2 v3 v4 v5 h
      · replace h := (if_pos c5).symm.trans h
        refine g_iload_n (pc := 28) dX12_alike_28 rfl ?_
        refine g_iconst (pc := 29) dX12_alike_29 ic_m1 ?_
        refine g_icmp_eq (tgt := 71) (pc := 30) dX12_alike_30 (by decide) (fun c6 => ?_) (fun c6 => ?_)
        · replace h := (if_pos c6).symm.trans h
          exact G_X12_alike_71 hd ih v1 v2 v3 v4 v5 h
        · replace h := (if_neg c6).symm.trans h
          refine g_aload_n (pc := 33) dX12_alike_33 rfl ?_
          refine g_gR (pc := 34) dX12_alike_34 fR_RX12_111 xc_135 (v := 168) rfl ?_
          refine g_iload (pc := 37) dX12_alike_37 rfl ?_
          refine g_iaload (pc := 39) dX12_alike_39 xc_168 (xin_of g4) (v := (rd u 168 v5.toNatClampNeg)) rfl ?_
          refine g_iload_n (pc := 40) dX12_alike_40 rfl ?_
          refine g_icmp_eq (tgt := 71) (pc := 41) dX12_alike_41 (by decide) (fun c7 => ?_) (fun c7 => ?_)
          · replace h := (if_pos c7).symm.trans h
            exact G_X12_alike_71 hd ih v1 v2 v3 v4 v5 h
          · replace h := (if_neg c7).symm.trans h
            exact G_X12_alike_44 hd ih v1 v2 v3 v4 v5 h
set_option maxRecDepth 100000 in
set_option maxHeartbeats 4000000 in
theorem G_X12_alike_0 {sc : Nat × (Nat → Int32)} {d : Nat} (hd : 1 ≤ d) {r : Int32} {u : xS} (v1 : Int32) (v2 : Int32) (h : f_X12_alike u v1 v2 = some r) : xG sc mX12_alike d 0 0 (xR (some (.int r)) (xL0, u) 0 0) 0 0 0 [some (.ref 135), some (.int v1), some (.int v2), none, none, none, none] [] (xL0, u) := by
  rw [f_X12_alike] at h
  refine g_iconst (pc := 0) dX12_alike_0 ic_0 ?_
  refine g_istore_n (pc := 1) dX12_alike_1 (Nat.le_of_ble_eq_true rfl) (L' := [some (.ref 135), some (.int v1), some (.int v2), some (.int (0 : Int32)), none, none, none]) rfl ?_
  refine g_iconst (pc := 2) dX12_alike_2 ic_0 ?_
  refine g_istore (pc := 3) dX12_alike_3 (Nat.le_of_ble_eq_true rfl) (L' := [some (.ref 135), some (.int v1), some (.int v2), some (.int (0 : Int32)), some (.int (0 : Int32)), none, none]) rfl ?_
  refine g_iconst (pc := 5) dX12_alike_5 ic_0 ?_
  refine g_istore (pc := 6) dX12_alike_6 (Nat.le_of_ble_eq_true rfl) (L' := [some (.ref 135), some (.int v1), some (.int v2), some (.int (0 : Int32)), some (.int (0 : Int32)), some (.int (0 : Int32)), none]) rfl ?_
  exact G_X12_alike_8 hd xN v1 v2 (0 : Int32) (0 : Int32) (0 : Int32) h
set_option maxRecDepth 100000 in
set_option maxHeartbeats 4000000 in
theorem M_X12_alike {sc : Nat × (Nat → Int32)} {d : Nat} (hd : 1 ≤ d) {r : Int32} {u : xS} {a1 : Int32} {a2 : Int32} (h : f_X12_alike u a1 a2 = some r) : xMt sc mX12_alike d 0 0 [.ref 135, .int a1, .int a2] (xL0, u) (some (.int r)) (xL0, u) :=
  xMt.of (by decide +kernel) (by decide +kernel) (Nat.le_of_ble_eq_true rfl) (L := [some (.ref 135), some (.int a1), some (.int a2), none, none, none, none]) rfl ((G_X12_alike_0 hd a1 a2 h))
set_option maxRecDepth 100000 in
set_option maxHeartbeats 4000000 in
theorem G_X12_isSign_0 {sc : Nat × (Nat → Int32)} {d : Nat} (hd : 0 ≤ d) {r : Int32} {u : xS} (v1 : Int32) (v2 : Int32) (h : f_X12_isSign u v1 v2 = some r) : xG sc mX12_isSign d 0 0 (xR (some (.int r)) (xL0, u) 0 0) 0 0 0 [some (.ref 135), some (.int v1), some (.int v2)] [] (xL0, u) := by
  rw [f_X12_isSign] at h
  refine g_aload_n (pc := 0) dX12_isSign_0 rfl ?_
  refine g_gI (pc := 1) dX12_isSign_1 fI_RX12_259 xc_135 (v := (rd u 135 33)) rfl ?_
  refine g_iload_n (pc := 4) dX12_isSign_4 rfl ?_
  refine g_icmp_ge (tgt := 25) (pc := 5) dX12_isSign_5 (by decide) (fun c1 => ?_) (fun c1 => ?_)
  · replace h := (if_pos c1).symm.trans h
    refine g_iconst (pc := 25) dX12_isSign_25 ic_0 ?_
    replace h := Option.some.inj h
    subst h
    exact g_zret (pc := 26) dX12_isSign_26 rfl (Or.inl rfl) rfl rfl (Nat.le_refl _) (Nat.le_refl _)
  · replace h := (if_neg c1).symm.trans h
    refine g_aload_n (pc := 8) dX12_isSign_8 rfl ?_
    refine g_gR (pc := 9) dX12_isSign_9 fR_RX12_84 xc_135 (v := 159) rfl ?_
    refine g_aload_n (pc := 12) dX12_isSign_12 rfl ?_
    refine g_gI (pc := 13) dX12_isSign_13 fI_RX12_259 xc_135 (v := (rd u 135 33)) rfl ?_
    obtain ⟨g2, h⟩ := x_gd h
    refine g_iaload (pc := 16) dX12_isSign_16 xc_159 (xin_of g2) (v := (rd u 159 (rd u 135 33).toNatClampNeg)) rfl ?_
    refine g_iload_n (pc := 17) dX12_isSign_17 rfl ?_
    refine g_icmp_ne (tgt := 25) (pc := 18) dX12_isSign_18 (by decide) (fun c3 => ?_) (fun c3 => ?_)
    · replace h := (if_neg c3).symm.trans h
      refine g_iconst (pc := 25) dX12_isSign_25 ic_0 ?_
      replace h := Option.some.inj h
      subst h
      exact g_zret (pc := 26) dX12_isSign_26 rfl (Or.inl rfl) rfl rfl (Nat.le_refl _) (Nat.le_refl _)
    · replace h := (if_pos c3).symm.trans h
      refine g_iconst (pc := 21) dX12_isSign_21 ic_1 ?_
      refine g_goto (tgt := 26) (pc := 22) dX12_isSign_22 (by decide) ?_
      replace h := Option.some.inj h
      subst h
      exact g_zret (pc := 26) dX12_isSign_26 rfl (Or.inr rfl) rfl rfl (Nat.le_refl _) (Nat.le_refl _)
set_option maxRecDepth 100000 in
set_option maxHeartbeats 4000000 in
theorem M_X12_isSign {sc : Nat × (Nat → Int32)} {d : Nat} (hd : 0 ≤ d) {r : Int32} {u : xS} {a1 : Int32} {a2 : Int32} (h : f_X12_isSign u a1 a2 = some r) : xMt sc mX12_isSign d 0 0 [.ref 135, .int a1, .int a2] (xL0, u) (some (.int r)) (xL0, u) :=
  xMt.of (by decide +kernel) (by decide +kernel) (Nat.le_of_ble_eq_true rfl) (L := [some (.ref 135), some (.int a1), some (.int a2)]) rfl ((G_X12_isSign_0 hd a1 a2 h))
set_option maxRecDepth 100000 in
set_option maxHeartbeats 4000000 in
theorem G_X12_marks_0 {sc : Nat × (Nat → Int32)} {d : Nat} (hd : 0 ≤ d) {u' : xS} (v1 : Int32) (u : xS) (h : f_X12_marks v1 u = some u') : xG sc mX12_marks d 0 0 (xR none (xL0, u') 0 0) 0 0 0 [some (.ref 135), some (.int v1)] [] (xL0, u) := by
  rw [f_X12_marks] at h
  refine g_aload_n (pc := 0) dX12_marks_0 rfl ?_
  refine g_gR (pc := 1) dX12_marks_1 fR_RX12_72 xc_135 (v := 155) rfl ?_
  refine g_bipush (pc := 4) dX12_marks_4 bp_64 ?_
  refine g_aload_n (pc := 6) dX12_marks_6 rfl ?_
  refine g_gI (pc := 7) dX12_marks_7 fI_RX12_267 xc_135 (v := (rd u 135 34)) rfl ?_
  refine g_imul (pc := 10) dX12_marks_10 rfl ?_
  refine g_aload_n (pc := 11) dX12_marks_11 rfl ?_
  refine g_gR (pc := 12) dX12_marks_12 fR_RX12_75 xc_135 (v := 156) rfl ?_
  refine g_aload_n (pc := 15) dX12_marks_15 rfl ?_
  refine g_gI (pc := 16) dX12_marks_16 fI_RX12_267 xc_135 (v := (rd u 135 34)) rfl ?_
  obtain ⟨g1, h⟩ := x_gd h
  refine g_iaload (pc := 19) dX12_marks_19 xc_156 (xin_of g1) (v := (rd u 156 (rd u 135 34).toNatClampNeg)) rfl ?_
  refine g_iadd (pc := 20) dX12_marks_20 rfl ?_
  refine g_iload_n (pc := 21) dX12_marks_21 rfl ?_
  obtain ⟨g2, h⟩ := x_gd h
  refine g_iastore (pc := 22) dX12_marks_22 xc_155 (xin_of g2) (u' := (wr u 155 (((64 : Int32) * (rd u 135 34)) + (rd u 156 (rd u 135 34).toNatClampNeg)).toNatClampNeg v1)) rfl ?_
  refine g_aload_n (pc := 23) dX12_marks_23 rfl ?_
  refine g_gR (pc := 24) dX12_marks_24 fR_RX12_75 xc_135 (v := 156) rfl ?_
  refine g_aload_n (pc := 27) dX12_marks_27 rfl ?_
  refine g_gI (pc := 28) dX12_marks_28 fI_RX12_267 xc_135 (v := (rd u 135 34)) rfl ?_
  refine g_dup2 (pc := 31) dX12_marks_31 rfl rfl ?_
  refine g_iaload (pc := 32) dX12_marks_32 xc_156 (xin_of g1) (v := (rd u 156 (rd u 135 34).toNatClampNeg)) rfl ?_
  refine g_iconst (pc := 33) dX12_marks_33 ic_1 ?_
  refine g_iadd (pc := 34) dX12_marks_34 rfl ?_
  refine g_iastore (pc := 35) dX12_marks_35 xc_156 (xin_of g1) (u' := (wr (wr u 155 (((64 : Int32) * (rd u 135 34)) + (rd u 156 (rd u 135 34).toNatClampNeg)).toNatClampNeg v1) 156 (rd u 135 34).toNatClampNeg ((rd u 156 (rd u 135 34).toNatClampNeg) + (1 : Int32)))) rfl ?_
  replace h := Option.some.inj h
  subst h
  exact g_ret (pc := 36) dX12_marks_36 rfl rfl rfl (Nat.le_refl _) (Nat.le_refl _)
set_option maxRecDepth 100000 in
set_option maxHeartbeats 4000000 in
theorem M_X12_marks {sc : Nat × (Nat → Int32)} {d : Nat} (hd : 0 ≤ d) {u u' : xS} {a1 : Int32} (h : f_X12_marks a1 u = some u') : xMt sc mX12_marks d 0 0 [.ref 135, .int a1] (xL0, u) none (xL0, u') :=
  xMt.of (by decide +kernel) (by decide +kernel) (Nat.le_of_ble_eq_true rfl) (L := [some (.ref 135), some (.int a1)]) rfl ((G_X12_marks_0 hd a1 u h))
theorem zb_J0_isLatin1_aae02_t1 : f_J0_isLatin1_aae02_t1 = 0 ∨ f_J0_isLatin1_aae02_t1 = 1 := by
  unfold f_J0_isLatin1_aae02_t1
  repeat' first | exact Or.inl rfl | exact Or.inr rfl | apply x_ite
set_option maxRecDepth 100000 in
set_option maxHeartbeats 4000000 in
theorem G_J0_isLatin1_aae02_t1_0 {sc : Nat × (Nat → Int32)} {d : Nat} (hd : 0 ≤ d) {r : Int32} {u : xS} (h : f_J0_isLatin1_aae02_t1 = r) : xG sc mJ0_isLatin1_aae02 d 0 0 (xR (some (.int r)) (xL0, u) 0 0) 0 0 0 [some (.ref (1010 + 1))] [] (xL0, u) := by
  rw [f_J0_isLatin1_aae02_t1] at h
  refine g_getsC (pc := 0) dJ0_isLatin1_aae02_0 fs_RJ0_38 ?_
  refine g_if_eq (tgt := 17) (pc := 3) dJ0_isLatin1_aae02_3 (by decide) (fun c1 => absurd c1 (by decide)) (fun _ => ?_)
  refine g_aload_n (pc := 6) dJ0_isLatin1_aae02_6 rfl ?_
  refine g_strC 1 (pc := 7) dJ0_isLatin1_aae02_7 fs_RJ0_15 (by decide) ?_
  refine g_if_ne (tgt := 17) (pc := 10) dJ0_isLatin1_aae02_10 (by decide) (fun c2 => absurd c2 (by decide)) (fun _ => ?_)
  refine g_iconst (pc := 13) dJ0_isLatin1_aae02_13 ic_1 ?_
  refine g_goto (tgt := 18) (pc := 14) dJ0_isLatin1_aae02_14 (by decide) ?_
  subst h
  exact g_zret (pc := 18) dJ0_isLatin1_aae02_18 rfl (Or.inr rfl) rfl rfl (Nat.le_refl _) (Nat.le_refl _)
set_option maxRecDepth 100000 in
set_option maxHeartbeats 4000000 in
theorem M_J0_isLatin1_aae02_t1 {sc : Nat × (Nat → Int32)} {d : Nat} (hd : 0 ≤ d) {r : Int32} {u : xS} (h : f_J0_isLatin1_aae02_t1 = r) : xMt sc mJ0_isLatin1_aae02 d 0 0 [.ref (1010 + 1)] (xL0, u) (some (.int r)) (xL0, u) :=
  xMt.of (by decide +kernel) (by decide +kernel) (Nat.le_of_ble_eq_true rfl) (L := [some (.ref (1010 + 1))]) rfl ((G_J0_isLatin1_aae02_t1_0 hd h))
