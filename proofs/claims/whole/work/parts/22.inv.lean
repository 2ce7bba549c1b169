/-! THE INVARIANT: what the two objects' cells hold between calls -/
def nv (x : Int32) : Nat := x.toNatClampNeg
theorem nv_nI {n : Nat} (h : n < 2147483648) : nv (nI n) = n := nI_clamp h
def nS (u : xS) : Nat := nv (rd u 135 1)
def nP (u : xS) : Nat := nv (rd u 135 3)
def nB (u : xS) : Nat := nv (rd u 135 7)
def nO (u : xS) : Nat := nv (rd u 135 16)
def nK (u : xS) : Nat := nv (rd u 135 18)
def nR (u : xS) : Nat := nv (rd u 135 28)
def nT (u : xS) : Nat := nv (rd u 135 32)
def nC (u : xS) : Nat := nv (rd u 135 37)
def nW (u : xS) : Nat := nv (rd u 135 43)
def nD (u : xS) : Nat := nv (rd u 135 46)
def nQ (u : xS) : Nat := nv (rd u 135 54)
/-- had, lies, made: pounds of a bale -/
def eH (u : xS) (b s : Nat) : Nat := nv (rd u 146 (24 * s + b))
def eL (u : xS) (b s : Nat) : Nat := nv (rd u 147 (24 * s + b))
/-- sorts -/
def i_S (u : xS) : Prop := rd u 1 2 = nI (nS u) ∧ rd u 135 1 = nI (nS u) ∧ nS u ≤ 16 ∧ (∀ s, s < nS u → (∀ f, f < 6 → rd u (3 + f) s = rd u 136 (7 * s + f)) ∧ rd u 9 s = rd u 136 (7 * s + 6) ∧ (rd u 136 (7 * s + 6) = -1 ∨ ∃ p, p < s ∧ rd u 136 (7 * s + 6) = nI p))
/-- prices -/
def i_P (u : xS) : Prop := rd u 1 6 = nI (nP u) ∧ rd u 135 3 = nI (nP u) ∧ nP u ≤ 60 ∧ (∀ i, i < nP u → rd u 10 i = rd u 137 i ∧ rd u 11 i = rd u 138 i ∧ rd u 12 i = rd u 139 i ∧ (∃ w, w ≤ 99 ∧ rd u 138 i = nI w) ∧ (∃ p, p ≤ 999 ∧ rd u 139 i = nI p))
/-- bales -/
def i_B (u : xS) : Prop := rd u 13 8 = nI (nB u) ∧ rd u 135 7 = nI (nB u) ∧ nB u ≤ 24 ∧ (∀ b, b < nB u → rd u 14 b = rd u 140 b ∧ rd u 15 b = rd u 141 b ∧ rd u 16 b = rd u 142 b ∧ rd u 17 b = rd u 143 b ∧ rd u 18 b = rd u 144 b ∧ (∃ k, k < 4 ∧ rd u 140 b = nI k) ∧ (∃ w, 1 ≤ w ∧ w ≤ 9999 ∧ rd u 142 b = nI w) ∧ (rd u 144 b = -1 ∨ ∃ k, k < 6 ∧ rd u 144 b = nI k)) ∧ (∀ b, b < 24 → rd u 20 b = rd u 145 b)
/-- what sorted bales had -/
def i_H (u : xS) : Prop := (∀ b s, b < 24 → s < 16 → rd u (22 + b) s = rd u 146 (24 * s + b) ∧ rd u 146 (24 * s + b) = nI (eH u b s) ∧ (nS u ≤ s ∨ nB u ≤ b ∨ rd u 144 b = -1 → eH u b s = 0)) ∧ (∀ b, b < nB u → nsum (eH u b) 16 ≤ nv (rd u 142 b) ∧ rd u 19 b = if rd u 144 b = -1 then -1 else nI (nv (rd u 142 b) - nsum (eH u b) 16))
/-- the bales sorted, in their order; the lots that came of them: sort and bale -/
def eO (u : xS) : List Nat := (List.range (nO u)).map fun k => nv (rd u 148 k)
def eB (u : xS) (b : Nat) : List (Nat × Nat) := ((List.range 16).filter fun s => decide (0 < eH u b s)).map fun s => (s, b)
def eM (u : xS) : List (Nat × Nat) := (eO u).flatMap (eB u)
def i_L (u : xS) : Prop := rd u 135 16 = nI (nO u) ∧ nO u ≤ 24 ∧ (∀ k, k < nO u → ∃ b, b < nB u ∧ rd u 148 k = nI b) ∧ (eO u).Nodup ∧ (∀ b, b < nB u → (b ∈ eO u ↔ ¬ rd u 144 b = -1)) ∧
  rd u 74 4 = nI (eM u).length ∧ (∀ i q, (eM u)[i]? = some q → rd u 75 i = nI q.1 ∧ rd u 76 i = nI q.2 ∧ rd u 77 i = rd u 147 (24 * q.1 + q.2)) ∧
  (∀ b s, b < 24 → s < 16 → rd u 147 (24 * s + b) = nI (eL u b s) ∧ eL u b s ≤ eH u b s) ∧ (∀ s, s < 16 → rd u 78 s = isum (fun b => rd u 147 (24 * s + b)) 24)
/-- looks -/
def i_K (u : xS) : Prop := rd u 46 5 = nI (nK u) ∧ rd u 135 18 = nI (nK u) ∧ nK u ≤ 60 ∧ rd u 46 6 = rd u 135 24 ∧ (∀ i, i < nK u → rd u 47 i = rd u 149 i ∧ rd u 48 i = rd u 150 i ∧ rd u 49 i = rd u 151 i ∧ rd u 50 i = rd u 152 i ∧ rd u 51 i = rd u 153 i ∧ (∃ d, d ≤ 99 ∧ rd u 151 i = nI d) ∧ (∃ w, w ≤ 9999 ∧ rd u 152 i = nI w) ∧ (∃ d, d ≤ 1000 ∧ rd u 153 i = nI d))
/-- the tape -/
def i_T (u : xS) : Prop := rd u 52 1 = nI (nT u) ∧ rd u 135 32 = nI (nT u) ∧ nT u ≤ 100 ∧ (∀ j, j < nT u → rd u 53 j = rd u 159 j ∧ ∃ c, c < 256 ∧ rd u 159 j = nI c)
/-- a mark of the reference as a code of the class -/
def em (m : Int32) : Int32 := if 0 ≤ m then m else if -16 ≤ m then -(xbyte 0 (nv (-1 - m))) else if m = -300 then -59 else -(m + 200)
def is1 (m : Int32) : Bool := m == -167 || m == -74
def is2 (m : Int32) : Bool := m == -76 || m == -162 || m == -140 || m == -138 || m == -139 || m == -157 || m == -155 || m == -158 || m == -153 || m == -163
/-- how many values a text leaves: of a thing one, of an operator what it leaves; ; wants one and leaves none -/
def dep : List Int32 → Nat → Option Nat
  | [], d => some d
  | m :: l, d => if -16 ≤ m then dep l (d + 1) else if is1 m = true then (if 1 ≤ d then dep l d else none) else if is2 m = true then (if 2 ≤ d then dep l (d - 1) else none) else if m = -300 then (if d = 1 then dep l 0 else none) else none
/-- one kept text: l its marks -/
def i_X1 (u : xS) (t : Nat) (l : List Int32) : Prop := l.length ≤ 60 ∧ rd u 156 t = nI l.length ∧ (∀ i m, l[i]? = some m → rd u 155 (64 * t + i) = m ∧ rd u (60 + t) i = em m)
def i_X (u : xS) : Prop := rd u 58 5 = nI (nR u) ∧ rd u 135 28 = nI (nR u) ∧ nR u ≤ 6 ∧
  (∀ t, t < 4 ∨ t = 10 → ∃ l, i_X1 u t l ∧ rd u 71 t = nI l.length ∧ ¬ (-300) ∈ l ∧ (rd u 154 t = 0 → l = []) ∧ (¬ rd u 154 t = 0 → dep l 0 = some 1)) ∧
  (∀ r, r < nR u → ∃ l, i_X1 u (4 + r) l ∧ rd u 71 (4 + r) = nI (l.length + 1) ∧ rd u (60 + (4 + r)) l.length = -59 ∧ dep (l ++ [-300]) 0 = some 0)
/-- the blend -/
def i_F (u : xS) : Prop := ∀ s, s < 16 → rd u 80 s = rd u 160 s ∧ (∃ v, v ≤ 12 ∧ rd u 160 s = nI v) ∧ (nS u ≤ s → rd u 160 s = 0)
/-- cloth -/
def i_C (u : xS) : Prop := rd u 87 2 = nI (nC u) ∧ rd u 135 37 = nI (nC u) ∧ nC u ≤ 20 ∧ (∀ c b, c < 20 → b < 24 → rd u (89 + c) b = rd u 161 (24 * c + b) ∧ (∃ v, v ≤ 1000000 ∧ rd u 161 (24 * c + b) = nI v) ∧ (nC u ≤ c ∨ nB u ≤ b → rd u 161 (24 * c + b) = 0)) ∧ (∀ c, c < nC u → rd u 109 c = rd u 162 c ∧ ∃ v, v ≤ 2 ∧ rd u 162 c = nI v)
/-- doubles -/
def i_D (u : xS) : Prop := rd u 113 3 = nI (nD u) ∧ rd u 135 46 = nI (nD u) ∧ nD u ≤ 99 ∧ (∀ i, i < nD u → rd u 115 i = rd u 167 i ∧ rd u 116 i = rd u 168 i ∧ rd u 118 i = rd u 169 i ∧ rd u 119 i = rd u 170 i ∧ ∃ a b x y, a < 6 ∧ b < 6 ∧ ¬ a = b ∧ x < nS u ∧ y < nS u ∧ rd u 167 i = nI a ∧ rd u 168 i = nI b ∧ rd u 169 i = nI x ∧ rd u 170 i = nI y)
/-- lands -/
def i_A (u : xS) : Prop := rd u 121 6 = nI (nQ u) ∧ rd u 135 54 = nI (nQ u) ∧ nQ u ≤ 8 ∧ (∀ l, l < 4 → rd u 127 l = rd u 173 l ∧ (∃ v, v ≤ 8 ∧ rd u 173 l = nI v) ∧ rd u 180 l = 0 ∧ (∀ s, s < 16 → rd u (123 + l) s = rd u 172 (16 * l + s) ∧ (rd u 172 (16 * l + s) = -1 ∨ ∃ v, v ≤ 999 ∧ rd u 172 (16 * l + s) = nI v))) ∧
  (∀ i, i < nQ u → rd u 128 i = rd u 174 i ∧ rd u 129 i = rd u 175 i ∧ rd u 130 i = rd u 176 i ∧ rd u 131 i = rd u 177 i ∧ ∃ s p o q, s < 16 ∧ p ≤ 9999 ∧ o < 16 ∧ q ≤ 9999 ∧ (q = 0 → o = s) ∧ rd u 174 i = nI s ∧ rd u 175 i = nI p ∧ rd u 176 i = nI o ∧ rd u 177 i = nI q)
/-- the row -/
def i_W (u : xS) : Prop := rd u 0 12 = nI (nW u) ∧ rd u 135 43 = nI (nW u) ∧ nW u ≤ 48 ∧ (∀ i, i < nW u → rd u 134 i = rd u 165 i)
def Inv (u : xS) : Prop := i_S u ∧ i_P u ∧ i_B u ∧ i_H u ∧ i_L u ∧ i_K u ∧ i_T u ∧ i_X u ∧ i_F u ∧ i_C u ∧ i_D u ∧ i_A u ∧ i_W u
theorem Inv.S {u : xS} (h : Inv u) : i_S u := h.1
theorem Inv.P {u : xS} (h : Inv u) : i_P u := h.2.1
theorem Inv.B {u : xS} (h : Inv u) : i_B u := h.2.2.1
theorem Inv.H {u : xS} (h : Inv u) : i_H u := h.2.2.2.1
theorem Inv.L {u : xS} (h : Inv u) : i_L u := h.2.2.2.2.1
theorem Inv.K {u : xS} (h : Inv u) : i_K u := h.2.2.2.2.2.1
theorem Inv.T {u : xS} (h : Inv u) : i_T u := h.2.2.2.2.2.2.1
theorem Inv.X {u : xS} (h : Inv u) : i_X u := h.2.2.2.2.2.2.2.1
theorem Inv.F {u : xS} (h : Inv u) : i_F u := h.2.2.2.2.2.2.2.2.1
theorem Inv.C {u : xS} (h : Inv u) : i_C u := h.2.2.2.2.2.2.2.2.2.1
theorem Inv.D {u : xS} (h : Inv u) : i_D u := h.2.2.2.2.2.2.2.2.2.2.1
theorem Inv.A {u : xS} (h : Inv u) : i_A u := h.2.2.2.2.2.2.2.2.2.2.2.1
theorem Inv.W {u : xS} (h : Inv u) : i_W u := h.2.2.2.2.2.2.2.2.2.2.2.2
/-! what each part of it looks at -/
abbrev kS : List (Nat × Nat) := [(1, 3), (135, 2), (3, 0), (9, 0), (136, 0)]
abbrev kP : List (Nat × Nat) := [(1, 7), (135, 4), (10, 0), (11, 0), (12, 0), (137, 0), (138, 0), (139, 0)]
abbrev kB : List (Nat × Nat) := [(13, 9), (135, 8), (14, 0), (15, 0), (16, 0), (17, 0), (18, 0), (20, 0), (140, 0), (141, 0), (142, 0), (143, 0), (144, 0), (145, 0)]
abbrev kH : List (Nat × Nat) := [(135, 2), (135, 8), (22, 0), (19, 0), (146, 0), (142, 0), (144, 0)]
abbrev kL : List (Nat × Nat) := [(135, 8), (135, 17), (148, 0), (144, 0), (146, 0), (147, 0), (74, 5), (75, 0), (76, 0), (77, 0), (78, 0)]
abbrev kK : List (Nat × Nat) := [(46, 6), (46, 7), (135, 19), (135, 25), (47, 0), (48, 0), (49, 0), (50, 0), (51, 0), (149, 0), (150, 0), (151, 0), (152, 0), (153, 0)]
abbrev kT : List (Nat × Nat) := [(52, 2), (135, 33), (53, 0), (159, 0)]
abbrev kX : List (Nat × Nat) := [(58, 6), (135, 29), (60, 0), (71, 0), (154, 0), (155, 0), (156, 0)]
abbrev kF : List (Nat × Nat) := [(135, 2), (80, 0), (160, 0)]
abbrev kC : List (Nat × Nat) := [(135, 8), (87, 3), (135, 38), (89, 0), (109, 0), (161, 0), (162, 0)]
abbrev kD : List (Nat × Nat) := [(135, 2), (113, 4), (135, 47), (115, 0), (118, 0), (167, 0), (168, 0), (169, 0), (170, 0)]
abbrev kA : List (Nat × Nat) := [(121, 7), (135, 55), (123, 0), (127, 0), (128, 0), (129, 0), (130, 0), (131, 0), (172, 0), (173, 0), (174, 0), (175, 0), (176, 0), (177, 0), (180, 0)]
abbrev kW : List (Nat × Nat) := [(0, 13), (135, 44), (134, 0), (165, 0)]
theorem lc_rows {k a b i j : Nat} (hi : i < b) (hb : ∀ i, i < b → isO (a + i) = false ∧ gp (a + i) = k) : lc (a + i) j = (k, 0) := by
  obtain ⟨h1, h2⟩ := hb i hi
  unfold lc
  rw [h1, h2]
  rfl
theorem lc_3 {i j : Nat} (h : i < 6) : lc (3 + i) j = (3, 0) := lc_rows h (by decide)
theorem lc_22 {i j : Nat} (h : i < 24) : lc (22 + i) j = (22, 0) := lc_rows h (by decide)
theorem lc_60 {i j : Nat} (h : i < 11) : lc (60 + i) j = (60, 0) := lc_rows h (by decide)
theorem lc_89 {i j : Nat} (h : i < 20) : lc (89 + i) j = (89, 0) := lc_rows h (by decide)
theorem lc_115 {i j : Nat} (h : i < 2) : lc (115 + i) j = (115, 0) := lc_rows h (by decide)
theorem lc_118 {i j : Nat} (h : i < 2) : lc (118 + i) j = (118, 0) := lc_rows h (by decide)
theorem lc_123 {i j : Nat} (h : i < 4) : lc (123 + i) j = (123, 0) := lc_rows h (by decide)
section FR
variable {u u' : xS}
theorem fr_S (h : sm kS u u') (H : i_S u) : i_S u' := by
  have q0 : rd u' 135 1 = rd u 135 1 := h 135 1 rfl
  have m_nS : nS u' = nS u := congrArg nv q0
  have q1 : rd u' 1 2 = rd u 1 2 := h 1 2 rfl
  have q2 : ∀ i, rd u' 9 i = rd u 9 i := fun i => h 9 i rfl
  have q3 : ∀ i, rd u' 136 i = rd u 136 i := fun i => h 136 i rfl
  unfold i_S at *
  simp only [m_nS, q0, q1, q2, q3]
  refine ⟨H.1, H.2.1, H.2.2.1, fun s hs => ⟨fun f hf => ?_, (H.2.2.2 s hs).2⟩⟩
  rw [h (3 + f) s (by rw [lc_3 hf]; rfl)]
  exact (H.2.2.2 s hs).1 f hf
theorem fr_P (h : sm kP u u') (H : i_P u) : i_P u' := by
  have q0 : rd u' 135 3 = rd u 135 3 := h 135 3 rfl
  have m_nP : nP u' = nP u := congrArg nv q0
  have q1 : rd u' 1 6 = rd u 1 6 := h 1 6 rfl
  have q2 : ∀ i, rd u' 10 i = rd u 10 i := fun i => h 10 i rfl
  have q3 : ∀ i, rd u' 11 i = rd u 11 i := fun i => h 11 i rfl
  have q4 : ∀ i, rd u' 12 i = rd u 12 i := fun i => h 12 i rfl
  have q5 : ∀ i, rd u' 137 i = rd u 137 i := fun i => h 137 i rfl
  have q6 : ∀ i, rd u' 138 i = rd u 138 i := fun i => h 138 i rfl
  have q7 : ∀ i, rd u' 139 i = rd u 139 i := fun i => h 139 i rfl
  unfold i_P at *
  simp only [m_nP, q0, q1, q2, q3, q4, q5, q6, q7]
  exact H
theorem fr_B (h : sm kB u u') (H : i_B u) : i_B u' := by
  have q0 : rd u' 135 7 = rd u 135 7 := h 135 7 rfl
  have m_nB : nB u' = nB u := congrArg nv q0
  have q1 : rd u' 13 8 = rd u 13 8 := h 13 8 rfl
  have q2 : ∀ i, rd u' 14 i = rd u 14 i := fun i => h 14 i rfl
  have q3 : ∀ i, rd u' 15 i = rd u 15 i := fun i => h 15 i rfl
  have q4 : ∀ i, rd u' 16 i = rd u 16 i := fun i => h 16 i rfl
  have q5 : ∀ i, rd u' 17 i = rd u 17 i := fun i => h 17 i rfl
  have q6 : ∀ i, rd u' 18 i = rd u 18 i := fun i => h 18 i rfl
  have q7 : ∀ i, rd u' 20 i = rd u 20 i := fun i => h 20 i rfl
  have q8 : ∀ i, rd u' 140 i = rd u 140 i := fun i => h 140 i rfl
  have q9 : ∀ i, rd u' 141 i = rd u 141 i := fun i => h 141 i rfl
  have q10 : ∀ i, rd u' 142 i = rd u 142 i := fun i => h 142 i rfl
  have q11 : ∀ i, rd u' 143 i = rd u 143 i := fun i => h 143 i rfl
  have q12 : ∀ i, rd u' 144 i = rd u 144 i := fun i => h 144 i rfl
  have q13 : ∀ i, rd u' 145 i = rd u 145 i := fun i => h 145 i rfl
  unfold i_B at *
  simp only [m_nB, q0, q1, q2, q3, q4, q5, q6, q7, q8, q9, q10, q11, q12, q13]
  exact H
theorem fr_H (h : sm kH u u') (H : i_H u) : i_H u' := by
  have q0 : rd u' 135 1 = rd u 135 1 := h 135 1 rfl
  have m_nS : nS u' = nS u := congrArg nv q0
  have q1 : rd u' 135 7 = rd u 135 7 := h 135 7 rfl
  have m_nB : nB u' = nB u := congrArg nv q1
  have q2 : ∀ i, rd u' 19 i = rd u 19 i := fun i => h 19 i rfl
  have q3 : ∀ i, rd u' 146 i = rd u 146 i := fun i => h 146 i rfl
  have q4 : ∀ i, rd u' 142 i = rd u 142 i := fun i => h 142 i rfl
  have q5 : ∀ i, rd u' 144 i = rd u 144 i := fun i => h 144 i rfl
  have q6 : eH u' = eH u := by funext b s; simp only [eH, q3]
  unfold i_H at *
  simp only [m_nS, m_nB, q0, q1, q2, q3, q4, q5, q6]
  refine ⟨fun b s hb hs => ?_, H.2⟩
  rw [h (22 + b) s (by rw [lc_22 hb]; rfl)]
  exact H.1 b s hb hs
theorem fr_L (h : sm kL u u') (H : i_L u) : i_L u' := by
  have q0 : rd u' 135 7 = rd u 135 7 := h 135 7 rfl
  have m_nB : nB u' = nB u := congrArg nv q0
  have q1 : rd u' 135 16 = rd u 135 16 := h 135 16 rfl
  have m_nO : nO u' = nO u := congrArg nv q1
  have q2 : ∀ i, rd u' 148 i = rd u 148 i := fun i => h 148 i rfl
  have q3 : ∀ i, rd u' 144 i = rd u 144 i := fun i => h 144 i rfl
  have q4 : ∀ i, rd u' 146 i = rd u 146 i := fun i => h 146 i rfl
  have q5 : ∀ i, rd u' 147 i = rd u 147 i := fun i => h 147 i rfl
  have q6 : rd u' 74 4 = rd u 74 4 := h 74 4 rfl
  have q7 : ∀ i, rd u' 75 i = rd u 75 i := fun i => h 75 i rfl
  have q8 : ∀ i, rd u' 76 i = rd u 76 i := fun i => h 76 i rfl
  have q9 : ∀ i, rd u' 77 i = rd u 77 i := fun i => h 77 i rfl
  have q10 : ∀ i, rd u' 78 i = rd u 78 i := fun i => h 78 i rfl
  have r1 : eH u' = eH u := by funext b s; simp only [eH, q4]
  have r2 : eL u' = eL u := by funext b s; simp only [eL, q5]
  have r3 : eO u' = eO u := by simp only [eO, m_nO, q2]
  have r4 : eB u' = eB u := by funext b; simp only [eB, r1]
  have r5 : eM u' = eM u := by simp only [eM, r3, r4]
  unfold i_L at *
  simp only [m_nB, m_nO, q0, q1, q2, q3, q4, q5, q6, q7, q8, q9, q10, r1, r2, r3, r5]
  exact H
theorem fr_K (h : sm kK u u') (H : i_K u) : i_K u' := by
  have q0 : rd u' 135 18 = rd u 135 18 := h 135 18 rfl
  have m_nK : nK u' = nK u := congrArg nv q0
  have q1 : rd u' 135 24 = rd u 135 24 := h 135 24 rfl
  have q2 : rd u' 46 5 = rd u 46 5 := h 46 5 rfl
  have q3 : rd u' 46 6 = rd u 46 6 := h 46 6 rfl
  have q4 : ∀ i, rd u' 47 i = rd u 47 i := fun i => h 47 i rfl
  have q5 : ∀ i, rd u' 48 i = rd u 48 i := fun i => h 48 i rfl
  have q6 : ∀ i, rd u' 49 i = rd u 49 i := fun i => h 49 i rfl
  have q7 : ∀ i, rd u' 50 i = rd u 50 i := fun i => h 50 i rfl
  have q8 : ∀ i, rd u' 51 i = rd u 51 i := fun i => h 51 i rfl
  have q9 : ∀ i, rd u' 149 i = rd u 149 i := fun i => h 149 i rfl
  have q10 : ∀ i, rd u' 150 i = rd u 150 i := fun i => h 150 i rfl
  have q11 : ∀ i, rd u' 151 i = rd u 151 i := fun i => h 151 i rfl
  have q12 : ∀ i, rd u' 152 i = rd u 152 i := fun i => h 152 i rfl
  have q13 : ∀ i, rd u' 153 i = rd u 153 i := fun i => h 153 i rfl
  unfold i_K at *
  simp only [m_nK, q0, q1, q2, q3, q4, q5, q6, q7, q8, q9, q10, q11, q12, q13]
  exact H
theorem fr_T (h : sm kT u u') (H : i_T u) : i_T u' := by
  have q0 : rd u' 52 1 = rd u 52 1 := h 52 1 rfl
  have q1 : rd u' 135 32 = rd u 135 32 := h 135 32 rfl
  have m_nT : nT u' = nT u := congrArg nv q1
  have q2 : ∀ i, rd u' 53 i = rd u 53 i := fun i => h 53 i rfl
  have q3 : ∀ i, rd u' 159 i = rd u 159 i := fun i => h 159 i rfl
  unfold i_T at *
  simp only [m_nT, q0, q1, q2, q3]
  exact H
theorem fr_X1 (h : sm kX u u') {t : Nat} (ht : t < 11) {l : List Int32} (H : i_X1 u t l) : i_X1 u' t l := by
  have q5 : ∀ i, rd u' 155 i = rd u 155 i := fun i => h 155 i rfl
  have q6 : ∀ i, rd u' 156 i = rd u 156 i := fun i => h 156 i rfl
  unfold i_X1 at *
  simp only [q5, q6]
  refine ⟨H.1, H.2.1, fun i m hm => ⟨(H.2.2 i m hm).1, ?_⟩⟩
  rw [h (60 + t) i (by rw [lc_60 ht]; rfl)]
  exact (H.2.2 i m hm).2
theorem fr_X (h : sm kX u u') (H : i_X u) : i_X u' := by
  have q0 : rd u' 58 5 = rd u 58 5 := h 58 5 rfl
  have q1 : rd u' 135 28 = rd u 135 28 := h 135 28 rfl
  have m_nR : nR u' = nR u := congrArg nv q1
  have q2 : ∀ i, rd u' 71 i = rd u 71 i := fun i => h 71 i rfl
  have q3 : ∀ i, rd u' 154 i = rd u 154 i := fun i => h 154 i rfl
  unfold i_X at *
  simp only [m_nR, q0, q1, q2, q3]
  refine ⟨H.1, H.2.1, H.2.2.1, fun t ht => ?_, fun r hr => ?_⟩
  · obtain ⟨l, h1, h2⟩ := H.2.2.2.1 t ht
    exact ⟨l, fr_X1 h (by omega) h1, h2⟩
  · obtain ⟨l, h1, h2, h3, h4⟩ := H.2.2.2.2 r hr
    have h5 : nR u ≤ 6 := H.2.2.1
    refine ⟨l, fr_X1 h (by omega) h1, h2, ?_, h4⟩
    rw [h (60 + (4 + r)) _ (by rw [lc_60 (by omega)]; rfl)]
    exact h3
theorem fr_F (h : sm kF u u') (H : i_F u) : i_F u' := by
  have q0 : rd u' 135 1 = rd u 135 1 := h 135 1 rfl
  have m_nS : nS u' = nS u := congrArg nv q0
  have q1 : ∀ i, rd u' 80 i = rd u 80 i := fun i => h 80 i rfl
  have q2 : ∀ i, rd u' 160 i = rd u 160 i := fun i => h 160 i rfl
  unfold i_F at *
  simp only [m_nS, q0, q1, q2]
  exact H
theorem fr_C (h : sm kC u u') (H : i_C u) : i_C u' := by
  have q0 : rd u' 135 7 = rd u 135 7 := h 135 7 rfl
  have m_nB : nB u' = nB u := congrArg nv q0
  have q1 : rd u' 87 2 = rd u 87 2 := h 87 2 rfl
  have q2 : rd u' 135 37 = rd u 135 37 := h 135 37 rfl
  have m_nC : nC u' = nC u := congrArg nv q2
  have q3 : ∀ i, rd u' 109 i = rd u 109 i := fun i => h 109 i rfl
  have q4 : ∀ i, rd u' 161 i = rd u 161 i := fun i => h 161 i rfl
  have q5 : ∀ i, rd u' 162 i = rd u 162 i := fun i => h 162 i rfl
  unfold i_C at *
  simp only [m_nB, m_nC, q0, q1, q2, q3, q4, q5]
  refine ⟨H.1, H.2.1, H.2.2.1, fun c b hc hb => ?_, H.2.2.2.2⟩
  rw [h (89 + c) b (by rw [lc_89 hc]; rfl)]
  exact H.2.2.2.1 c b hc hb
theorem fr_D (h : sm kD u u') (H : i_D u) : i_D u' := by
  have q0 : rd u' 135 1 = rd u 135 1 := h 135 1 rfl
  have m_nS : nS u' = nS u := congrArg nv q0
  have q1 : rd u' 113 3 = rd u 113 3 := h 113 3 rfl
  have q2 : rd u' 135 46 = rd u 135 46 := h 135 46 rfl
  have m_nD : nD u' = nD u := congrArg nv q2
  have q3 : ∀ i, rd u' 115 i = rd u 115 i := fun i => h 115 i rfl
  have q4 : ∀ i, rd u' 116 i = rd u 116 i := fun i => h 116 i rfl
  have q5 : ∀ i, rd u' 118 i = rd u 118 i := fun i => h 118 i rfl
  have q6 : ∀ i, rd u' 119 i = rd u 119 i := fun i => h 119 i rfl
  have q7 : ∀ i, rd u' 167 i = rd u 167 i := fun i => h 167 i rfl
  have q8 : ∀ i, rd u' 168 i = rd u 168 i := fun i => h 168 i rfl
  have q9 : ∀ i, rd u' 169 i = rd u 169 i := fun i => h 169 i rfl
  have q10 : ∀ i, rd u' 170 i = rd u 170 i := fun i => h 170 i rfl
  unfold i_D at *
  simp only [m_nS, m_nD, q0, q1, q2, q3, q4, q5, q6, q7, q8, q9, q10]
  exact H
theorem fr_A (h : sm kA u u') (H : i_A u) : i_A u' := by
  have q0 : rd u' 121 6 = rd u 121 6 := h 121 6 rfl
  have q1 : rd u' 135 54 = rd u 135 54 := h 135 54 rfl
  have m_nQ : nQ u' = nQ u := congrArg nv q1
  have q2 : ∀ i, rd u' 127 i = rd u 127 i := fun i => h 127 i rfl
  have q3 : ∀ i, rd u' 128 i = rd u 128 i := fun i => h 128 i rfl
  have q4 : ∀ i, rd u' 129 i = rd u 129 i := fun i => h 129 i rfl
  have q5 : ∀ i, rd u' 130 i = rd u 130 i := fun i => h 130 i rfl
  have q6 : ∀ i, rd u' 131 i = rd u 131 i := fun i => h 131 i rfl
  have q7 : ∀ i, rd u' 172 i = rd u 172 i := fun i => h 172 i rfl
  have q8 : ∀ i, rd u' 173 i = rd u 173 i := fun i => h 173 i rfl
  have q9 : ∀ i, rd u' 174 i = rd u 174 i := fun i => h 174 i rfl
  have q10 : ∀ i, rd u' 175 i = rd u 175 i := fun i => h 175 i rfl
  have q11 : ∀ i, rd u' 176 i = rd u 176 i := fun i => h 176 i rfl
  have q12 : ∀ i, rd u' 177 i = rd u 177 i := fun i => h 177 i rfl
  have q13 : ∀ i, rd u' 180 i = rd u 180 i := fun i => h 180 i rfl
  unfold i_A at *
  simp only [m_nQ, q0, q1, q2, q3, q4, q5, q6, q7, q8, q9, q10, q11, q12, q13]
  refine ⟨H.1, H.2.1, H.2.2.1, fun l hl => ⟨(H.2.2.2.1 l hl).1, (H.2.2.2.1 l hl).2.1, (H.2.2.2.1 l hl).2.2.1, fun s hs => ?_⟩, H.2.2.2.2⟩
  rw [h (123 + l) s (by rw [lc_123 hl]; rfl)]
  exact (H.2.2.2.1 l hl).2.2.2 s hs
theorem fr_W (h : sm kW u u') (H : i_W u) : i_W u' := by
  have q0 : rd u' 0 12 = rd u 0 12 := h 0 12 rfl
  have q1 : rd u' 135 43 = rd u 135 43 := h 135 43 rfl
  have m_nW : nW u' = nW u := congrArg nv q1
  have q2 : ∀ i, rd u' 134 i = rd u 134 i := fun i => h 134 i rfl
  have q3 : ∀ i, rd u' 165 i = rd u 165 i := fun i => h 165 i rfl
  unfold i_W at *
  simp only [m_nW, q0, q1, q2, q3]
  exact H
/-- all of it stays where only scratch was written -/
abbrev wX : List (Nat × Nat) := [(135, 1), (135, 34), (135, 35), (135, 36), (135, 43), (135, 63), (54, 2), (54, 4), (54, 6), (54, 7), (54, 8), (54, 9), (55, 0), (56, 0), (57, 0), (58, 5), (72, 0), (73, 0), (79, 6), (81, 0), (82, 0), (83, 0), (84, 0), (85, 0), (86, 0), (87, 6), (110, 0), (111, 0), (112, 0), (120, 0), (157, 0), (158, 0), (163, 0), (164, 0), (166, 0), (171, 0), (178, 0), (179, 0)]
theorem Inv_scr (h : ag wX u u') (H : Inv u) : Inv u' :=
  ⟨fr_S (ag_sm h rfl) H.S, fr_P (ag_sm h rfl) H.P, fr_B (ag_sm h rfl) H.B, fr_H (ag_sm h rfl) H.H, fr_L (ag_sm h rfl) H.L, fr_K (ag_sm h rfl) H.K, fr_T (ag_sm h rfl) H.T, fr_X (ag_sm h rfl) H.X, fr_F (ag_sm h rfl) H.F, fr_C (ag_sm h rfl) H.C, fr_D (ag_sm h rfl) H.D, fr_A (ag_sm h rfl) H.A, fr_W (ag_sm h rfl) H.W⟩
theorem Inv_thr (H : Inv u) : Inv (wr u 135 0 0) := Inv_scr (ag_wr (ag_refl wX u) rfl) H
end FR
