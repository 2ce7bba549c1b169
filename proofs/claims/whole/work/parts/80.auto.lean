/-! TEXT: an automaton that reads a text sign by sign -/
def alev (s : Nat) : Nat := if s = 124 then 1 else if s = 38 then 2 else if s = 60 then 3 else if s = 61 then 3 else if s = 62 then 3 else if s = 43 then 4 else if s = 45 then 4 else if s = 42 then 5 else if s = 47 then 5 else if s = 37 then 5 else if s = 33 then 6 else if s = 126 then 6 else 0
def amk (s : Nat) : Int32 := nI s - 200
def lmk (s : Nat) : Int32 := -1 - nI (lts.idxOf s)
def isL (s : Nat) : Bool := lts.contains s
/-- bring out what binds as much or more -/
def abr (l : Nat) : List Nat → List Int32 → List Nat × List Int32
  | [], r => ([], r)
  | x :: t, r => if l ≤ alev x then abr l t (amk x :: r) else (x :: t, r)
/-- a thing is wanted; digits; operators that wait; what is out; compared, by depth -/
abbrev aC : Type := Bool × Nat × List Nat × List Int32 × List Bool
def aBeg (s d : Nat) (o : List Nat) (r : List Int32) (f : List Bool) : Option aC :=
  if s = 33 then some (true, d, 33 :: o, r, f) else if s = 45 then some (true, d, 126 :: o, r, f) else if s = 40 then some (true, d, 40 :: o, r, false :: f) else if 48 ≤ s ∧ s ≤ 57 then some (false, 1, o, nI (s - 48) :: r, f) else if isL s = true then some (false, 0, o, lmk s :: r, f) else none
def aDig (s d : Nat) (o : List Nat) (f : List Bool) : List Int32 → Option aC
  | [] => none
  | v :: r => if d = 0 ∨ 4 ≤ d then none else some (false, d + 1, o, (v * 10 + nI (s - 48)) :: r, f)
def aClo (o : List Nat) (r : List Int32) : List Bool → Option aC
  | _ :: g :: fs => some (false, 0, (abr 1 o r).1.tail, (abr 1 o r).2, g :: fs)
  | _ => none
def aPar (many : Bool) (o : List Nat) (r : List Int32) : List Bool → Option aC
  | [_] => if many = true then some (true, 0, (abr 1 o r).1, -300 :: (abr 1 o r).2, [false]) else none
  | _ => none
def aJoi (s : Nat) (o : List Nat) (r : List Int32) : List Bool → Option aC
  | g :: fs => if alev s = 3 ∧ g = true then none else some (true, 0, s :: (abr (alev s) o r).1, (abr (alev s) o r).2, (if alev s ≤ 3 then decide (alev s = 3) else g) :: fs)
  | [] => none
def aOn (many : Bool) (s d : Nat) (o : List Nat) (r : List Int32) (f : List Bool) : Option aC :=
  if 48 ≤ s ∧ s ≤ 57 then aDig s d o f r else if s = 41 then aClo o r f else if s = 59 then aPar many o r f else if 1 ≤ alev s ∧ alev s ≤ 5 then aJoi s o r f else none
def astep (many : Bool) (s : Nat) : aC → Option aC
  | (true, d, o, r, f) => aBeg s d o r f
  | (false, d, o, r, f) => aOn many s d o r f
theorem abr_app {l : Nat} {o : List Nat} : ∀ (P : List Nat) (r : List Int32), (∀ x, x ∈ P → l ≤ alev x) → abr l (P ++ o) r = abr l o ((P.map amk).reverse ++ r) := by
  intro P
  induction P with
  | nil => intro r _; rfl
  | cons x P ih =>
    intro r h
    rw [List.cons_append, abr, if_pos (h x List.mem_cons_self), ih _ fun y hy => h y (List.mem_cons_of_mem _ hy), List.map_cons, List.reverse_cons, List.append_assoc]
    rfl
/-- what waits on top binds less -/
def aLo (l : Nat) (o : List Nat) : Prop := ∀ x t, o = x :: t → alev x < l
theorem abr_lo {l : Nat} {o : List Nat} {r : List Int32} (h : aLo l o) : abr l o r = (o, r) := by
  cases o with
  | nil => rfl
  | cons x t =>
    have := h x t rfl
    rw [abr, if_neg (by omega)]
theorem aLo_up {l m : Nat} {o : List Nat} (h : aLo l o) (hm : l ≤ m) : aLo m o := fun x t e => Nat.lt_of_lt_of_le (h x t e) hm
theorem aLo_c {l x : Nat} {o : List Nat} (h : alev x < l) : aLo l (x :: o) := fun y t e => by
  injection e with e1 e2
  rw [← e1]
  exact h
theorem abr_P {l : Nat} {o P : List Nat} {r : List Int32} (h : ∀ x, x ∈ P → l ≤ alev x) (ho : aLo l o) : abr l (P ++ o) r = (o, (P.map amk).reverse ++ r) := by
  rw [abr_app P r h, abr_lo ho]
/-! runs of it -/
def arun (many : Bool) (c : Nat → Nat) : Nat → Nat → aC → Option aC
  | 0, _, x => some x
  | m + 1, i, x => (astep many (c i) x).bind (arun many c m (i + 1))
def AR (many : Bool) (c : Nat → Nat) (i : Nat) (x : aC) (j : Nat) (y : aC) : Prop := ∃ m, i + m = j ∧ arun many c m i x = some y
section RUNS
variable {many : Bool} {c : Nat → Nat}
theorem AR_r (i : Nat) (x : aC) : AR many c i x i x := ⟨0, rfl, rfl⟩
theorem arun_app : ∀ (m k i : Nat) (x y : aC), arun many c m i x = some y → arun many c (m + k) i x = arun many c k (i + m) y := by
  intro m
  induction m with
  | zero =>
    intro k i x y h
    cases h
    rw [Nat.zero_add, Nat.add_zero]
  | succ m ih =>
    intro k i x y h
    rw [show m + 1 + k = (m + k) + 1 by omega]
    rw [arun] at h ⊢
    cases hq : astep many (c i) x with
    | none => rw [hq] at h; cases h
    | some z =>
      rw [hq] at h
      rw [Option.bind_some] at h ⊢
      rw [ih k (i + 1) z y h, show i + 1 + m = i + (m + 1) by omega]
theorem AR_t {i j k : Nat} {x y z : aC} (h1 : AR many c i x j y) (h2 : AR many c j y k z) : AR many c i x k z := by
  obtain ⟨m, e1, r1⟩ := h1
  obtain ⟨m2, e2, r2⟩ := h2
  refine ⟨m + m2, by omega, ?_⟩
  rw [arun_app m m2 i x y r1, e1, r2]
theorem AR_s {i : Nat} {x y : aC} (h : astep many (c i) x = some y) : AR many c i x (i + 1) y := ⟨1, rfl, by rw [arun, h]; rfl⟩
/-- it goes no further -/
def AS (many : Bool) (c : Nat → Nat) (n j : Nat) (y : aC) : Prop := (j = n ∧ (y.1 = true ∨ 1 < y.2.2.2.2.length)) ∨ (j < n ∧ astep many (c j) y = none)
end RUNS
/-! levels of the parser's methods -/
def klv (k : Nat) : Nat := if k = 0 then 6 else 7 - k
def NX (c : Nat → Nat) (n k j d : Nat) (f : Bool) : Prop := j < n → (48 ≤ c j → c j ≤ 57 → (d = 0 ∨ 4 ≤ d)) ∧ (klv k ≤ alev (c j) → alev (c j) ≤ 5 → alev (c j) = 3 ∧ f = true)
def DW (W : List Int32) : Prop := (∀ d rest, dep (W ++ rest) d = dep rest (d + 1)) ∧ ¬ (-300) ∈ W
theorem DW_one {m : Int32} (h : -16 ≤ m) : DW [m] := by
  refine ⟨fun d rest => ?_, fun h2 => ?_⟩
  · show dep (m :: rest) d = _
    rw [dep, if_pos h]
  · rw [List.mem_singleton] at h2
    rw [← h2] at h
    exact absurd h (by decide)
theorem DW_un {W : List Int32} {x : Nat} (h : DW W) (hx : x = 33 ∨ x = 126) : DW (W ++ [amk x]) := by
  have e : ∀ d rest, dep (amk x :: rest) (d + 1) = dep rest (d + 1) := fun d rest => by
    have h1 : ¬ -16 ≤ amk x := by rcases hx with e | e <;> rw [e] <;> decide
    have h2 : is1 (amk x) = true := by rcases hx with e | e <;> rw [e] <;> decide
    rw [dep, if_neg h1, if_pos h2, if_pos (by omega)]
  refine ⟨fun d rest => ?_, fun h2 => ?_⟩
  · rw [List.append_assoc, h.1]
    exact e d rest
  · rcases List.mem_append.mp h2 with h2 | h2
    · exact h.2 h2
    · rw [List.mem_singleton] at h2
      revert h2
      rcases hx with e | e <;> rw [e] <;> decide
theorem alev_5 {x : Nat} (h : 1 ≤ alev x) (h2 : alev x ≤ 5) : x = 124 ∨ x = 38 ∨ x = 60 ∨ x = 61 ∨ x = 62 ∨ x = 43 ∨ x = 45 ∨ x = 42 ∨ x = 47 ∨ x = 37 := by
  unfold alev at h h2
  by_cases c1 : x = 124; · exact Or.inl c1
  by_cases c2 : x = 38; · simp [c2]
  by_cases c3 : x = 60; · simp [c3]
  by_cases c4 : x = 61; · simp [c4]
  by_cases c5 : x = 62; · simp [c5]
  by_cases c6 : x = 43; · simp [c6]
  by_cases c7 : x = 45; · simp [c7]
  by_cases c8 : x = 42; · simp [c8]
  by_cases c9 : x = 47; · simp [c9]
  by_cases c10 : x = 37; · simp [c10]
  rw [if_neg c1, if_neg c2, if_neg c3, if_neg c4, if_neg c5, if_neg c6, if_neg c7, if_neg c8, if_neg c9, if_neg c10] at h h2
  by_cases c11 : x = 33
  · rw [if_pos c11] at h2; omega
  · rw [if_neg c11] at h h2
    by_cases c12 : x = 126
    · rw [if_pos c12] at h2; omega
    · rw [if_neg c12] at h; omega
theorem DW_bi {W V : List Int32} {x : Nat} (h : DW W) (hV : DW V) (h1 : 1 ≤ alev x) (h5 : alev x ≤ 5) : DW (W ++ (V ++ [amk x])) := by
  have hx := alev_5 h1 h5
  have e : ∀ d rest, dep (amk x :: rest) (d + 1 + 1) = dep rest (d + 1) := fun d rest => by
    have q1 : ¬ -16 ≤ amk x := by rcases hx with e | e | e | e | e | e | e | e | e | e <;> rw [e] <;> decide
    have q2 : ¬ is1 (amk x) = true := by rcases hx with e | e | e | e | e | e | e | e | e | e <;> rw [e] <;> decide
    have q3 : is2 (amk x) = true := by rcases hx with e | e | e | e | e | e | e | e | e | e <;> rw [e] <;> decide
    rw [dep, if_neg q1, if_neg q2, if_pos q3, if_pos (by omega)]
    rfl
  refine ⟨fun d rest => ?_, fun h2 => ?_⟩
  · rw [List.append_assoc, h.1, List.append_assoc, hV.1]
    exact e d rest
  · rcases List.mem_append.mp h2 with h2 | h2
    · exact h.2 h2
    · rcases List.mem_append.mp h2 with h2 | h2
      · exact hV.2 h2
      · rw [List.mem_singleton] at h2
        revert h2
        rcases hx with e | e | e | e | e | e | e | e | e | e <;> rw [e] <;> decide
/-- the automaton's way through a part of a text that the parser takes -/
def GD (many : Bool) (c : Nat → Nat) (n k kn i : Nat) (o : List Nat) (f : Bool) (fs : List Bool) (r : List Int32) (j : Nat) (R : List Int32) : Prop := i < j ∧ ∃ d P r1 f' W, AR many c i (true, 0, o, r, f :: fs) j (false, d, P ++ o, r1, f' :: fs) ∧ (∀ x, x ∈ P → klv k ≤ alev x) ∧ (P.map amk).reverse ++ r1 = R ∧ R = W.reverse ++ r ∧ DW W ∧ W.length + i ≤ j ∧ (k ≤ 3 → f' = f) ∧ NX c n kn j d f'
/-! tables of signs -/
theorem tb_L : ∀ s, s < 256 → isL s = true → ¬ s = 33 ∧ ¬ s = 45 ∧ ¬ s = 40 ∧ ¬ (48 ≤ s ∧ s ≤ 57) ∧ -16 ≤ lmk s ∧ s ≠ 0 := by decide +kernel
theorem tb_0 : ∀ s, s < 256 → f_J0_indexOf_0f7a4_t0 (nI s) = some (if isL s = true then nI (lts.idxOf s) else -1) := by decide +kernel
theorem tb_ix : ∀ s, s < 256 → isL s = true → lts.idxOf s < 16 := by decide +kernel
theorem tb_1 : ∀ s, s < 256 → (f_J0_indexOf_0f7a4_t1 (nI s)).map (fun x => decide (x < 0)) = some (decide (¬ (48 ≤ s ∧ s ≤ 57))) ∨ s = 0 := by decide +kernel
theorem tb_2 : ∀ s, s < 256 → (f_J0_indexOf_0f7a4_t2 (nI s)).map (fun x => decide (x < 0)) = some (decide (¬ (s = 33 ∨ s = 45))) ∨ s = 0 := by decide +kernel
theorem tb_3 : ∀ s, s < 256 → (f_J0_indexOf_0f7a4_t3 (nI s)).map (fun x => decide (x < 0)) = some (decide (¬ alev s = 5)) ∨ s = 0 := by decide +kernel
theorem tb_4 : ∀ s, s < 256 → (f_J0_indexOf_0f7a4_t4 (nI s)).map (fun x => decide (x < 0)) = some (decide (¬ alev s = 4)) ∨ s = 0 := by decide +kernel
theorem tb_5 : ∀ s, s < 256 → (f_J0_indexOf_0f7a4_t5 (nI s)).map (fun x => decide (x < 0)) = some (decide (¬ alev s = 3)) ∨ s = 0 := by decide +kernel
theorem klv_0 : klv 0 = 6 := rfl
theorem klv_1 : klv 1 = 6 := rfl
theorem klv_2 : klv 2 = 5 := rfl
theorem klv_3 : klv 3 = 4 := rfl
theorem klv_4 : klv 4 = 3 := rfl
theorem klv_5 : klv 5 = 2 := rfl
theorem klv_6 : klv 6 = 1 := rfl
