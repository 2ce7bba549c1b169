/-! A PLAIN MEMORY over the kit's worlds: cells by number, ints and longs by cell and place. -/
abbrev xC : Type := Nat × Nat × List (Option Nat)
abbrev xS : Type := (Nat → Nat → Int32) × (Nat → Nat → Int64)
abbrev xM : Type := List xC × xS
abbrev xL : Type := List (Option Value)
abbrev xm : Type := MethodName × ByteArray × Nat × Option FieldType
def rd (u : xS) (c j : Nat) : Int32 := u.1 c j
def rl (u : xS) (c j : Nat) : Int64 := u.2 c j
def wr (u : xS) (c j : Nat) (v : Int32) : xS := (fun c' j' => if c' = c then (if j' = j then v else u.1 c' j') else u.1 c' j', u.2)
def wl (u : xS) (c j : Nat) (v : Int64) : xS := (u.1, fun c' j' => if c' = c then (if j' = j then v else u.2 c' j') else u.2 c' j')
theorem rd_wr (u : xS) (c j c' j' : Nat) (v : Int32) : rd (wr u c j v) c' j' = if c' = c then (if j' = j then v else rd u c' j') else rd u c' j' := rfl
theorem rl_wr (u : xS) (c j c' j' : Nat) (v : Int32) : rl (wr u c j v) c' j' = rl u c' j' := rfl
theorem rd_wl (u : xS) (c j c' j' : Nat) (v : Int64) : rd (wl u c j v) c' j' = rd u c' j' := rfl
theorem rl_wl (u : xS) (c j c' j' : Nat) (v : Int64) : rl (wl u c j v) c' j' = if c' = c then (if j' = j then v else rl u c' j') else rl u c' j' := rfl
/-- which fields of an object of class ci are references -/
def x_isR : FieldType → Bool
  | .int => false
  | .boolean => false
  | .byte => false
  | _ => true
def x_fty (ci : Nat) : Nat → FieldType := match ci with
  | 0 => tyX0 | 1 => tyX1 | 2 => tyX2 | 3 => tyX3 | 4 => tyX4 | 5 => tyX5 | 6 => tyX6 | 7 => tyX7 | 8 => tyX8 | 9 => tyX9 | 10 => tyX10 | 11 => tyX11 | _ => tyX12
def x_cl (ci : Nat) : vw_C := vwCl.getD ci (RX0, TX0, 0)
def x_v (ad : Nat → Nat) : Value → Value
  | .ref k => .ref (ad k)
  | v => v
def x_fs (ad : Nat → Nat) (f : Nat → Int32) (ci : Nat) (rf : List (Option Nat)) : List Value :=
  (List.range (x_cl ci).2.2).map fun j => if x_isR (x_fty ci j) = true then va_rf ((rf.getD j none).map ad) else .int (f j)
def x_ty : Nat → FieldType
  | 0 => .int
  | 1 => .boolean
  | 2 => .long
  | _ => .array .int
def x_e (cA : Nat → ClassId) (ad : Nat → Nat) (u : xS) (k : Nat) (c : xC) : va_E := match c.1 with
  | 0 => .inl (cA 0, (c.2.1, .inl (u.1 k)))
  | 1 => .inl (cA 1, (c.2.1, .inl (u.1 k)))
  | 2 => .inl (cA 2, (c.2.1, .inr (.inl (u.2 k))))
  | 3 => .inl (cA 3, (c.2.1, .inr (.inr (.inr (.inr fun j => (c.2.2.getD j none).map ad)))))
  | ci + 4 => .inr (ci, x_fs ad (u.1 k) ci c.2.2)
def x_w (cA : Nat → ClassId) (ad : Nat → Nat) (μ : xM) : va_W := (List.range μ.1.length).map fun k => (ad k, x_e cA ad μ.2 k (μ.1.getD k (0, 0, [])))
abbrev x_tys (cA : Nat → ClassId) : List (ClassId × FieldType) := [(cA 0, .int), (cA 1, .boolean), (cA 2, .long), (cA 3, .array .int)]
theorem x_w_len (cA : Nat → ClassId) (ad : Nat → Nat) (μ : xM) : (x_w cA ad μ).length = μ.1.length := by simp [x_w]
theorem x_w_at {cA : Nat → ClassId} {ad : Nat → Nat} {μ : xM} {k : Nat} {c : xC} (h : μ.1[k]? = some c) : (x_w cA ad μ)[k]? = some (ad k, x_e cA ad μ.2 k c) := by
  have hk := (List.getElem?_eq_some_iff.mp h).1
  simp only [x_w, List.getElem?_map, List.getElem?_range hk, Option.map_some, List.getD_eq_getElem?_getD, h, Option.getD_some]
theorem x_w_out {cA : Nat → ClassId} {ad : Nat → Nat} {μ : xM} {k : Nat} (h : μ.1.length ≤ k) : (x_w cA ad μ)[k]? = none := by
  simp [x_w, h]
theorem x_w_inv {cA : Nat → ClassId} {ad : Nat → Nat} {μ : xM} {k : Nat} {q : Nat × va_E} (h : (x_w cA ad μ)[k]? = some q) : ∃ c, μ.1[k]? = some c ∧ q = (ad k, x_e cA ad μ.2 k c) := by
  have hk : k < μ.1.length := by
    have := (List.getElem?_eq_some_iff.mp h).1
    rwa [x_w_len] at this
  have hc : μ.1[k]? = some μ.1[k] := List.getElem?_eq_getElem hk
  refine ⟨_, hc, ?_⟩
  rw [x_w_at hc] at h
  exact (Option.some.inj h).symm
/-- one cell changes -/
theorem x_w_set {cA : Nat → ClassId} {ad : Nat → Nat} {G G' : List xC} {u u' : xS} {k : Nat} {c : xC} {e : va_E} (hc : G'[k]? = some c) (hl : G'.length = G.length) (he : x_e cA ad u' k c = e) (ho : ∀ k' c', k' ≠ k → G[k']? = some c' → G'[k']? = some c' ∧ x_e cA ad u' k' c' = x_e cA ad u k' c') :
    (x_w cA ad (G, u)).set k (ad k, e) = x_w cA ad (G', u') := by
  have hk : k < G.length := by
    have := (List.getElem?_eq_some_iff.mp hc).1
    omega
  apply List.ext_getElem?
  intro j
  by_cases hj : j = k
  · subst hj
    rw [List.getElem?_set_self (by rw [x_w_len]; exact hk), x_w_at (μ := (G', u')) hc, he]
  · rw [List.getElem?_set_ne (Ne.symm hj)]
    by_cases hjl : j < G.length
    · have h1 : G[j]? = some G[j] := List.getElem?_eq_getElem hjl
      obtain ⟨h2, h3⟩ := ho j _ hj h1
      rw [x_w_at (μ := (G, u)) h1, x_w_at (μ := (G', u')) h2, h3]
    · rw [x_w_out (μ := (G, u)) (Nat.not_lt.mp hjl), x_w_out (μ := (G', u')) (by rw [hl]; exact Nat.not_lt.mp hjl)]
theorem x_e_wr {cA : Nat → ClassId} {ad : Nat → Nat} {u : xS} {k k' j : Nat} {v : Int32} {c : xC} (h : k' ≠ k) : x_e cA ad (wr u k j v) k' c = x_e cA ad u k' c := by
  have e : (wr u k j v).1 k' = u.1 k' := by funext j'; simp [wr, h]
  have e2 : (wr u k j v).2 = u.2 := rfl
  unfold x_e
  rw [e, e2]
theorem x_e_wl {cA : Nat → ClassId} {ad : Nat → Nat} {u : xS} {k k' j : Nat} {v : Int64} {c : xC} (h : k' ≠ k) : x_e cA ad (wl u k j v) k' c = x_e cA ad u k' c := by
  have e : (wl u k j v).2 k' = u.2 k' := by funext j'; simp [wl, h]
  have e2 : (wl u k j v).1 = u.1 := rfl
  unfold x_e
  rw [e, e2]
theorem x_w_wr {cA : Nat → ClassId} {ad : Nat → Nat} {G : List xC} {u : xS} {k j : Nat} {v : Int32} {c : xC} {e : va_E} (hc : G[k]? = some c) (he : x_e cA ad (wr u k j v) k c = e) : (x_w cA ad (G, u)).set k (ad k, e) = x_w cA ad (G, wr u k j v) :=
  x_w_set hc rfl he fun _ _ h h1 => ⟨h1, x_e_wr h⟩
theorem x_w_wl {cA : Nat → ClassId} {ad : Nat → Nat} {G : List xC} {u : xS} {k j : Nat} {v : Int64} {c : xC} {e : va_E} (hc : G[k]? = some c) (he : x_e cA ad (wl u k j v) k c = e) : (x_w cA ad (G, u)).set k (ad k, e) = x_w cA ad (G, wl u k j v) :=
  x_w_set hc rfl he fun _ _ h h1 => ⟨h1, x_e_wl h⟩
/-- references of a memory that are told lie in it -/
def x_refs (G : List xC) : Prop := ∀ (k : Nat) (c : xC), G[k]? = some c → ∀ (j a : Nat), c.2.2.getD j none = some a → a < G.length
theorem x_e_ad {cA : Nat → ClassId} {ad ad' : Nat → Nat} {u : xS} {k : Nat} {c : xC} (h : ∀ j a, c.2.2.getD j none = some a → ad' a = ad a) : x_e cA ad' u k c = x_e cA ad u k c := by
  have e : ∀ j, (c.2.2.getD j none).map ad' = (c.2.2.getD j none).map ad := by
    intro j
    cases hj : c.2.2.getD j none with
    | none => rfl
    | some a => simp [h j a hj]
  unfold x_e
  simp only [x_fs, e]
theorem x_w_ad {cA : Nat → ClassId} {ad ad' : Nat → Nat} {μ : xM} (hr : x_refs μ.1) (h : ∀ k, k < μ.1.length → ad' k = ad k) : x_w cA ad' μ = x_w cA ad μ := by
  apply List.ext_getElem?
  intro k
  by_cases hk : k < μ.1.length
  · have h1 : μ.1[k]? = some μ.1[k] := List.getElem?_eq_getElem hk
    rw [x_w_at h1, x_w_at h1, h k hk, x_e_ad fun j a hj => h a (hr k _ h1 j a hj)]
  · rw [x_w_out (Nat.not_lt.mp hk), x_w_out (Nat.not_lt.mp hk)]
/-! the locals -/
def x_kill : Option Value → Option Value
  | some (.long _) => none
  | some (.double _) => none
  | o => o
def x_st1 : xL → Nat → Value → xL
  | [], _, _ => []
  | _ :: t, 0, v => some v :: t
  | a :: t, 1, v => x_kill a :: x_st1 t 0 v
  | a :: t, i + 2, v => a :: x_st1 t (i + 1) v
def x_st2 : xL → Nat → Value → xL
  | _ :: _ :: t, 0, v => some v :: none :: t
  | a :: t, 1, v => x_kill a :: x_st2 t 0 v
  | a :: t, i + 2, v => a :: x_st2 t (i + 1) v
  | l, _, _ => l
def x_ls (ad : Nat → Nat) : Nat → xL → List (Nat × Value)
  | _, [] => []
  | i, none :: t => x_ls ad (i + 1) t
  | i, some v :: t => (i, x_v ad v) :: x_ls ad (i + 1) t
theorem x_ls_mem {ad : Nat → Nat} {q : Nat × Value} : ∀ (L : xL) (b : Nat), q ∈ x_ls ad b L ↔ ∃ j v, L[j]? = some (some v) ∧ q = (b + j, x_v ad v)
  | [], b => by simp [x_ls]
  | none :: t, b => by
    rw [x_ls, x_ls_mem t (b + 1)]
    constructor
    · rintro ⟨j, v, h1, h2⟩
      exact ⟨j + 1, v, by simpa using h1, by rw [h2, show b + 1 + j = b + (j + 1) by omega]⟩
    · rintro ⟨j, v, h1, h2⟩
      cases j with
      | zero => simp at h1
      | succ j => exact ⟨j, v, by simpa using h1, by rw [h2, show b + 1 + j = b + (j + 1) by omega]⟩
  | some w :: t, b => by
    rw [x_ls, List.mem_cons, x_ls_mem t (b + 1)]
    constructor
    · rintro (h | ⟨j, v, h1, h2⟩)
      · exact ⟨0, w, rfl, by rw [h]; rfl⟩
      · exact ⟨j + 1, v, by simpa using h1, by rw [h2, show b + 1 + j = b + (j + 1) by omega]⟩
    · rintro ⟨j, v, h1, h2⟩
      cases j with
      | zero =>
        simp only [List.getElem?_cons_zero, Option.some.injEq] at h1
        subst h1
        exact Or.inl h2
      | succ j => exact Or.inr ⟨j, v, by simpa using h1, by rw [h2, show b + 1 + j = b + (j + 1) by omega]⟩
theorem x_v_cat (ad : Nat → Nat) (v : Value) : (x_v ad v).category = v.category := by cases v <;> rfl
theorem x_ls_at {ad : Nat → Nat} {ls : Array Slot} {n i : Nat} {L : xL} {v : Value} (h : lv_has ls n (x_ls ad 0 L)) (hi : L[i]? = some (some v)) : ls[i]? = some (.val (x_v ad v)) :=
  h.2.2 (i, x_v ad v) ((x_ls_mem L 0).mpr ⟨i, v, hi, by simp⟩)
theorem x_kill_some {o : Option Value} {w : Value} (h : x_kill o = some w) : o = some w ∧ ¬ w.category = 2 := by
  cases o with
  | none => cases h
  | some z => cases z <;> simp [x_kill] at h <;> subst h <;> simp [Value.category]
theorem x_st1_get : ∀ (L : xL) (i : Nat) (v : Value) (j : Nat) (w : Value), (x_st1 L i v)[j]? = some (some w) → (j = i ∧ w = v) ∨ (j ≠ i ∧ L[j]? = some (some w) ∧ (j + 1 = i → ¬ w.category = 2))
  | [], i, v, j, w, h => by simp [x_st1] at h
  | a :: t, 0, v, j, w, h => by
    cases j with
    | zero => simp [x_st1] at h; exact Or.inl ⟨rfl, h.symm⟩
    | succ j => simp [x_st1] at h; exact Or.inr ⟨by omega, by simpa using h, by omega⟩
  | a :: t, 1, v, j, w, h => by
    cases j with
    | zero =>
      simp [x_st1] at h
      obtain ⟨h1, h2⟩ := x_kill_some h
      exact Or.inr ⟨by omega, by simp [h1], fun _ => h2⟩
    | succ j =>
      simp only [x_st1, List.getElem?_cons_succ] at h
      rcases x_st1_get t 0 v j w h with ⟨h1, h2⟩ | ⟨h1, h2, h3⟩
      · exact Or.inl ⟨by omega, h2⟩
      · exact Or.inr ⟨by omega, by simpa using h2, by omega⟩
  | a :: t, i + 2, v, j, w, h => by
    cases j with
    | zero => simp [x_st1] at h; exact Or.inr ⟨by omega, by simp [h], by omega⟩
    | succ j =>
      simp only [x_st1, List.getElem?_cons_succ] at h
      rcases x_st1_get t (i + 1) v j w h with ⟨h1, h2⟩ | ⟨h1, h2, h3⟩
      · exact Or.inl ⟨by omega, h2⟩
      · exact Or.inr ⟨by omega, by simpa using h2, fun h => h3 (by omega)⟩
theorem x_st2_get : ∀ (L : xL) (i : Nat) (v : Value) (j : Nat) (w : Value), i + 1 < L.length → (x_st2 L i v)[j]? = some (some w) → (j = i ∧ w = v) ∨ (j ≠ i ∧ j ≠ i + 1 ∧ L[j]? = some (some w) ∧ (j + 1 = i → ¬ w.category = 2))
  | [], i, v, j, w, hl, h => by simp at hl
  | [a], i, v, j, w, hl, h => by simp at hl
  | a :: b :: t, 0, v, j, w, hl, h => by
    match j with
    | 0 => simp [x_st2] at h; exact Or.inl ⟨rfl, h.symm⟩
    | 1 => simp [x_st2] at h
    | j + 2 => simp [x_st2] at h; exact Or.inr ⟨by omega, by omega, by simpa using h, by omega⟩
  | a :: b :: t, 1, v, j, w, hl, h => by
    cases j with
    | zero =>
      simp [x_st2] at h
      obtain ⟨h1, h2⟩ := x_kill_some h
      exact Or.inr ⟨by omega, by omega, by simp [h1], fun _ => h2⟩
    | succ j =>
      simp only [x_st2, List.getElem?_cons_succ] at h
      rcases x_st2_get (b :: t) 0 v j w (by simpa using hl) h with ⟨h1, h2⟩ | ⟨h1, h2, h3, h4⟩
      · exact Or.inl ⟨by omega, h2⟩
      · exact Or.inr ⟨by omega, by omega, by simpa using h3, by omega⟩
  | a :: b :: t, i + 2, v, j, w, hl, h => by
    cases j with
    | zero => simp [x_st2] at h; exact Or.inr ⟨by omega, by omega, by simp [h], by omega⟩
    | succ j =>
      simp only [x_st2, List.getElem?_cons_succ] at h
      rcases x_st2_get (b :: t) (i + 1) v j w (by simp at hl ⊢; omega) h with ⟨h1, h2⟩ | ⟨h1, h2, h3, h4⟩
      · exact Or.inl ⟨by omega, h2⟩
      · exact Or.inr ⟨by omega, by omega, by simpa using h3, fun h => h4 (by omega)⟩
theorem x_keep1 {ad : Nat → Nat} {ls : Array Slot} {n i : Nat} {L : xL} {v : Value} (h : lv_has ls n ((i, x_v ad v) :: (x_ls ad 0 L).filter (fun q => !(q.1 == i) && !(q.1 + 1 == i && q.2.category == 2)))) : lv_has ls n (x_ls ad 0 (x_st1 L i v)) := by
  refine ⟨h.1, h.2.1, fun q hq => h.2.2 q ?_⟩
  obtain ⟨j, w, h1, rfl⟩ := (x_ls_mem _ 0).mp hq
  rcases x_st1_get L i v j w h1 with ⟨rfl, rfl⟩ | ⟨h2, h3, h4⟩
  · exact List.mem_cons.mpr (Or.inl (by simp))
  · refine List.mem_cons_of_mem _ (List.mem_filter.mpr ⟨(x_ls_mem L 0).mpr ⟨j, w, h3, rfl⟩, ?_⟩)
    simp only [Nat.zero_add, x_v_cat]
    by_cases h5 : j + 1 = i
    · simp [h2, h4 h5]
    · simp [h2, h5]
theorem x_keep2 {ad : Nat → Nat} {ls : Array Slot} {n i : Nat} {L : xL} {v : Value} (hi : i + 1 < L.length) (h : lv_has ls n ((i, x_v ad v) :: (x_ls ad 0 L).filter (fun q => !(q.1 == i) && (!(q.1 == i + 1) && !(q.1 + 1 == i && q.2.category == 2))))) : lv_has ls n (x_ls ad 0 (x_st2 L i v)) := by
  refine ⟨h.1, h.2.1, fun q hq => h.2.2 q ?_⟩
  obtain ⟨j, w, h1, rfl⟩ := (x_ls_mem _ 0).mp hq
  rcases x_st2_get L i v j w hi h1 with ⟨rfl, rfl⟩ | ⟨h2, h3, h4, h6⟩
  · exact List.mem_cons.mpr (Or.inl (by simp))
  · refine List.mem_cons_of_mem _ (List.mem_filter.mpr ⟨(x_ls_mem L 0).mpr ⟨j, w, h4, rfl⟩, ?_⟩)
    simp only [Nat.zero_add, x_v_cat]
    by_cases h5 : j + 1 = i
    · simp [h2, h3, h6 h5]
    · simp [h2, h3, h5]
/-- what a method begins with -/
def x_en : List Value → xL
  | [] => []
  | v :: t => if v.category = 2 then some v :: none :: x_en t else some v :: x_en t
theorem x_en_mem {ad : Nat → Nat} {q : Nat × Value} : ∀ (as : List Value) (n b : Nat), q ∈ x_ls ad b (x_en as ++ List.replicate n none) → q ∈ lv_args b (as.map (x_v ad))
  | [], n, b, h => by
    obtain ⟨j, v, h1, -⟩ := (x_ls_mem _ b).mp h
    simp [x_en, List.getElem?_replicate] at h1
  | v :: t, n, b, h => by
    rw [List.map_cons, lv_args, x_v_cat]
    by_cases hc : v.category = 2
    · rw [x_en, if_pos hc, List.cons_append, List.cons_append, x_ls, x_ls] at h
      rw [if_pos hc]
      rcases List.mem_cons.mp h with h | h
      · exact List.mem_cons.mpr (Or.inl h)
      · exact List.mem_cons_of_mem _ (x_en_mem t n (b + 2) h)
    · rw [x_en, if_neg hc, List.cons_append, x_ls] at h
      rw [if_neg hc]
      rcases List.mem_cons.mp h with h | h
      · exact List.mem_cons.mpr (Or.inl h)
      · exact List.mem_cons_of_mem _ (x_en_mem t n (b + 1) h)
