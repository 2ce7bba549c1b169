/-! THE REFERENCE'S SEARCH -/
def clN (u : xS) (b n : Nat) : Bool := it (fun c x => x && (decide (¬ vdd u c = 0) || decide (pcc u c b = 0))) true n
def cvN (u : xS) (s : List Nat) (n : Nat) : Bool := it (fun c x => x && (decide (¬ vdd u c = 1) || s.any (fun b => decide (¬ pcc u c b ≤ 0)))) true n
def b01 (x : Bool) : Int32 := if x = true then 1 else 0
theorem b01_0 (x : Bool) : b01 x = 0 ↔ x = false := by cases x <;> decide
theorem xb_b01 (x : Bool) : xb (b01 x) = true := by cases x <;> decide
theorem clean12 {u : xS} (hC : i_C u) {b : Nat} (hb : b < 24) : f_X12_isClean u (nI b) = some (b01 (clN u b (nC u))) := by
  obtain ⟨h1, h2, h3, h4, h5⟩ := hC
  refine it_loop (S := nC u) (F := fun N c x => f_X12_isClean_4 u N (nI b) (b01 x) (nI c)) (a := true) (fun c x => x && (decide (¬ vdd u c = 0) || decide (pcc u c b = 0))) (fun x => some (b01 x)) (fun n c x hc => ?_) (fun n x => ?_) (xN_lt (by omega))
  · rw [f_X12_isClean_4, h2, ite_nle hc (by omega)]
    unfold f_X12_isClean_43 f_X12_isClean_39 f_X12_isClean_44
    rw [gd_nI (by omega) (by omega), nI_cl (by omega), l_24, pk_mul, nI_add, gd_nI (by omega) (by omega), nI_cl (by omega), nI_1]
    cases x with
    | false => rw [if_pos (show b01 false = 0 by decide)]; rfl
    | true =>
      rw [if_neg (show ¬ b01 true = 0 by decide)]
      by_cases c1 : rd u 162 c = 0
      · rw [if_pos c1]
        by_cases c2 : rd u 161 (24 * c + b) = 0
        · rw [if_pos c2, show (true && (decide (¬ vdd u c = 0) || decide (pcc u c b = 0))) = true by unfold pcc; simp [c2]]
          rfl
        · rw [if_neg c2, show (true && (decide (¬ vdd u c = 0) || decide (pcc u c b = 0))) = false by unfold pcc vdd; simp [c1, c2]]
          rfl
      · rw [if_neg c1, show (true && (decide (¬ vdd u c = 0) || decide (pcc u c b = 0))) = true by unfold vdd; simp [c1]]
        rfl
  · rw [f_X12_isClean_4, h2, ite_yle (Nat.le_refl _) (by omega), xb_b01, gd_t]
def st166 (s : List Nat) (u : xS) : Prop := ∀ i x, s[i]? = some x → rd u 166 i = nI x
theorem all12 {u : xS} (hC : i_C u) {s : List Nat} {n : Nat} (hs : st166 s u) (hn : s.length = n) (hn4 : n ≤ 4) (hb : ∀ b, b ∈ s → b < 24) : f_X12_areAll u (nI n) = some (b01 (cvN u s (nC u))) := by
  obtain ⟨h1, h2, h3, h4, h5⟩ := hC
  have inner : ∀ (k : Int32 → Int32 → Int32 → Option Int32) (c : Nat) (x : Bool), c < nC u → ∀ (t p : List Nat) (N : Nat) (y : Bool), p ++ t = s → t.length < N → f_X12_areAll_32 k u N (nI n) (b01 x) (nI c) (b01 y) (nI p.length) = k (nI n) (b01 (x && (y || t.any (fun b => decide (¬ pcc u c b ≤ 0))))) (nI (c + 1)) := by
    intro k c x hc t
    induction t with
    | nil =>
      intro p N y q1 q2
      obtain ⟨N, rfl⟩ : ∃ M, N = M + 1 := ⟨N - 1, by omega⟩
      rw [List.append_nil] at q1
      rw [f_X12_areAll_32, q1, hn, ite_yle (Nat.le_refl _) (by omega)]
      unfold f_X12_areAll_89 f_X12_areAll_90
      rw [nI_1]
      cases x <;> cases y <;> rfl
    | cons b t ih =>
      intro p N y q1 q2
      rw [List.length_cons] at q2
      obtain ⟨N, rfl⟩ : ∃ M, N = M + 1 := ⟨N - 1, by omega⟩
      have hl : p.length < n := by rw [← hn, ← q1, List.length_append, List.length_cons]; omega
      have hb2 : b < 24 := hb b (by rw [← q1]; simp)
      have gx : rd u 166 p.length = nI b := hs p.length b (by rw [← q1, List.getElem?_append_right (Nat.le_refl _), Nat.sub_self]; rfl)
      have h := ih (p ++ [b]) N
      rw [List.length_append] at h
      rw [f_X12_areAll_32, ite_nle hl (by omega)]
      unfold f_X12_areAll_63 f_X12_areAll_68
      rw [gd_nI (by omega) (by omega), nI_cl (by omega), gx, l_24, pk_mul, nI_add, gd_nI (by omega) (by omega), nI_cl (by omega), nI_1]
      cases y with
      | true =>
        rw [if_neg (show ¬ b01 true = 0 by decide)]
        have := h true (by rw [List.append_assoc]; exact q1) (by omega)
        rw [Bool.true_or] at this ⊢
        exact this
      | false =>
        rw [if_pos (show b01 false = 0 by decide), List.any_cons, Bool.false_or]
        by_cases c1 : rd u 161 (24 * c + b) ≤ 0
        · rw [if_pos c1]
          have := h false (by rw [List.append_assoc]; exact q1) (by omega)
          rw [Bool.false_or] at this
          rw [show decide (¬ pcc u c b ≤ 0) = false from decide_eq_false (fun z => z c1), Bool.false_or]
          exact this
        · rw [if_neg c1]
          have := h true (by rw [List.append_assoc]; exact q1) (by omega)
          rw [Bool.true_or] at this
          rw [show decide (¬ pcc u c b ≤ 0) = true from decide_eq_true c1, Bool.true_or]
          exact this
  refine it_loop (S := nC u) (F := fun N c x => f_X12_areAll_4 u N (nI n) (b01 x) (nI c)) (a := true) (fun c x => x && (decide (¬ vdd u c = 1) || s.any (fun b => decide (¬ pcc u c b ≤ 0)))) (fun x => some (b01 x)) (fun N c x hc => ?_) (fun N x => ?_) (xN_lt (by omega))
  · rw [f_X12_areAll_4, h2, ite_nle hc (by omega), gd_nI (by omega) (by omega), nI_cl (by omega)]
    unfold f_X12_areAll_27
    have z := inner (f_X12_areAll_4 u N) c x hc s [] xN
    by_cases c1 : rd u 162 c = 1
    · rw [if_pos c1]
      have := z false rfl (xN_lt (by omega))
      rw [show decide (¬ vdd u c = 1) = false from decide_eq_false (fun q => q c1)]
      exact this
    · rw [if_neg c1]
      have := z true rfl (xN_lt (by omega))
      rw [show decide (¬ vdd u c = 1) = true from decide_eq_true c1]
      exact this
  · rw [f_X12_areAll_4, h2, ite_yle (Nat.le_refl _) (by omega), xb_b01, gd_t]
/-- the clean ones of those from a on, d of them -/
def cll (u : xS) (a d : Nat) : List Nat := (asc a d).filter fun b => clN u b (nC u)
theorem st_app {s t : List Nat} {u : xS} (h : st166 (s ++ t) u) : st166 s u := fun i x hi => h i x (by
  rw [List.getElem?_append_left (List.getElem?_eq_some_iff.mp hi).1]
  exact hi)
theorem clcv_fr {u u' : xS} (h : ag wX u u') : (∀ b, clN u' b (nC u') = clN u b (nC u)) ∧ ∀ s, cvN u' s (nC u') = cvN u s (nC u) := by
  have q0 : nC u' = nC u := congrArg nv (h 135 37 rfl)
  have q1 : ∀ c b, pcc u' c b = pcc u c b := fun c b => h 161 _ rfl
  have q2 : ∀ c, vdd u' c = vdd u c := fun c => h 162 _ rfl
  constructor
  · intro b
    unfold clN
    rw [q0]
    exact it_congr fun c x _ => by rw [q1, q2]
  · intro s
    unfold cvN
    rw [q0]
    exact it_congr fun c x _ => by
      rw [q2]
      congr 3
      funext b
      rw [q1]
theorem isF {u : xS} (hB : i_B u) (hC : i_C u) : ∀ (left F : Nat) (pre : List Nat) (d a : Nat) (u' : xS), left < F → left + pre.length ≤ 4 → a + d = nB u → (∀ b, b ∈ pre → b < 24) → ag wX u u' → st166 pre u' →
    ∃ r u'', fr_isFound F (nI pre.length) (nI left) (nI a) u' = some (r, u'') ∧ ag wX u u'' ∧ ((r = 0 ∧ (cbL (cll u a d) left).find? (fun s => cvN u (pre ++ s) (nC u)) = none ∧ st166 pre u'') ∨ ∃ s, r = 1 ∧ (cbL (cll u a d) left).find? (fun s => cvN u (pre ++ s) (nC u)) = some s ∧ st166 (pre ++ s) u'') := by
  have hB3 := hB.2.2.1
  intro left
  induction left with
  | zero =>
    intro F pre d a u' h1 h2 h3 h4 h5 h6
    obtain ⟨F, rfl⟩ : ∃ M, F = M + 1 := ⟨F - 1, by omega⟩
    have e := all12 (u := u') (fr_C (ag_sm h5 rfl) hC) h6 rfl (by omega) h4
    rw [(clcv_fr h5).2] at e
    refine ⟨b01 (cvN u pre (nC u)), u', ?_, h5, ?_⟩
    · show f_X12_isFound (fr_isFound F) (nI pre.length) (nI 0) (nI a) u' = _
      rw [f_X12_isFound, if_pos (show nI 0 = 0 from rfl), e, Option.bind_some, xb_b01, gd_t]
    · rw [cbL_0, List.find?_cons, List.append_nil]
      cases cvN u pre (nC u) with
      | false => exact Or.inl ⟨rfl, rfl, h6⟩
      | true => exact Or.inr ⟨[], rfl, rfl, by rw [List.append_nil]; exact h6⟩
  | succ left ih =>
    intro F pre d a u' h1 h2 h3 h4 h5 h6
    obtain ⟨F, rfl⟩ : ∃ M, F = M + 1 := ⟨F - 1, by omega⟩
    have key : ∀ (d N a : Nat) (u' : xS), d < N → a + d = nB u → ag wX u u' → st166 pre u' → ∃ r u'', f_X12_isFound_13 (fr_isFound F) N (nI pre.length) (nI (left + 1)) (nI a) u' = some (r, u'') ∧ ag wX u u'' ∧ ((r = 0 ∧ (cbL (cll u a d) (left + 1)).find? (fun s => cvN u (pre ++ s) (nC u)) = none ∧ st166 pre u'') ∨ ∃ s, r = 1 ∧ (cbL (cll u a d) (left + 1)).find? (fun s => cvN u (pre ++ s) (nC u)) = some s ∧ st166 (pre ++ s) u'') := by
      intro d
      induction d with
      | zero =>
        intro N a u' q1 q2 q3 q4
        obtain ⟨N, rfl⟩ : ∃ M, N = M + 1 := ⟨N - 1, by omega⟩
        refine ⟨0, u', ?_, q3, Or.inl ⟨rfl, rfl, q4⟩⟩
        rw [f_X12_isFound_13, (q3 135 7 rfl).trans hB.2.1, ite_yle (by omega) (by omega)]
      | succ d ihd =>
        intro N a u' q1 q2 q3 q4
        obtain ⟨N, rfl⟩ : ∃ M, N = M + 1 := ⟨N - 1, by omega⟩
        have g1 : ag wX u (wr u' 166 pre.length (nI a)) := ag_wr q3 rfl
        have g2 : st166 (pre ++ [a]) (wr u' 166 pre.length (nI a)) := fun i x hi => by
          rcases app_getN hi with ⟨hi1, hi2⟩ | ⟨hi1, hi2⟩
          · rw [rd_wr_ne (by omega)]
            exact q4 i x hi2
          · rw [hi1, hi2, rd_wr, if_pos rfl, if_pos rfl]
        have ec := clean12 (u := wr u' 166 pre.length (nI a)) (fr_C (ag_sm g1 rfl) hC) (b := a) (by omega)
        rw [(clcv_fr g1).1] at ec
        have el : nI (left + 1) - 1 = nI left := nI_sub (b := 1) (by omega)
        have op : f_X12_isFound_13 (fr_isFound F) (N + 1) (nI pre.length) (nI (left + 1)) (nI a) u' = if b01 (clN u a (nC u)) = 0 then f_X12_isFound_13 (fr_isFound F) N (nI pre.length) (nI (left + 1)) (nI (a + 1)) (wr u' 166 pre.length (nI a)) else ((fr_isFound F (nI (pre.length + 1)) (nI left) (nI (a + 1)) (wr u' 166 pre.length (nI a))).bind fun q10 => if q10.1 = 0 then f_X12_isFound_13 (fr_isFound F) N (nI pre.length) (nI (left + 1)) (nI (a + 1)) q10.2 else (some ((1 : Int32), q10.2))) := by
          rw [f_X12_isFound_13, (q3 135 7 rfl).trans hB.2.1, ite_nle (by omega) (by omega), gd_nI (by omega) (by omega), nI_cl (by omega), ec, Option.bind_some, el]
          unfold f_X12_isFound_58
          rw [nI_1, nI_1]
        rw [op]
        by_cases hc : clN u a (nC u) = true
        · have ecl : cll u a (d + 1) = a :: cll u (a + 1) d := by
            unfold cll
            rw [asc, List.filter_cons_of_pos (p := fun b => clN u b (nC u)) hc]
          rw [if_neg (fun z => by rw [(b01_0 _).mp z] at hc; cases hc), ecl, cbL, List.find?_append, List.find?_map]
          obtain ⟨r, u1, z1, z2, z3⟩ := ih F (pre ++ [a]) d (a + 1) (wr u' 166 pre.length (nI a)) (by omega) (by rw [List.length_append, List.length_singleton]; omega) (by omega) (fun b hb => by
            rcases List.mem_append.mp hb with hb | hb
            · exact h4 b hb
            · rw [List.mem_singleton.mp hb]; omega) g1 g2
          rw [List.length_append, List.length_singleton] at z1
          have ef : (fun s => cvN u (pre ++ s) (nC u)) ∘ (fun x => a :: x) = fun s => cvN u (pre ++ [a] ++ s) (nC u) := by
            funext s
            show cvN u (pre ++ a :: s) (nC u) = _
            rw [List.append_assoc]
            rfl
          rw [ef]
          rcases z3 with ⟨z3, z4, z5⟩ | ⟨s, z3, z4, z5⟩
          · obtain ⟨r2, u2, y1, y2, y3⟩ := ihd N (a + 1) u1 (by omega) (by omega) z2 (st_app z5)
            refine ⟨r2, u2, ?_, y2, ?_⟩
            · rw [z1, Option.bind_some]
              dsimp only
              rw [if_pos z3, y1]
            · rw [z4]
              exact y3
          · refine ⟨1, u1, ?_, z2, Or.inr ⟨a :: s, rfl, ?_, ?_⟩⟩
            · rw [z1, Option.bind_some]
              dsimp only
              rw [z3, if_neg (by decide)]
            · rw [z4]
              rfl
            · rw [List.append_assoc] at z5
              exact z5
        · have ecl : cll u a (d + 1) = cll u (a + 1) d := by
            unfold cll
            rw [asc, List.filter_cons_of_neg (p := fun b => clN u b (nC u)) hc]
          rw [if_pos ((b01_0 _).mpr (by cases hq : clN u a (nC u) with | false => rfl | true => exact absurd hq hc)), ecl]
          exact ihd N (a + 1) _ (by omega) (by omega) g1 (st_app g2)
    obtain ⟨r, u2, y1, y2, y3⟩ := key d xN a u' (xN_lt (by omega)) h3 h5 h6
    refine ⟨r, u2, ?_, y2, y3⟩
    show f_X12_isFound (fr_isFound F) (nI pre.length) (nI (left + 1)) (nI a) u' = _
    rw [f_X12_isFound, if_neg (nI_ne0 (by omega) (by omega)), y1]
