/-! MIX: the blends in their order -/
def mblk (f : Nat → List (List Nat)) : Nat → Nat → List (List Nat)
  | v, 0 => (f 0).map (v :: ·)
  | v, j + 1 => (f (j + 1)).map (v :: ·) ++ mblk f (v + 1) j
/-- k + 1 parts that are n in all -/
def mcp : Nat → Nat → List (List Nat)
  | 0, n => [[n]]
  | k + 1, n => mblk (mcp k) 0 n
theorem mblk_mem {f : Nat → List (List Nat)} {s : List Nat} : ∀ (j v : Nat), s ∈ mblk f v j → ∃ w m t, w + m = v + j ∧ v ≤ w ∧ t ∈ f m ∧ s = w :: t := by
  intro j
  induction j with
  | zero =>
    intro v h
    rw [mblk] at h
    obtain ⟨t, ht, e⟩ := List.mem_map.mp h
    exact ⟨v, 0, t, rfl, Nat.le_refl _, ht, e.symm⟩
  | succ j ih =>
    intro v h
    rw [mblk, List.mem_append] at h
    rcases h with h | h
    · obtain ⟨t, ht, e⟩ := List.mem_map.mp h
      exact ⟨v, j + 1, t, rfl, Nat.le_refl _, ht, e.symm⟩
    · obtain ⟨w, m, t, h1, h2, h3, h4⟩ := ih (v + 1) h
      exact ⟨w, m, t, by omega, by omega, h3, h4⟩
theorem mcp_len : ∀ (k n : Nat) (s : List Nat), s ∈ mcp k n → s.length = k + 1 := by
  intro k
  induction k with
  | zero =>
    intro n s h
    rw [mcp, List.mem_singleton] at h
    rw [h]
    rfl
  | succ k ih =>
    intro n s h
    rw [mcp] at h
    obtain ⟨w, m, t, -, -, h3, rfl⟩ := mblk_mem _ _ h
    rw [List.length_cons, ih _ _ h3]
theorem mcp_le : ∀ (k n : Nat) (s : List Nat), s ∈ mcp k n → ∀ v, v ∈ s → v ≤ n := by
  intro k
  induction k with
  | zero =>
    intro n s h v hv
    rw [mcp, List.mem_singleton] at h
    rw [h, List.mem_singleton] at hv
    omega
  | succ k ih =>
    intro n s h v hv
    rw [mcp] at h
    obtain ⟨w, m, t, h1, -, h3, rfl⟩ := mblk_mem _ _ h
    rcases List.mem_cons.mp hv with e | e
    · omega
    · have := ih _ _ h3 v e
      omega
theorem mblk_head {f : Nat → List (List Nat)} {h : List Nat} : ∀ (j v : Nat), (f j).head? = some h → (mblk f v j).head? = some (v :: h) := by
  intro j v e
  cases j with
  | zero => rw [mblk, List.head?_map, e]; rfl
  | succ j => rw [mblk, List.head?_append, List.head?_map, e]; rfl
theorem mcp_head : ∀ (k n : Nat), (mcp k n).head? = some (List.replicate k 0 ++ [n]) := by
  intro k
  induction k with
  | zero => intro n; rfl
  | succ k ih =>
    intro n
    rw [mcp, mblk_head n 0 (ih n)]
    rfl
/-- the next one -/
def mhd : Nat → List Nat → Option (List Nat)
  | _, [] => none
  | x, n :: r => if n = 0 then none else some ((x + 1) :: (List.replicate r.length 0 ++ [n - 1]))
def mnx : List Nat → Option (List Nat)
  | [] => none
  | x :: t => ((mnx t).map (x :: ·)).or (mhd x t)
theorem mnx_last : ∀ (k n : Nat) (s : List Nat), s ∈ mcp k n → mnx s = none → s.head? = some n := by
  intro k
  induction k with
  | zero =>
    intro n s h _
    rw [mcp, List.mem_singleton] at h
    rw [h]
    rfl
  | succ k ih =>
    intro n s h hn
    rw [mcp] at h
    obtain ⟨w, m, t, h1, -, h3, rfl⟩ := mblk_mem _ _ h
    have h4 : mnx t = none ∧ mhd w t = none := by
      rw [mnx] at hn
      cases hq : mnx t with
      | none => rw [hq] at hn; exact ⟨rfl, hn⟩
      | some t' => rw [hq] at hn; cases hn
    have h5 := ih m t h3 h4.1
    match t, h5, h4.2 with
    | a :: r, h5, h6 =>
      have ea : a = m := Option.some.inj h5
      rw [mhd] at h6
      by_cases c : a = 0
      · show some w = some n
        rw [show w = n by omega]
      · rw [if_neg c] at h6
        cases h6
theorem mp_CH {v : Nat} {e : Option (List Nat)} : ∀ l : List (List Nat), (∀ s, s ∈ l → mnx s = none → mhd v s = e) → CH mnx l none → CH mnx (l.map (v :: ·)) e := by
  intro l
  induction l with
  | nil => intro _ _; trivial
  | cons s r ih =>
    intro h1 h2
    refine ⟨?_, ih (fun t ht => h1 t (List.mem_cons_of_mem _ ht)) h2.2⟩
    have h3 := h2.1
    rw [mnx]
    cases r with
    | nil =>
      have h4 : mnx s = none := h3
      rw [h4]
      exact h1 s List.mem_cons_self h4
    | cons t r =>
      rw [show mnx s = some t from h3]
      rfl
theorem mcp_CH : ∀ (k n : Nat), CH mnx (mcp k n) none := by
  intro k
  induction k with
  | zero => intro n; exact ⟨rfl, trivial⟩
  | succ k ih =>
    have key : ∀ (j v : Nat), CH mnx (mblk (mcp k) v j) none := by
      intro j
      induction j with
      | zero =>
        intro v
        rw [mblk]
        refine mp_CH _ (fun s hs hn => ?_) (ih 0)
        have h5 := mnx_last k 0 s hs hn
        match s, h5 with
        | a :: r, h5 =>
          have ea : a = 0 := Option.some.inj h5
          rw [mhd, if_pos ea]
      | succ j ihj =>
        intro v
        rw [mblk]
        refine CH_app (mp_CH _ (fun s hs hn => ?_) (ih (j + 1))) (ihj (v + 1))
        have h5 := mnx_last k (j + 1) s hs hn
        have h6 := mcp_len k (j + 1) s hs
        rw [mblk_head j (v + 1) (mcp_head k j)]
        match s, h5, h6 with
        | a :: r, h5, h6 =>
          have ea : a = j + 1 := Option.some.inj h5
          have el : r.length = k := by rw [List.length_cons] at h6; omega
          rw [mhd, if_neg (by omega), el, ea]
          rfl
    intro n
    exact key n 0
theorem mcp_many : ∀ k, k < 6 → (mcp k 12).length ≤ 6188 := by decide +kernel
/-! the next one, from its end -/
theorem mnx_0 : ∀ (m y : Nat), mnx (y :: List.replicate m 0) = none := by
  intro m
  induction m with
  | zero => intro y; rfl
  | succ m ih =>
    intro y
    rw [List.replicate_succ, mnx, ih 0]
    rfl
theorem mnx_1 {z y m : Nat} (hy : 0 < y) : ∀ A : List Nat, mnx (A ++ z :: y :: List.replicate m 0) = some (A ++ (z + 1) :: (List.replicate m 0 ++ [y - 1])) := by
  intro A
  induction A with
  | nil =>
    rw [List.nil_append, List.nil_append, mnx, mnx_0, mhd, if_neg (by omega), List.length_replicate]
    rfl
  | cons a A ih =>
    rw [List.cons_append, mnx, ih]
    rfl
/-! which sort has what -/
def mval : List Nat → List Nat → Nat → Nat
  | c :: cs, v :: l, s => if s = c then v else mval cs l s
  | _, _, _ => 0
theorem mval_nil (l : List Nat) (s : Nat) : mval [] l s = 0 := rfl
theorem mval_no {s : Nat} : ∀ (c l : List Nat), ¬ s ∈ c → mval c l s = 0 := by
  intro c
  induction c with
  | nil => intro l _; rfl
  | cons a c ih =>
    intro l h
    cases l with
    | nil => rfl
    | cons v l =>
      rw [mval, if_neg (fun e => h (by rw [e]; exact List.mem_cons_self)), ih l fun q => h (List.mem_cons_of_mem _ q)]
theorem mval_get {s v : Nat} : ∀ (c l : List Nat) (j : Nat), c.Nodup → c[j]? = some s → l[j]? = some v → mval c l s = v := by
  intro c
  induction c with
  | nil => intro l j _ h; simp at h
  | cons a c ih =>
    intro l j hc h1 h2
    cases l with
    | nil => simp at h2
    | cons w l =>
      cases j with
      | zero =>
        have e1 : a = s := by simpa using h1
        have e2 : w = v := by simpa using h2
        rw [mval, if_pos e1.symm, e2]
      | succ j =>
        rw [List.getElem?_cons_succ] at h1 h2
        have hm : s ∈ c := List.mem_of_getElem? h1
        have hn := (List.nodup_cons.mp hc).1
        rw [mval, if_neg (fun e => hn (by rw [← e]; exact hm))]
        exact ih l j (List.nodup_cons.mp hc).2 h1 h2
theorem mval_le {n s : Nat} : ∀ (c l : List Nat), (∀ v, v ∈ l → v ≤ n) → mval c l s ≤ n := by
  intro c
  induction c with
  | nil => intro l _; exact Nat.zero_le _
  | cons a c ih =>
    intro l h
    cases l with
    | nil => exact Nat.zero_le _
    | cons v l =>
      rw [mval]
      by_cases e : s = a
      · rw [if_pos e]
        exact h v List.mem_cons_self
      · rw [if_neg e]
        exact ih l fun w hw => h w (List.mem_cons_of_mem _ hw)
theorem mval_set {t w s : Nat} : ∀ (c l : List Nat) (j : Nat), c.Nodup → c[j]? = some t → j < l.length → mval c (l.set j w) s = if s = t then w else mval c l s := by
  intro c
  induction c with
  | nil => intro l j _ h; simp at h
  | cons a c ih =>
    intro l j hc h1 h2
    cases l with
    | nil => simp at h2
    | cons v l =>
      cases j with
      | zero =>
        have e1 : a = t := by simpa using h1
        rw [List.set_cons_zero, mval, mval, e1]
        by_cases e : s = t
        · rw [if_pos e, if_pos e]
        · rw [if_neg e, if_neg e, if_neg e]
      | succ j =>
        rw [List.getElem?_cons_succ] at h1
        rw [List.length_cons] at h2
        have hm : t ∈ c := List.mem_of_getElem? h1
        have hn := (List.nodup_cons.mp hc).1
        rw [List.set_cons_succ, mval, mval, ih l j (List.nodup_cons.mp hc).2 h1 (by omega)]
        by_cases e : s = a
        · rw [if_pos e, if_pos e, if_neg (fun q => hn (by rw [← e, q]; exact hm))]
        · rw [if_neg e, if_neg e]
theorem set_app {w : Nat} : ∀ (A B : List Nat) (j : Nat), (A ++ B).set (A.length + j) w = A ++ B.set j w := by
  intro A
  induction A with
  | nil => intro B j; rw [List.length_nil, Nat.zero_add]; rfl
  | cons a A ih =>
    intro B j
    rw [List.length_cons, show A.length + 1 + j = (A.length + j) + 1 by omega, List.cons_append, List.set_cons_succ, ih]
    rfl
theorem set_rep {q : Nat} : ∀ m, (0 :: List.replicate m 0).set m q = List.replicate m 0 ++ [q] := by
  intro m
  induction m with
  | zero => rfl
  | succ m ih =>
    rw [List.replicate_succ, List.set_cons_succ, ih]
    rfl
theorem set_3 {z y m : Nat} (A : List Nat) : (((A ++ z :: y :: List.replicate m 0).set (A.length + 1) 0).set A.length (z + 1)).set (A.length + 1 + m) (y - 1) = A ++ (z + 1) :: (List.replicate m 0 ++ [y - 1]) := by
  have h0 : ∀ B : List Nat, (A ++ B).set A.length (z + 1) = A ++ B.set 0 (z + 1) := fun B => set_app A B 0
  rw [set_app, h0, show A.length + 1 + m = A.length + (m + 1) by omega, set_app, List.set_cons_succ, List.set_cons_zero, List.set_cons_zero, List.set_cons_succ, set_rep]
/-! the sorts chosen: from the front and from the end -/
def clf (ch : Nat → Bool) : Nat → Nat → List Nat
  | 0, _ => []
  | d + 1, i => if ch i = true then i :: clf ch d (i + 1) else clf ch d (i + 1)
def clb (ch : Nat → Bool) : Nat → List Nat
  | 0 => []
  | n + 1 => if ch n = true then clb ch n ++ [n] else clb ch n
theorem clb_clf (ch : Nat → Bool) : ∀ d i, clb ch i ++ clf ch d i = clb ch (i + d) := by
  intro d
  induction d with
  | zero => intro i; rw [clf, List.append_nil]; rfl
  | succ d ih =>
    intro i
    rw [clf, show i + (d + 1) = i + 1 + d by omega, ← ih (i + 1), clb]
    by_cases c : ch i = true
    · rw [if_pos c, if_pos c, List.append_assoc]
      rfl
    · rw [if_neg c, if_neg c]
theorem clf_all (ch : Nat → Bool) (S : Nat) : clf ch S 0 = clb ch S := by
  have := clb_clf ch S 0
  rwa [Nat.zero_add, show clb ch 0 = [] from rfl, List.nil_append] at this
theorem clf_rng {ch : Nat → Bool} {s : Nat} : ∀ d i, s ∈ clf ch d i → i ≤ s ∧ s < i + d ∧ ch s = true := by
  intro d
  induction d with
  | zero => intro i h; cases h
  | succ d ih =>
    intro i h
    rw [clf] at h
    by_cases c : ch i = true
    · rw [if_pos c] at h
      rcases List.mem_cons.mp h with e | h
      · rw [e]
        exact ⟨Nat.le_refl _, by omega, c⟩
      · have := ih (i + 1) h
        exact ⟨by omega, by omega, this.2.2⟩
    · rw [if_neg c] at h
      have := ih (i + 1) h
      exact ⟨by omega, by omega, this.2.2⟩
theorem clf_nd {ch : Nat → Bool} : ∀ d i, (clf ch d i).Nodup := by
  intro d
  induction d with
  | zero => intro i; exact List.nodup_nil
  | succ d ih =>
    intro i
    rw [clf]
    by_cases c : ch i = true
    · rw [if_pos c]
      refine List.nodup_cons.mpr ⟨fun h => ?_, ih (i + 1)⟩
      have := clf_rng _ _ h
      omega
    · rw [if_neg c]
      exact ih (i + 1)
theorem clb_len (ch : Nat → Bool) : ∀ n, (clb ch n).length = nsum (fun i => if ch i = true then 1 else 0) n := by
  intro n
  induction n with
  | zero => rfl
  | succ n ih =>
    rw [clb, nsum]
    by_cases c : ch n = true
    · rw [if_pos c, if_pos c, List.length_append, ih]
      rfl
    · rw [if_neg c, if_neg c, ih, Nat.add_zero]
theorem clb_up (ch : Nat → Bool) {j s m : Nat} : ∀ d, (clb ch m)[j]? = some s → (clb ch (m + d))[j]? = some s := by
  intro d
  induction d with
  | zero => intro h; exact h
  | succ d ih =>
    intro h
    have h2 := ih h
    show (if ch (m + d) = true then clb ch (m + d) ++ [m + d] else clb ch (m + d))[j]? = some s
    by_cases c : ch (m + d) = true
    · rw [if_pos c, List.getElem?_append_left (List.getElem?_eq_some_iff.mp h2).1]
      exact h2
    · rw [if_neg c]
      exact h2
theorem clb_at {ch : Nat → Bool} {n S : Nat} (h : ch n = true) (hn : n < S) : (clb ch S)[(clb ch n).length]? = some n := by
  have h1 : (clb ch (n + 1))[(clb ch n).length]? = some n := by
    rw [clb, if_pos h, List.getElem?_append_right (Nat.le_refl _), Nat.sub_self]
    rfl
  have := clb_up ch (m := n + 1) (S - (n + 1)) h1
  rwa [show n + 1 + (S - (n + 1)) = S by omega] at this
/-! the blends as the reference goes through them -/
def lrow (f : Nat → Nat → List (Nat → Nat)) : Nat → Nat → List (Nat → Nat)
  | v, 0 => f v 0
  | v, j + 1 => f v (j + 1) ++ lrow f (v + 1) j
def lvs (ch : Nat → Bool) : Nat → Nat → Nat → (Nat → Nat) → List (Nat → Nat)
  | 0, _, left, a => if left = 0 then [a] else []
  | d + 1, i, left, a => if ch i = true then lrow (fun v m => lvs ch d (i + 1) m (ua a i v)) 0 left else lvs ch d (i + 1) left (ua a i 0)
theorem ua_0 {a : Nat → Nat} {i : Nat} (h : a i = 0) : ua a i 0 = a := by
  funext j
  unfold ua
  by_cases e : j = i
  · rw [if_pos e, e, h]
  · rw [if_neg e]
theorem ua_z {a : Nat → Nat} {i v : Nat} (h : ∀ s, i ≤ s → a s = 0) : ∀ s, i + 1 ≤ s → ua a i v s = 0 := fun s hs => by
  rw [ua_n (by omega)]
  exact h s (by omega)
theorem lvs_no {ch : Nat → Bool} : ∀ (d i left : Nat) (a : Nat → Nat), clf ch d i = [] → (∀ s, i ≤ s → a s = 0) → lvs ch d i left a = if left = 0 then [a] else [] := by
  intro d
  induction d with
  | zero => intro i left a _ _; rfl
  | succ d ih =>
    intro i left a h1 h2
    rw [clf] at h1
    by_cases c : ch i = true
    · rw [if_pos c] at h1
      cases h1
    · rw [if_neg c] at h1
      rw [lvs, if_neg c, ua_0 (h2 i (Nat.le_refl _)), ih (i + 1) left a h1 fun s hs => h2 s (by omega)]
def mov (i : Nat) (a f : Nat → Nat) : Nat → Nat := fun s => if s < i then a s else f s
theorem lvs_eq {ch : Nat → Bool} : ∀ (d i left : Nat) (a : Nat → Nat) (x : Nat) (cs : List Nat), clf ch d i = x :: cs → (∀ s, i ≤ s → a s = 0) → lvs ch d i left a = (mcp cs.length left).map (fun l => mov i a (mval (x :: cs) l)) := by
  intro d
  induction d with
  | zero => intro i left a x cs h; cases h
  | succ d ih =>
    intro i left a x cs h1 h2
    rw [clf] at h1
    by_cases c : ch i = true
    · rw [if_pos c] at h1
      rw [lvs, if_pos c]
      injection h1 with e1 e2
      subst e1
      cases cs with
      | nil =>
        have key : ∀ (j v : Nat), lrow (fun v m => lvs ch d (i + 1) m (ua a i v)) v j = [ua a i (v + j)] := by
          intro j
          induction j with
          | zero =>
            intro v
            rw [lrow, lvs_no d (i + 1) 0 _ e2 (ua_z h2), if_pos rfl]
            rfl
          | succ j ihj =>
            intro v
            rw [lrow, lvs_no d (i + 1) (j + 1) _ e2 (ua_z h2), if_neg (by omega), ihj (v + 1), List.nil_append, show v + 1 + j = v + (j + 1) by omega]
        rw [key left 0, Nat.zero_add]
        show [ua a i left] = [mov i a (mval [i] [left])]
        congr 1
        funext s
        unfold ua mov
        rw [mval, mval_nil]
        by_cases e : s = i
        · rw [if_pos e, if_neg (by omega), if_pos e]
        · by_cases l : s < i
          · rw [if_neg e, if_pos l]
          · rw [if_neg e, if_neg l, if_neg e, h2 s (by omega)]
      | cons y ds =>
        have e3 : ∀ v m, lvs ch d (i + 1) m (ua a i v) = (mcp ds.length m).map (fun l => mov i a (mval (i :: y :: ds) (v :: l))) := fun v m => by
          rw [ih (i + 1) m (ua a i v) y ds e2 (ua_z h2)]
          congr 1
          funext l s
          unfold mov
          rw [mval]
          by_cases e : s = i
          · rw [if_pos (by omega), if_neg (by omega), if_pos e, e, ua_i]
          · by_cases l : s < i
            · rw [if_pos (by omega), if_pos l, ua_n e]
            · rw [if_neg (by omega), if_neg l, if_neg e]
        have key : ∀ (j v : Nat), lrow (fun v m => lvs ch d (i + 1) m (ua a i v)) v j = (mblk (mcp ds.length) v j).map (fun l => mov i a (mval (i :: y :: ds) l)) := by
          intro j
          induction j with
          | zero =>
            intro v
            rw [lrow, e3, mblk, List.map_map]
            rfl
          | succ j ihj =>
            intro v
            rw [lrow, e3, mblk, List.map_append, List.map_map, ihj (v + 1)]
            rfl
        rw [key left 0]
        rfl
    · rw [if_neg c] at h1
      rw [lvs, if_neg c, ua_0 (h2 i (Nat.le_refl _)), ih (i + 1) left a x cs h1 fun s hs => h2 s (by omega)]
      congr 1
      funext l s
      unfold mov
      by_cases e : s = i
      · rw [if_pos (by omega), if_neg (by omega), e, h2 i (Nat.le_refl _), mval_no]
        intro hm
        rw [← h1] at hm
        have := clf_rng _ _ hm
        omega
      · by_cases l : s < i
        · rw [if_pos (by omega), if_pos l]
        · rw [if_neg (by omega), if_neg l]
theorem lvs_all {ch : Nat → Bool} {S left : Nat} {x : Nat} {cs : List Nat} (h : clf ch S 0 = x :: cs) : lvs ch S 0 left (fun _ => 0) = (mcp cs.length left).map (mval (x :: cs)) := by
  rw [lvs_eq S 0 left (fun _ => 0) x cs h fun _ _ => rfl]
  congr 1
