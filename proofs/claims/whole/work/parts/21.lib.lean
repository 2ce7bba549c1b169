/-! LIBRARY FOR THE EQUIVALENCE OF THE PLAIN FUNCTIONS -/
def ok {α : Type} (o : Option α) (Q : α → Prop) : Prop := ∃ r, o = some r ∧ Q r
theorem ok_some {α : Type} {a : α} {Q : α → Prop} : ok (some a) Q ↔ Q a := by
  constructor
  · intro h
    obtain ⟨r, h, q⟩ := h
    cases h
    exact q
  · intro h
    exact ⟨a, rfl, h⟩
theorem ok_none {α : Type} {Q : α → Prop} : ok (none : Option α) Q ↔ False := by
  constructor
  · intro h
    obtain ⟨r, h, q⟩ := h
    cases h
  · intro h
    exact h.elim
theorem ok_gd {α : Type} {b : Bool} {o : Option α} {Q : α → Prop} : ok (gd b o) Q ↔ b = true ∧ ok o Q := by
  cases b with
  | true => simp [gd_t]
  | false => simp [gd_f, ok_none]
theorem ok_bind {α β : Type} {o : Option α} {f : α → Option β} {Q : β → Prop} : ok (o.bind f) Q ↔ ok o (fun a => ok (f a) Q) := by
  cases o with
  | none => simp [ok_none]
  | some a => simp [ok_some]
theorem ok_ite {α : Type} {c : Prop} {i : Decidable c} {a b : Option α} {Q : α → Prop} : ok (@ite _ c i a b) Q ↔ (c → ok a Q) ∧ (¬ c → ok b Q) := by
  cases i with
  | isTrue h => simp [h]
  | isFalse h => simp [h]
theorem ok_mono {α : Type} {o : Option α} {P Q : α → Prop} (h : ok o P) (hq : ∀ a, P a → Q a) : ok o Q := by
  obtain ⟨r, h1, h2⟩ := h
  exact ⟨r, h1, hq r h2⟩
theorem ok_is {α : Type} {o : Option α} {r : α} {Q : α → Prop} (h : o = some r) (hq : Q r) : ok o Q := ⟨r, h, hq⟩
/-! loops -/
def it {σ : Type} (f : Nat → σ → σ) (a : σ) : Nat → σ
  | 0 => a
  | n + 1 => f n (it f a n)
theorem it_0 {σ : Type} (f : Nat → σ → σ) (a : σ) : it f a 0 = a := rfl
theorem it_s {σ : Type} (f : Nat → σ → σ) (a : σ) (n : Nat) : it f a (n + 1) = f n (it f a n) := rfl
theorem it_P {σ : Type} {f : Nat → σ → σ} {P : Nat → σ → Prop} {a : σ} {S : Nat} (h0 : P 0 a) (hP : ∀ i x, i < S → P i x → P (i + 1) (f i x)) : ∀ i, i ≤ S → P i (it f a i) := by
  intro i
  induction i with
  | zero => intro _; exact h0
  | succ i ih => intro h; exact hP i _ (by omega) (ih (by omega))
theorem it_loopP {σ ρ : Type} {F : Nat → Nat → σ → Option ρ} (f : Nat → σ → σ) (P : Nat → σ → Prop) (e : σ → Option ρ) {S : Nat} {a : σ} (h0 : P 0 a) (hP : ∀ i x, i < S → P i x → P (i + 1) (f i x)) (hs : ∀ n i x, i < S → P i x → F (n + 1) i x = F n (i + 1) (f i x)) (he : ∀ n x, P S x → F (n + 1) S x = e x) {N : Nat} (hN : S < N) : F N 0 a = e (it f a S) := by
  have hA := it_P h0 hP
  have key : ∀ k i N, i + k = S → k < N → F N i (it f a i) = e (it f a S) := by
    intro k
    induction k with
    | zero =>
      intro i N h1 h2
      obtain ⟨M, rfl⟩ : ∃ M, N = M + 1 := ⟨N - 1, by omega⟩
      have h3 : i = S := by omega
      subst h3
      exact he _ _ (hA _ (Nat.le_refl _))
    | succ k ih =>
      intro i N h1 h2
      obtain ⟨M, rfl⟩ : ∃ M, N = M + 1 := ⟨N - 1, by omega⟩
      rw [hs _ _ _ (by omega) (hA _ (by omega))]
      exact ih (i + 1) M (by omega) (by omega)
  exact key S 0 N (by omega) hN
theorem it_loop {σ ρ : Type} {F : Nat → Nat → σ → Option ρ} (f : Nat → σ → σ) (e : σ → Option ρ) {S : Nat} {a : σ} (hs : ∀ n i x, i < S → F (n + 1) i x = F n (i + 1) (f i x)) (he : ∀ n x, F (n + 1) S x = e x) {N : Nat} (hN : S < N) : F N 0 a = e (it f a S) :=
  it_loopP f (fun _ _ => True) e trivial (fun _ _ _ _ => trivial) (fun n i x h _ => hs n i x h) (fun n x _ => he n x) hN
theorem it_congr {σ : Type} {f g : Nat → σ → σ} {a : σ} {S : Nat} (h : ∀ i x, i < S → f i x = g i x) : it f a S = it g a S := by
  induction S with
  | zero => rfl
  | succ S ih => rw [it_s, it_s, ih (fun i x hi => h i x (by omega)), h S _ (by omega)]
/-- two loops in step -/
theorem it_rel {σ τ : Type} {f : Nat → σ → σ} {g : Nat → τ → τ} {a : σ} {b : τ} {R : Nat → σ → τ → Prop} {S : Nat} (h0 : R 0 a b) (hs : ∀ i x y, i < S → R i x y → R (i + 1) (f i x) (g i y)) : ∀ i, i ≤ S → R i (it f a i) (it g b i) := by
  intro i
  induction i with
  | zero => intro _; exact h0
  | succ i ih => intro h; exact hs i _ _ (by omega) (ih (by omega))
theorem xN_lt {S : Nat} (h : S < 1000000) : S < xN := h
/-! numbers -/
theorem xin_nI {n k : Nat} (h : n < 2147483648) : xin (nI n) k = decide (n < k) := by
  unfold xin
  apply decide_eq_decide.mpr
  rw [nI_clamp h]
  constructor
  · intro q
    exact Nat.not_le.mp fun z => q (Or.inr z)
  · rintro q (z | z)
    · exact nI_pos h z
    · omega
theorem gd_nI {α : Type} {n k : Nat} {o : Option α} (h : n < k) (hk : k < 2147483648) : gd (xin (nI n) k) o = o := by
  rw [xin_nI (by omega), decide_eq_true h]
  rfl
theorem ite_nle {α : Type} {i S : Nat} {d : Decidable (nI S ≤ nI i)} {x y : α} (h : i < S) (hS : S < 2147483648) : (@ite _ (nI S ≤ nI i) d x y) = y := if_neg (nI_ge h hS)
theorem ite_yle {α : Type} {i S : Nat} {d : Decidable (nI S ≤ nI i)} {x y : α} (h : S ≤ i) (hi : i < 2147483648) : (@ite _ (nI S ≤ nI i) d x y) = x := if_pos (nI_le h hi)
theorem ite_nlt {α : Type} {i S : Nat} {d : Decidable (nI i < nI S)} {x y : α} (h : S ≤ i) (hi : i < 2147483648) : (@ite _ (nI i < nI S) d x y) = y := if_neg (nI_nlt h hi)
theorem ite_ylt {α : Type} {i S : Nat} {d : Decidable (nI i < nI S)} {x y : α} (h : i < S) (hS : S < 2147483648) : (@ite _ (nI i < nI S) d x y) = x := if_pos (nI_lt h hS)
theorem nI_cl {n : Nat} (h : n < 2147483648) : (nI n).toNatClampNeg = n := nI_clamp h
theorem nI_inj {a b : Nat} (ha : a < 2147483648) (hb : b < 2147483648) (h : nI a = nI b) : a = b := (nI_eq ha hb).mp h
theorem nI_sc (n : Nat) : nI n + nI 1 = nI (n + 1) := nI_add n 1
/-- values that are not below 0 -/
theorem nI_self {x : Int32} (h : 0 ≤ x) : nI x.toNatClampNeg = x := Int32.ofNat_toNatClampNeg x h
theorem nI_lo {n : Nat} (h : n < 2147483648) : 0 ≤ nI n := nI_pos' h
theorem nI_ex {x : Int32} (h : 0 ≤ x) : ∃ n : Nat, n < 2147483648 ∧ x = nI n := ⟨x.toNatClampNeg, Int32.toNatClampNeg_lt x, (nI_self h).symm⟩
/-- an int32 that lies in a range -/
theorem nI_ix {x : Int32} {S : Nat} (hS : S < 2147483648) (h0 : 0 ≤ x) (h1 : x < nI S) : ∃ n : Nat, n < S ∧ x = nI n := by
  obtain ⟨n, hn, rfl⟩ := nI_ex h0
  exact ⟨n, (nI_ltI hn hS).mp h1, rfl⟩
theorem nI_ixl {x : Int32} {S : Nat} (hS : S < 2147483648) (h0 : 0 ≤ x) (h1 : x ≤ nI S) : ∃ n : Nat, n ≤ S ∧ x = nI n := by
  obtain ⟨n, hn, rfl⟩ := nI_ex h0
  exact ⟨n, (nI_leI hn hS).mp h1, rfl⟩
theorem l_0 : (0 : Int32) = nI 0 := rfl
theorem l_1 : (1 : Int32) = nI 1 := rfl
theorem l_2 : (2 : Int32) = nI 2 := rfl
theorem l_3 : (3 : Int32) = nI 3 := rfl
theorem l_4 : (4 : Int32) = nI 4 := rfl
theorem l_5 : (5 : Int32) = nI 5 := rfl
theorem l_6 : (6 : Int32) = nI 6 := rfl
theorem l_7 : (7 : Int32) = nI 7 := rfl
theorem l_8 : (8 : Int32) = nI 8 := rfl
theorem l_10 : (10 : Int32) = nI 10 := rfl
theorem l_11 : (11 : Int32) = nI 11 := rfl
theorem l_12 : (12 : Int32) = nI 12 := rfl
theorem l_16 : (16 : Int32) = nI 16 := rfl
theorem l_20 : (20 : Int32) = nI 20 := rfl
theorem l_24 : (24 : Int32) = nI 24 := rfl
theorem l_26 : (26 : Int32) = nI 26 := rfl
theorem l_48 : (48 : Int32) = nI 48 := rfl
theorem l_60 : (60 : Int32) = nI 60 := rfl
theorem l_64 : (64 : Int32) = nI 64 := rfl
theorem l_97 : (97 : Int32) = nI 97 := rfl
theorem l_99 : (99 : Int32) = nI 99 := rfl
theorem l_100 : (100 : Int32) = nI 100 := rfl
theorem l_255 : (255 : Int32) = nI 255 := rfl
theorem l_384 : (384 : Int32) = nI 384 := rfl
theorem l_999 : (999 : Int32) = nI 999 := rfl
theorem l_1000 : (1000 : Int32) = nI 1000 := rfl
theorem l_9996 : (9996 : Int32) = nI 9996 := rfl
theorem l_9999 : (9999 : Int32) = nI 9999 := rfl
/-! sums -/
def isum (f : Nat → Int32) (n : Nat) : Int32 := it (fun i a => a + f i) 0 n
theorem isum_0 (f : Nat → Int32) : isum f 0 = 0 := rfl
theorem isum_s (f : Nat → Int32) (n : Nat) : isum f (n + 1) = isum f n + f n := rfl
theorem isum_congr {f g : Nat → Int32} {n : Nat} (h : ∀ i, i < n → f i = g i) : isum f n = isum g n := it_congr fun i x hi => by rw [h i hi]
theorem isum_zero {f : Nat → Int32} {n : Nat} (h : ∀ i, i < n → f i = 0) : isum f n = 0 := by
  induction n with
  | zero => rfl
  | succ n ih => rw [isum_s, ih (fun i hi => h i (by omega)), h n (by omega)]; rfl
/-- what lies beyond m is 0 -/
theorem isum_ext {f : Nat → Int32} {m n : Nat} (hm : m ≤ n) (h : ∀ i, m ≤ i → i < n → f i = 0) : isum f n = isum f m := by
  induction n with
  | zero =>
    have : m = 0 := by omega
    subst this
    rfl
  | succ n ih =>
    by_cases hmn : m = n + 1
    · subst hmn; rfl
    · rw [isum_s, ih (by omega) (fun i h1 h2 => h i h1 (by omega)), h n (by omega) (by omega)]
      exact Int32.add_zero _
theorem isum_add (f g : Nat → Int32) (n : Nat) : isum (fun i => f i + g i) n = isum f n + isum g n := by
  induction n with
  | zero => rfl
  | succ n ih => rw [isum_s, isum_s, isum_s, ih]; ac_rfl
theorem isum_swap (f : Nat → Nat → Int32) (m n : Nat) : isum (fun i => isum (fun j => f i j) n) m = isum (fun j => isum (fun i => f i j) m) n := by
  induction m with
  | zero => rw [isum_0, isum_zero]; intro i _; rfl
  | succ m ih => rw [isum_s, ih, ← isum_add]; rfl
def nsum (f : Nat → Nat) : Nat → Nat
  | 0 => 0
  | n + 1 => nsum f n + f n
theorem isum_nI {f : Nat → Int32} {g : Nat → Nat} {n : Nat} (h : ∀ i, i < n → f i = nI (g i)) : isum f n = nI (nsum g n) := by
  induction n with
  | zero => rfl
  | succ n ih => rw [isum_s, ih (fun i hi => h i (by omega)), h n (by omega), nI_add]; rfl
theorem nsum_le {f g : Nat → Nat} {n : Nat} (h : ∀ i, i < n → f i ≤ g i) : nsum f n ≤ nsum g n := by
  induction n with
  | zero => exact Nat.le_refl _
  | succ n ih =>
    have h1 := ih (fun i hi => h i (by omega))
    have h2 := h n (by omega)
    show nsum f n + f n ≤ nsum g n + g n
    omega
theorem nsum_one {f : Nat → Nat} {n i : Nat} (h : i < n) : f i ≤ nsum f n := by
  induction n with
  | zero => omega
  | succ n ih =>
    show f i ≤ nsum f n + f n
    by_cases hi : i = n
    · subst hi; omega
    · have := ih (by omega); omega
theorem nsum_congr {f g : Nat → Nat} {n : Nat} (h : ∀ i, i < n → f i = g i) : nsum f n = nsum g n := by
  induction n with
  | zero => rfl
  | succ n ih => rw [nsum, nsum, ih (fun i hi => h i (by omega)), h n (by omega)]
theorem nsum_mono {f : Nat → Nat} {m n : Nat} (h : m ≤ n) : nsum f m ≤ nsum f n := by
  induction n with
  | zero =>
    have : m = 0 := by omega
    subst this
    exact Nat.le_refl _
  | succ n ih =>
    by_cases hmn : m = n + 1
    · subst hmn; exact Nat.le_refl _
    · have := ih (by omega)
      show nsum f m ≤ nsum f n + f n
      omega
/-! what stays the same -/
def isO (c : Nat) : Bool := Nat.beq c 0 || Nat.beq c 1 || Nat.beq c 13 || Nat.beq c 46 || Nat.beq c 52 || Nat.beq c 54 || Nat.beq c 58 || Nat.beq c 74 || Nat.beq c 79 || Nat.beq c 87 || Nat.beq c 113 || Nat.beq c 121 || Nat.beq c 135
def gp (c : Nat) : Nat := bif Nat.ble 3 c && Nat.ble c 8 then 3 else bif Nat.ble 22 c && Nat.ble c 45 then 22 else bif Nat.ble 60 c && Nat.ble c 70 then 60 else bif Nat.ble 89 c && Nat.ble c 108 then 89 else bif Nat.ble 115 c && Nat.ble c 116 then 115 else bif Nat.ble 118 c && Nat.ble c 119 then 118 else bif Nat.ble 123 c && Nat.ble c 126 then 123 else c
def lc (c j : Nat) : Nat × Nat := bif isO c then (c, j + 1) else (gp c, 0)
def inW : List (Nat × Nat) → Nat × Nat → Bool
  | [], _ => false
  | a :: W, b => (Nat.beq a.1 b.1 && Nat.beq a.2 b.2) || inW W b
/-- u' is u but for what W names -/
def ag (W : List (Nat × Nat)) (u u' : xS) : Prop := ∀ c j, inW W (lc c j) = false → rd u' c j = rd u c j
theorem ag_refl (W : List (Nat × Nat)) (u : xS) : ag W u u := fun _ _ _ => rfl
theorem ag_trans {W : List (Nat × Nat)} {u u' u'' : xS} (h : ag W u u') (h2 : ag W u' u'') : ag W u u'' := fun c j hc => (h2 c j hc).trans (h c j hc)
theorem ag_wr {W : List (Nat × Nat)} {u u' : xS} {c j : Nat} {v : Int32} (h : ag W u u') (hc : inW W (lc c j) = true) : ag W u (wr u' c j v) := by
  intro c' j' h'
  rw [rd_wr]
  by_cases h1 : c' = c
  · by_cases h2 : j' = j
    · subst h1 h2
      rw [hc] at h'
      cases h'
    · rw [if_pos h1, if_neg h2]
      exact h c' j' h'
  · rw [if_neg h1]
    exact h c' j' h'
theorem ag_wl {W : List (Nat × Nat)} {u u' : xS} {c j : Nat} {v : Int64} (h : ag W u u') : ag W u (wl u' c j v) := h
def subW : List (Nat × Nat) → List (Nat × Nat) → Bool
  | [], _ => true
  | a :: W, V => inW V a && subW W V
theorem inW_sub {W V : List (Nat × Nat)} (h : subW W V = true) {x : Nat × Nat} (hx : inW V x = false) : inW W x = false := by
  induction W with
  | nil => rfl
  | cons a W ih =>
    simp only [subW, Bool.and_eq_true] at h
    simp only [inW, Bool.or_eq_false_iff]
    refine ⟨?_, ih h.2⟩
    cases hb : (Nat.beq a.1 x.1 && Nat.beq a.2 x.2) with
    | false => rfl
    | true =>
      simp only [Bool.and_eq_true] at hb
      have h1 := Nat.eq_of_beq_eq_true hb.1
      have h2 := Nat.eq_of_beq_eq_true hb.2
      have h3 : a = x := Prod.ext h1 h2
      rw [h3, hx] at h
      exact absurd h.1 (by decide)
theorem ag_sub {W V : List (Nat × Nat)} {u u' : xS} (h : subW W V = true) (ha : ag W u u') : ag V u u' := fun c j hc => ha c j (inW_sub h hc)
def noW : List (Nat × Nat) → List (Nat × Nat) → Bool
  | [], _ => true
  | a :: K, W => (!inW W a) && noW K W
/-- what K names is as it was -/
def sm (K : List (Nat × Nat)) (u u' : xS) : Prop := ∀ c j, inW K (lc c j) = true → rd u' c j = rd u c j
theorem inW_no {K W : List (Nat × Nat)} (h : noW K W = true) {x : Nat × Nat} (hx : inW K x = true) : inW W x = false := by
  induction K with
  | nil => cases hx
  | cons a K ih =>
    simp only [noW, Bool.and_eq_true, Bool.not_eq_true'] at h
    simp only [inW, Bool.or_eq_true, Bool.and_eq_true] at hx
    rcases hx with hx | hx
    · have h1 := Nat.eq_of_beq_eq_true hx.1
      have h2 := Nat.eq_of_beq_eq_true hx.2
      have h3 : a = x := Prod.ext h1 h2
      rw [← h3]
      exact h.1
    · exact ih h.2 hx
theorem ag_sm {K W : List (Nat × Nat)} {u u' : xS} (ha : ag W u u') (h : noW K W = true) : sm K u u' := fun c j hc => ha c j (inW_no h hc)
