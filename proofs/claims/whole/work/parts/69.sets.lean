/-! SHARE: sets as masks, one land more -/
theorem nsum_z {f : Nat → Nat} {n : Nat} (h : ∀ i, i < n → f i = 0) : nsum f n = 0 := by
  induction n with
  | zero => rfl
  | succ n ih => rw [nsum, ih (fun i hi => h i (by omega)), h n (by omega)]
theorem nsum_upd {f g : Nat → Nat} {n i : Nat} (hi : i < n) (h : ∀ j, j < n → ¬ j = i → f j = g j) (h0 : g i = 0) : nsum f n = nsum g n + f i := by
  induction n with
  | zero => omega
  | succ n ih =>
    rw [nsum, nsum]
    by_cases c : i = n
    · subst c
      rw [nsum_congr (g := g) fun j hj => h j (by omega) (by omega), h0]
      omega
    · rw [ih (by omega) fun j hj hn => h j (by omega) hn, h n (by omega) (by omega)]
      omega
section SETS
variable {K : Nat → Nat → Bool} {rm : Nat → Nat} {G : Nat → Nat → Nat} {Q L : Nat}
theorem Wo_congr {t t' : Nat → Bool} {l : Nat} (h : ∀ i, i < Q → t i = t' i) (w : Wo K rm Q l t) : Wo K rm Q l t' :=
  ⟨fun i hi ht => w.1 i hi (by rw [h i hi]; exact ht), Nat.le_trans (Nat.le_of_eq (nsum_congr fun i hi => by rw [h i hi])) w.2⟩
theorem Wv_congr {t t' : Nat → Bool} {l : Nat} (h : ∀ i, i < Q → t i = t' i) : Wv G Q l t = Wv G Q l t' := nsum_congr fun i hi => by rw [h i hi]
theorem Fea_congr {m m' : Nat → Bool} {a : Nat → Nat} (h : ∀ i, i < Q → m i = m' i) (w : Fea K rm Q L m a) : Fea K rm Q L m' a :=
  ⟨fun i hi ht => w.1 i hi (by rw [h i hi]; exact ht), fun l hl => Nat.le_trans (Nat.le_of_eq (nsum_congr fun i hi => by rw [h i hi])) (w.2 l hl)⟩
theorem Va_congr {m m' : Nat → Bool} {a : Nat → Nat} (h : ∀ i, i < Q → m i = m' i) : Va G Q L m a = Va G Q L m' a := nsum_congr fun i hi => by rw [h i hi]
theorem Opt_congr {m m' : Nat → Bool} {v : Nat} (h : ∀ i, i < Q → m i = m' i) (w : Opt K rm G Q L m v) : Opt K rm G Q L m' v := by
  obtain ⟨⟨a, f, e⟩, g⟩ := w
  exact ⟨⟨a, Fea_congr h f, by rw [← Va_congr h]; exact e⟩, fun b fb => by rw [← Va_congr h]; exact g b (Fea_congr (fun i hi => (h i hi).symm) fb)⟩
theorem Opt_e : Opt K rm G Q L (Nat.testBit 0) 0 := by
  have z : ∀ a, Va G Q L (Nat.testBit 0) a = 0 := fun a => nsum_z fun i hi => by simp
  refine ⟨⟨fun _ => L, ⟨fun i hi ht => by simp at ht, fun l hl => ?_⟩, z _⟩, fun a _ => by rw [z a]; exact Nat.le_refl _⟩
  rw [nsum_z fun i hi => by simp]
  exact Nat.zero_le _
theorem sub_bit : ∀ (i t m : Nat), t &&& m = t → (m - t).testBit i = (m.testBit i && !t.testBit i) := by
  intro i
  induction i with
  | zero =>
    intro t m h
    have h1 := and_low t m
    have h2 : t ≤ m := by rw [← h]; exact Nat.and_le_right
    rw [h] at h1
    simp only [Nat.testBit_zero]
    rcases Nat.mod_two_eq_zero_or_one m with hm | hm
    · rw [hm, Nat.mul_zero] at h1
      have : (m - t) % 2 = 0 := by omega
      simp [hm, h1, this]
    · rcases Nat.mod_two_eq_zero_or_one t with ht | ht
      · have : (m - t) % 2 = 1 := by omega
        simp [hm, ht, this]
      · have : (m - t) % 2 = 0 := by omega
        simp [hm, ht, this]
  | succ i ih =>
    intro t m h
    have h1 := and_low t m
    have h2 : t ≤ m := by rw [← h]; exact Nat.and_le_right
    have h3 := and_half t m
    rw [h] at h1 h3
    have h4 : t / 2 ≤ m / 2 := by omega
    have e : (m - t) / 2 = m / 2 - t / 2 := by
      rcases Nat.mod_two_eq_zero_or_one m with hm | hm
      · rw [hm, Nat.mul_zero] at h1
        omega
      · omega
    rw [Nat.testBit_succ, Nat.testBit_succ, Nat.testBit_succ, e]
    exact ih (t / 2) (m / 2) h3.symm
/-- from the best for lands below L to that for one more -/
theorem opt_step {m : Nat} {B : Nat → Nat} (hB : ∀ s, s &&& m = s → Opt K rm G Q L s.testBit (B s)) {v : Nat} (h0 : B m ≤ v) (h1 : ∀ s, 0 < s → s &&& m = s → Wo K rm Q L s.testBit → Wv G Q L s.testBit + B (m - s) ≤ v) (h2 : v = B m ∨ ∃ s, s &&& m = s ∧ Wo K rm Q L s.testBit ∧ v = Wv G Q L s.testBit + B (m - s)) : Opt K rm G Q (L + 1) m.testBit v := by
  have hrest : ∀ s, s &&& m = s → Opt K rm G Q L (fun i => m.testBit i && !s.testBit i) (B (m - s)) := fun s hs => by
    refine Opt_congr (fun i hi => ?_) (hB (m - s) ?_)
    · exact sub_bit i s m hs
    · apply Nat.eq_of_testBit_eq
      intro i
      rw [Nat.testBit_and, sub_bit i s m hs]
      cases m.testBit i <;> cases s.testBit i <;> rfl
  have hin : ∀ s, s &&& m = s → ∀ i, s.testBit i = true → m.testBit i = true := fun s hs i hi => by
    rw [← hs, Nat.testBit_and, Bool.and_eq_true] at hi
    exact hi.2
  refine ⟨?_, fun a ha => ?_⟩
  · have fin : ∀ s, s &&& m = s → Wo K rm Q L s.testBit → v = Wv G Q L s.testBit + B (m - s) → ∃ a, Fea K rm Q (L + 1) m.testBit a ∧ Va G Q (L + 1) m.testBit a = v := fun s hs hw hv => by
      obtain ⟨⟨a, f, e⟩, -⟩ := hrest s hs
      obtain ⟨a', f', e'⟩ := opt_join (G := G) (hin s hs) hw f
      exact ⟨a', f', by rw [e', e, hv]⟩
    rcases h2 with h2 | ⟨s, s1, s2, s3⟩
    · refine fin 0 (Nat.zero_and m) ⟨fun i hi ht => by simp at ht, ?_⟩ ?_
      · rw [nsum_z fun i hi => by simp]
        exact Nat.zero_le _
      · rw [h2]
        unfold Wv
        rw [nsum_z fun i hi => by simp, Nat.zero_add, Nat.sub_zero]
    · exact fin s s1 s2 s3
  · obtain ⟨w1, w2, w3⟩ := opt_split (G := G) ha
    obtain ⟨s, hs⟩ : ∃ s, s = msk (fun i => m.testBit i && decide (a i = L)) Q := ⟨_, rfl⟩
    have hb : ∀ i, i < Q → (fun i => m.testBit i && decide (a i = L)) i = s.testBit i := fun i hi => by
      rw [hs, msk_bit, decide_eq_true hi, Bool.true_and]
    have hsm : s &&& m = s := by
      apply Nat.eq_of_testBit_eq
      intro i
      rw [Nat.testBit_and, hs, msk_bit]
      cases decide (i < Q) <;> cases m.testBit i <;> cases decide (a i = L) <;> rfl
    have e1 := Wv_congr (G := G) (l := L) hb
    have e2 : Fea K rm Q L (fun i => m.testBit i && !s.testBit i) a := Fea_congr (fun i hi => by
      rw [← hb i hi]
      show (m.testBit i && !decide (a i = L)) = (m.testBit i && !(m.testBit i && decide (a i = L)))
      cases m.testBit i <;> cases decide (a i = L) <;> rfl) w2
    have e3 : Va G Q L (fun i => m.testBit i && !decide (a i = L)) a = Va G Q L (fun i => m.testBit i && !s.testBit i) a := Va_congr fun i hi => by
      rw [← hb i hi]
      show (m.testBit i && !decide (a i = L)) = (m.testBit i && !(m.testBit i && decide (a i = L)))
      cases m.testBit i <;> cases decide (a i = L) <;> rfl
    have e4 := (hrest s hsm).2 a e2
    rw [w3, e1, e3]
    by_cases c : s = 0
    · subst c
      rw [Nat.sub_zero] at e4
      unfold Wv
      rw [nsum_z fun i hi => by simp]
      omega
    · have := h1 s (by omega) hsm (Wo_congr hb w1)
      omega
/-- one pack more in a land's set -/
theorem add_bit {t i : Nat} (ht : t < 2 ^ i) (j : Nat) : (2 ^ i + t).testBit j = (decide (j = i) || t.testBit j) := by
  have e : 2 ^ i + t = 2 ^ i ||| t := by
    have := Nat.two_pow_add_eq_or_of_lt ht 1
    rwa [Nat.mul_one] at this
  rw [e, Nat.testBit_or, Nat.testBit_two_pow]
  by_cases c : i = j
  · simp [c]
  · simp [c, show ¬ j = i from fun z => c z.symm]
theorem bit_hi {t i j : Nat} (ht : t < 2 ^ i) (h : i ≤ j) : t.testBit j = false := Nat.testBit_lt_two_pow (Nat.lt_of_lt_of_le ht (Nat.pow_le_pow_right (by omega) h))
def cS (t Q : Nat) : Nat := nsum (fun i => if t.testBit i = true then 1 else 0) Q
theorem cS_add {t i : Nat} (ht : t < 2 ^ i) (hi : i < Q) : cS (2 ^ i + t) Q = cS t Q + 1 := by
  unfold cS
  rw [nsum_upd (g := fun j => if t.testBit j = true then 1 else 0) hi]
  · rw [add_bit ht]
    simp
  · intro j hj hn
    rw [add_bit ht]
    simp [hn]
  · simp [bit_hi ht (Nat.le_refl i)]
theorem Wv_add {t i l : Nat} (ht : t < 2 ^ i) (hi : i < Q) : Wv G Q l (2 ^ i + t).testBit = Wv G Q l t.testBit + G l i := by
  unfold Wv
  rw [nsum_upd (g := fun j => if t.testBit j = true then G l j else 0) hi]
  · rw [add_bit ht]
    simp
  · intro j hj hn
    rw [add_bit ht]
    simp [hn]
  · simp [bit_hi ht (Nat.le_refl i)]
theorem Wo_add {t i l : Nat} (ht : t < 2 ^ i) (hi : i < Q) : Wo K rm Q l (2 ^ i + t).testBit ↔ K l i = true ∧ Wo K rm Q l t.testBit ∧ cS t Q < rm l := by
  have e := cS_add (Q := Q) ht hi
  constructor
  · rintro ⟨h1, h2⟩
    have h3 : cS (2 ^ i + t) Q ≤ rm l := h2
    refine ⟨h1 i hi (by rw [add_bit ht]; simp), ⟨fun j hj hb => h1 j hj (by rw [add_bit ht, hb]; simp), ?_⟩, by omega⟩
    show cS t Q ≤ rm l
    omega
  · rintro ⟨h1, ⟨h2, h3⟩, h4⟩
    refine ⟨fun j hj hb => ?_, ?_⟩
    · rw [add_bit ht, Bool.or_eq_true] at hb
      rcases hb with hb | hb
      · rw [of_decide_eq_true hb]
        exact h1
      · exact h2 j hj hb
    · show cS (2 ^ i + t) Q ≤ rm l
      omega
theorem Wo_0 {l : Nat} : Wo K rm Q l (Nat.testBit 0) := ⟨fun i hi ht => by simp at ht, by rw [nsum_z fun i hi => by simp]; exact Nat.zero_le _⟩
theorem Wv_0 {l : Nat} : Wv G Q l (Nat.testBit 0) = 0 := nsum_z fun i hi => by simp
theorem nsum_bd {f : Nat → Nat} {c n : Nat} (h : ∀ i, i < n → f i ≤ c) : nsum f n ≤ c * n := by
  induction n with
  | zero => exact Nat.zero_le _
  | succ n ih =>
    have h1 := ih fun i hi => h i (by omega)
    have h2 := h n (by omega)
    rw [nsum, Nat.mul_succ]
    omega
end SETS
