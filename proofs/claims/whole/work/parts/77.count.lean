/-! MIX: how many bits -/
theorem nI_and (x y : Nat) : nI x &&& nI y = nI (x &&& y) := by
  apply Int32.toBitVec_inj.mp
  rw [Int32.toBitVec_and]
  apply BitVec.eq_of_toNat_eq
  show (BitVec.ofNat 32 x &&& BitVec.ofNat 32 y).toNat = (BitVec.ofNat 32 (x &&& y)).toNat
  rw [BitVec.ofNat_and]
def bi_1 (v : Int32) : Int32 := v - ((v.toUInt32 >>> ((1 : Int32).toUInt32 &&& Int32.toUInt32 31)).toInt32 &&& (1431655765 : Int32))
def bi_2 (v : Int32) : Int32 := (v &&& (858993459 : Int32)) + ((v.toUInt32 >>> ((2 : Int32).toUInt32 &&& Int32.toUInt32 31)).toInt32 &&& (858993459 : Int32))
def bi_3 (v : Int32) : Int32 := (v + (v.toUInt32 >>> ((4 : Int32).toUInt32 &&& Int32.toUInt32 31)).toInt32) &&& (252645135 : Int32)
def bi_4 (v : Int32) : Int32 := v + (v.toUInt32 >>> ((8 : Int32).toUInt32 &&& Int32.toUInt32 31)).toInt32
def bi_5 (v : Int32) : Int32 := v + (v.toUInt32 >>> ((16 : Int32).toUInt32 &&& Int32.toUInt32 31)).toInt32
theorem bi_all (v : Int32) : f_J6_bitCount_0f7a4 v = bi_5 (bi_4 (bi_3 (bi_2 (bi_1 v)))) &&& (63 : Int32) := rfl
def bn_1 (v : Nat) : Nat := v - (v / 2 &&& 1431655765)
def bn_2 (v : Nat) : Nat := (v &&& 858993459) + (v / 4 &&& 858993459)
def bn_3 (v : Nat) : Nat := (v + v / 16) &&& 252645135
def bn_4 (v : Nat) : Nat := v + v / 256
def bn_5 (v : Nat) : Nat := v + v / 65536
theorem bi_1e {v : Nat} (h : v < 65536) : bi_1 (nI v) = nI (bn_1 v) := by
  have h1 : v / 2 &&& 1431655765 ≤ v / 2 := Nat.and_le_left
  rw [bi_1, pk_ushrN (by omega) 1 1 rfl, Nat.pow_one, show (1431655765 : Int32) = nI 1431655765 from rfl, nI_and, nI_sub (by omega)]
  rfl
theorem bi_2e {v : Nat} (h : v < 65536) : bi_2 (nI v) = nI (bn_2 v) := by
  rw [bi_2, pk_ushrN (by omega) 2 2 rfl, show (858993459 : Int32) = nI 858993459 from rfl, nI_and, nI_and, nI_add]
  rfl
theorem bi_3e {v : Nat} (h : v < 65536 * 4) : bi_3 (nI v) = nI (bn_3 v) := by
  rw [bi_3, pk_ushrN (by omega) 4 4 rfl, show (252645135 : Int32) = nI 252645135 from rfl, nI_add, nI_and]
  rfl
theorem bi_4e {v : Nat} (h : v < 65536 * 8) : bi_4 (nI v) = nI (bn_4 v) := by
  rw [bi_4, pk_ushrN (by omega) 8 8 rfl, nI_add]
  rfl
theorem bi_5e {v : Nat} (h : v < 65536 * 16) : bi_5 (nI v) = nI (bn_5 v) := by
  rw [bi_5, pk_ushrN (by omega) 16 16 rfl, nI_add]
  rfl
def bn_6 (v : Nat) : Nat := bn_5 (bn_4 (bn_3 (bn_2 (bn_1 v)))) &&& 63
theorem bi_6e {v : Nat} (h : v < 65536) : f_J6_bitCount_0f7a4 (nI v) = nI (bn_6 v) := by
  have h1 : bn_1 v ≤ v := Nat.sub_le _ _
  have h2 : bn_2 (bn_1 v) ≤ bn_1 v + bn_1 v / 4 := Nat.add_le_add Nat.and_le_left Nat.and_le_left
  have h3 : bn_3 (bn_2 (bn_1 v)) ≤ bn_2 (bn_1 v) + bn_2 (bn_1 v) / 16 := Nat.and_le_left
  have h4 : bn_4 (bn_3 (bn_2 (bn_1 v))) = bn_3 (bn_2 (bn_1 v)) + bn_3 (bn_2 (bn_1 v)) / 256 := rfl
  rw [bi_all, bi_1e h, bi_2e (by omega), bi_3e (by omega), bi_4e (by omega), bi_5e (by omega), show (63 : Int32) = nI 63 from rfl, nI_and]
  rfl
def pcn : Nat → Nat → Nat
  | 0, _ => 0
  | k + 1, t => t % 2 + pcn k (t / 2)
theorem pcn_nsum : ∀ (k t : Nat), pcn k t = nsum (fun i => if t.testBit i = true then 1 else 0) k := by
  have fr : ∀ (k : Nat) (f : Nat → Nat), nsum f (k + 1) = f 0 + nsum (fun i => f (i + 1)) k := by
    intro k
    induction k with
    | zero => intro f; rw [nsum, nsum, nsum]; omega
    | succ k ih => intro f; rw [nsum, ih f, nsum]; omega
  intro k
  induction k with
  | zero => intro t; rfl
  | succ k ih =>
    intro t
    rw [pcn, ih, fr]
    have e : (if t.testBit 0 = true then 1 else 0) = t % 2 := by
      rw [Nat.testBit_zero]
      by_cases c : t % 2 = 1
      · simp [c]
      · simp [c]; omega
    rw [e]
    congr 1
    exact nsum_congr fun i _ => by rw [Nat.testBit_succ]
theorem pcn_app (j : Nat) : ∀ (k t : Nat), pcn (k + j) t = pcn k t + pcn j (t / 2 ^ k) := by
  intro k
  induction k with
  | zero => intro t; rw [Nat.zero_add, pcn, Nat.pow_zero, Nat.div_one, Nat.zero_add]
  | succ k ih =>
    intro t
    rw [show k + 1 + j = (k + j) + 1 by omega, pcn, pcn, ih, Nat.div_div_eq_div_mul, Nat.pow_succ, Nat.mul_comm 2, Nat.add_assoc]
theorem pcn_hi (c : Nat) : ∀ (k t : Nat), pcn k (t + 2 ^ k * c) = pcn k t := by
  intro k
  induction k with
  | zero => intro t; rfl
  | succ k ih =>
    intro t
    have e : 2 ^ (k + 1) * c = 2 * (2 ^ k * c) := by rw [Nat.pow_succ, Nat.mul_comm (2 ^ k) 2, Nat.mul_assoc]
    rw [pcn, pcn, e, show (t + 2 * (2 ^ k * c)) % 2 = t % 2 by omega, show (t + 2 * (2 ^ k * c)) / 2 = t / 2 + 2 ^ k * c by omega, ih]
theorem and256 {x y m k : Nat} (hy : y < 256) (hk : k < 256) : (256 * x + y) &&& (256 * m + k) = 256 * (x &&& m) + (y &&& k) := by
  have h1 : ((256 * x + y) &&& (256 * m + k)) / 256 = (256 * x + y) / 256 &&& (256 * m + k) / 256 := Nat.and_div_two_pow (n := 8)
  have h2 : ((256 * x + y) &&& (256 * m + k)) % 256 = (256 * x + y) % 256 &&& (256 * m + k) % 256 := Nat.and_mod_two_pow (n := 8)
  rw [show (256 * x + y) / 256 = x by omega, show (256 * m + k) / 256 = m by omega] at h1
  rw [show (256 * x + y) % 256 = y by omega, show (256 * m + k) % 256 = k by omega] at h2
  omega
def qn_1 (a : Nat) : Nat := a - (a / 2 &&& 85)
def qn_2 (a : Nat) : Nat := (a &&& 51) + (a / 4 &&& 51)
def qn_3 (a : Nat) : Nat := (a + a / 16) &&& 15
theorem qd_1 : ∀ a, a < 256 → a / 2 &&& 5592405 = a / 2 &&& 85 ∧ (128 + a / 2) &&& 85 = a / 2 &&& 85 := by decide +kernel
theorem qd_2 : ∀ a, a < 256 → a &&& 3355443 = a &&& 51 ∧ a / 4 &&& 3355443 = a / 4 &&& 51 ∧ (64 + a / 4) &&& 51 = a / 4 &&& 51 ∧ (128 + a / 4) &&& 51 = a / 4 &&& 51 ∧ (192 + a / 4) &&& 51 = a / 4 &&& 51 := by decide +kernel
theorem qd_3 : ∀ a, a < 256 → a &&& 986895 = a &&& 15 := by decide +kernel
theorem qd_4 : ∀ c, c < 5 → ∀ a, a < 128 → (a + 16 * c) &&& 15 = a &&& 15 := by decide +kernel
theorem qd_5 : ∀ a, a < 256 → qn_2 (qn_1 a) % 16 ≤ 4 ∧ qn_2 (qn_1 a) / 16 ≤ 4 ∧ qn_3 (qn_2 (qn_1 a)) = pcn 8 a ∧ pcn 8 a ≤ 8 := by decide +kernel
theorem bq_1 {a b : Nat} (ha : a < 256) (hb : b < 256) : bn_1 (256 * b + a) = 256 * qn_1 b + qn_1 a := by
  have e : (256 * b + a) / 2 = 256 * (b / 2) + (128 * (b % 2) + a / 2) := by omega
  have h1 : (128 * (b % 2) + a / 2) &&& 85 = a / 2 &&& 85 := by
    rcases Nat.mod_two_eq_zero_or_one b with c | c
    · rw [c, Nat.mul_zero, Nat.zero_add]
    · rw [c, Nat.mul_one]
      exact (qd_1 a ha).2
  have l1 : b / 2 &&& 85 ≤ b / 2 := Nat.and_le_left
  have l2 : a / 2 &&& 85 ≤ a / 2 := Nat.and_le_left
  unfold bn_1 qn_1
  rw [e, show 1431655765 = 256 * 5592405 + 85 by decide, and256 (by omega) (by omega), h1, (qd_1 b hb).1]
  omega
theorem bq_2 {x y : Nat} (hx : x < 256) (hy : y < 256) : bn_2 (256 * x + y) = 256 * qn_2 x + qn_2 y := by
  have e : (256 * x + y) / 4 = 256 * (x / 4) + (64 * (x % 4) + y / 4) := by omega
  have h1 : (64 * (x % 4) + y / 4) &&& 51 = y / 4 &&& 51 := by
    obtain ⟨-, -, q1, q2, q3⟩ := qd_2 y hy
    have : x % 4 = 0 ∨ x % 4 = 1 ∨ x % 4 = 2 ∨ x % 4 = 3 := by omega
    rcases this with c | c | c | c
    · rw [c, Nat.mul_zero, Nat.zero_add]
    · rw [c]; exact q1
    · rw [c]; exact q2
    · rw [c]; exact q3
  unfold bn_2 qn_2
  rw [e, show 858993459 = 256 * 3355443 + 51 by decide, and256 (by omega) (by omega), and256 (by omega) (by omega), h1, (qd_2 x hx).1, (qd_2 x hx).2.1]
  omega
theorem bq_3 {x y : Nat} (hx : x % 16 ≤ 4 ∧ x / 16 ≤ 4) (hy : y % 16 ≤ 4 ∧ y / 16 ≤ 4) : bn_3 (256 * x + y) = 256 * qn_3 x + qn_3 y := by
  have e : (256 * x + y) + (256 * x + y) / 16 = 256 * (x + x / 16) + ((y + y / 16) + 16 * (x % 16)) := by omega
  unfold bn_3 qn_3
  rw [e, show 252645135 = 256 * 986895 + 15 by decide, and256 (by omega) (by omega), qd_3 _ (by omega), qd_4 (x % 16) (by omega) (y + y / 16) (by omega)]
theorem bq_6 {a b : Nat} (ha : a < 256) (hb : b < 256) : bn_6 (256 * b + a) = pcn 16 (256 * b + a) := by
  obtain ⟨a1, a2, a3, a4⟩ := qd_5 a ha
  obtain ⟨b1, b2, b3, b4⟩ := qd_5 b hb
  have la : qn_1 a ≤ a := Nat.sub_le _ _
  have lb : qn_1 b ≤ b := Nat.sub_le _ _
  have h63 : ∀ z, z &&& 63 = z % 64 := fun z => Nat.and_two_pow_sub_one_eq_mod z 6
  have hp : pcn 16 (256 * b + a) = pcn 8 a + pcn 8 b := by
    have e1 := pcn_app 8 8 (256 * b + a)
    have e2 := pcn_hi b 8 a
    rw [show (2 : Nat) ^ 8 = 256 by decide, show (256 * b + a) / 256 = b by omega] at e1
    rw [show (2 : Nat) ^ 8 = 256 by decide, Nat.add_comm a] at e2
    rw [e2] at e1
    exact e1
  unfold bn_6
  rw [bq_1 ha hb, bq_2 (by omega) (by omega), bq_3 ⟨b1, b2⟩ ⟨a1, a2⟩, a3, b3, h63, hp]
  unfold bn_5 bn_4
  have e1 : (256 * pcn 8 b + pcn 8 a) / 256 = pcn 8 b := by omega
  rw [e1]
  have e2 : (256 * pcn 8 b + pcn 8 a + pcn 8 b) / 65536 = 0 := by omega
  rw [e2]
  omega
theorem bc_eq {t : Nat} (h : t < 65536) : f_J6_bitCount_0f7a4 (nI t) = nI (nsum (fun i => if t.testBit i = true then 1 else 0) 16) := by
  have := bq_6 (a := t % 256) (b := t / 256) (by omega) (by omega)
  rw [show 256 * (t / 256) + t % 256 = t by omega] at this
  rw [bi_6e h, this, pcn_nsum]
theorem bits_below {t S : Nat} (ht : t < 2 ^ S) : ∀ k, nsum (fun i => if t.testBit i = true then 1 else 0) (S + k) = nsum (fun i => if t.testBit i = true then 1 else 0) S := by
  intro k
  induction k with
  | zero => rfl
  | succ k ih =>
    show nsum (fun i => if t.testBit i = true then 1 else 0) (S + k) + (if t.testBit (S + k) = true then 1 else 0) = _
    rw [ih, bit_hi ht (by omega)]
    simp
theorem smod_s : ∀ s, s < 16 → ((nI s &&& 31).toBitVec.smod 32).toNat = s := by decide +kernel
theorem mbit {t s : Nat} (ht : t < 65536) (hs : s < 16) : ((nI t >>> (nI s &&& 31)) &&& (1 : Int32)) = (1 : Int32) ↔ t.testBit s = true := by
  rw [pk_shrN (by omega) _ s (smod_s s hs), pk_andN (by
    have : t / 2 ^ s ≤ t := Nat.div_le_self _ _
    omega) (m := 1) 1 (by decide), Nat.testBit_eq_decide_div_mod_eq, decide_eq_true_iff, Nat.pow_one]
  constructor
  · intro h
    exact (nI_eq (a := t / 2 ^ s % 2) (b := 1) (by omega) (by omega)).mp h
  · intro h
    rw [h]
    rfl
