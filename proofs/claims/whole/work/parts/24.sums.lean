/-! SUMS -/
theorem c_everOf {u : xS} {B s : Nat} (h : rd u 13 8 = nI B) (hB : B ≤ 24) (hs : s < 16) : f_X0_everOf u (nI s) = some (isum (fun b => rd u (22 + b) s) B) :=
  it_loop (F := fun N i a => f_X0_everOf_4 u N (nI s) a (nI i)) _ some (fun n i a hi => by
    simp (disch := omega) only [f_X0_everOf_4, h, ite_nle, gd_nI, nI_cl, l_1, nI_add]) (fun n a => by simp (disch := omega) only [f_X0_everOf_4, h, ite_yle]) (xN_lt (by omega))
theorem c_hadOf {u : xS} {B s : Nat} (h : rd u 135 7 = nI B) (hB : B ≤ 24) (hs : s < 16) : f_X12_hadOf u (nI s) = some (isum (fun b => rd u 146 (24 * s + b)) B) :=
  it_loop (F := fun N i a => f_X12_hadOf_4 u N (nI s) a (nI i)) _ some (fun n i a hi => by
    simp (disch := omega) only [f_X12_hadOf_4, h, l_24, l_1, pk_mul, nI_add, ite_nle, gd_nI, nI_cl]) (fun n a => by simp (disch := omega) only [f_X12_hadOf_4, h, ite_yle]) (xN_lt (by omega))
theorem c_stored {u : xS} {B s : Nat} (h : rd u 135 7 = nI B) (hB : B ≤ 24) (hs : s < 16) : f_X12_stored u (nI s) = some (isum (fun b => rd u 147 (24 * s + b)) B) :=
  it_loop (F := fun N i a => f_X12_stored_4 u N (nI s) a (nI i)) _ some (fun n i a hi => by
    simp (disch := omega) only [f_X12_stored_4, h, l_24, l_1, pk_mul, nI_add, ite_nle, gd_nI, nI_cl]) (fun n a => by simp (disch := omega) only [f_X12_stored_4, h, ite_yle]) (xN_lt (by omega))
theorem c_found {u : xS} {S b : Nat} (h : rd u 135 1 = nI S) (hS : S ≤ 16) (hb : b < 24) : f_X12_found u (nI b) = some (isum (fun s => rd u 146 (24 * s + b)) S) :=
  it_loop (F := fun N i a => f_X12_found_4 u N (nI b) a (nI i)) _ some (fun n i a hi => by
    simp (disch := omega) only [f_X12_found_4, h, l_24, l_1, pk_mul, nI_add, ite_nle, gd_nI, nI_cl]) (fun n a => by simp (disch := omega) only [f_X12_found_4, h, ite_yle]) (xN_lt (by omega))
theorem c_dust {u : xS} {S b : Nat} (h : rd u 135 1 = nI S) (hS : S ≤ 16) (hb : b < 24) : f_X12_dust u (nI b) = some (rd u 142 b - isum (fun s => rd u 146 (24 * s + b)) S) := by
  simp (disch := omega) only [f_X12_dust, gd_nI, c_found h hS hb, Option.bind_some, nI_cl]
theorem c_partsInAll {u : xS} {S : Nat} (h : rd u 135 1 = nI S) (hS : S ≤ 16) : f_X12_partsInAll u = some (isum (fun s => rd u 160 s) S) :=
  it_loop (F := fun N i a => f_X12_partsInAll_4 u N a (nI i)) _ some (fun n i a hi => by
    simp (disch := omega) only [f_X12_partsInAll_4, h, l_1, nI_add, ite_nle, gd_nI, nI_cl]) (fun n a => by simp (disch := omega) only [f_X12_partsInAll_4, h, ite_yle]) (xN_lt (by omega))
theorem c_inAll (u : xS) : f_X1_inAll u = some (isum (fun s => rd u 80 s) 16) :=
  it_loop (F := fun N i a => f_X1_inAll_4 u N a (nI i)) _ some (fun n i a hi => by
    simp (disch := omega) only [f_X1_inAll_4, l_16, l_1, nI_add, ite_nle, gd_nI, nI_cl]) (fun n a => by rw [f_X1_inAll_4]; exact if_pos (show (16 : Int32) ≤ nI 16 from Int32.le_refl _)) (xN_lt (by omega))
theorem c_clothOf {u : xS} {C b : Nat} (h : rd u 87 2 = nI C) (hC : C ≤ 20) (hb : b < 24) : f_X2_ofBale u (nI b) = some (isum (fun c => rd u (89 + c) b) C) :=
  it_loop (F := fun N i a => f_X2_ofBale_4 u N (nI b) a (nI i)) _ some (fun n i a hi => by
    simp (disch := omega) only [f_X2_ofBale_4, h, l_1, nI_add, ite_nle, gd_nI, nI_cl]) (fun n a => by simp (disch := omega) only [f_X2_ofBale_4, h, ite_yle]) (xN_lt (by omega))
theorem c_blended {u : xS} {S f : Nat} (h : rd u 135 1 = nI S) (hS : S ≤ 16) (hf : f < 7) : f_X12_blended u (nI f) = some (isum (fun s => rd u 160 s * rd u 136 (7 * s + f)) S / 12) :=
  it_loop (F := fun N i a => f_X12_blended_4 u N (nI f) a (nI i)) (fun s a => a + rd u 160 s * rd u 136 (7 * s + f)) (fun a => some (a / 12)) (fun n i a hi => by
    simp (disch := omega) only [f_X12_blended_4, h, l_7, l_1, pk_mul, nI_add, ite_nle, gd_nI, nI_cl]) (fun n a => by simp (disch := omega) only [f_X12_blended_4, h, ite_yle]) (xN_lt (by omega))
theorem it_if {c : Nat → Prop} {d : ∀ i, Decidable (c i)} {x : Nat → Int32} {n : Nat} : it (fun i a => @ite _ (c i) (d i) (a + x i) a) 0 n = isum (fun i => @ite _ (c i) (d i) (x i) 0) n :=
  it_congr fun i a _ => by
    by_cases h : c i
    · simp only [if_pos h]
    · simp only [if_neg h, Int32.add_zero]
theorem c_lots (u : xS) : f_X12_lots u = some (isum (fun k => if rd u 147 k ≤ 0 then 0 else 1) 384) :=
  it_loop (F := fun N i a => f_X12_lots_4 u N a (nI i)) _ some (fun n i a hi => by
    simp (disch := omega) only [f_X12_lots_4, f_X12_lots_28, l_384, l_1, nI_add, ite_nle, gd_nI, nI_cl]
    by_cases h : rd u 147 i ≤ 0
    · simp only [if_pos h]
      rfl
    · simp only [if_neg h]
      rfl) (fun n a => by rw [f_X12_lots_4]; exact if_pos (show (384 : Int32) ≤ nI 384 from Int32.le_refl _)) (xN_lt (by omega))
theorem c_withPounds {u : xS} {L : Nat} (h : rd u 74 4 = nI L) (hL : L ≤ 384) : f_X6_withPounds u = some (isum (fun k => if rd u 77 k ≤ 0 then 0 else 1) L) :=
  it_loop (F := fun N i a => f_X6_withPounds_4 u N a (nI i)) _ some (fun n i a hi => by
    simp (disch := omega) only [f_X6_withPounds_4, f_X6_withPounds_24, h, l_1, nI_add, ite_nle, gd_nI, nI_cl]
    by_cases h : rd u 77 i ≤ 0
    · simp only [if_pos h, Int32.add_zero]
    · simp only [if_neg h]) (fun n a => by simp (disch := omega) only [f_X6_withPounds_4, h, ite_yle]) (xN_lt (by omega))
theorem c_ofBale {u : xS} {L : Nat} {v : Int32} (h : rd u 74 4 = nI L) (hL : L ≤ 384) : f_X6_ofBale u v = some (isum (fun k => if rd u 76 k = v then rd u 77 k else 0) L) :=
  it_loop (F := fun N i a => f_X6_ofBale_4 u N v a (nI i)) _ some (fun n i a hi => by
    simp (disch := omega) only [f_X6_ofBale_4, f_X6_ofBale_31, h, l_1, nI_add, ite_nle, gd_nI, nI_cl]
    by_cases h : rd u 76 i = v
    · simp only [if_pos h]
    · simp only [if_neg h, Int32.add_zero]) (fun n a => by simp (disch := omega) only [f_X6_ofBale_4, h, ite_yle]) (xN_lt (by omega))
theorem c_woolless {u : xS} {S b : Nat} (h : rd u 1 2 = nI S) (hS : S ≤ 16) (hb : b < 24) : f_X11_woolless u (nI b) = some (isum (fun s => if rd u 8 s = 0 then rd u (22 + b) s else 0) S) :=
  it_loop (F := fun N i a => f_X11_woolless_4 u N (nI b) a (nI i)) _ some (fun n i a hi => by
    simp (disch := omega) only [f_X11_woolless_4, f_X11_woolless_43, h, l_1, nI_add, ite_nle, gd_nI, nI_cl]
    by_cases h : rd u 8 i = 0
    · simp only [if_pos h]
    · simp only [if_neg h, Int32.add_zero]) (fun n a => by simp (disch := omega) only [f_X11_woolless_4, h, ite_yle]) (xN_lt (by omega))
/-! prices -/
theorem price_key {u : xS} (hP : i_P u) (v w : Int32) : ∀ (N i : Nat) (x y z : Int32), nP u < N + i → i ≤ nP u → ((z = -1 ∧ x = -1 ∧ y = 0) ∨ ∃ k, k < i ∧ z = nI k ∧ x = rd u 138 k ∧ y = rd u 139 k) →
    ∃ r p, f_X8_priceIn_8 u N v w x y (nI i) = some r ∧ f_X12_priceOf_5 u N v w z (nI i) = some r ∧ p ≤ 999 ∧ r = nI p := by
  obtain ⟨p1, p2, p3, p4⟩ := hP
  intro N
  induction N with
  | zero => intro i x y z h1 h2; omega
  | succ N ih =>
    intro i x y z h1 h2 hR
    by_cases hi : i = nP u
    · simp (disch := omega) only [f_X8_priceIn_8, f_X12_priceOf_5, p1, p2, ite_yle]
      rcases hR with ⟨rfl, rfl, rfl⟩ | ⟨k, hk, rfl, rfl, rfl⟩
      · exact ⟨0, 0, rfl, rfl, by omega, rfl⟩
      · obtain ⟨-, -, -, -, p, h5, h6⟩ := p4 k (by omega)
        refine ⟨rd u 139 k, p, rfl, ?_, h5, h6⟩
        rw [if_pos (nI_lo (by omega)), gd_nI (by omega) (by omega), nI_cl (by omega)]
    · obtain ⟨q1, q2, q3, ⟨e, he, q4⟩, -⟩ := p4 i (by omega)
      have ih' := ih (i + 1)
      simp (disch := omega) only [f_X8_priceIn_8, f_X8_priceIn_67, f_X12_priceOf_5, f_X12_priceOf_59, f_X12_priceOf_56, p1, p2, ite_nle, gd_nI, nI_cl, l_1, nI_add, q1, q2, q3]
      have hR' : (z = -1 ∧ x = -1 ∧ y = 0) ∨ ∃ k, k < i + 1 ∧ z = nI k ∧ x = rd u 138 k ∧ y = rd u 139 k := by
        rcases hR with h | ⟨k, hk, h⟩
        · exact Or.inl h
        · exact Or.inr ⟨k, by omega, h⟩
      have hN : (nI i = -1 ∧ rd u 138 i = -1 ∧ rd u 139 i = 0) ∨ ∃ k, k < i + 1 ∧ nI i = nI k ∧ rd u 138 i = rd u 138 k ∧ rd u 139 i = rd u 139 k := Or.inr ⟨i, by omega, rfl, rfl, rfl⟩
      by_cases c1 : rd u 137 i = v
      · by_cases c2 : w < rd u 138 i
        · simp only [if_pos c1, if_pos c2]
          exact ih' x y z (by omega) (by omega) hR'
        · simp only [if_pos c1, if_neg c2]
          rcases hR with ⟨rfl, rfl, rfl⟩ | ⟨k, hk, rfl, rfl, rfl⟩
          · rw [if_neg (show ¬ rd u 138 i < -1 by rw [q4, Int32.lt_iff_toInt_lt, nI_toInt (by omega)]; have : (-1 : Int32).toInt = -1 := rfl; omega), if_pos (by decide)]
            exact ih' _ _ _ (by omega) (by omega) hN
          · rw [if_neg (nI_pos (by omega)), gd_nI (by omega) (by omega), nI_cl (by omega)]
            by_cases c3 : rd u 138 i < rd u 138 k
            · simp only [if_pos c3]
              exact ih' _ _ _ (by omega) (by omega) hR'
            · simp only [if_neg c3]
              exact ih' _ _ _ (by omega) (by omega) hN
      · simp only [if_neg c1]
        exact ih' x y z (by omega) (by omega) hR'
/-- the price that both find -/
def prc (u : xS) (v w : Int32) : Int32 := (it (fun i p => if rd u 137 i = v then (if w < rd u 138 i then p else if rd u 138 i < p.1 then p else (rd u 138 i, rd u 139 i)) else p) ((-1 : Int32), (0 : Int32)) (nP u)).2
theorem c_priceIn {u : xS} (hP : i_P u) (v w : Int32) : f_X8_priceIn u v w = some (prc u v w) := by
  obtain ⟨p1, p2, p3, p4⟩ := hP
  refine it_loop (F := fun N i p => f_X8_priceIn_8 u N v w p.1 p.2 (nI i)) (a := ((-1 : Int32), (0 : Int32))) _ (fun p => some p.2) (fun n i p hi => ?_) (fun n p => by simp (disch := omega) only [f_X8_priceIn_8, p1, ite_yle]) (xN_lt (by omega))
  obtain ⟨q1, q2, q3, -, -⟩ := p4 i (by omega)
  simp (disch := omega) only [f_X8_priceIn_8, f_X8_priceIn_67, p1, ite_nle, gd_nI, nI_cl, nI_1, q1, q2, q3]
  by_cases c1 : rd u 137 i = v
  · by_cases c2 : w < rd u 138 i
    · simp only [if_pos c1, if_pos c2]
    · by_cases c3 : rd u 138 i < p.1
      · simp only [if_pos c1, if_neg c2, if_pos c3]
      · simp only [if_pos c1, if_neg c2, if_neg c3]
  · simp only [if_neg c1]
theorem c_price {u : xS} (hP : i_P u) (v w : Int32) : f_X8_priceIn u v w = some (prc u v w) ∧ f_X12_priceOf u v w = some (prc u v w) ∧ ∃ p, p ≤ 999 ∧ prc u v w = nI p := by
  have p3 := hP.2.2.1
  obtain ⟨r, p, h1, h2, h3, h4⟩ := price_key hP v w xN 0 (-1) 0 (-1) (by have : xN = 1000000 := rfl; omega) (by omega) (Or.inl ⟨rfl, rfl, rfl⟩)
  have e : f_X8_priceIn u v w = some r := h1
  have e1 : f_X12_priceOf u v w = some r := h2
  rw [c_priceIn hP] at e
  have e2 := Option.some.inj e
  rw [e2]
  exact ⟨by rw [c_priceIn hP, e2], e1, p, h3, h4⟩
theorem prc_fr {u u' : xS} (h : sm kP u u') (v w : Int32) : prc u' v w = prc u v w := by
  have q0 : nP u' = nP u := congrArg nv (h 135 3 rfl)
  have q5 : ∀ i, rd u' 137 i = rd u 137 i := fun i => h 137 i rfl
  have q6 : ∀ i, rd u' 138 i = rd u 138 i := fun i => h 138 i rfl
  have q7 : ∀ i, rd u' 139 i = rd u 139 i := fun i => h 139 i rfl
  simp only [prc, q0, q5, q6, q7]
