/-! THE START -/
theorem rd_w0 {u : xS} {c j c' j' : Nat} (h : rd u c j = 0) : rd (wr u c' j' 0) c j = 0 := by
  rw [rd_wr]
  by_cases h1 : c = c'
  · rw [if_pos h1]
    by_cases h2 : j = j'
    · rw [if_pos h2]
    · rw [if_neg h2]; exact h
  · rw [if_neg h1]; exact h
theorem uI_0 {c j : Nat} (h1 : ¬ (c = 46 ∧ j = 6)) (h2 : ¬ (c = 135 ∧ j = 24)) : rd uI c j = 0 := by
  unfold uI
  rw [rd_wr_ne h2]
  repeat first | apply rd_w0 | rw [rd_wr_ne h1]
  rfl
theorem init : Inv uI := by
  have z : ∀ {c j : Nat}, ¬ (c = 46 ∧ j = 6) → ¬ (c = 135 ∧ j = 24) → rd uI c j = 0 := fun h1 h2 => uI_0 h1 h2
  have v0 : nv 0 = 0 := by decide
  have eS : nS uI = 0 := by unfold nS; rw [z (by omega) (by omega), v0]
  have eP : nP uI = 0 := by unfold nP; rw [z (by omega) (by omega), v0]
  have eBb : nB uI = 0 := by unfold nB; rw [z (by omega) (by omega), v0]
  have eOo : nO uI = 0 := by unfold nO; rw [z (by omega) (by omega), v0]
  have eKk : nK uI = 0 := by unfold nK; rw [z (by omega) (by omega), v0]
  have eR : nR uI = 0 := by unfold nR; rw [z (by omega) (by omega), v0]
  have eT : nT uI = 0 := by unfold nT; rw [z (by omega) (by omega), v0]
  have eC : nC uI = 0 := by unfold nC; rw [z (by omega) (by omega), v0]
  have eW : nW uI = 0 := by unfold nW; rw [z (by omega) (by omega), v0]
  have eD : nD uI = 0 := by unfold nD; rw [z (by omega) (by omega), v0]
  have eQ : nQ uI = 0 := by unfold nQ; rw [z (by omega) (by omega), v0]
  have hH : ∀ b s, eH uI b s = 0 := fun b s => by unfold eH; rw [z (by omega) (by omega), v0]
  have hL : ∀ b s, eL uI b s = 0 := fun b s => by unfold eL; rw [z (by omega) (by omega), v0]
  have hOl : eO uI = [] := by unfold eO; rw [eOo]; rfl
  have hM : eM uI = [] := by unfold eM; rw [hOl]; rfl
  have n0 : nI 0 = 0 := rfl
  have nil : ∀ t, t < 11 → i_X1 uI t [] := fun t ht => ⟨by simp, by rw [z (by omega) (by omega)]; rfl, fun i m h => by simp at h⟩
  refine ⟨?_, ?_, ?_, ?_, ?_, ?_, ?_, ?_, ?_, ?_, ?_, ?_, ?_⟩
  · refine ⟨?_, ?_, by omega, fun s hs => by omega⟩
    · rw [eS, z (by omega) (by omega), n0]
    · rw [eS, z (by omega) (by omega), n0]
  · refine ⟨?_, ?_, by omega, fun s hs => by omega⟩
    · rw [eP, z (by omega) (by omega), n0]
    · rw [eP, z (by omega) (by omega), n0]
  · refine ⟨?_, ?_, by omega, fun s hs => by omega, fun b hb => ?_⟩
    · rw [eBb, z (by omega) (by omega), n0]
    · rw [eBb, z (by omega) (by omega), n0]
    · rw [z (by omega) (by omega), z (by omega) (by omega)]
  · refine ⟨fun b s hb hs => ⟨?_, ?_, fun _ => hH b s⟩, fun b hb => by omega⟩
    · rw [z (by omega) (by omega), z (by omega) (by omega)]
    · rw [z (by omega) (by omega), hH, n0]
  · refine ⟨?_, by omega, fun k hk => by omega, ?_, fun b hb => by omega, ?_, fun i q h => ?_, fun b s hb hs => ⟨?_, ?_⟩, fun s hs => ?_⟩
    · rw [eOo, z (by omega) (by omega), n0]
    · rw [hOl]; exact List.nodup_nil
    · rw [hM, z (by omega) (by omega)]; rfl
    · rw [hM] at h; simp at h
    · rw [z (by omega) (by omega), hL, n0]
    · rw [hL]; exact Nat.zero_le _
    · rw [z (by omega) (by omega)]
      exact (isum_zero fun b hb => z (by omega) (by omega)).symm
  · refine ⟨?_, ?_, by omega, rfl, fun i hi => by omega⟩
    · rw [eKk, z (by omega) (by omega), n0]
    · rw [eKk, z (by omega) (by omega), n0]
  · refine ⟨?_, ?_, by omega, fun i hi => by omega⟩
    · rw [eT, z (by omega) (by omega), n0]
    · rw [eT, z (by omega) (by omega), n0]
  · refine ⟨?_, ?_, by omega, fun t ht => ⟨[], nil t (by omega), ?_, by simp, fun _ => rfl, fun h => absurd (z (by omega) (by omega)) h⟩, fun r hr => by omega⟩
    · rw [eR, z (by omega) (by omega), n0]
    · rw [eR, z (by omega) (by omega), n0]
    · rw [z (by omega) (by omega)]; rfl
  · intro s hs
    refine ⟨?_, ⟨0, by omega, ?_⟩, fun _ => ?_⟩
    · rw [z (by omega) (by omega), z (by omega) (by omega)]
    · rw [z (by omega) (by omega), n0]
    · rw [z (by omega) (by omega)]
  · refine ⟨?_, ?_, by omega, fun c b hc hb => ⟨?_, ⟨0, by omega, ?_⟩, fun _ => ?_⟩, fun c hc => by omega⟩
    · rw [eC, z (by omega) (by omega), n0]
    · rw [eC, z (by omega) (by omega), n0]
    · rw [z (by omega) (by omega), z (by omega) (by omega)]
    · rw [z (by omega) (by omega), n0]
    · rw [z (by omega) (by omega)]
  · refine ⟨?_, ?_, by omega, fun i hi => by omega⟩
    · rw [eD, z (by omega) (by omega), n0]
    · rw [eD, z (by omega) (by omega), n0]
  · refine ⟨?_, ?_, by omega, fun l hl => ⟨?_, ⟨0, by omega, ?_⟩, ?_, fun s hs => ⟨?_, Or.inr ⟨0, by omega, ?_⟩⟩⟩, fun i hi => by omega⟩
    · rw [eQ, z (by omega) (by omega), n0]
    · rw [eQ, z (by omega) (by omega), n0]
    · rw [z (by omega) (by omega), z (by omega) (by omega)]
    · rw [z (by omega) (by omega), n0]
    · rw [z (by omega) (by omega)]
    · rw [z (by omega) (by omega), z (by omega) (by omega)]
    · rw [z (by omega) (by omega), n0]
  · refine ⟨?_, ?_, by omega, fun i hi => by omega⟩
    · rw [eW, z (by omega) (by omega), n0]
    · rw [eW, z (by omega) (by omega), n0]
