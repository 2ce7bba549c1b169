/-! ALL STEPS, AND THE CLAIM -/
theorem steps : xSteps Inv := ⟨s_sort, s_price, s_at, s_within, s_bale, s_open, s_of, s_look, s_as, s_off, s_due, s_sign, s_end, s_text, s_pay, s_store, s_fire, s_moth, s_wipe, s_split, s_part, s_judge, s_cost, s_mix, s_make, s_led, s_fault, s_suspects, s_foretell, s_twice, s_eye, s_met, s_called, s_ring, s_wish, s_takes, s_pack, s_gives, s_share, s_count, s_row⟩
theorem i_vc : Claimed_1_1 ∧ Claimed_1_2 := vc_of steps init
