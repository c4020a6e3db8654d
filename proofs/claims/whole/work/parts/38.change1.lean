-- CALLS THAT CHANGE THE COURT
theorem lw1 : (1 : Int64) = (1 : Int32).toInt64 := by decide
theorem lw2 : (2 : Int64) = (2 : Int32).toInt64 := by decide
theorem lw30 : (30 : Int64) = (30 : Int32).toInt64 := by decide
theorem lw32 : (32 : Int64) = (32 : Int32).toInt64 := by decide
theorem lw126 : (126 : Int64) = (126 : Int32).toInt64 := by decide
theorem lw4 : (4 : Int64) = (4 : Int32).toInt64 := by decide
theorem lw40 : (40 : Int64) = (40 : Int32).toInt64 := by decide
theorem i30 : (30 : Int32).toInt = 30 := by decide
theorem i32_ : (32 : Int32).toInt = 32 := by decide
theorem i126 : (126 : Int32).toInt = 126 := by decide
theorem i40 : (40 : Int32).toInt = 40 := by decide
theorem ag_seed (a1 : Int32) {X : SX} {M : SM} (h : LInv X M) : ∃ r X2 M2, xo_seed 1000 a1 X = some (r, X2) ∧ mo_seed 1000 a1 M = some (r, M2) ∧ LInv X2 M2 := by
  obtain ⟨x_now_kinds, x_now_seating, x_now_knows, x_now_seals, x_now_telling, x_now_persons, x_now_wax, x_now_week, x_now_day, x_now_draw, x_past_knows, x_past_seals, x_past_dates, x_past_draws, x_past_next, x_past_steps, x_imageCourt_kinds, x_imageCourt_seating, x_imageCourt_knows, x_imageCourt_seals, x_imageCourt_telling, x_imageCourt_persons, x_imageCourt_wax, x_imageCourt_week, x_imageCourt_day, x_imageCourt_draw, x_imagePast_knows, x_imagePast_seals, x_imagePast_dates, x_imagePast_draws, x_imagePast_next, x_imagePast_steps, x_imaged, x_trial_kinds, x_trial_seating, x_trial_knows, x_trial_seals, x_trial_telling, x_trial_persons, x_trial_wax, x_trial_week, x_trial_day, x_trial_draw, x_order, x_bestOrder, x_tape_letters, x_tape_length, x_tape_at, x_sl, x_sn, x_si⟩ := X
  obtain ⟨m_now, m_tape, m_typed, m_place, m_isFault, m_read, m_heard, m_undone, m_undos, m_aside, m_kept, m_keptUndos, m_isKept, m_lanes, m_sizes, m_items, m_moved⟩ := M
  obtain ⟨hnow, himg, htape, hsheet⟩ := h
  have key : ∃ (r : Int32) (w_x_now_draw : Int32) (v_m_now : Nat → Int32), fnX4_seed 1000 x_now_draw a1 = some (r, w_x_now_draw) ∧ fnX5_seed 1000 m_now a1 = some (r, v_m_now) ∧ P_now x_now_kinds x_now_seating x_now_knows x_now_seals x_now_persons x_now_wax x_now_week x_now_day w_x_now_draw x_past_knows x_past_seals x_past_dates x_past_draws x_past_next x_past_steps v_m_now m_undone m_undos := by
    have hnow2 := hnow
    obtain ⟨C, k, hs, hC, hk, hX, hP, hM, hU, rfl⟩ := hnow2
    have hC0 := hC
    obtain ⟨c1, c2, c3, c4, c5, c6, c7, c8⟩ := hC
    obtain ⟨x1, x2, x3, x4, rfl, rfl, rfl, rfl, rfl⟩ := hX
    have hM0 := hM
    obtain ⟨⟨m0, m1, m2, m3, m4, m5, m6⟩, mS⟩ := hM
    have hF : 1000 ≤ 1000 := Nat.le_refl _
    unfold fnX4_seed fnX5_seed
    by_cases g : 0 ≤ a1
    · obtain ⟨j, hj, rfl⟩ := nI_of (x := a1) (by rw [Int32.not_lt]; exact g)
      rw [if_pos g, if_pos g]
      simp only [sx_nm]
      rw [sx_n4, m4]
      refine ⟨_, _, _, rfl, rfl, (cc_n C, cc_kd C, cc_st C, cc_sl C, cc_wx C, cc_wk C, cc_dy C, j), k, hs, ⟨c1, c2, c3, c4, c5, c6, c7, hj⟩, hk, ⟨x1, x2, x3, x4, rfl, rfl, rfl, rfl, rfl⟩, hP, ⟨⟨?_, ?_, ?_, ?_, ?_, fun p hp => ?_, fun p hp => ?_⟩, fun p hp t ht => ?_⟩, hU, rfl⟩
      · rw [pu_ne (by omega)]; exact m0
      · rw [pu_ne (by omega)]; exact m1
      · rw [pu_ne (by omega)]; exact m2
      · rw [pu_ne (by omega)]; exact m3
      · rw [pu_same]
      · rw [pu_ne (by omega)]; exact m5 p hp
      · rw [pu_ne (by omega)]; exact m6 p hp
      · rw [pu_ne (by omega)]; exact mS p hp t ht
    · rw [if_neg g, if_neg g]; exact ⟨_, _, _, rfl, rfl, hnow⟩
  obtain ⟨r, w_x_now_draw, v_m_now, e1, e2, khnow⟩ := key
  refine ⟨r, (x_now_kinds, x_now_seating, x_now_knows, x_now_seals, x_now_telling, x_now_persons, x_now_wax, x_now_week, x_now_day, w_x_now_draw, x_past_knows, x_past_seals, x_past_dates, x_past_draws, x_past_next, x_past_steps, x_imageCourt_kinds, x_imageCourt_seating, x_imageCourt_knows, x_imageCourt_seals, x_imageCourt_telling, x_imageCourt_persons, x_imageCourt_wax, x_imageCourt_week, x_imageCourt_day, x_imageCourt_draw, x_imagePast_knows, x_imagePast_seals, x_imagePast_dates, x_imagePast_draws, x_imagePast_next, x_imagePast_steps, x_imaged, x_trial_kinds, x_trial_seating, x_trial_knows, x_trial_seals, x_trial_telling, x_trial_persons, x_trial_wax, x_trial_week, x_trial_day, x_trial_draw, x_order, x_bestOrder, x_tape_letters, x_tape_length, x_tape_at, x_sl, x_sn, x_si), (v_m_now, m_tape, m_typed, m_place, m_isFault, m_read, m_heard, m_undone, m_undos, m_aside, m_kept, m_keptUndos, m_isKept, m_lanes, m_sizes, m_items, m_moved), ?_, ?_, khnow, himg, htape, hsheet⟩
  · unfold xo_seed; simp only []; rw [e1]; rfl
  · unfold mo_seed; simp only []; rw [e2]; rfl
theorem ag_rule (a1 : Int32) (a2 : Int32) {X : SX} {M : SM} (h : LInv X M) : ∃ r X2 M2, xo_rule 1000 a1 a2 X = some (r, X2) ∧ mo_rule 1000 a1 a2 M = some (r, M2) ∧ LInv X2 M2 := by
  obtain ⟨x_now_kinds, x_now_seating, x_now_knows, x_now_seals, x_now_telling, x_now_persons, x_now_wax, x_now_week, x_now_day, x_now_draw, x_past_knows, x_past_seals, x_past_dates, x_past_draws, x_past_next, x_past_steps, x_imageCourt_kinds, x_imageCourt_seating, x_imageCourt_knows, x_imageCourt_seals, x_imageCourt_telling, x_imageCourt_persons, x_imageCourt_wax, x_imageCourt_week, x_imageCourt_day, x_imageCourt_draw, x_imagePast_knows, x_imagePast_seals, x_imagePast_dates, x_imagePast_draws, x_imagePast_next, x_imagePast_steps, x_imaged, x_trial_kinds, x_trial_seating, x_trial_knows, x_trial_seals, x_trial_telling, x_trial_persons, x_trial_wax, x_trial_week, x_trial_day, x_trial_draw, x_order, x_bestOrder, x_tape_letters, x_tape_length, x_tape_at, x_sl, x_sn, x_si⟩ := X
  obtain ⟨m_now, m_tape, m_typed, m_place, m_isFault, m_read, m_heard, m_undone, m_undos, m_aside, m_kept, m_keptUndos, m_isKept, m_lanes, m_sizes, m_items, m_moved⟩ := M
  obtain ⟨hnow, himg, htape, hsheet⟩ := h
  have key : ∃ (r : Int32) (w_x_now_wax : Int32) (w_x_now_week : Int32) (v_m_now : Nat → Int32), fnX4_rule 1000 x_now_wax x_now_week a1 a2 = some (r, w_x_now_wax, w_x_now_week) ∧ fnX5_rule 1000 m_now a1 a2 = some (r, v_m_now) ∧ P_now x_now_kinds x_now_seating x_now_knows x_now_seals x_now_persons w_x_now_wax w_x_now_week x_now_day x_now_draw x_past_knows x_past_seals x_past_dates x_past_draws x_past_next x_past_steps v_m_now m_undone m_undos := by
    have hnow2 := hnow
    obtain ⟨C, k, hs, hC, hk, hX, hP, hM, hU, rfl⟩ := hnow2
    have hC0 := hC
    obtain ⟨c1, c2, c3, c4, c5, c6, c7, c8⟩ := hC
    obtain ⟨x1, x2, x3, x4, rfl, rfl, rfl, rfl, rfl⟩ := hX
    have hM0 := hM
    obtain ⟨⟨m0, m1, m2, m3, m4, m5, m6⟩, mS⟩ := hM
    have hF : 1000 ≤ 1000 := Nat.le_refl _
    unfold fnX4_rule fnX5_rule
    rw [xs_within, xs_within, lw1, lw9, lw2, lw30, ym_in, ym_in, i1, i9, i2, i30]
    simp only [sx_c1, sx_lt, if1, sx_nm]
    by_cases g0 : a1 = 0
    · subst g0
      rw [if_pos rfl, if_pos rfl]
      by_cases g : rg a2 1 9 = true
      · obtain ⟨j, hj1, hj2, rfl⟩ := rg_of (lo := 1) (hi := 9) g
        rw [if_neg (not_not_intro g), if_neg (not_not_intro g), show (2 : Int32) + 0 = nI 2 by decide +kernel, sx_gd_e (nm_ib (by omega)), sx_gd_e (nm_ib (by omega)), nI_clamp (by omega), m2]
        refine ⟨_, _, _, _, rfl, rfl, (cc_n C, cc_kd C, cc_st C, cc_sl C, j, cc_wk C, cc_dy C, cc_dr C), k, hs, ⟨c1, c2, c3, c4, ⟨hj1, hj2⟩, c6, c7, c8⟩, hk, ⟨x1, x2, x3, x4, rfl, rfl, rfl, rfl, rfl⟩, hP, ⟨⟨?_, ?_, ?_, ?_, ?_, fun p hp => ?_, fun p hp => ?_⟩, fun p hp t ht => ?_⟩, hU, rfl⟩
        · rw [pu_ne (by omega)]; exact m0
        · rw [pu_ne (by omega)]; exact m1
        · rw [pu_same]
        · rw [pu_ne (by omega)]; exact m3
        · rw [pu_ne (by omega)]; exact m4
        · rw [pu_ne (by omega)]; exact m5 p hp
        · rw [pu_ne (by omega)]; exact m6 p hp
        · rw [pu_ne (by omega)]; exact mS p hp t ht
      · rw [if_pos g, if_pos g, if_neg (by decide)]; exact ⟨_, _, _, _, rfl, rfl, hnow⟩
    · rw [if_neg g0, if_neg g0]
      by_cases g1 : a1 = (1 : Int32)
      · subst g1
        rw [if_pos rfl, if_pos rfl]
        by_cases g : rg a2 2 30 = true
        · obtain ⟨j, hj1, hj2, rfl⟩ := rg_of (lo := 2) (hi := 30) g
          rw [if_neg (not_not_intro g), if_neg (not_not_intro g), show (2 : Int32) + 1 = nI 3 by decide +kernel, sx_gd_e (nm_ib (by omega)), sx_gd_e (nm_ib (by omega)), nI_clamp (by omega), m3]
          refine ⟨_, _, _, _, rfl, rfl, (cc_n C, cc_kd C, cc_st C, cc_sl C, cc_wx C, j, cc_dy C, cc_dr C), k, hs, ⟨c1, c2, c3, c4, c5, ⟨hj1, hj2⟩, c7, c8⟩, hk, ⟨x1, x2, x3, x4, rfl, rfl, rfl, rfl, rfl⟩, hP, ⟨⟨?_, ?_, ?_, ?_, ?_, fun p hp => ?_, fun p hp => ?_⟩, fun p hp t ht => ?_⟩, hU, rfl⟩
          · rw [pu_ne (by omega)]; exact m0
          · rw [pu_ne (by omega)]; exact m1
          · rw [pu_ne (by omega)]; exact m2
          · rw [pu_same]
          · rw [pu_ne (by omega)]; exact m4
          · rw [pu_ne (by omega)]; exact m5 p hp
          · rw [pu_ne (by omega)]; exact m6 p hp
          · rw [pu_ne (by omega)]; exact mS p hp t ht
        · rw [if_pos g, if_pos g]; exact ⟨_, _, _, _, rfl, rfl, hnow⟩
      · rw [if_neg g1, if_neg g1]; exact ⟨_, _, _, _, rfl, rfl, hnow⟩
  obtain ⟨r, w_x_now_wax, w_x_now_week, v_m_now, e1, e2, khnow⟩ := key
  refine ⟨r, (x_now_kinds, x_now_seating, x_now_knows, x_now_seals, x_now_telling, x_now_persons, w_x_now_wax, w_x_now_week, x_now_day, x_now_draw, x_past_knows, x_past_seals, x_past_dates, x_past_draws, x_past_next, x_past_steps, x_imageCourt_kinds, x_imageCourt_seating, x_imageCourt_knows, x_imageCourt_seals, x_imageCourt_telling, x_imageCourt_persons, x_imageCourt_wax, x_imageCourt_week, x_imageCourt_day, x_imageCourt_draw, x_imagePast_knows, x_imagePast_seals, x_imagePast_dates, x_imagePast_draws, x_imagePast_next, x_imagePast_steps, x_imaged, x_trial_kinds, x_trial_seating, x_trial_knows, x_trial_seals, x_trial_telling, x_trial_persons, x_trial_wax, x_trial_week, x_trial_day, x_trial_draw, x_order, x_bestOrder, x_tape_letters, x_tape_length, x_tape_at, x_sl, x_sn, x_si), (v_m_now, m_tape, m_typed, m_place, m_isFault, m_read, m_heard, m_undone, m_undos, m_aside, m_kept, m_keptUndos, m_isKept, m_lanes, m_sizes, m_items, m_moved), ?_, ?_, khnow, himg, htape, hsheet⟩
  · unfold xo_rule; simp only []; rw [e1]; rfl
  · unfold mo_rule; simp only []; rw [e2]; rfl
theorem ag_type (a1 : Int32) {X : SX} {M : SM} (h : LInv X M) : ∃ r X2 M2, xo_type 1000 a1 X = some (r, X2) ∧ mo_type 1000 a1 M = some (r, M2) ∧ LInv X2 M2 := by
  obtain ⟨x_now_kinds, x_now_seating, x_now_knows, x_now_seals, x_now_telling, x_now_persons, x_now_wax, x_now_week, x_now_day, x_now_draw, x_past_knows, x_past_seals, x_past_dates, x_past_draws, x_past_next, x_past_steps, x_imageCourt_kinds, x_imageCourt_seating, x_imageCourt_knows, x_imageCourt_seals, x_imageCourt_telling, x_imageCourt_persons, x_imageCourt_wax, x_imageCourt_week, x_imageCourt_day, x_imageCourt_draw, x_imagePast_knows, x_imagePast_seals, x_imagePast_dates, x_imagePast_draws, x_imagePast_next, x_imagePast_steps, x_imaged, x_trial_kinds, x_trial_seating, x_trial_knows, x_trial_seals, x_trial_telling, x_trial_persons, x_trial_wax, x_trial_week, x_trial_day, x_trial_draw, x_order, x_bestOrder, x_tape_letters, x_tape_length, x_tape_at, x_sl, x_sn, x_si⟩ := X
  obtain ⟨m_now, m_tape, m_typed, m_place, m_isFault, m_read, m_heard, m_undone, m_undos, m_aside, m_kept, m_keptUndos, m_isKept, m_lanes, m_sizes, m_items, m_moved⟩ := M
  obtain ⟨hnow, himg, htape, hsheet⟩ := h
  have key : ∃ (r : Int32) (w_x_tape_letters : Nat → Int32) (w_x_tape_length : Int32) (v_m_tape : Nat → Int32) (v_m_typed : Int32), fnX4_type 1000 x_tape_letters x_tape_length a1 = some (r, w_x_tape_letters, w_x_tape_length) ∧ fnX5_type 1000 m_tape m_typed a1 = some (r, v_m_tape, v_m_typed) ∧ P_tape w_x_tape_letters w_x_tape_length v_m_tape v_m_typed := by
    obtain ⟨n, hn, rfl, rfl, ht⟩ := htape
    unfold fnX4_type fnX5_type
    rw [xs_within, lw32, lw126, ym_in, i32_, i126]
    simp only [sx_c1, if1]
    by_cases g : rg a1 32 126 = true
    · obtain ⟨j, hj1, hj2, rfl⟩ := rg_of (lo := 32) (hi := 126) g
      rw [if_neg (not_not_intro g), if_neg (not_not_intro g), show (70 : Int32) = nI 70 by decide +kernel]
      by_cases e : n = 70
      · subst e
        rw [if_pos rfl, if_pos rfl]
        exact ⟨_, _, _, _, _, rfl, rfl, 70, by omega, rfl, rfl, ht⟩
      · rw [if_neg (fun q => e ((nI_eq (by omega) (by omega)).mp q)), if_neg (fun q => e ((nI_eq (by omega) (by omega)).mp q))]
        unfold fnX3_append
        rw [sx_gd_e (nm_ib (by omega)), sx_gd_e (nm_ib (by omega)), nI_clamp (by omega), nI_1]
        refine ⟨_, _, _, _, _, rfl, rfl, n + 1, by omega, rfl, rfl, fun i hi => ?_⟩
        by_cases z : i = n
        · subst z; rw [pu_same, pu_same]; exact ⟨rfl, j, hj1, hj2, rfl⟩
        · rw [pu_ne z, pu_ne z]; exact ht i (by omega)
    · rw [if_pos g, if_pos g]; exact ⟨_, _, _, _, _, rfl, rfl, n, hn, rfl, rfl, ht⟩
  obtain ⟨r, w_x_tape_letters, w_x_tape_length, v_m_tape, v_m_typed, e1, e2, khtape⟩ := key
  refine ⟨r, (x_now_kinds, x_now_seating, x_now_knows, x_now_seals, x_now_telling, x_now_persons, x_now_wax, x_now_week, x_now_day, x_now_draw, x_past_knows, x_past_seals, x_past_dates, x_past_draws, x_past_next, x_past_steps, x_imageCourt_kinds, x_imageCourt_seating, x_imageCourt_knows, x_imageCourt_seals, x_imageCourt_telling, x_imageCourt_persons, x_imageCourt_wax, x_imageCourt_week, x_imageCourt_day, x_imageCourt_draw, x_imagePast_knows, x_imagePast_seals, x_imagePast_dates, x_imagePast_draws, x_imagePast_next, x_imagePast_steps, x_imaged, x_trial_kinds, x_trial_seating, x_trial_knows, x_trial_seals, x_trial_telling, x_trial_persons, x_trial_wax, x_trial_week, x_trial_day, x_trial_draw, x_order, x_bestOrder, w_x_tape_letters, w_x_tape_length, x_tape_at, x_sl, x_sn, x_si), (m_now, v_m_tape, v_m_typed, m_place, m_isFault, m_read, m_heard, m_undone, m_undos, m_aside, m_kept, m_keptUndos, m_isKept, m_lanes, m_sizes, m_items, m_moved), ?_, ?_, hnow, himg, khtape, hsheet⟩
  · unfold xo_type; simp only []; rw [e1]; rfl
  · unfold mo_type; simp only []; rw [e2]; rfl
