-- CALLS THAT ONLY ASK
theorem lw5 : (5 : Int64) = (5 : Int32).toInt64 := by decide
theorem xs_asSet_l {F : Nat} {f : Nat → Nat} (hf : mp_B 2 f) : ∀ k i, i + k = 8 → ∀ fuel, k < fuel → sx_lp2 (bdX4_asSet_4 F (lN (mp_P f))) fuel (nI (ct_bits f i)) (nI i) = some (nI (ct_bits f 8)) := by
  intro k
  induction k with
  | zero =>
    intro i hi fuel hf2
    obtain ⟨g, rfl⟩ : ∃ g, fuel = g + 1 := ⟨fuel - 1, by omega⟩
    rw [sx_lp2_1, bdX4_asSet_4, nm_8, if_pos (nI_leT (by omega) (by omega)), show i = 8 by omega]
  | succ k ih =>
    intro i hi fuel hf2
    obtain ⟨g, rfl⟩ : ∃ g, fuel = g + 1 := ⟨fuel - 1, by omega⟩
    have hb := hf i (by omega)
    rw [sx_lp2_1, bdX4_asSet_4, if_neg (by rw [nm_8]; exact nI_nleI (by omega) (by omega))]
    simp only [sx_nm]
    rw [ml_8, ml_bit hf (by omega), nm_shl (by omega) (by omega), nm_or (ct_bits_lt hf i (by omega)), nI_1]
    exact ih (i + 1) (by omega) g (by omega)
theorem xs_asSet {F : Nat} {f : Nat → Nat} (hF : 1000 ≤ F) (hf : mp_B 2 f) : fnX4_asSet F (lN (mp_P f)) = some (nI (ct_bits f 8)) := by
  unfold fnX4_asSet
  exact xs_asSet_l hf 8 0 (by omega) F (by omega)
theorem ag_known (a1 : Int32) {X : SX} {M : SM} (h : LInv X M) : ∃ r X2 M2, xo_known 1000 a1 X = some (r, X2) ∧ mo_known 1000 a1 M = some (r, M2) ∧ LInv X2 M2 := by
  obtain ⟨x_now_kinds, x_now_seating, x_now_knows, x_now_seals, x_now_telling, x_now_persons, x_now_wax, x_now_week, x_now_day, x_now_draw, x_past_knows, x_past_seals, x_past_dates, x_past_draws, x_past_next, x_past_steps, x_imageCourt_kinds, x_imageCourt_seating, x_imageCourt_knows, x_imageCourt_seals, x_imageCourt_telling, x_imageCourt_persons, x_imageCourt_wax, x_imageCourt_week, x_imageCourt_day, x_imageCourt_draw, x_imagePast_knows, x_imagePast_seals, x_imagePast_dates, x_imagePast_draws, x_imagePast_next, x_imagePast_steps, x_imaged, x_trial_kinds, x_trial_seating, x_trial_knows, x_trial_seals, x_trial_telling, x_trial_persons, x_trial_wax, x_trial_week, x_trial_day, x_trial_draw, x_order, x_bestOrder, x_tape_letters, x_tape_length, x_tape_at, x_sl, x_sn, x_si⟩ := X
  obtain ⟨m_now, m_tape, m_typed, m_place, m_isFault, m_read, m_heard, m_undone, m_undos, m_aside, m_kept, m_keptUndos, m_isKept, m_lanes, m_sizes, m_items, m_moved⟩ := M
  obtain ⟨hnow, himg, htape, hsheet⟩ := h
  have key : ∃ r, fnX4_known 1000 x_now_knows x_now_persons a1 = some r ∧ fnX5_known 1000 m_now a1 = some r := by
    have hnow2 := hnow
    obtain ⟨C, k, hs, hC, hk, hX, hP, hM, hU, rfl⟩ := hnow2
    obtain ⟨c1, c2, c3, c4, c5, c6, c7, c8⟩ := hC
    obtain ⟨x1, x2, x3, x4, rfl, rfl, rfl, rfl, rfl⟩ := hX
    obtain ⟨⟨m0, m1, m2, m3, m4, m5, m6⟩, mS⟩ := hM
    have hF : 1000 ≤ 1000 := Nat.le_refl _
    unfold fnX4_known fnX5_known
    rw [xs_isThing, ym_isThing]
    simp only [sx_c1, if1]
    by_cases g : rg a1 0 7 = true
    · obtain ⟨t, -, ht, rfl⟩ := rg_of (lo := 0) (hi := 7) g
      rw [if_neg (not_not_intro g), if_neg (not_not_intro g), xs_knowersOf hF c1 (by omega) x3, ym_who hF c1 (by omega) c4 m0 mS]
      exact ⟨_, rfl, rfl⟩
    · rw [if_pos g, if_pos g]; exact ⟨_, rfl, rfl⟩
  obtain ⟨r, e1, e2⟩ := key
  refine ⟨r, (x_now_kinds, x_now_seating, x_now_knows, x_now_seals, x_now_telling, x_now_persons, x_now_wax, x_now_week, x_now_day, x_now_draw, x_past_knows, x_past_seals, x_past_dates, x_past_draws, x_past_next, x_past_steps, x_imageCourt_kinds, x_imageCourt_seating, x_imageCourt_knows, x_imageCourt_seals, x_imageCourt_telling, x_imageCourt_persons, x_imageCourt_wax, x_imageCourt_week, x_imageCourt_day, x_imageCourt_draw, x_imagePast_knows, x_imagePast_seals, x_imagePast_dates, x_imagePast_draws, x_imagePast_next, x_imagePast_steps, x_imaged, x_trial_kinds, x_trial_seating, x_trial_knows, x_trial_seals, x_trial_telling, x_trial_persons, x_trial_wax, x_trial_week, x_trial_day, x_trial_draw, x_order, x_bestOrder, x_tape_letters, x_tape_length, x_tape_at, x_sl, x_sn, x_si), (m_now, m_tape, m_typed, m_place, m_isFault, m_read, m_heard, m_undone, m_undos, m_aside, m_kept, m_keptUndos, m_isKept, m_lanes, m_sizes, m_items, m_moved), ?_, ?_, hnow, himg, htape, hsheet⟩
  · unfold xo_known; simp only []; rw [e1]; rfl
  · unfold mo_known; simp only []; rw [e2]; rfl
theorem ag_strength (a1 : Int32) (a2 : Int32) {X : SX} {M : SM} (h : LInv X M) : ∃ r X2 M2, xo_strength 1000 a1 a2 X = some (r, X2) ∧ mo_strength 1000 a1 a2 M = some (r, M2) ∧ LInv X2 M2 := by
  obtain ⟨x_now_kinds, x_now_seating, x_now_knows, x_now_seals, x_now_telling, x_now_persons, x_now_wax, x_now_week, x_now_day, x_now_draw, x_past_knows, x_past_seals, x_past_dates, x_past_draws, x_past_next, x_past_steps, x_imageCourt_kinds, x_imageCourt_seating, x_imageCourt_knows, x_imageCourt_seals, x_imageCourt_telling, x_imageCourt_persons, x_imageCourt_wax, x_imageCourt_week, x_imageCourt_day, x_imageCourt_draw, x_imagePast_knows, x_imagePast_seals, x_imagePast_dates, x_imagePast_draws, x_imagePast_next, x_imagePast_steps, x_imaged, x_trial_kinds, x_trial_seating, x_trial_knows, x_trial_seals, x_trial_telling, x_trial_persons, x_trial_wax, x_trial_week, x_trial_day, x_trial_draw, x_order, x_bestOrder, x_tape_letters, x_tape_length, x_tape_at, x_sl, x_sn, x_si⟩ := X
  obtain ⟨m_now, m_tape, m_typed, m_place, m_isFault, m_read, m_heard, m_undone, m_undos, m_aside, m_kept, m_keptUndos, m_isKept, m_lanes, m_sizes, m_items, m_moved⟩ := M
  obtain ⟨hnow, himg, htape, hsheet⟩ := h
  have key : ∃ r, fnX4_strength 1000 x_now_knows x_now_seals x_now_persons a1 a2 = some r ∧ fnX5_strength 1000 m_now a1 a2 = some r := by
    have hnow2 := hnow
    obtain ⟨C, k, hs, hC, hk, hX, hP, hM, hU, rfl⟩ := hnow2
    obtain ⟨c1, c2, c3, c4, c5, c6, c7, c8⟩ := hC
    obtain ⟨x1, x2, x3, x4, rfl, rfl, rfl, rfl, rfl⟩ := hX
    obtain ⟨⟨m0, m1, m2, m3, m4, m5, m6⟩, mS⟩ := hM
    have hF : 1000 ≤ 1000 := Nat.le_refl _
    unfold fnX4_strength fnX5_strength
    rw [xs_isThing, ym_isThing, xs_isPerson _ c1, ym_isPerson _ c1 m0]
    simp only [sx_c1, if1]
    by_cases g1 : rg a1 0 ((cc_n C : Int) - 1) = true
    · rw [if_neg (not_not_intro g1), if_neg (not_not_intro g1)]
      by_cases g : rg a2 0 7 = true
      · obtain ⟨t, -, ht, rfl⟩ := rg_of (lo := 0) (hi := 7) g
        obtain ⟨p, hp, rfl⟩ := rg_person g1
        have hx := c4 p hp t (by omega)
        rw [if_neg (not_not_intro g), if_neg (not_not_intro g), xs_isKnownBy c1 hp (by omega) x3, ym_knows _ _ (by omega) (by omega) (by omega) (mS p hp t (by omega))]
        simp only []
        by_cases z : cc_sl C p t = 0
        · rw [if_pos z, if_pos rfl]; exact ⟨_, rfl, rfl⟩
        · rw [if_neg z, if_neg (by decide), xs_strengthOf c1 hp (by omega) c4 x4, ym_sealOf _ _ (by omega) (by omega), mS p hp t (by omega), cm_vs z]
          exact ⟨_, rfl, rfl⟩
      · rw [if_pos g, if_pos g]; exact ⟨_, rfl, rfl⟩
    · rw [if_pos g1, if_pos g1]; exact ⟨_, rfl, rfl⟩
  obtain ⟨r, e1, e2⟩ := key
  refine ⟨r, (x_now_kinds, x_now_seating, x_now_knows, x_now_seals, x_now_telling, x_now_persons, x_now_wax, x_now_week, x_now_day, x_now_draw, x_past_knows, x_past_seals, x_past_dates, x_past_draws, x_past_next, x_past_steps, x_imageCourt_kinds, x_imageCourt_seating, x_imageCourt_knows, x_imageCourt_seals, x_imageCourt_telling, x_imageCourt_persons, x_imageCourt_wax, x_imageCourt_week, x_imageCourt_day, x_imageCourt_draw, x_imagePast_knows, x_imagePast_seals, x_imagePast_dates, x_imagePast_draws, x_imagePast_next, x_imagePast_steps, x_imaged, x_trial_kinds, x_trial_seating, x_trial_knows, x_trial_seals, x_trial_telling, x_trial_persons, x_trial_wax, x_trial_week, x_trial_day, x_trial_draw, x_order, x_bestOrder, x_tape_letters, x_tape_length, x_tape_at, x_sl, x_sn, x_si), (m_now, m_tape, m_typed, m_place, m_isFault, m_read, m_heard, m_undone, m_undos, m_aside, m_kept, m_keptUndos, m_isKept, m_lanes, m_sizes, m_items, m_moved), ?_, ?_, hnow, himg, htape, hsheet⟩
  · unfold xo_strength; simp only []; rw [e1]; rfl
  · unfold mo_strength; simp only []; rw [e2]; rfl
theorem ag_count (a1 : Int32) {X : SX} {M : SM} (h : LInv X M) : ∃ r X2 M2, xo_count 1000 a1 X = some (r, X2) ∧ mo_count 1000 a1 M = some (r, M2) ∧ LInv X2 M2 := by
  obtain ⟨x_now_kinds, x_now_seating, x_now_knows, x_now_seals, x_now_telling, x_now_persons, x_now_wax, x_now_week, x_now_day, x_now_draw, x_past_knows, x_past_seals, x_past_dates, x_past_draws, x_past_next, x_past_steps, x_imageCourt_kinds, x_imageCourt_seating, x_imageCourt_knows, x_imageCourt_seals, x_imageCourt_telling, x_imageCourt_persons, x_imageCourt_wax, x_imageCourt_week, x_imageCourt_day, x_imageCourt_draw, x_imagePast_knows, x_imagePast_seals, x_imagePast_dates, x_imagePast_draws, x_imagePast_next, x_imagePast_steps, x_imaged, x_trial_kinds, x_trial_seating, x_trial_knows, x_trial_seals, x_trial_telling, x_trial_persons, x_trial_wax, x_trial_week, x_trial_day, x_trial_draw, x_order, x_bestOrder, x_tape_letters, x_tape_length, x_tape_at, x_sl, x_sn, x_si⟩ := X
  obtain ⟨m_now, m_tape, m_typed, m_place, m_isFault, m_read, m_heard, m_undone, m_undos, m_aside, m_kept, m_keptUndos, m_isKept, m_lanes, m_sizes, m_items, m_moved⟩ := M
  obtain ⟨hnow, himg, htape, hsheet⟩ := h
  have key : ∃ r, fnX4_count 1000 x_now_knows x_now_seals x_now_persons x_now_wax x_now_week x_now_day x_past_steps a1 = some r ∧ fnX5_count 1000 m_now m_undos a1 = some r := by
    have hnow2 := hnow
    obtain ⟨C, k, hs, hC, hk, hX, hP, hM, hU, rfl⟩ := hnow2
    obtain ⟨c1, c2, c3, c4, c5, c6, c7, c8⟩ := hC
    obtain ⟨x1, x2, x3, x4, rfl, rfl, rfl, rfl, rfl⟩ := hX
    obtain ⟨⟨m0, m1, m2, m3, m4, m5, m6⟩, mS⟩ := hM
    have hF : 1000 ≤ 1000 := Nat.le_refl _
    unfold fnX4_count fnX5_count
    by_cases g0 : a1 = (0 : Int32)
    · subst g0; rw [if_pos rfl, if_pos rfl, sx_gd_e (by decide), sx_n0, m0]; exact ⟨_, rfl, rfl⟩
    rw [if_neg g0, if_neg g0]
    by_cases g1 : a1 = (1 : Int32)
    · subst g1; rw [if_pos rfl, if_pos rfl, sx_gd_e (by decide), sx_n1, m1]; exact ⟨_, rfl, rfl⟩
    rw [if_neg g1, if_neg g1]
    by_cases g2 : a1 = (2 : Int32)
    · subst g2; rw [if_pos rfl, if_pos rfl, sx_gd_e (by decide), sx_n2, m2]; exact ⟨_, rfl, rfl⟩
    rw [if_neg g2, if_neg g2]
    by_cases g3 : a1 = (3 : Int32)
    · subst g3; rw [if_pos rfl, if_pos rfl, sx_gd_e (by decide), sx_n3, m3]; exact ⟨_, rfl, rfl⟩
    rw [if_neg g3, if_neg g3]
    by_cases g4 : a1 = (4 : Int32)
    · rw [if_pos g4, if_pos g4, xs_timesKnown hF c1 x3, ym_times hF c1 c4 m0 mS]; exact ⟨_, rfl, rfl⟩
    rw [if_neg g4, if_neg g4]
    by_cases g5 : a1 = (5 : Int32)
    · rw [if_pos g5, if_pos g5, xs_timesOpen hF c1 c4 x3 x4, ym_openOnes hF c1 c4 m0 mS]; exact ⟨_, rfl, rfl⟩
    rw [if_neg g5, if_neg g5]
    by_cases g6 : a1 = (6 : Int32)
    · rw [if_pos g6, if_pos g6, xs_thingsOut hF c1 x3, ym_outOnes hF c1 c4 m0 mS]; exact ⟨_, rfl, rfl⟩
    rw [if_neg g6, if_neg g6]
    by_cases g7 : a1 = (7 : Int32)
    · have hm := Nat.mod_lt (cc_dy C) (show 0 < cc_wk C by omega)
      rw [if_pos g7, if_pos g7, xs_daysToRenewal c6.1 c6.2 (by omega), sx_n3, sx_n1, m3, m1, sx_gd_e (nm_nz (by omega) (by omega)), pk_rem (by omega) (by omega) (by omega), pk_sub (by omega)]
      exact ⟨_, rfl, rfl⟩
    rw [if_neg g7, if_neg g7]
    by_cases g8 : a1 = (8 : Int32)
    · obtain ⟨x, -, -, rfl, -⟩ := hP
      rw [if_pos g8]; exact ⟨_, rfl, rfl⟩
    rw [if_neg g8, if_neg g8]; exact ⟨_, rfl, rfl⟩
  obtain ⟨r, e1, e2⟩ := key
  refine ⟨r, (x_now_kinds, x_now_seating, x_now_knows, x_now_seals, x_now_telling, x_now_persons, x_now_wax, x_now_week, x_now_day, x_now_draw, x_past_knows, x_past_seals, x_past_dates, x_past_draws, x_past_next, x_past_steps, x_imageCourt_kinds, x_imageCourt_seating, x_imageCourt_knows, x_imageCourt_seals, x_imageCourt_telling, x_imageCourt_persons, x_imageCourt_wax, x_imageCourt_week, x_imageCourt_day, x_imageCourt_draw, x_imagePast_knows, x_imagePast_seals, x_imagePast_dates, x_imagePast_draws, x_imagePast_next, x_imagePast_steps, x_imaged, x_trial_kinds, x_trial_seating, x_trial_knows, x_trial_seals, x_trial_telling, x_trial_persons, x_trial_wax, x_trial_week, x_trial_day, x_trial_draw, x_order, x_bestOrder, x_tape_letters, x_tape_length, x_tape_at, x_sl, x_sn, x_si), (m_now, m_tape, m_typed, m_place, m_isFault, m_read, m_heard, m_undone, m_undos, m_aside, m_kept, m_keptUndos, m_isKept, m_lanes, m_sizes, m_items, m_moved), ?_, ?_, hnow, himg, htape, hsheet⟩
  · unfold xo_count; simp only []; rw [e1]; rfl
  · unfold mo_count; simp only []; rw [e2]; rfl
theorem ag_of (a1 : Int32) (a2 : Int32) {X : SX} {M : SM} (h : LInv X M) : ∃ r X2 M2, xo_of 1000 a1 a2 X = some (r, X2) ∧ mo_of 1000 a1 a2 M = some (r, M2) ∧ LInv X2 M2 := by
  obtain ⟨x_now_kinds, x_now_seating, x_now_knows, x_now_seals, x_now_telling, x_now_persons, x_now_wax, x_now_week, x_now_day, x_now_draw, x_past_knows, x_past_seals, x_past_dates, x_past_draws, x_past_next, x_past_steps, x_imageCourt_kinds, x_imageCourt_seating, x_imageCourt_knows, x_imageCourt_seals, x_imageCourt_telling, x_imageCourt_persons, x_imageCourt_wax, x_imageCourt_week, x_imageCourt_day, x_imageCourt_draw, x_imagePast_knows, x_imagePast_seals, x_imagePast_dates, x_imagePast_draws, x_imagePast_next, x_imagePast_steps, x_imaged, x_trial_kinds, x_trial_seating, x_trial_knows, x_trial_seals, x_trial_telling, x_trial_persons, x_trial_wax, x_trial_week, x_trial_day, x_trial_draw, x_order, x_bestOrder, x_tape_letters, x_tape_length, x_tape_at, x_sl, x_sn, x_si⟩ := X
  obtain ⟨m_now, m_tape, m_typed, m_place, m_isFault, m_read, m_heard, m_undone, m_undos, m_aside, m_kept, m_keptUndos, m_isKept, m_lanes, m_sizes, m_items, m_moved⟩ := M
  obtain ⟨hnow, himg, htape, hsheet⟩ := h
  have key : ∃ r, fnX4_of 1000 x_now_kinds x_now_seating x_now_knows x_now_seals x_now_persons a1 a2 = some r ∧ fnX5_of 1000 m_now a1 a2 = some r := by
    have hnow2 := hnow
    obtain ⟨C, k, hs, hC, hk, hX, hP, hM, hU, rfl⟩ := hnow2
    obtain ⟨c1, c2, c3, c4, c5, c6, c7, c8⟩ := hC
    obtain ⟨x1, x2, x3, x4, rfl, rfl, rfl, rfl, rfl⟩ := hX
    obtain ⟨⟨m0, m1, m2, m3, m4, m5, m6⟩, mS⟩ := hM
    have hF : 1000 ≤ 1000 := Nat.le_refl _
    unfold fnX4_of fnX5_of
    rw [xs_isPerson _ c1, ym_isPerson _ c1 m0]
    simp only [sx_c1, if1]
    by_cases g1 : rg a1 0 ((cc_n C : Int) - 1) = true
    · rw [if_neg (not_not_intro g1), if_neg (not_not_intro g1), lw0, lw5, ym_in, i0, i5]
      obtain ⟨p, hp, rfl⟩ := rg_person g1
      simp only [if1]
      by_cases g : rg a2 0 5 = true
      · rw [if_neg (not_not_intro g)]
        obtain ⟨j, -, hj, rfl⟩ := rg_of (lo := 0) (hi := 5) g
        rw [nm_0, nm_1, nm_2, nm_3, nm_4, show (5 : Int32) = nI 5 by decide +kernel]
        rcases (show j = 0 ∨ j = 1 ∨ j = 2 ∨ j = 3 ∨ j = 4 ∨ j = 5 by omega) with rfl | rfl | rfl | rfl | rfl | rfl
        · rw [if_pos rfl, if_pos rfl, sx_gd_e (nm_ib (by omega)), nI_add, sx_gd_e (nm_ib (by omega)), nI_clamp (by omega), nI_clamp (by omega), x1 p hp, m5 p hp]; exact ⟨_, rfl, rfl⟩
        · rw [if_neg (show ¬ nI 1 = nI 0 by decide), if_neg (show ¬ nI 1 = nI 0 by decide), if_pos rfl, if_pos rfl, sx_gd_e (nm_ib (by omega)), nI_clamp (by omega), x3 p hp, xs_asSet hF (cx_kn_B _ p), ← nm_0, ym_things (0 : Int32) (cx_kn (cc_sl C) p) (cx_kn_B _ p) (fun t _ => by rw [if_pos rfl]) hF c1 hp c4 mS]; exact ⟨_, rfl, rfl⟩
        · rw [if_neg (show ¬ nI 2 = nI 0 by decide), if_neg (show ¬ nI 2 = nI 0 by decide), if_neg (show ¬ nI 2 = nI 1 by decide), if_neg (show ¬ nI 2 = nI 1 by decide), if_pos rfl, if_pos rfl, xs_openOf c1 hp c4 (x3 p hp) (x4 p hp)]
          simp only []
          rw [xs_asSet hF (ct_op_B _ p), ym_things (nI 1) (ct_op (cc_sl C) p) (ct_op_B _ p) (fun t _ => by rw [if_neg (by decide)]) hF c1 hp c4 mS]; exact ⟨_, rfl, rfl⟩
        · rw [if_neg (show ¬ nI 3 = nI 0 by decide), if_neg (show ¬ nI 3 = nI 0 by decide), if_neg (show ¬ nI 3 = nI 1 by decide), if_neg (show ¬ nI 3 = nI 1 by decide), if_neg (show ¬ nI 3 = nI 2 by decide), if_neg (show ¬ nI 3 = nI 2 by decide), if_pos rfl, if_pos rfl, xs_rankOf c1 hp c4 x4, ym_rank hF c1 hp c4 mS]; exact ⟨_, rfl, rfl⟩
        · rw [if_neg (show ¬ nI 4 = nI 0 by decide), if_neg (show ¬ nI 4 = nI 0 by decide), if_neg (show ¬ nI 4 = nI 1 by decide), if_neg (show ¬ nI 4 = nI 1 by decide), if_neg (show ¬ nI 4 = nI 2 by decide), if_neg (show ¬ nI 4 = nI 2 by decide), if_neg (show ¬ nI 4 = nI 3 by decide), if_neg (show ¬ nI 4 = nI 3 by decide), if_pos rfl, if_pos rfl, xs_beside hF c1 x2 c3 hp (by omega), ym_beside hF c1 c3 m0 m6 hp (by omega)]; exact ⟨_, rfl, rfl⟩
        · rw [if_neg (show ¬ nI 5 = nI 0 by decide), if_neg (show ¬ nI 5 = nI 0 by decide), if_neg (show ¬ nI 5 = nI 1 by decide), if_neg (show ¬ nI 5 = nI 1 by decide), if_neg (show ¬ nI 5 = nI 2 by decide), if_neg (show ¬ nI 5 = nI 2 by decide), if_neg (show ¬ nI 5 = nI 3 by decide), if_neg (show ¬ nI 5 = nI 3 by decide), if_neg (show ¬ nI 5 = nI 4 by decide), if_neg (show ¬ nI 5 = nI 4 by decide), if_pos rfl, pk_sub (by omega), xs_beside hF c1 x2 c3 hp (by omega), show (nI 0).toNatClampNeg = 0 by decide +kernel, m0, pk_sub (by omega), ym_beside hF c1 c3 m0 m6 hp (by omega)]; exact ⟨_, rfl, rfl⟩
      · rw [if_pos g]
        have no := rg_no g
        have ne : ∀ j : Nat, j ≤ 5 → ¬ a2 = nI j := fun j hj q => by rw [q, nI_toInt (by omega)] at no; omega
        rw [if_neg (show ¬ a2 = (0 : Int32) from by rw [nm_0]; exact ne 0 (by omega)), if_neg (show ¬ a2 = (1 : Int32) from by rw [nm_1]; exact ne 1 (by omega)), if_neg (show ¬ a2 = (2 : Int32) from by rw [nm_2]; exact ne 2 (by omega)), if_neg (show ¬ a2 = (3 : Int32) from by rw [nm_3]; exact ne 3 (by omega)), if_neg (show ¬ a2 = (4 : Int32) from by rw [nm_4]; exact ne 4 (by omega)), if_neg (show ¬ a2 = (5 : Int32) from by rw [nm_5]; exact ne 5 (by omega))]
        exact ⟨_, rfl, rfl⟩
    · rw [if_pos g1, if_pos g1]; exact ⟨_, rfl, rfl⟩
  obtain ⟨r, e1, e2⟩ := key
  refine ⟨r, (x_now_kinds, x_now_seating, x_now_knows, x_now_seals, x_now_telling, x_now_persons, x_now_wax, x_now_week, x_now_day, x_now_draw, x_past_knows, x_past_seals, x_past_dates, x_past_draws, x_past_next, x_past_steps, x_imageCourt_kinds, x_imageCourt_seating, x_imageCourt_knows, x_imageCourt_seals, x_imageCourt_telling, x_imageCourt_persons, x_imageCourt_wax, x_imageCourt_week, x_imageCourt_day, x_imageCourt_draw, x_imagePast_knows, x_imagePast_seals, x_imagePast_dates, x_imagePast_draws, x_imagePast_next, x_imagePast_steps, x_imaged, x_trial_kinds, x_trial_seating, x_trial_knows, x_trial_seals, x_trial_telling, x_trial_persons, x_trial_wax, x_trial_week, x_trial_day, x_trial_draw, x_order, x_bestOrder, x_tape_letters, x_tape_length, x_tape_at, x_sl, x_sn, x_si), (m_now, m_tape, m_typed, m_place, m_isFault, m_read, m_heard, m_undone, m_undos, m_aside, m_kept, m_keptUndos, m_isKept, m_lanes, m_sizes, m_items, m_moved), ?_, ?_, hnow, himg, htape, hsheet⟩
  · unfold xo_of; simp only []; rw [e1]; rfl
  · unfold mo_of; simp only []; rw [e2]; rfl
