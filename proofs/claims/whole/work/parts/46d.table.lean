theorem lw20 : (20 : Int64) = (20 : Int32).toInt64 := by decide
theorem i20 : (20 : Int32).toInt = 20 := by decide
theorem m1_or {a : Int32} (h : (-1 : Int32) ≤ a) : a = -1 ∨ ∃ k, k < 2 ^ 31 ∧ a = nI k := by
  by_cases q : a < 0
  · refine Or.inl (Int32.toInt_inj.mp ?_)
    rw [fa_le] at h
    rw [fa_lt] at q
    rw [show (-1 : Int32).toInt = -1 by decide] at h ⊢
    rw [i0] at q
    omega
  · exact Or.inr (nI_of q)
theorem m1_lt {n : Nat} (h : n < 2 ^ 31) : (-1 : Int32) < nI n := by
  rw [fa_lt, nI_toInt h, show (-1 : Int32).toInt = -1 by decide]; omega
theorem ag_table (a1 : Int32) (a2 : Int32) (a3 : Int32) {X : SX} {M : SM} (h : LInv X M) : ∃ r X2 M2, xo_table 1000 a1 a2 a3 X = some (r, X2) ∧ mo_table 1000 a1 a2 a3 M = some (r, M2) ∧ LInv X2 M2 := by
  obtain ⟨x_now_kinds, x_now_seating, x_now_knows, x_now_seals, x_now_telling, x_now_persons, x_now_wax, x_now_week, x_now_day, x_now_draw, x_past_knows, x_past_seals, x_past_dates, x_past_draws, x_past_next, x_past_steps, x_imageCourt_kinds, x_imageCourt_seating, x_imageCourt_knows, x_imageCourt_seals, x_imageCourt_telling, x_imageCourt_persons, x_imageCourt_wax, x_imageCourt_week, x_imageCourt_day, x_imageCourt_draw, x_imagePast_knows, x_imagePast_seals, x_imagePast_dates, x_imagePast_draws, x_imagePast_next, x_imagePast_steps, x_imaged, x_trial_kinds, x_trial_seating, x_trial_knows, x_trial_seals, x_trial_telling, x_trial_persons, x_trial_wax, x_trial_week, x_trial_day, x_trial_draw, x_order, x_bestOrder, x_tape_letters, x_tape_length, x_tape_at, x_sl, x_sn, x_si⟩ := X
  obtain ⟨m_now, m_tape, m_typed, m_place, m_isFault, m_read, m_heard, m_undone, m_undos, m_aside, m_kept, m_keptUndos, m_isKept, m_lanes, m_sizes, m_items, m_moved⟩ := M
  obtain ⟨hnow, himg, htape, hsheet⟩ := h
  have key : ∃ (r : Int32) (w_x_trial_kinds : Nat → Int32) (w_x_trial_seating : Nat → Int32) (w_x_trial_knows : Nat → Int64) (w_x_trial_seals : Nat → Int64) (w_x_trial_telling : Nat → Int64) (w_x_trial_persons : Int32) (w_x_trial_wax : Int32) (w_x_trial_week : Int32) (w_x_trial_day : Int32) (w_x_trial_draw : Int32) (w_x_order : Nat → Int32) (w_x_bestOrder : Nat → Int32) (v_m_now : Nat → Int32) (v_m_heard : Nat → Int32) (v_m_aside : Nat → Int32), fnX4_table 1000 x_now_kinds x_now_seating x_now_knows x_now_seals x_now_persons x_now_wax x_now_week x_now_day x_now_draw x_trial_kinds x_trial_seating x_trial_knows x_trial_seals x_trial_telling x_trial_persons x_trial_wax x_trial_week x_trial_day x_trial_draw x_order x_bestOrder a1 a2 a3 = some (r, w_x_trial_kinds, w_x_trial_seating, w_x_trial_knows, w_x_trial_seals, w_x_trial_telling, w_x_trial_persons, w_x_trial_wax, w_x_trial_week, w_x_trial_day, w_x_trial_draw, w_x_order, w_x_bestOrder) ∧ fnX5_table 1000 m_now m_heard m_aside a1 a2 a3 = some (r, v_m_now, v_m_heard, v_m_aside) ∧ P_now x_now_kinds x_now_seating x_now_knows x_now_seals x_now_persons x_now_wax x_now_week x_now_day x_now_draw x_past_knows x_past_seals x_past_dates x_past_draws x_past_next x_past_steps v_m_now m_undone m_undos := by
    have hnow2 := hnow
    obtain ⟨C, k, hs, hC, hk, hX, hP, hM, hU, rfl⟩ := hnow2
    have hC0 := hC
    obtain ⟨c1, c2, c3, c4, c5, c6, c7, c8⟩ := hC
    obtain ⟨x1, x2, x3, x4, rfl, rfl, rfl, rfl, rfl⟩ := hX
    have hM0 := hM
    obtain ⟨⟨m0, m1, m2, m3, m4, m5, m6⟩, mS⟩ := hM
    have hF : 1000 ≤ 1000 := Nat.le_refl _
    unfold fnX4_table fnX5_table
    rw [xs_within, xs_isHeat, lw1, lw20, ym_in, ym_isHeat, i1, i20]
    simp only [sx_c1, if1, sx_lt]
    by_cases g1 : rg a1 1 20 = true
    · rw [if_neg (not_not_intro g1), if_neg (not_not_intro g1)]
      by_cases g2 : rg a2 0 9 = true
      · rw [if_neg (not_not_intro g2), if_neg (not_not_intro g2)]
        by_cases g3 : (-1 : Int32) ≤ a3
        · rw [if_pos g3, if_pos g3, yt_o2 c1 m0, sx_n0, m0]
          obtain ⟨N, -, hN, rfl⟩ := rg_of (lo := 1) (hi := 20) g1
          obtain ⟨h, -, hh, rfl⟩ := rg_of (lo := 0) (hi := 9) g2
          have hom := om_p (cc_n C) (by omega)
          obtain ⟨tk', ts', ta', tb', tc', tp', tw', te', td', tr', or', be', e1, hb⟩ := xt_lay hN hh hC0 ⟨x1, x2, x3, x4, rfl, rfl, rfl, rfl, rfl⟩ x_trial_kinds x_trial_seating x_trial_knows x_trial_seals x_trial_telling x_trial_persons x_trial_wax x_trial_week x_trial_day x_trial_draw x_order x_bestOrder
          have hb1 := tb_lt (tL C h N) (om (cc_n C)) hom.1
          rcases Nat.eq_zero_or_pos (cc_n C) with q0 | q0
          · have hn0 : nI (cc_n C) = (0 : Int32) := by rw [q0]; exact nm_0.symm
            rcases m1_or g3 with rfl | ⟨kk, hkk, rfl⟩
            · have hz : (tb_b (tL C h N) (om (cc_n C))).2 = 0 := by
                rw [q0]
                have hl : tL C h N 0 = 0 := by
                  have h1 := cc_tms h N (cc_at_ok hC0 (od_ct c1 (show 0 < om (cc_n C) by omega)))
                  have h2 : cc_n (cc_at C (od (cc_n C) 0)) = 0 := q0
                  rw [h2] at h1
                  have h3 : (0 : Nat) = 0 + cc_lks h N (cc_at C (od (cc_n C) 0)) := h1
                  show cc_lks h N (cc_at C (od (cc_n C) 0)) = 0
                  omega
                show (tb_b (tL C h N) (0 + 1)).2 = 0
                rw [tb_y (show tL C h N 0 < 49 by omega)]
                exact hl
              rw [if_pos (m1_lt (by omega)), e1]
              simp only [sx_c13]
              rw [if_neg (by decide), if_pos hn0, if_neg (by decide), hz]
              exact ⟨_, _, _, _, _, _, _, _, _, _, _, _, _, _, _, _, rfl, rfl, hnow⟩
            · rw [if_neg (by rw [q0]; exact nI_nlt (by omega) hkk), if_pos hn0, if_pos (nI_pos' hkk)]
              exact ⟨_, _, _, _, _, _, _, _, _, _, _, _, _, _, _, _, rfl, rfl, hnow⟩
          · obtain ⟨s', e3, hs'⟩ := ym_asides (F := 1000) hF m_now m_aside
            obtain ⟨w', hd', e2, hw'⟩ := yt_all hN hh hC0 q0 (hM0.ext c1 hs') (om (cc_n C)) 0 (by omega) 1000 (by omega) m_now m_heard (fun j hj => (hs' j hj).symm)
            have hyl : yl (tL C h N) (om (cc_n C)) = nI (tb_b (tL C h N) (om (cc_n C))).2 := if_neg (by omega)
            have hfin : ∀ v : Nat → Int32, (∀ j, j < 65 → v j = s' j) → P_now x_now_kinds x_now_seating x_now_knows x_now_seals (nI (cc_n C)) (nI (cc_wx C)) (nI (cc_wk C)) (nI (cc_dy C)) (nI (cc_dr C)) x_past_knows x_past_seals x_past_dates x_past_draws x_past_next x_past_steps v m_undone (nI k) := fun v hv => hnow.m (v := v) (fun j hj => by rw [hv j hj, hs' j hj])
            rw [if_neg (show ¬ nI (cc_n C) = (0 : Int32) from nI_nz q0 (by omega)), e3]
            simp only []
            rw [show (tb_b (tL C h N) 0).1 = 0 from rfl, show yl (tL C h N) 0 = -1 from rfl, ← nm_0] at e2
            rw [e2, hyl]
            rcases m1_or g3 with rfl | ⟨kk, hkk, rfl⟩
            · rw [if_pos (m1_lt (show cc_n C < 2 ^ 31 by omega)), e1]
              simp only [sx_c13]
              rw [if_neg (show ¬ (0 : Int32) ≤ -1 by decide), if_neg (show ¬ (0 : Int32) ≤ -1 by decide)]
              exact ⟨_, _, _, _, _, _, _, _, _, _, _, _, _, _, _, _, rfl, rfl, hfin w' hw'⟩
            · have w0 : w' 0 = nI (cc_n C) := by rw [hw' 0 (by omega), hs' 0 (by omega)]; exact m0
              obtain ⟨w3, e4, h5, h6⟩ := ys_sits c1 q0 hb1 w0
              obtain ⟨w4, e5, hw4⟩ := ym_backs (F := 1000) hF w3 s'
              have w30 : w3 0 = nI (cc_n C) := by rw [h6 0 (by omega)]; exact w0
              by_cases hk2 : kk < cc_n C
              · rw [if_pos (nI_lt hk2 (show cc_n C < 2 ^ 31 by omega)), e1]
                simp only [sx_c13]
                rw [if_pos (nI_pos' hkk), if_pos (nI_pos' hkk), e4]
                simp only []
                rw [w30, if_neg (nI_nleI hk2 (show cc_n C < 2 ^ 31 by omega)), sx_gd_e (nm_ib (show kk < 6 by omega)), nI_clamp hkk, ym_ix11, sx_gd_e (nm_ib (show 11 + kk < 65 by omega)), nI_clamp (show 11 + kk < 2 ^ 31 by omega), h5 kk hk2, ← hb kk (by omega)]
                simp only [sx_nm]
                rw [e5]
                exact ⟨_, _, _, _, _, _, _, _, _, _, _, _, _, _, _, _, rfl, rfl, hfin w4 hw4⟩
              · rw [if_neg (nI_nlt (show cc_n C ≤ kk by omega) hkk), if_pos (nI_pos' hkk), e4]
                simp only []
                rw [w30, if_pos (nI_leT (show cc_n C ≤ kk by omega) hkk), e5]
                exact ⟨_, _, _, _, _, _, _, _, _, _, _, _, _, _, _, _, rfl, rfl, hfin w4 hw4⟩
        · rw [if_neg g3, if_neg g3]; exact ⟨_, _, _, _, _, _, _, _, _, _, _, _, _, _, _, _, rfl, rfl, hnow⟩
      · rw [if_pos g2, if_pos g2]; exact ⟨_, _, _, _, _, _, _, _, _, _, _, _, _, _, _, _, rfl, rfl, hnow⟩
    · rw [if_pos g1, if_pos g1]; exact ⟨_, _, _, _, _, _, _, _, _, _, _, _, _, _, _, _, rfl, rfl, hnow⟩
  obtain ⟨r, w_x_trial_kinds, w_x_trial_seating, w_x_trial_knows, w_x_trial_seals, w_x_trial_telling, w_x_trial_persons, w_x_trial_wax, w_x_trial_week, w_x_trial_day, w_x_trial_draw, w_x_order, w_x_bestOrder, v_m_now, v_m_heard, v_m_aside, e1, e2, khnow⟩ := key
  refine ⟨r, (x_now_kinds, x_now_seating, x_now_knows, x_now_seals, x_now_telling, x_now_persons, x_now_wax, x_now_week, x_now_day, x_now_draw, x_past_knows, x_past_seals, x_past_dates, x_past_draws, x_past_next, x_past_steps, x_imageCourt_kinds, x_imageCourt_seating, x_imageCourt_knows, x_imageCourt_seals, x_imageCourt_telling, x_imageCourt_persons, x_imageCourt_wax, x_imageCourt_week, x_imageCourt_day, x_imageCourt_draw, x_imagePast_knows, x_imagePast_seals, x_imagePast_dates, x_imagePast_draws, x_imagePast_next, x_imagePast_steps, x_imaged, w_x_trial_kinds, w_x_trial_seating, w_x_trial_knows, w_x_trial_seals, w_x_trial_telling, w_x_trial_persons, w_x_trial_wax, w_x_trial_week, w_x_trial_day, w_x_trial_draw, w_x_order, w_x_bestOrder, x_tape_letters, x_tape_length, x_tape_at, x_sl, x_sn, x_si), (v_m_now, m_tape, m_typed, m_place, m_isFault, m_read, v_m_heard, m_undone, m_undos, v_m_aside, m_kept, m_keptUndos, m_isKept, m_lanes, m_sizes, m_items, m_moved), ?_, ?_, khnow, himg, htape, hsheet⟩
  · unfold xo_table; simp only []; rw [e1]; rfl
  · unfold mo_table; simp only []; rw [e2]; rfl
