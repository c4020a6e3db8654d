-- WHAT IS TRIED OUT
theorem sx_n6 : (6 : Int32).toNatClampNeg = 6 := by decide
theorem lw60 : (60 : Int64) = (60 : Int32).toInt64 := by decide
theorem i60 : (60 : Int32).toInt = 60 := by decide
theorem nm_60 : (60 : Int32) = nI 60 := by decide +kernel
theorem nm_61 : (61 : Int32) = nI 61 := by decide +kernel
theorem nm_9 : (9 : Int32) = nI 9 := by decide +kernel
theorem nm_10 : (10 : Int32) = nI 10 := by decide +kernel
theorem nI_nz {a : Nat} (h : 0 < a) (h2 : a < 2 ^ 31) : ¬ nI a = (0 : Int32) := by rw [nm_0, nI_eq h2 (by omega)]; omega
theorem nI_m1 (k : Nat) : nI (k + 1) + (-1) = nI k := by
  rw [← nI_1, Int32.add_assoc, show (1 : Int32) + (-1) = 0 by decide, Int32.add_zero]
theorem xs_become {F : Nat} {C : ctC} {ki se : Nat → Int32} {a b : Nat → Int64} {pe wa we da dr : Int32} (hn : cc_n C ≤ 6) (hX : cx_C C ki se a b pe wa we da dr) (ck cs : Nat → Int32) (ca cb : Nat → Int64) (cp cw ce cd cr : Int32) : ∃ ki' se' a' b', fnX0_become F ck cs ca cb cp cw ce cd cr ki se a b pe wa we da dr = some (ki', se', a', b', pe, wa, we, da, dr) ∧ cx_C C ki' se' a' b' pe wa we da dr := by
  obtain ⟨x1, x2, x3, x4, x5⟩ := hX
  unfold fnX0_become
  rw [sx_gd_e (by decide), sx_gd_e (by decide), sx_gd_e (by decide), sx_gd_e (by decide), sx_n0, sx_n6]
  refine ⟨_, _, _, _, rfl, fun p hp => ?_, fun p hp => ?_, fun p hp => ?_, fun p hp => ?_, x5⟩
  · rw [pk_cpy_in (by omega) (by omega), show 0 + (p - 0) = p by omega]; exact x1 p hp
  · rw [pk_cpy_in (by omega) (by omega), show 0 + (p - 0) = p by omega]; exact x2 p hp
  · rw [pk_cpy_in (by omega) (by omega), show 0 + (p - 0) = p by omega]; exact x3 p hp
  · rw [pk_cpy_in (by omega) (by omega), show 0 + (p - 0) = p by omega]; exact x4 p hp
theorem cm_C.ext {C : ctC} {w v : Nat → Int32} (h : cm_C C w) (hn : cc_n C ≤ 6) (hv : ∀ j, j < 65 → v j = w j) : cm_C C v := ⟨cm_H.kept h.1 hn (fun j hj => hv j (by omega)), fun p hp t ht => by rw [hv _ (by omega)]; exact h.2 p hp t ht⟩
theorem P_now.m {ki se : Nat → Int32} {a b : Nat → Int64} {pe wa we da dr : Int32} {pk ps : Nat → Int64} {pd pr : Nat → Int32} {pn pt : Int32} {w un : Nat → Int32} {ud : Int32} (h : P_now ki se a b pe wa we da dr pk ps pd pr pn pt w un ud) {v : Nat → Int32} (hv : ∀ j, j < 65 → v j = w j) : P_now ki se a b pe wa we da dr pk ps pd pr pn pt v un ud := by
  obtain ⟨C, k, hs, hC, hk, hX, hP, hM, hU, hu⟩ := h
  exact ⟨C, k, hs, hC, hk, hX, hP, hM.ext hC.1 hv, hU, hu⟩
theorem ym_asides_l {F : Nat} {w : Nat → Int32} : ∀ k i, i + k = 65 → ∀ fuel, k < fuel → ∀ s : Nat → Int32, (∀ j, j < i → s j = w j) → ∃ s', sx_lp2 (bdX5_asides_2 F w) fuel (nI i) s = some s' ∧ ∀ j, j < 65 → s' j = w j := by
  intro k
  induction k with
  | zero =>
    intro i hi fuel hf s h1
    obtain ⟨f, rfl⟩ : ∃ f, fuel = f + 1 := ⟨fuel - 1, by omega⟩
    rw [sx_lp2_1, bdX5_asides_2, nm_65, if_pos (nI_leT (by omega) (by omega))]
    exact ⟨s, rfl, fun j hj => h1 j (by omega)⟩
  | succ k ih =>
    intro i hi fuel hf s h1
    obtain ⟨f, rfl⟩ : ∃ f, fuel = f + 1 := ⟨fuel - 1, by omega⟩
    rw [sx_lp2_1, bdX5_asides_2, nm_65, if_neg (nI_nleI (by omega) (by omega)), sx_gd_e (nm_ib (by omega)), sx_gd_e (nm_ib (by omega)), nI_clamp (by omega), nI_1]
    simp only [sx_nm]
    exact ih (i + 1) (by omega) f (by omega) _ (fun j hj => by
      by_cases e : j = i
      · subst e; rw [pu_same]
      · rw [pu_ne e]; exact h1 j (by omega))
theorem ym_backs_l {F : Nat} {w : Nat → Int32} : ∀ k i, i + k = 65 → ∀ fuel, k < fuel → ∀ s : Nat → Int32, (∀ j, j < i → s j = w j) → ∃ s', sx_lp2 (bdX5_backs_2 F w) fuel (nI i) s = some s' ∧ ∀ j, j < 65 → s' j = w j := by
  intro k
  induction k with
  | zero =>
    intro i hi fuel hf s h1
    obtain ⟨f, rfl⟩ : ∃ f, fuel = f + 1 := ⟨fuel - 1, by omega⟩
    rw [sx_lp2_1, bdX5_backs_2, nm_65, if_pos (nI_leT (by omega) (by omega))]
    exact ⟨s, rfl, fun j hj => h1 j (by omega)⟩
  | succ k ih =>
    intro i hi fuel hf s h1
    obtain ⟨f, rfl⟩ : ∃ f, fuel = f + 1 := ⟨fuel - 1, by omega⟩
    rw [sx_lp2_1, bdX5_backs_2, nm_65, if_neg (nI_nleI (by omega) (by omega)), sx_gd_e (nm_ib (by omega)), sx_gd_e (nm_ib (by omega)), nI_clamp (by omega), nI_1]
    simp only [sx_nm]
    exact ih (i + 1) (by omega) f (by omega) _ (fun j hj => by
      by_cases e : j = i
      · subst e; rw [pu_same]
      · rw [pu_ne e]; exact h1 j (by omega))
theorem ym_asides {F : Nat} (hF : 1000 ≤ F) (w s : Nat → Int32) : ∃ s', fnX5_asides F w s = some s' ∧ ∀ j, j < 65 → s' j = w j := by
  unfold fnX5_asides
  rw [nm_0]
  exact ym_asides_l 65 0 (by omega) F (by omega) s (fun j hj => by omega)
theorem ym_backs {F : Nat} (hF : 1000 ≤ F) (w s : Nat → Int32) : ∃ w', fnX5_backs F w s = some w' ∧ ∀ j, j < 65 → w' j = s j := by
  unfold fnX5_backs
  rw [nm_0]
  exact ym_backs_l 65 0 (by omega) F (by omega) w (fun j hj => by omega)
theorem xd_who {F t B : Nat} {D : ctC} {ki se : Nat → Int32} {a b : Nat → Int64} {pe wa we da dr : Int32} (hF : 1000 ≤ F) (hC : cc_ok D B) (ht : t < 8) (hX : cx_C D ki se a b pe wa we da dr) : fnX0_knowersOf F a pe (nI t) = some (nI (ct_who (cc_sl D) t (cc_n D))) := by
  rw [hX.2.2.2.2.1]; exact xs_knowersOf hF hC.1 ht hX.2.2.1
theorem yd_who {F t B : Nat} {D : ctC} {w : Nat → Int32} (hF : 1000 ≤ F) (hC : cc_ok D B) (ht : t < 8) (hw : cm_C D w) : fnX5_who F w (nI t) = some (nI (ct_who (cc_sl D) t (cc_n D))) := ym_who hF hC.1 ht hC.2.2.2.1 hw.1.1 hw.2
theorem xd_rank {F p B : Nat} {D : ctC} {ki se : Nat → Int32} {a b : Nat → Int64} {pe wa we da dr : Int32} (hC : cc_ok D B) (hp : p < cc_n D) (hX : cx_C D ki se a b pe wa we da dr) : fnX0_rankOf F b (nI p) = some (nI (ct_rank (cc_sl D) p)) := xs_rankOf hC.1 hp hC.2.2.2.1 hX.2.2.2.1
theorem yd_rank {F p B : Nat} {D : ctC} {w : Nat → Int32} (hF : 1000 ≤ F) (hC : cc_ok D B) (hp : p < cc_n D) (hw : cm_C D w) : fnX5_rank F w (nI p) = some (nI (ct_rank (cc_sl D) p)) := ym_rank hF hC.1 hp hC.2.2.2.1 hw.2
theorem yd_out {F t B : Nat} {D : ctC} {w : Nat → Int32} (hF : 1000 ≤ F) (hC : cc_ok D B) (ht : t < 8) (hw : cm_C D w) : fnX5_isOut F w (nI t) = some (if ct_out (cc_sl D) (cc_n D) t then 1 else 0) := ym_isOut hF hC.1 ht hC.2.2.2.1 hw.1.1 hw.2
theorem yd_times {F B : Nat} {D : ctC} {w : Nat → Int32} (hF : 1000 ≤ F) (hC : cc_ok D B) (hw : cm_C D w) : fnX5_times F w = some (nI (ct_tm (cx_kn (cc_sl D)) (cc_n D))) := ym_times hF hC.1 hC.2.2.2.1 hw.1.1 hw.2
theorem xd_times {F B : Nat} {D : ctC} {ki se : Nat → Int32} {a b : Nat → Int64} {pe wa we da dr : Int32} (hF : 1000 ≤ F) (hC : cc_ok D B) (hX : cx_C D ki se a b pe wa we da dr) : fnX0_timesKnown F a pe = some (nI (ct_tm (cx_kn (cc_sl D)) (cc_n D))) := by
  rw [hX.2.2.2.2.1]; exact xs_timesKnown hF hC.1 hX.2.2.1
theorem ym_leaksIn {F h N B : Nat} {C : ctC} {w : Nat → Int32} (hF : 1000 ≤ F) (hh : h ≤ 9) (hN : N ≤ 60) (hB : B ≤ 90000) (hC : cc_ok C B) (hw : cm_C C w) (hd s : Nat → Int32) : ∃ w' hd', fnX5_leaksIn F w hd s (nI N) (nI h) = some (nI (cc_lks h N C), w', hd') ∧ ∀ j, j < 65 → w' j = s j := by
  unfold fnX5_leaksIn
  obtain ⟨w1, hd1, e1, hw1⟩ := ym_goesOn (F := F) (h := h) (N := N) hF hh (by omega) hB hC hw hd
  obtain ⟨w2, e2, hw2⟩ := ym_backs (F := F) hF w1 s
  have ok := cc_days_ok h N hC
  have t1 := yd_times hF hC hw
  have t2 := yd_times hF ok hw1
  have ht := cc_tms h N hC
  rw [cc_days_n] at t2
  rw [t1]
  simp only [sx_c1]
  rw [e1]
  simp only [sx_c2]
  rw [t2]
  simp only [sx_nm]
  rw [e2, ht, pk_sub (Nat.le_add_right _ _), Nat.add_sub_cancel_left]
  exact ⟨w2, hd1, rfl, hw2⟩
theorem ag_ahead (a1 : Int32) (a2 : Int32) (a3 : Int32) {X : SX} {M : SM} (h : LInv X M) : ∃ r X2 M2, xo_ahead 1000 a1 a2 a3 X = some (r, X2) ∧ mo_ahead 1000 a1 a2 a3 M = some (r, M2) ∧ LInv X2 M2 := by
  obtain ⟨x_now_kinds, x_now_seating, x_now_knows, x_now_seals, x_now_telling, x_now_persons, x_now_wax, x_now_week, x_now_day, x_now_draw, x_past_knows, x_past_seals, x_past_dates, x_past_draws, x_past_next, x_past_steps, x_imageCourt_kinds, x_imageCourt_seating, x_imageCourt_knows, x_imageCourt_seals, x_imageCourt_telling, x_imageCourt_persons, x_imageCourt_wax, x_imageCourt_week, x_imageCourt_day, x_imageCourt_draw, x_imagePast_knows, x_imagePast_seals, x_imagePast_dates, x_imagePast_draws, x_imagePast_next, x_imagePast_steps, x_imaged, x_trial_kinds, x_trial_seating, x_trial_knows, x_trial_seals, x_trial_telling, x_trial_persons, x_trial_wax, x_trial_week, x_trial_day, x_trial_draw, x_order, x_bestOrder, x_tape_letters, x_tape_length, x_tape_at, x_sl, x_sn, x_si⟩ := X
  obtain ⟨m_now, m_tape, m_typed, m_place, m_isFault, m_read, m_heard, m_undone, m_undos, m_aside, m_kept, m_keptUndos, m_isKept, m_lanes, m_sizes, m_items, m_moved⟩ := M
  obtain ⟨hnow, himg, htape, hsheet⟩ := h
  have key : ∃ (r : Int32) (w_x_trial_kinds : Nat → Int32) (w_x_trial_seating : Nat → Int32) (w_x_trial_knows : Nat → Int64) (w_x_trial_seals : Nat → Int64) (w_x_trial_telling : Nat → Int64) (w_x_trial_persons : Int32) (w_x_trial_wax : Int32) (w_x_trial_week : Int32) (w_x_trial_day : Int32) (w_x_trial_draw : Int32) (v_m_now : Nat → Int32) (v_m_heard : Nat → Int32) (v_m_aside : Nat → Int32), fnX4_ahead 1000 x_now_kinds x_now_seating x_now_knows x_now_seals x_now_persons x_now_wax x_now_week x_now_day x_now_draw x_trial_kinds x_trial_seating x_trial_knows x_trial_seals x_trial_telling x_trial_persons x_trial_wax x_trial_week x_trial_day x_trial_draw a1 a2 a3 = some (r, w_x_trial_kinds, w_x_trial_seating, w_x_trial_knows, w_x_trial_seals, w_x_trial_telling, w_x_trial_persons, w_x_trial_wax, w_x_trial_week, w_x_trial_day, w_x_trial_draw) ∧ fnX5_ahead 1000 m_now m_heard m_aside a1 a2 a3 = some (r, v_m_now, v_m_heard, v_m_aside) ∧ P_now x_now_kinds x_now_seating x_now_knows x_now_seals x_now_persons x_now_wax x_now_week x_now_day x_now_draw x_past_knows x_past_seals x_past_dates x_past_draws x_past_next x_past_steps v_m_now m_undone m_undos := by
    have hnow2 := hnow
    obtain ⟨C, k, hs, hC, hk, hX, hP, hM, hU, rfl⟩ := hnow2
    have hC0 := hC
    obtain ⟨c1, c2, c3, c4, c5, c6, c7, c8⟩ := hC
    obtain ⟨x1, x2, x3, x4, rfl, rfl, rfl, rfl, rfl⟩ := hX
    have hM0 := hM
    obtain ⟨⟨m0, m1, m2, m3, m4, m5, m6⟩, mS⟩ := hM
    have hF : 1000 ≤ 1000 := Nat.le_refl _
    unfold fnX4_ahead fnX5_ahead
    rw [xs_isThing, xs_within, xs_isHeat, ym_isThing, lw0, lw60, ym_in, ym_isHeat, i0, i60]
    simp only [sx_c1, if1]
    by_cases g1 : rg a1 0 7 = true
    · rw [if_neg (not_not_intro g1), if_neg (not_not_intro g1)]
      by_cases g2 : rg a2 0 60 = true
      · rw [if_neg (not_not_intro g2), if_neg (not_not_intro g2)]
        by_cases g3 : rg a3 0 9 = true
        · rw [if_neg (not_not_intro g3), if_neg (not_not_intro g3)]
          obtain ⟨t, -, ht, rfl⟩ := rg_of (lo := 0) (hi := 7) g1
          obtain ⟨N, -, hN, rfl⟩ := rg_of (lo := 0) (hi := 60) g2
          obtain ⟨h, -, hh, rfl⟩ := rg_of (lo := 0) (hi := 9) g3
          obtain ⟨ki', se', a', b', e1, hX1⟩ := xs_become (F := 1000) (C := C) c1 ⟨x1, x2, x3, x4, rfl, rfl, rfl, rfl, rfl⟩ x_trial_kinds x_trial_seating x_trial_knows x_trial_seals x_trial_persons x_trial_wax x_trial_week x_trial_day x_trial_draw
          obtain ⟨a2', b2', c2', d2', e2, hX2⟩ := xc_days (F := 1000) (N := N) (h := h) hF (by omega) hC0 hh hN hX1 x_trial_telling
          obtain ⟨s', e3, hs'⟩ := ym_asides (F := 1000) hF m_now m_aside
          obtain ⟨w1, hd1, e4, hw1⟩ := ym_goesOn (F := 1000) (N := N) (h := h) hF hh (by omega) (by omega) hC0 hM0 m_heard
          obtain ⟨w2, e5, hw2⟩ := ym_backs (F := 1000) hF w1 s'
          have ok := cc_days_ok h N hC0
          rw [e1, e3]
          simp only [sx_c9]
          rw [e2, e4]
          simp only [sx_c5, sx_c2]
          rw [xd_who hF ok (show t < 8 by omega) hX2, yd_who hF ok (show t < 8 by omega) hw1]
          simp only []
          rw [e5]
          exact ⟨_, _, _, _, _, _, _, _, _, _, _, _, _, _, rfl, rfl, hnow.m (fun j hj => by rw [hw2 j hj, hs' j hj])⟩
        · rw [if_pos g3, if_pos g3]; exact ⟨_, _, _, _, _, _, _, _, _, _, _, _, _, _, rfl, rfl, hnow⟩
      · rw [if_pos g2, if_pos g2]; exact ⟨_, _, _, _, _, _, _, _, _, _, _, _, _, _, rfl, rfl, hnow⟩
    · rw [if_pos g1, if_pos g1]; exact ⟨_, _, _, _, _, _, _, _, _, _, _, _, _, _, rfl, rfl, hnow⟩
  obtain ⟨r, w_x_trial_kinds, w_x_trial_seating, w_x_trial_knows, w_x_trial_seals, w_x_trial_telling, w_x_trial_persons, w_x_trial_wax, w_x_trial_week, w_x_trial_day, w_x_trial_draw, v_m_now, v_m_heard, v_m_aside, e1, e2, khnow⟩ := key
  refine ⟨r, (x_now_kinds, x_now_seating, x_now_knows, x_now_seals, x_now_telling, x_now_persons, x_now_wax, x_now_week, x_now_day, x_now_draw, x_past_knows, x_past_seals, x_past_dates, x_past_draws, x_past_next, x_past_steps, x_imageCourt_kinds, x_imageCourt_seating, x_imageCourt_knows, x_imageCourt_seals, x_imageCourt_telling, x_imageCourt_persons, x_imageCourt_wax, x_imageCourt_week, x_imageCourt_day, x_imageCourt_draw, x_imagePast_knows, x_imagePast_seals, x_imagePast_dates, x_imagePast_draws, x_imagePast_next, x_imagePast_steps, x_imaged, w_x_trial_kinds, w_x_trial_seating, w_x_trial_knows, w_x_trial_seals, w_x_trial_telling, w_x_trial_persons, w_x_trial_wax, w_x_trial_week, w_x_trial_day, w_x_trial_draw, x_order, x_bestOrder, x_tape_letters, x_tape_length, x_tape_at, x_sl, x_sn, x_si), (v_m_now, m_tape, m_typed, m_place, m_isFault, m_read, v_m_heard, m_undone, m_undos, v_m_aside, m_kept, m_keptUndos, m_isKept, m_lanes, m_sizes, m_items, m_moved), ?_, ?_, khnow, himg, htape, hsheet⟩
  · unfold xo_ahead; simp only []; rw [e1]; rfl
  · unfold mo_ahead; simp only []; rw [e2]; rfl
theorem ag_rankAhead (a1 : Int32) (a2 : Int32) (a3 : Int32) {X : SX} {M : SM} (h : LInv X M) : ∃ r X2 M2, xo_rankAhead 1000 a1 a2 a3 X = some (r, X2) ∧ mo_rankAhead 1000 a1 a2 a3 M = some (r, M2) ∧ LInv X2 M2 := by
  obtain ⟨x_now_kinds, x_now_seating, x_now_knows, x_now_seals, x_now_telling, x_now_persons, x_now_wax, x_now_week, x_now_day, x_now_draw, x_past_knows, x_past_seals, x_past_dates, x_past_draws, x_past_next, x_past_steps, x_imageCourt_kinds, x_imageCourt_seating, x_imageCourt_knows, x_imageCourt_seals, x_imageCourt_telling, x_imageCourt_persons, x_imageCourt_wax, x_imageCourt_week, x_imageCourt_day, x_imageCourt_draw, x_imagePast_knows, x_imagePast_seals, x_imagePast_dates, x_imagePast_draws, x_imagePast_next, x_imagePast_steps, x_imaged, x_trial_kinds, x_trial_seating, x_trial_knows, x_trial_seals, x_trial_telling, x_trial_persons, x_trial_wax, x_trial_week, x_trial_day, x_trial_draw, x_order, x_bestOrder, x_tape_letters, x_tape_length, x_tape_at, x_sl, x_sn, x_si⟩ := X
  obtain ⟨m_now, m_tape, m_typed, m_place, m_isFault, m_read, m_heard, m_undone, m_undos, m_aside, m_kept, m_keptUndos, m_isKept, m_lanes, m_sizes, m_items, m_moved⟩ := M
  obtain ⟨hnow, himg, htape, hsheet⟩ := h
  have key : ∃ (r : Int32) (w_x_trial_kinds : Nat → Int32) (w_x_trial_seating : Nat → Int32) (w_x_trial_knows : Nat → Int64) (w_x_trial_seals : Nat → Int64) (w_x_trial_telling : Nat → Int64) (w_x_trial_persons : Int32) (w_x_trial_wax : Int32) (w_x_trial_week : Int32) (w_x_trial_day : Int32) (w_x_trial_draw : Int32) (v_m_now : Nat → Int32) (v_m_heard : Nat → Int32) (v_m_aside : Nat → Int32), fnX4_rankAhead 1000 x_now_kinds x_now_seating x_now_knows x_now_seals x_now_persons x_now_wax x_now_week x_now_day x_now_draw x_trial_kinds x_trial_seating x_trial_knows x_trial_seals x_trial_telling x_trial_persons x_trial_wax x_trial_week x_trial_day x_trial_draw a1 a2 a3 = some (r, w_x_trial_kinds, w_x_trial_seating, w_x_trial_knows, w_x_trial_seals, w_x_trial_telling, w_x_trial_persons, w_x_trial_wax, w_x_trial_week, w_x_trial_day, w_x_trial_draw) ∧ fnX5_rankAhead 1000 m_now m_heard m_aside a1 a2 a3 = some (r, v_m_now, v_m_heard, v_m_aside) ∧ P_now x_now_kinds x_now_seating x_now_knows x_now_seals x_now_persons x_now_wax x_now_week x_now_day x_now_draw x_past_knows x_past_seals x_past_dates x_past_draws x_past_next x_past_steps v_m_now m_undone m_undos := by
    have hnow2 := hnow
    obtain ⟨C, k, hs, hC, hk, hX, hP, hM, hU, rfl⟩ := hnow2
    have hC0 := hC
    obtain ⟨c1, c2, c3, c4, c5, c6, c7, c8⟩ := hC
    obtain ⟨x1, x2, x3, x4, rfl, rfl, rfl, rfl, rfl⟩ := hX
    have hM0 := hM
    obtain ⟨⟨m0, m1, m2, m3, m4, m5, m6⟩, mS⟩ := hM
    have hF : 1000 ≤ 1000 := Nat.le_refl _
    unfold fnX4_rankAhead fnX5_rankAhead
    rw [xs_isPerson _ c1, xs_within, xs_isHeat, ym_isPerson _ c1 m0, lw0, lw60, ym_in, ym_isHeat, i0, i60]
    simp only [sx_c1, if1]
    by_cases g1 : rg a1 0 ((cc_n C : Int) - 1) = true
    · rw [if_neg (not_not_intro g1), if_neg (not_not_intro g1)]
      by_cases g2 : rg a2 0 60 = true
      · rw [if_neg (not_not_intro g2), if_neg (not_not_intro g2)]
        by_cases g3 : rg a3 0 9 = true
        · rw [if_neg (not_not_intro g3), if_neg (not_not_intro g3)]
          obtain ⟨p, hp, rfl⟩ := rg_person g1
          obtain ⟨N, -, hN, rfl⟩ := rg_of (lo := 0) (hi := 60) g2
          obtain ⟨h, -, hh, rfl⟩ := rg_of (lo := 0) (hi := 9) g3
          obtain ⟨ki', se', a', b', e1, hX1⟩ := xs_become (F := 1000) (C := C) c1 ⟨x1, x2, x3, x4, rfl, rfl, rfl, rfl, rfl⟩ x_trial_kinds x_trial_seating x_trial_knows x_trial_seals x_trial_persons x_trial_wax x_trial_week x_trial_day x_trial_draw
          obtain ⟨a2', b2', c2', d2', e2, hX2⟩ := xc_days (F := 1000) (N := N) (h := h) hF (by omega) hC0 hh hN hX1 x_trial_telling
          obtain ⟨s', e3, hs'⟩ := ym_asides (F := 1000) hF m_now m_aside
          obtain ⟨w1, hd1, e4, hw1⟩ := ym_goesOn (F := 1000) (N := N) (h := h) hF hh (by omega) (by omega) hC0 hM0 m_heard
          obtain ⟨w2, e5, hw2⟩ := ym_backs (F := 1000) hF w1 s'
          have ok := cc_days_ok h N hC0
          rw [e1, e3]
          simp only [sx_c9]
          rw [e2, e4]
          simp only [sx_c5, sx_c2]
          rw [xd_rank ok (show p < cc_n (cc_days h N C) by rw [cc_days_n]; exact hp) hX2, yd_rank hF ok (show p < cc_n (cc_days h N C) by rw [cc_days_n]; exact hp) hw1]
          simp only []
          rw [e5]
          exact ⟨_, _, _, _, _, _, _, _, _, _, _, _, _, _, rfl, rfl, hnow.m (fun j hj => by rw [hw2 j hj, hs' j hj])⟩
        · rw [if_pos g3, if_pos g3]; exact ⟨_, _, _, _, _, _, _, _, _, _, _, _, _, _, rfl, rfl, hnow⟩
      · rw [if_pos g2, if_pos g2]; exact ⟨_, _, _, _, _, _, _, _, _, _, _, _, _, _, rfl, rfl, hnow⟩
    · rw [if_pos g1, if_pos g1]; exact ⟨_, _, _, _, _, _, _, _, _, _, _, _, _, _, rfl, rfl, hnow⟩
  obtain ⟨r, w_x_trial_kinds, w_x_trial_seating, w_x_trial_knows, w_x_trial_seals, w_x_trial_telling, w_x_trial_persons, w_x_trial_wax, w_x_trial_week, w_x_trial_day, w_x_trial_draw, v_m_now, v_m_heard, v_m_aside, e1, e2, khnow⟩ := key
  refine ⟨r, (x_now_kinds, x_now_seating, x_now_knows, x_now_seals, x_now_telling, x_now_persons, x_now_wax, x_now_week, x_now_day, x_now_draw, x_past_knows, x_past_seals, x_past_dates, x_past_draws, x_past_next, x_past_steps, x_imageCourt_kinds, x_imageCourt_seating, x_imageCourt_knows, x_imageCourt_seals, x_imageCourt_telling, x_imageCourt_persons, x_imageCourt_wax, x_imageCourt_week, x_imageCourt_day, x_imageCourt_draw, x_imagePast_knows, x_imagePast_seals, x_imagePast_dates, x_imagePast_draws, x_imagePast_next, x_imagePast_steps, x_imaged, w_x_trial_kinds, w_x_trial_seating, w_x_trial_knows, w_x_trial_seals, w_x_trial_telling, w_x_trial_persons, w_x_trial_wax, w_x_trial_week, w_x_trial_day, w_x_trial_draw, x_order, x_bestOrder, x_tape_letters, x_tape_length, x_tape_at, x_sl, x_sn, x_si), (v_m_now, m_tape, m_typed, m_place, m_isFault, m_read, v_m_heard, m_undone, m_undos, v_m_aside, m_kept, m_keptUndos, m_isKept, m_lanes, m_sizes, m_items, m_moved), ?_, ?_, khnow, himg, htape, hsheet⟩
  · unfold xo_rankAhead; simp only []; rw [e1]; rfl
  · unfold mo_rankAhead; simp only []; rw [e2]; rfl
theorem ag_leaks (a1 : Int32) (a2 : Int32) {X : SX} {M : SM} (h : LInv X M) : ∃ r X2 M2, xo_leaks 1000 a1 a2 X = some (r, X2) ∧ mo_leaks 1000 a1 a2 M = some (r, M2) ∧ LInv X2 M2 := by
  obtain ⟨x_now_kinds, x_now_seating, x_now_knows, x_now_seals, x_now_telling, x_now_persons, x_now_wax, x_now_week, x_now_day, x_now_draw, x_past_knows, x_past_seals, x_past_dates, x_past_draws, x_past_next, x_past_steps, x_imageCourt_kinds, x_imageCourt_seating, x_imageCourt_knows, x_imageCourt_seals, x_imageCourt_telling, x_imageCourt_persons, x_imageCourt_wax, x_imageCourt_week, x_imageCourt_day, x_imageCourt_draw, x_imagePast_knows, x_imagePast_seals, x_imagePast_dates, x_imagePast_draws, x_imagePast_next, x_imagePast_steps, x_imaged, x_trial_kinds, x_trial_seating, x_trial_knows, x_trial_seals, x_trial_telling, x_trial_persons, x_trial_wax, x_trial_week, x_trial_day, x_trial_draw, x_order, x_bestOrder, x_tape_letters, x_tape_length, x_tape_at, x_sl, x_sn, x_si⟩ := X
  obtain ⟨m_now, m_tape, m_typed, m_place, m_isFault, m_read, m_heard, m_undone, m_undos, m_aside, m_kept, m_keptUndos, m_isKept, m_lanes, m_sizes, m_items, m_moved⟩ := M
  obtain ⟨hnow, himg, htape, hsheet⟩ := h
  have key : ∃ (r : Int32) (w_x_trial_kinds : Nat → Int32) (w_x_trial_seating : Nat → Int32) (w_x_trial_knows : Nat → Int64) (w_x_trial_seals : Nat → Int64) (w_x_trial_telling : Nat → Int64) (w_x_trial_persons : Int32) (w_x_trial_wax : Int32) (w_x_trial_week : Int32) (w_x_trial_day : Int32) (w_x_trial_draw : Int32) (v_m_now : Nat → Int32) (v_m_heard : Nat → Int32) (v_m_aside : Nat → Int32), fnX4_leaks 1000 x_now_kinds x_now_seating x_now_knows x_now_seals x_now_persons x_now_wax x_now_week x_now_day x_now_draw x_trial_kinds x_trial_seating x_trial_knows x_trial_seals x_trial_telling x_trial_persons x_trial_wax x_trial_week x_trial_day x_trial_draw a1 a2 = some (r, w_x_trial_kinds, w_x_trial_seating, w_x_trial_knows, w_x_trial_seals, w_x_trial_telling, w_x_trial_persons, w_x_trial_wax, w_x_trial_week, w_x_trial_day, w_x_trial_draw) ∧ fnX5_leaks 1000 m_now m_heard m_aside a1 a2 = some (r, v_m_now, v_m_heard, v_m_aside) ∧ P_now x_now_kinds x_now_seating x_now_knows x_now_seals x_now_persons x_now_wax x_now_week x_now_day x_now_draw x_past_knows x_past_seals x_past_dates x_past_draws x_past_next x_past_steps v_m_now m_undone m_undos := by
    have hnow2 := hnow
    obtain ⟨C, k, hs, hC, hk, hX, hP, hM, hU, rfl⟩ := hnow2
    have hC0 := hC
    obtain ⟨c1, c2, c3, c4, c5, c6, c7, c8⟩ := hC
    obtain ⟨x1, x2, x3, x4, rfl, rfl, rfl, rfl, rfl⟩ := hX
    have hM0 := hM
    obtain ⟨⟨m0, m1, m2, m3, m4, m5, m6⟩, mS⟩ := hM
    have hF : 1000 ≤ 1000 := Nat.le_refl _
    unfold fnX4_leaks fnX5_leaks
    rw [xs_within, xs_isHeat, lw0, lw60, ym_in, ym_isHeat, i0, i60]
    simp only [sx_c1, if1]
    by_cases g2 : rg a1 0 60 = true
    · rw [if_neg (not_not_intro g2), if_neg (not_not_intro g2)]
      by_cases g3 : rg a2 0 9 = true
      · rw [if_neg (not_not_intro g3), if_neg (not_not_intro g3)]
        obtain ⟨N, -, hN, rfl⟩ := rg_of (lo := 0) (hi := 60) g2
        obtain ⟨h, -, hh, rfl⟩ := rg_of (lo := 0) (hi := 9) g3
        obtain ⟨ki', se', a', b', e1, hX1⟩ := xs_become (F := 1000) (C := C) c1 ⟨x1, x2, x3, x4, rfl, rfl, rfl, rfl, rfl⟩ x_trial_kinds x_trial_seating x_trial_knows x_trial_seals x_trial_persons x_trial_wax x_trial_week x_trial_day x_trial_draw
        obtain ⟨a2', b2', c2', d2', e2, hX2⟩ := xc_days (F := 1000) (N := N) (h := h) hF (by omega) hC0 hh hN hX1 x_trial_telling
        obtain ⟨s', e3, hs'⟩ := ym_asides (F := 1000) hF m_now m_aside
        obtain ⟨w1, hd1, e4, hw1⟩ := ym_leaksIn (F := 1000) (N := N) (h := h) hF hh hN (by omega) hC0 hM0 m_heard s'
        rw [e1, e3]
        simp only [sx_c9]
        rw [e2, e4]
        exact ⟨_, _, _, _, _, _, _, _, _, _, _, _, _, _, rfl, rfl, hnow.m (fun j hj => by rw [hw1 j hj, hs' j hj])⟩
      · rw [if_pos g3, if_pos g3]; exact ⟨_, _, _, _, _, _, _, _, _, _, _, _, _, _, rfl, rfl, hnow⟩
    · rw [if_pos g2, if_pos g2]; exact ⟨_, _, _, _, _, _, _, _, _, _, _, _, _, _, rfl, rfl, hnow⟩
  obtain ⟨r, w_x_trial_kinds, w_x_trial_seating, w_x_trial_knows, w_x_trial_seals, w_x_trial_telling, w_x_trial_persons, w_x_trial_wax, w_x_trial_week, w_x_trial_day, w_x_trial_draw, v_m_now, v_m_heard, v_m_aside, e1, e2, khnow⟩ := key
  refine ⟨r, (x_now_kinds, x_now_seating, x_now_knows, x_now_seals, x_now_telling, x_now_persons, x_now_wax, x_now_week, x_now_day, x_now_draw, x_past_knows, x_past_seals, x_past_dates, x_past_draws, x_past_next, x_past_steps, x_imageCourt_kinds, x_imageCourt_seating, x_imageCourt_knows, x_imageCourt_seals, x_imageCourt_telling, x_imageCourt_persons, x_imageCourt_wax, x_imageCourt_week, x_imageCourt_day, x_imageCourt_draw, x_imagePast_knows, x_imagePast_seals, x_imagePast_dates, x_imagePast_draws, x_imagePast_next, x_imagePast_steps, x_imaged, w_x_trial_kinds, w_x_trial_seating, w_x_trial_knows, w_x_trial_seals, w_x_trial_telling, w_x_trial_persons, w_x_trial_wax, w_x_trial_week, w_x_trial_day, w_x_trial_draw, x_order, x_bestOrder, x_tape_letters, x_tape_length, x_tape_at, x_sl, x_sn, x_si), (v_m_now, m_tape, m_typed, m_place, m_isFault, m_read, v_m_heard, m_undone, m_undos, v_m_aside, m_kept, m_keptUndos, m_isKept, m_lanes, m_sizes, m_items, m_moved), ?_, ?_, khnow, himg, htape, hsheet⟩
  · unfold xo_leaks; simp only []; rw [e1]; rfl
  · unfold mo_leaks; simp only []; rw [e2]; rfl
def cc_fx (h t : Nat) : Nat → ctC → Nat
  | 0, _ => 0
  | k + 1, C => if ct_out (cc_sl C) (cc_n C) t then 0 else cc_fx h t k (cc_day C h) + 1
theorem cc_fx_s (h t k : Nat) (C : ctC) : cc_fx h t (k + 1) C = if ct_out (cc_sl C) (cc_n C) t then 0 else cc_fx h t k (cc_day C h) + 1 := rfl
theorem cc_fo_s (h t k : Nat) (C : ctC) : cc_fo h t (k + 1) C = if ct_out (cc_sl C) (cc_n C) t then some 0 else (cc_fo h t k (cc_day C h)).map (· + 1) := rfl
theorem cc_fo_0 (h t : Nat) (C : ctC) : cc_fo h t 0 C = if ct_out (cc_sl C) (cc_n C) t then some 0 else none := rfl
theorem cc_fx_fo (h t : Nat) : ∀ (k : Nat) (C : ctC), (∃ y, cc_fo h t k C = some y ∧ y ≤ k ∧ cc_fx h t (k + 1) C = y) ∨ (cc_fo h t k C = none ∧ cc_fx h t (k + 1) C = k + 1) := by
  intro k
  induction k with
  | zero =>
    intro C
    rw [cc_fx_s, cc_fo_0]
    by_cases z : ct_out (cc_sl C) (cc_n C) t = true
    · rw [if_pos z, if_pos z]; exact Or.inl ⟨0, rfl, Nat.le_refl _, rfl⟩
    · rw [if_neg z, if_neg z]; exact Or.inr ⟨rfl, rfl⟩
  | succ k ih =>
    intro C
    rw [cc_fx_s, cc_fo_s]
    by_cases z : ct_out (cc_sl C) (cc_n C) t = true
    · rw [if_pos z, if_pos z]; exact Or.inl ⟨0, rfl, Nat.zero_le _, rfl⟩
    · rw [if_neg z, if_neg z]
      rcases ih (cc_day C h) with ⟨y, e1, e2, e3⟩ | ⟨e1, e2⟩
      · rw [e1, e3]; exact Or.inl ⟨y + 1, rfl, by omega, rfl⟩
      · rw [e1, e2]; exact Or.inr ⟨rfl, rfl⟩
theorem ym_out_l {F h t : Nat} (hF : 1000 ≤ F) (hh : h ≤ 9) (ht : t < 8) (kf : Int32 → (Nat → Int32) → (Nat → Int32) → Option (Int32 × (Nat → Int32) × (Nat → Int32) × (Nat → Int32))) : ∀ k i, i + k = 61 → ∀ fuel, k < fuel → ∀ (C : ctC) (B : Nat) (w hd : Nat → Int32), B + k ≤ 100000 → cc_ok C B → cm_C C w → ∃ w' hd', sx_lp3 (bdX5_out_22 F (nI t) (nI h) kf) fuel (nI i) w hd = kf (nI (i + cc_fx h t k C)) w' hd' := by
  intro k
  induction k with
  | zero =>
    intro i hi fuel hf C B w hd hB hC hw
    obtain ⟨f, rfl⟩ : ∃ f, fuel = f + 1 := ⟨fuel - 1, by omega⟩
    rw [sx_lp3_1, bdX5_out_22, nm_61, if_pos (nI_leT (by omega) (by omega))]
    exact ⟨w, hd, rfl⟩
  | succ k ih =>
    intro i hi fuel hf C B w hd hB hC hw
    obtain ⟨f, rfl⟩ : ∃ f, fuel = f + 1 := ⟨fuel - 1, by omega⟩
    rw [sx_lp3_1, bdX5_out_22, nm_61, if_neg (nI_nleI (by omega) (by omega)), yd_out hF hC ht hw, cc_fx_s]
    simp only [sx_c1, sx_nm, if1]
    by_cases z : ct_out (cc_sl C) (cc_n C) t = true
    · rw [if_neg (not_not_intro z), if_pos z]; exact ⟨w, hd, rfl⟩
    · rw [if_pos z, if_neg z]
      obtain ⟨w1, hd1, e1, hw1⟩ := ym_goesBy (F := F) (h := h) hF (by omega) hC hh hw hd
      rw [e1]
      simp only [sx_c2, nI_1]
      obtain ⟨w', hd', q⟩ := ih (i + 1) (by omega) f (by omega) (cc_day C h) (B + 1) w1 hd1 (by omega) (cc_day_ok hC h) hw1
      exact ⟨w', hd', by rw [q, show i + 1 + cc_fx h t k (cc_day C h) = i + (cc_fx h t k (cc_day C h) + 1) by omega]⟩
theorem ag_out (a1 : Int32) (a2 : Int32) {X : SX} {M : SM} (h : LInv X M) : ∃ r X2 M2, xo_out 1000 a1 a2 X = some (r, X2) ∧ mo_out 1000 a1 a2 M = some (r, M2) ∧ LInv X2 M2 := by
  obtain ⟨x_now_kinds, x_now_seating, x_now_knows, x_now_seals, x_now_telling, x_now_persons, x_now_wax, x_now_week, x_now_day, x_now_draw, x_past_knows, x_past_seals, x_past_dates, x_past_draws, x_past_next, x_past_steps, x_imageCourt_kinds, x_imageCourt_seating, x_imageCourt_knows, x_imageCourt_seals, x_imageCourt_telling, x_imageCourt_persons, x_imageCourt_wax, x_imageCourt_week, x_imageCourt_day, x_imageCourt_draw, x_imagePast_knows, x_imagePast_seals, x_imagePast_dates, x_imagePast_draws, x_imagePast_next, x_imagePast_steps, x_imaged, x_trial_kinds, x_trial_seating, x_trial_knows, x_trial_seals, x_trial_telling, x_trial_persons, x_trial_wax, x_trial_week, x_trial_day, x_trial_draw, x_order, x_bestOrder, x_tape_letters, x_tape_length, x_tape_at, x_sl, x_sn, x_si⟩ := X
  obtain ⟨m_now, m_tape, m_typed, m_place, m_isFault, m_read, m_heard, m_undone, m_undos, m_aside, m_kept, m_keptUndos, m_isKept, m_lanes, m_sizes, m_items, m_moved⟩ := M
  obtain ⟨hnow, himg, htape, hsheet⟩ := h
  have key : ∃ (r : Int32) (w_x_trial_kinds : Nat → Int32) (w_x_trial_seating : Nat → Int32) (w_x_trial_knows : Nat → Int64) (w_x_trial_seals : Nat → Int64) (w_x_trial_telling : Nat → Int64) (w_x_trial_persons : Int32) (w_x_trial_wax : Int32) (w_x_trial_week : Int32) (w_x_trial_day : Int32) (w_x_trial_draw : Int32) (v_m_now : Nat → Int32) (v_m_heard : Nat → Int32) (v_m_aside : Nat → Int32), fnX4_out 1000 x_now_kinds x_now_seating x_now_knows x_now_seals x_now_persons x_now_wax x_now_week x_now_day x_now_draw x_trial_kinds x_trial_seating x_trial_knows x_trial_seals x_trial_telling x_trial_persons x_trial_wax x_trial_week x_trial_day x_trial_draw a1 a2 = some (r, w_x_trial_kinds, w_x_trial_seating, w_x_trial_knows, w_x_trial_seals, w_x_trial_telling, w_x_trial_persons, w_x_trial_wax, w_x_trial_week, w_x_trial_day, w_x_trial_draw) ∧ fnX5_out 1000 m_now m_heard m_aside a1 a2 = some (r, v_m_now, v_m_heard, v_m_aside) ∧ P_now x_now_kinds x_now_seating x_now_knows x_now_seals x_now_persons x_now_wax x_now_week x_now_day x_now_draw x_past_knows x_past_seals x_past_dates x_past_draws x_past_next x_past_steps v_m_now m_undone m_undos := by
    have hnow2 := hnow
    obtain ⟨C, k, hs, hC, hk, hX, hP, hM, hU, rfl⟩ := hnow2
    have hC0 := hC
    obtain ⟨c1, c2, c3, c4, c5, c6, c7, c8⟩ := hC
    obtain ⟨x1, x2, x3, x4, rfl, rfl, rfl, rfl, rfl⟩ := hX
    have hM0 := hM
    obtain ⟨⟨m0, m1, m2, m3, m4, m5, m6⟩, mS⟩ := hM
    have hF : 1000 ≤ 1000 := Nat.le_refl _
    unfold fnX4_out fnX5_out
    rw [xs_isThing, xs_isHeat, ym_isThing, ym_isHeat]
    simp only [sx_c1, if1, sx_lt]
    by_cases g1 : rg a1 0 7 = true
    · rw [if_neg (not_not_intro g1), if_neg (not_not_intro g1)]
      by_cases g3 : rg a2 0 9 = true
      · rw [if_neg (not_not_intro g3), if_neg (not_not_intro g3)]
        obtain ⟨t, -, ht, rfl⟩ := rg_of (lo := 0) (hi := 7) g1
        obtain ⟨h, -, hh, rfl⟩ := rg_of (lo := 0) (hi := 9) g3
        obtain ⟨ki', se', a', b', e1, hX1⟩ := xs_become (F := 1000) (C := C) c1 ⟨x1, x2, x3, x4, rfl, rfl, rfl, rfl, rfl⟩ x_trial_kinds x_trial_seating x_trial_knows x_trial_seals x_trial_persons x_trial_wax x_trial_week x_trial_day x_trial_draw
        obtain ⟨a2', b2', c2', d2', e2⟩ := xc_firstOut (F := 1000) (N := 60) (h := h) (t := t) hF (by omega) hC0 hh (by omega) (by omega) hX1 x_trial_telling
        obtain ⟨s', e3, hs'⟩ := ym_asides (F := 1000) hF m_now m_aside
        rw [e1, e3]
        simp only [sx_c9]
        rw [nm_60, e2]
        simp only [sx_c5]
        have hx := cc_fx_fo h t 60 C
        have H : ∃ r w' hd', sx_lp3 (bdX5_out_22 1000 (nI t) (nI h) (fun x9 z10 z11 => sx_c1 (fnX5_backs 1000 z10 s') (fun w12 => if x9 ≤ nI 60 then some (x9, w12, z11, s') else some (-4, w12, z11, s')))) 1000 0 m_now m_heard = some (r, w', hd', s') ∧ r = cc_fr 0 (cc_fo h t 60 C) ∧ ∀ j, j < 65 → w' j = s' j := by
          obtain ⟨w1, hd1, q⟩ := ym_out_l (F := 1000) (h := h) (t := t) hF hh (by omega) (fun x9 z10 z11 => sx_c1 (fnX5_backs 1000 z10 s') (fun w12 => if x9 ≤ nI 60 then some (x9, w12, z11, s') else some (-4, w12, z11, s'))) 61 0 (by omega) 1000 (by omega) C 9999 m_now m_heard (by omega) hC0 hM0
          rw [nm_0, q]
          obtain ⟨w2, e5, hw2⟩ := ym_backs (F := 1000) hF w1 s'
          simp only [e5, sx_c1]
          rcases hx with ⟨y, f1, f2, f3⟩ | ⟨f1, f2⟩
          · rw [f3, if_pos (nI_leT (by omega) (by omega)), f1]
            exact ⟨_, _, _, rfl, rfl, hw2⟩
          · rw [f2, if_neg (nI_nleI (by omega) (by omega)), f1]
            exact ⟨_, _, _, rfl, rfl, hw2⟩
        obtain ⟨r, w', hd', q1, q2, q3⟩ := H
        simp only [sx_c1] at q1
        rw [q1, q2]
        exact ⟨_, _, _, _, _, _, _, _, _, _, _, _, _, _, rfl, rfl, hnow.m (fun j hj => by rw [q3 j hj, hs' j hj])⟩
      · rw [if_pos g3, if_pos g3]; exact ⟨_, _, _, _, _, _, _, _, _, _, _, _, _, _, rfl, rfl, hnow⟩
    · rw [if_pos g1, if_pos g1]; exact ⟨_, _, _, _, _, _, _, _, _, _, _, _, _, _, rfl, rfl, hnow⟩
  obtain ⟨r, w_x_trial_kinds, w_x_trial_seating, w_x_trial_knows, w_x_trial_seals, w_x_trial_telling, w_x_trial_persons, w_x_trial_wax, w_x_trial_week, w_x_trial_day, w_x_trial_draw, v_m_now, v_m_heard, v_m_aside, e1, e2, khnow⟩ := key
  refine ⟨r, (x_now_kinds, x_now_seating, x_now_knows, x_now_seals, x_now_telling, x_now_persons, x_now_wax, x_now_week, x_now_day, x_now_draw, x_past_knows, x_past_seals, x_past_dates, x_past_draws, x_past_next, x_past_steps, x_imageCourt_kinds, x_imageCourt_seating, x_imageCourt_knows, x_imageCourt_seals, x_imageCourt_telling, x_imageCourt_persons, x_imageCourt_wax, x_imageCourt_week, x_imageCourt_day, x_imageCourt_draw, x_imagePast_knows, x_imagePast_seals, x_imagePast_dates, x_imagePast_draws, x_imagePast_next, x_imagePast_steps, x_imaged, w_x_trial_kinds, w_x_trial_seating, w_x_trial_knows, w_x_trial_seals, w_x_trial_telling, w_x_trial_persons, w_x_trial_wax, w_x_trial_week, w_x_trial_day, w_x_trial_draw, x_order, x_bestOrder, x_tape_letters, x_tape_length, x_tape_at, x_sl, x_sn, x_si), (v_m_now, m_tape, m_typed, m_place, m_isFault, m_read, v_m_heard, m_undone, m_undos, v_m_aside, m_kept, m_keptUndos, m_isKept, m_lanes, m_sizes, m_items, m_moved), ?_, ?_, khnow, himg, htape, hsheet⟩
  · unfold xo_out; simp only []; rw [e1]; rfl
  · unfold mo_out; simp only []; rw [e2]; rfl
theorem ag_cool_l {N : Nat} {C : ctC} {ki se : Nat → Int32} {a b : Nat → Int64} {pe wa we da dr : Int32} {s : Nat → Int32} (hN : N ≤ 60) (hC : cc_ok C 9999) (hX : cx_C C ki se a b pe wa we da dr) (hs : cm_C C s) : ∀ k, k ≤ 10 → ∀ fuel, k < fuel → ∀ (tk ts : Nat → Int32) (ta tb tc : Nat → Int64) (tp tw te td tr : Int32) (w hd : Nat → Int32), (∀ j, j < 65 → w j = s j) → ∃ r q w' hd', sx_lp11 (bdX4_cool_15 1000 (nI N) ki se a b pe wa we da dr) fuel (nI k + (-1)) tk ts ta tb tc tp tw te td tr = some (r, q) ∧ sx_lp3 (bdX5_cool_21 1000 (nI N) s) fuel (nI k + (-1)) w hd = some (r, w', hd', s) ∧ ∀ j, j < 65 → w' j = s j := by
  intro k
  induction k with
  | zero =>
    intro _ fuel hf tk ts ta tb tc tp tw te td tr w hd hw
    obtain ⟨f, rfl⟩ : ∃ f, fuel = f + 1 := ⟨fuel - 1, by omega⟩
    rw [sx_lp11_1, sx_lp3_1, bdX4_cool_15, bdX5_cool_21, show nI 0 + (-1) = (-1 : Int32) by decide +kernel, if_pos (by decide), if_pos (by decide)]
    exact ⟨_, _, _, _, rfl, rfl, hw⟩
  | succ k ih =>
    intro hk fuel hf tk ts ta tb tc tp tw te td tr w hd hw
    obtain ⟨f, rfl⟩ : ∃ f, fuel = f + 1 := ⟨fuel - 1, by omega⟩
    rw [sx_lp11_1, sx_lp3_1, bdX4_cool_15, bdX5_cool_21, nI_m1, if_neg (nI_pos (by omega)), if_neg (nI_pos (by omega))]
    obtain ⟨ki', se', a', b', e1, hX1⟩ := xs_become (F := 1000) hC.1 hX tk ts ta tb tp tw te td tr
    obtain ⟨r, a2, b2, c2, d2, e2, h1, h2⟩ := xc_until (F := 1000) (h := k) (N := N) (e := 1) (Nat.le_refl _) (by omega) hC (by omega) hN (by omega) hX1 tc
    obtain ⟨w2, hd2, e3, hw2⟩ := ym_leaksIn (F := 1000) (h := k) (N := N) (Nat.le_refl _) (by omega) hN (by omega) hC (hs.ext hC.1 hw) hd s
    have hle := cc_lks_le hC k N
    rw [← nm_1] at e2
    rw [e1, e3]
    simp only [sx_c9, sx_c3]
    rw [e2]
    simp only [sx_c5, sx_nm]
    by_cases z : cc_lks k N C = 0
    · obtain ⟨rfl, -⟩ := h1 (by omega)
      rw [if_pos (show nI (cc_lks k N C) = (0 : Int32) by rw [z]; exact nm_0.symm), if_pos (show nI (cc_lks k N C) = (0 : Int32) by rw [z]; exact nm_0.symm)]
      exact ⟨_, _, _, _, rfl, rfl, hw2⟩
    · obtain ⟨r', rfl, hr1, hr2⟩ := h2 (by omega)
      rw [if_neg (nI_nz (a := r') (by omega) (by omega)), if_neg (nI_nz (a := cc_lks k N C) (by omega) (by omega))]
      exact ih (by omega) f (by omega) _ _ _ _ _ _ _ _ _ _ _ _ hw2
theorem ag_cool (a1 : Int32) {X : SX} {M : SM} (h : LInv X M) : ∃ r X2 M2, xo_cool 1000 a1 X = some (r, X2) ∧ mo_cool 1000 a1 M = some (r, M2) ∧ LInv X2 M2 := by
  obtain ⟨x_now_kinds, x_now_seating, x_now_knows, x_now_seals, x_now_telling, x_now_persons, x_now_wax, x_now_week, x_now_day, x_now_draw, x_past_knows, x_past_seals, x_past_dates, x_past_draws, x_past_next, x_past_steps, x_imageCourt_kinds, x_imageCourt_seating, x_imageCourt_knows, x_imageCourt_seals, x_imageCourt_telling, x_imageCourt_persons, x_imageCourt_wax, x_imageCourt_week, x_imageCourt_day, x_imageCourt_draw, x_imagePast_knows, x_imagePast_seals, x_imagePast_dates, x_imagePast_draws, x_imagePast_next, x_imagePast_steps, x_imaged, x_trial_kinds, x_trial_seating, x_trial_knows, x_trial_seals, x_trial_telling, x_trial_persons, x_trial_wax, x_trial_week, x_trial_day, x_trial_draw, x_order, x_bestOrder, x_tape_letters, x_tape_length, x_tape_at, x_sl, x_sn, x_si⟩ := X
  obtain ⟨m_now, m_tape, m_typed, m_place, m_isFault, m_read, m_heard, m_undone, m_undos, m_aside, m_kept, m_keptUndos, m_isKept, m_lanes, m_sizes, m_items, m_moved⟩ := M
  obtain ⟨hnow, himg, htape, hsheet⟩ := h
  have key : ∃ (r : Int32) (w_x_trial_kinds : Nat → Int32) (w_x_trial_seating : Nat → Int32) (w_x_trial_knows : Nat → Int64) (w_x_trial_seals : Nat → Int64) (w_x_trial_telling : Nat → Int64) (w_x_trial_persons : Int32) (w_x_trial_wax : Int32) (w_x_trial_week : Int32) (w_x_trial_day : Int32) (w_x_trial_draw : Int32) (v_m_now : Nat → Int32) (v_m_heard : Nat → Int32) (v_m_aside : Nat → Int32), fnX4_cool 1000 x_now_kinds x_now_seating x_now_knows x_now_seals x_now_persons x_now_wax x_now_week x_now_day x_now_draw x_trial_kinds x_trial_seating x_trial_knows x_trial_seals x_trial_telling x_trial_persons x_trial_wax x_trial_week x_trial_day x_trial_draw a1 = some (r, w_x_trial_kinds, w_x_trial_seating, w_x_trial_knows, w_x_trial_seals, w_x_trial_telling, w_x_trial_persons, w_x_trial_wax, w_x_trial_week, w_x_trial_day, w_x_trial_draw) ∧ fnX5_cool 1000 m_now m_heard m_aside a1 = some (r, v_m_now, v_m_heard, v_m_aside) ∧ P_now x_now_kinds x_now_seating x_now_knows x_now_seals x_now_persons x_now_wax x_now_week x_now_day x_now_draw x_past_knows x_past_seals x_past_dates x_past_draws x_past_next x_past_steps v_m_now m_undone m_undos := by
    have hnow2 := hnow
    obtain ⟨C, k, hs, hC, hk, hX, hP, hM, hU, rfl⟩ := hnow2
    have hC0 := hC
    obtain ⟨c1, c2, c3, c4, c5, c6, c7, c8⟩ := hC
    obtain ⟨x1, x2, x3, x4, rfl, rfl, rfl, rfl, rfl⟩ := hX
    have hM0 := hM
    obtain ⟨⟨m0, m1, m2, m3, m4, m5, m6⟩, mS⟩ := hM
    have hF : 1000 ≤ 1000 := Nat.le_refl _
    unfold fnX4_cool fnX5_cool
    rw [xs_within, lw1, lw30, ym_in, i1, i30]
    simp only [sx_c1, if1]
    by_cases g1 : rg a1 1 30 = true
    · rw [if_neg (not_not_intro g1), if_neg (not_not_intro g1)]
      obtain ⟨N, -, hN, rfl⟩ := rg_of (lo := 1) (hi := 30) g1
      obtain ⟨s', e3, hs'⟩ := ym_asides (F := 1000) hF m_now m_aside
      rw [e3]
      simp only []
      obtain ⟨r, ⟨q1, q2, q3, q4, q5, q6, q7, q8, q9, q10⟩, w', hd', e1, e2, hw'⟩ := ag_cool_l (N := N) (by omega) hC0 ⟨x1, x2, x3, x4, rfl, rfl, rfl, rfl, rfl⟩ (hM0.ext c1 hs') 10 (by omega) 1000 (by omega) x_trial_kinds x_trial_seating x_trial_knows x_trial_seals x_trial_telling x_trial_persons x_trial_wax x_trial_week x_trial_day x_trial_draw m_now m_heard (fun j hj => (hs' j hj).symm)
      rw [show nI 10 + (-1) = (9 : Int32) by decide +kernel] at e1 e2
      rw [e1, e2]
      exact ⟨_, _, _, _, _, _, _, _, _, _, _, _, _, _, rfl, rfl, hnow.m (fun j hj => by rw [hw' j hj, hs' j hj])⟩
    · rw [if_pos g1, if_pos g1]; exact ⟨_, _, _, _, _, _, _, _, _, _, _, _, _, _, rfl, rfl, hnow⟩
  obtain ⟨r, w_x_trial_kinds, w_x_trial_seating, w_x_trial_knows, w_x_trial_seals, w_x_trial_telling, w_x_trial_persons, w_x_trial_wax, w_x_trial_week, w_x_trial_day, w_x_trial_draw, v_m_now, v_m_heard, v_m_aside, e1, e2, khnow⟩ := key
  refine ⟨r, (x_now_kinds, x_now_seating, x_now_knows, x_now_seals, x_now_telling, x_now_persons, x_now_wax, x_now_week, x_now_day, x_now_draw, x_past_knows, x_past_seals, x_past_dates, x_past_draws, x_past_next, x_past_steps, x_imageCourt_kinds, x_imageCourt_seating, x_imageCourt_knows, x_imageCourt_seals, x_imageCourt_telling, x_imageCourt_persons, x_imageCourt_wax, x_imageCourt_week, x_imageCourt_day, x_imageCourt_draw, x_imagePast_knows, x_imagePast_seals, x_imagePast_dates, x_imagePast_draws, x_imagePast_next, x_imagePast_steps, x_imaged, w_x_trial_kinds, w_x_trial_seating, w_x_trial_knows, w_x_trial_seals, w_x_trial_telling, w_x_trial_persons, w_x_trial_wax, w_x_trial_week, w_x_trial_day, w_x_trial_draw, x_order, x_bestOrder, x_tape_letters, x_tape_length, x_tape_at, x_sl, x_sn, x_si), (v_m_now, m_tape, m_typed, m_place, m_isFault, m_read, v_m_heard, m_undone, m_undos, v_m_aside, m_kept, m_keptUndos, m_isKept, m_lanes, m_sizes, m_items, m_moved), ?_, ?_, khnow, himg, htape, hsheet⟩
  · unfold xo_cool; simp only []; rw [e1]; rfl
  · unfold mo_cool; simp only []; rw [e2]; rfl
def cc_rw (C : ctC) (x : Nat) : ctC := (cc_n C, cc_kd C, cc_st C, ct_rn (cc_sl C) x, x, cc_wk C, cc_dy C, cc_dr C)
theorem cc_rw_ok {C : ctC} {B x : Nat} (hC : cc_ok C B) (h1 : 1 ≤ x) (h9 : x ≤ 9) : cc_ok (cc_rw C x) B := by
  obtain ⟨c1, c2, c3, c4, c5, c6, c7, c8⟩ := hC
  exact ⟨c1, c2, c3, ct_rn_sl _ h9, ⟨h1, h9⟩, c6, c7, c8⟩
theorem ag_thick_l {N h : Nat} {C : ctC} {ki se : Nat → Int32} {a b : Nat → Int64} {pe wa we da dr : Int32} {s : Nat → Int32} (hN : N ≤ 60) (hh : h ≤ 9) (hC : cc_ok C 9999) (hX : cx_C C ki se a b pe wa we da dr) (hs : cm_C C s) : ∀ k i, i + k = 10 → 1 ≤ i → ∀ fuel, k < fuel → ∀ (tk ts : Nat → Int32) (ta tb tc : Nat → Int64) (tp tw te td tr : Int32) (w hd : Nat → Int32), (∀ j, j < 65 → w j = s j) → ∃ r q w' hd', sx_lp11 (bdX4_thick_21 1000 (nI N) (nI h) ki se a b pe wa we da dr) fuel (nI i) tk ts ta tb tc tp tw te td tr = some (r, q) ∧ sx_lp3 (bdX5_thick_27 1000 (nI N) (nI h) s) fuel (nI i) w hd = some (r, w', hd', s) ∧ ∀ j, j < 65 → w' j = s j := by
  intro k
  induction k with
  | zero =>
    intro i hi _ fuel hf tk ts ta tb tc tp tw te td tr w hd hw
    obtain ⟨f, rfl⟩ : ∃ f, fuel = f + 1 := ⟨fuel - 1, by omega⟩
    rw [sx_lp11_1, sx_lp3_1, bdX4_thick_21, bdX5_thick_27, nm_9, nm_10, if_pos ((nI_ltI (by omega) (by omega)).mpr (by omega)), if_pos (nI_leT (by omega) (by omega))]
    exact ⟨_, _, _, _, rfl, rfl, hw⟩
  | succ k ih =>
    intro i hi hi1 fuel hf tk ts ta tb tc tp tw te td tr w hd hw
    obtain ⟨f, rfl⟩ : ∃ f, fuel = f + 1 := ⟨fuel - 1, by omega⟩
    rw [sx_lp11_1, sx_lp3_1, bdX4_thick_21, bdX5_thick_27, nm_9, nm_10, if_neg (fun q => absurd ((nI_ltI (a := 9) (b := i) (by omega) (by omega)).mp q) (by omega)), if_neg (nI_nleI (by omega) (by omega))]
    have okr := cc_rw_ok (x := i) hC hi1 (by omega)
    obtain ⟨ki', se', a', b', e1, hX1⟩ := xs_become (F := 1000) hC.1 hX tk ts ta tb tp tw te td tr
    obtain ⟨x1, x2, x3, x4, x5, x6, x7, x8, x9⟩ := hX1
    obtain ⟨b2, e2, hb2⟩ := xs_renewAll (F := 1000) (wax := i) (Nat.le_refl _) hC.1 (by omega) x3 b'
    have hX2 : cx_C (cc_rw C i) ki' se' a' b2 pe (nI i) we da dr := ⟨x1, x2, fun p hp => by
      show a' p = lN (mp_P (cx_kn (ct_rn (cc_sl C) i) p))
      rw [ct_rn_kn]; exact x3 p hp, hb2, x5, rfl, x7, x8, x9⟩
    obtain ⟨r, a3, b3, c3, d3, e3, h1, h2⟩ := xc_until (F := 1000) (h := h) (N := N) (e := 1) (Nat.le_refl _) (by omega) okr hh hN (by omega) hX2 tc
    have hM := hs.ext hC.1 hw
    obtain ⟨w1, e4, k1, k2⟩ := ym_renews (F := 1000) (wax := i) (w := upd w 2 (nI i)) (Nat.le_refl _) hC.1 (by omega) hC.2.2.2.1 (by rw [pu_ne (by omega)]; exact hM.1.1) (fun p hp t ht => by rw [pu_ne (by omega)]; exact hM.2 p hp t ht)
    have hM1 : cm_C (cc_rw C i) w1 := by
      obtain ⟨⟨m0, m1, m2, m3, m4, m5, m6⟩, mS⟩ := hM
      refine ⟨⟨?_, ?_, ?_, ?_, ?_, fun p hp => ?_, fun p hp => ?_⟩, k2⟩
      · rw [k1 0 (by omega), pu_ne (by omega)]; exact m0
      · rw [k1 1 (by omega), pu_ne (by omega)]; exact m1
      · rw [k1 2 (by omega), pu_same]; rfl
      · rw [k1 3 (by omega), pu_ne (by omega)]; exact m3
      · rw [k1 4 (by omega), pu_ne (by omega)]; exact m4
      · have hp' : p < cc_n C := hp
        have := hC.1
        rw [k1 _ (by omega), pu_ne (by omega)]; exact m5 p hp
      · have hp' : p < cc_n C := hp
        have := hC.1
        rw [k1 _ (by omega), pu_ne (by omega)]; exact m6 p hp
    obtain ⟨w2, hd2, e5, hw2⟩ := ym_leaksIn (F := 1000) (h := h) (N := N) (Nat.le_refl _) hh hN (by omega) okr hM1 hd s
    have hle := cc_lks_le okr h N
    rw [← nm_1] at e3
    rw [e1, sx_n2, e4]
    simp only [sx_c9, sx_c1]
    rw [x5] at e3 ⊢
    rw [e2, e5]
    simp only [sx_c3]
    rw [e3]
    simp only [sx_c5, sx_nm, nI_1]
    by_cases z : cc_lks h N (cc_rw C i) = 0
    · obtain ⟨rfl, -⟩ := h1 (by omega)
      rw [if_pos (show nI (cc_lks h N (cc_rw C i)) = (0 : Int32) by rw [z]; exact nm_0.symm), if_pos (show nI (cc_lks h N (cc_rw C i)) = (0 : Int32) by rw [z]; exact nm_0.symm)]
      exact ⟨_, _, _, _, rfl, rfl, hw2⟩
    · obtain ⟨r', rfl, hr1, hr2⟩ := h2 (by omega)
      rw [if_neg (nI_nz (a := r') (by omega) (by omega)), if_neg (nI_nz (a := cc_lks h N (cc_rw C i)) (by omega) (by omega))]
      rw [← x5]
      exact ih (i + 1) (by omega) (by omega) f (by omega) _ _ _ _ _ _ _ _ _ _ _ _ hw2
theorem ag_thick (a1 : Int32) (a2 : Int32) {X : SX} {M : SM} (h : LInv X M) : ∃ r X2 M2, xo_thick 1000 a1 a2 X = some (r, X2) ∧ mo_thick 1000 a1 a2 M = some (r, M2) ∧ LInv X2 M2 := by
  obtain ⟨x_now_kinds, x_now_seating, x_now_knows, x_now_seals, x_now_telling, x_now_persons, x_now_wax, x_now_week, x_now_day, x_now_draw, x_past_knows, x_past_seals, x_past_dates, x_past_draws, x_past_next, x_past_steps, x_imageCourt_kinds, x_imageCourt_seating, x_imageCourt_knows, x_imageCourt_seals, x_imageCourt_telling, x_imageCourt_persons, x_imageCourt_wax, x_imageCourt_week, x_imageCourt_day, x_imageCourt_draw, x_imagePast_knows, x_imagePast_seals, x_imagePast_dates, x_imagePast_draws, x_imagePast_next, x_imagePast_steps, x_imaged, x_trial_kinds, x_trial_seating, x_trial_knows, x_trial_seals, x_trial_telling, x_trial_persons, x_trial_wax, x_trial_week, x_trial_day, x_trial_draw, x_order, x_bestOrder, x_tape_letters, x_tape_length, x_tape_at, x_sl, x_sn, x_si⟩ := X
  obtain ⟨m_now, m_tape, m_typed, m_place, m_isFault, m_read, m_heard, m_undone, m_undos, m_aside, m_kept, m_keptUndos, m_isKept, m_lanes, m_sizes, m_items, m_moved⟩ := M
  obtain ⟨hnow, himg, htape, hsheet⟩ := h
  have key : ∃ (r : Int32) (w_x_trial_kinds : Nat → Int32) (w_x_trial_seating : Nat → Int32) (w_x_trial_knows : Nat → Int64) (w_x_trial_seals : Nat → Int64) (w_x_trial_telling : Nat → Int64) (w_x_trial_persons : Int32) (w_x_trial_wax : Int32) (w_x_trial_week : Int32) (w_x_trial_day : Int32) (w_x_trial_draw : Int32) (v_m_now : Nat → Int32) (v_m_heard : Nat → Int32) (v_m_aside : Nat → Int32), fnX4_thick 1000 x_now_kinds x_now_seating x_now_knows x_now_seals x_now_persons x_now_wax x_now_week x_now_day x_now_draw x_trial_kinds x_trial_seating x_trial_knows x_trial_seals x_trial_telling x_trial_persons x_trial_wax x_trial_week x_trial_day x_trial_draw a1 a2 = some (r, w_x_trial_kinds, w_x_trial_seating, w_x_trial_knows, w_x_trial_seals, w_x_trial_telling, w_x_trial_persons, w_x_trial_wax, w_x_trial_week, w_x_trial_day, w_x_trial_draw) ∧ fnX5_thick 1000 m_now m_heard m_aside a1 a2 = some (r, v_m_now, v_m_heard, v_m_aside) ∧ P_now x_now_kinds x_now_seating x_now_knows x_now_seals x_now_persons x_now_wax x_now_week x_now_day x_now_draw x_past_knows x_past_seals x_past_dates x_past_draws x_past_next x_past_steps v_m_now m_undone m_undos := by
    have hnow2 := hnow
    obtain ⟨C, k, hs, hC, hk, hX, hP, hM, hU, rfl⟩ := hnow2
    have hC0 := hC
    obtain ⟨c1, c2, c3, c4, c5, c6, c7, c8⟩ := hC
    obtain ⟨x1, x2, x3, x4, rfl, rfl, rfl, rfl, rfl⟩ := hX
    have hM0 := hM
    obtain ⟨⟨m0, m1, m2, m3, m4, m5, m6⟩, mS⟩ := hM
    have hF : 1000 ≤ 1000 := Nat.le_refl _
    unfold fnX4_thick fnX5_thick
    rw [xs_within, xs_isHeat, lw1, lw30, ym_in, ym_isHeat, i1, i30]
    simp only [sx_c1, if1]
    by_cases g1 : rg a1 1 30 = true
    · rw [if_neg (not_not_intro g1), if_neg (not_not_intro g1)]
      by_cases g3 : rg a2 0 9 = true
      · rw [if_neg (not_not_intro g3), if_neg (not_not_intro g3)]
        obtain ⟨N, -, hN, rfl⟩ := rg_of (lo := 1) (hi := 30) g1
        obtain ⟨h, -, hh, rfl⟩ := rg_of (lo := 0) (hi := 9) g3
        obtain ⟨s', e3, hs'⟩ := ym_asides (F := 1000) hF m_now m_aside
        rw [e3]
        simp only []
        obtain ⟨r, ⟨q1, q2, q3, q4, q5, q6, q7, q8, q9, q10⟩, w', hd', e1, e2, hw'⟩ := ag_thick_l (N := N) (h := h) (by omega) hh hC0 ⟨x1, x2, x3, x4, rfl, rfl, rfl, rfl, rfl⟩ (hM0.ext c1 hs') 9 1 (by omega) (by omega) 1000 (by omega) x_trial_kinds x_trial_seating x_trial_knows x_trial_seals x_trial_telling x_trial_persons x_trial_wax x_trial_week x_trial_day x_trial_draw m_now m_heard (fun j hj => (hs' j hj).symm)
        rw [← nm_1] at e1 e2
        rw [e1, e2]
        exact ⟨_, _, _, _, _, _, _, _, _, _, _, _, _, _, rfl, rfl, hnow.m (fun j hj => by rw [hw' j hj, hs' j hj])⟩
      · rw [if_pos g3, if_pos g3]; exact ⟨_, _, _, _, _, _, _, _, _, _, _, _, _, _, rfl, rfl, hnow⟩
    · rw [if_pos g1, if_pos g1]; exact ⟨_, _, _, _, _, _, _, _, _, _, _, _, _, _, rfl, rfl, hnow⟩
  obtain ⟨r, w_x_trial_kinds, w_x_trial_seating, w_x_trial_knows, w_x_trial_seals, w_x_trial_telling, w_x_trial_persons, w_x_trial_wax, w_x_trial_week, w_x_trial_day, w_x_trial_draw, v_m_now, v_m_heard, v_m_aside, e1, e2, khnow⟩ := key
  refine ⟨r, (x_now_kinds, x_now_seating, x_now_knows, x_now_seals, x_now_telling, x_now_persons, x_now_wax, x_now_week, x_now_day, x_now_draw, x_past_knows, x_past_seals, x_past_dates, x_past_draws, x_past_next, x_past_steps, x_imageCourt_kinds, x_imageCourt_seating, x_imageCourt_knows, x_imageCourt_seals, x_imageCourt_telling, x_imageCourt_persons, x_imageCourt_wax, x_imageCourt_week, x_imageCourt_day, x_imageCourt_draw, x_imagePast_knows, x_imagePast_seals, x_imagePast_dates, x_imagePast_draws, x_imagePast_next, x_imagePast_steps, x_imaged, w_x_trial_kinds, w_x_trial_seating, w_x_trial_knows, w_x_trial_seals, w_x_trial_telling, w_x_trial_persons, w_x_trial_wax, w_x_trial_week, w_x_trial_day, w_x_trial_draw, x_order, x_bestOrder, x_tape_letters, x_tape_length, x_tape_at, x_sl, x_sn, x_si), (v_m_now, m_tape, m_typed, m_place, m_isFault, m_read, v_m_heard, m_undone, m_undos, v_m_aside, m_kept, m_keptUndos, m_isKept, m_lanes, m_sizes, m_items, m_moved), ?_, ?_, khnow, himg, htape, hsheet⟩
  · unfold xo_thick; simp only []; rw [e1]; rfl
  · unfold mo_thick; simp only []; rw [e2]; rfl
