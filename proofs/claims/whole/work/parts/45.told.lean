-- TOLD, FILM
theorem lw24 : (24 : Int64) = (24 : Int32).toInt64 := by decide
theorem i24 : (24 : Int32).toInt = 24 := by decide
theorem P_sheet.it_ {sl sn : Nat → Int32} {si : Nat → Nat → Int64} {la sz : Nat → Int32} {it : Nat → Int64} (hP : P_sheet sl sn si la sz it) {s l : Nat} (hs : s < 4) (hl : l < 4) (h : sl s = nI l) : ∀ j, j < 24 → si s j = it (24 * s + j) := by
  obtain ⟨-, q⟩ := hP s hs
  rcases q with q | ⟨-, -, -, q⟩
  · rw [h] at q; exact absurd q (nI_nm1 hl)
  · exact q
def tl_b (h t : Nat) (g : Nat → Int64) : Nat → Nat → ctC → Bool
  | 0, _, _ => true
  | k + 1, d, C => decide (g d = lN (ct_who (cc_sl (cc_day C h)) t (cc_n (cc_day C h)))) && tl_b h t g k (d + 1) (cc_day C h)
theorem tl_y {h t k d : Nat} {g : Nat → Int64} {C : ctC} (z : g d = lN (ct_who (cc_sl (cc_day C h)) t (cc_n (cc_day C h)))) : tl_b h t g (k + 1) d C = tl_b h t g k (d + 1) (cc_day C h) := by
  show (decide _ && _) = _
  rw [decide_eq_true z, Bool.true_and]
theorem tl_n {h t k d : Nat} {g : Nat → Int64} {C : ctC} (z : ¬ g d = lN (ct_who (cc_sl (cc_day C h)) t (cc_n (cc_day C h)))) : tl_b h t g (k + 1) d C = false := by
  show (decide _ && _) = _
  rw [decide_eq_false z, Bool.false_and]
theorem who_l {n t : Nat} (hn : n ≤ 6) (sl : Nat → Nat → Nat) : (nI (ct_who sl t n)).toInt64 = lN (ct_who sl t n) := nI_l (by have := who_64 (t := t) hn sl; omega)
theorem xt_l {F h t i N : Nat} {ki se : Nat → Int32} {pe wa we dr : Int32} {g G : Nat → Int64} (hF : 1000 ≤ F) (hh : h ≤ 9) (ht : t < 8) (hi : i + N ≤ 24) (hG : ∀ d, d < N → g (i + d) = G d) : ∀ k d, d + k = N → ∀ fuel, k < fuel → ∀ (C : ctC) (B : Nat) (a b c : Nat → Int64) (da : Int32), B + k ≤ 100000 → cc_ok C B → cx_C C ki se a b pe wa we da dr → ∃ tk' ts' ta' tb' tc' tp' tw' te' td' tr', sx_lp5 (bdX4_wouldBeAsTold_14 F (nI t) (nI i) (nI N) (nI h) ki se pe wa we dr g) fuel (nI d) a b c da = some (if tl_b h t G k d C = true then 1 else 0, tk', ts', ta', tb', tc', tp', tw', te', td', tr') := by
  intro k
  induction k with
  | zero =>
    intro d hd fuel hf C B a b c da hB hC hX
    obtain ⟨f, rfl⟩ : ∃ f, fuel = f + 1 := ⟨fuel - 1, by omega⟩
    rw [sx_lp5_1, bdX4_wouldBeAsTold_14, if_pos (nI_leT (by omega) (by omega))]
    exact ⟨_, _, _, _, _, _, _, _, _, _, rfl⟩
  | succ k ih =>
    intro d hd fuel hf C B a b c da hB hC hX
    obtain ⟨f, rfl⟩ : ∃ f, fuel = f + 1 := ⟨fuel - 1, by omega⟩
    obtain ⟨a1, b1, c1, d1, e1, hX1⟩ := xc_live (F := F) (h := h) hF (by omega) hC hh hX c
    have ok := cc_day_ok hC h
    rw [sx_lp5_1, bdX4_wouldBeAsTold_14, if_neg (nI_nleI (by omega) (by omega)), e1]
    simp only [sx_c5]
    rw [nI_add, sx_gd_e (nm_ib (by omega)), xd_who hF ok ht hX1, nI_clamp (by omega), hG d (by omega)]
    simp only [sx_c1, sx_nm, nI_1, lg_eq, who_l ok.1]
    by_cases z : G d = lN (ct_who (cc_sl (cc_day C h)) t (cc_n (cc_day C h)))
    · rw [if_pos z, tl_y z]
      exact ih (d + 1) (by omega) f (by omega) (cc_day C h) (B + 1) a1 b1 c1 d1 (by omega) ok hX1
    · rw [if_neg z, tl_n z]
      exact ⟨_, _, _, _, _, _, _, _, _, _, rfl⟩
theorem yt_l {F h t s i N : Nat} {it : Nat → Int64} (hF : 1000 ≤ F) (hh : h ≤ 9) (ht : t < 8) (hs : s < 4) (hi : i + N ≤ 24) : ∀ k d, d + k = N → ∀ fuel, k < fuel → ∀ (fl : Bool) (C : ctC) (B : Nat) (w hd : Nat → Int32), B + k ≤ 100000 → cc_ok C B → cm_C C w → ∃ w' hd', ∀ kf, sx_lp4 (bdX5_told_79 F (nI t) (nI s) (nI i) (nI N) (nI h) it kf) fuel (if fl = true then 1 else 0) (nI d) w hd = kf (if (fl && tl_b h t (fun d => it (24 * s + i + d)) k d C) = true then 1 else 0) w' hd' := by
  intro k
  induction k with
  | zero =>
    intro d hd fuel hf fl C B w hd0 hB hC hw
    obtain ⟨f, rfl⟩ : ∃ f, fuel = f + 1 := ⟨fuel - 1, by omega⟩
    refine ⟨w, hd0, fun kf => ?_⟩
    rw [sx_lp4_1, bdX5_told_79, if_pos (nI_leT (by omega) (by omega)), show tl_b h t (fun d => it (24 * s + i + d)) 0 d C = true from rfl, Bool.and_true]
  | succ k ih =>
    intro d hd fuel hf fl C B w hd0 hB hC hw
    obtain ⟨f, rfl⟩ : ∃ f, fuel = f + 1 := ⟨fuel - 1, by omega⟩
    obtain ⟨w1, hd1, e1, hw1⟩ := ym_goesBy (F := F) (h := h) hF (by omega) hC hh hw hd0
    have ok := cc_day_ok hC h
    have go : ∀ fl2 : Bool, (fl && tl_b h t (fun d => it (24 * s + i + d)) (k + 1) d C) = (fl2 && tl_b h t (fun d => it (24 * s + i + d)) k (d + 1) (cc_day C h)) → (∀ kf, sx_lp4 (bdX5_told_79 F (nI t) (nI s) (nI i) (nI N) (nI h) it kf) (f + 1) (if fl = true then 1 else 0) (nI d) w hd0 = sx_lp4 (bdX5_told_79 F (nI t) (nI s) (nI i) (nI N) (nI h) it kf) f (if fl2 = true then 1 else 0) (nI (d + 1)) w1 hd1) → ∃ w' hd', ∀ kf, sx_lp4 (bdX5_told_79 F (nI t) (nI s) (nI i) (nI N) (nI h) it kf) (f + 1) (if fl = true then 1 else 0) (nI d) w hd0 = kf (if (fl && tl_b h t (fun d => it (24 * s + i + d)) (k + 1) d C) = true then 1 else 0) w' hd' := by
      intro fl2 h1 h2
      obtain ⟨w', hd', q⟩ := ih (d + 1) (by omega) f (by omega) fl2 (cc_day C h) (B + 1) w1 hd1 (by omega) ok hw1
      exact ⟨w', hd', fun kf => by rw [h2 kf, q kf, h1]⟩
    cases fl with
    | false =>
      refine go false (by rw [Bool.false_and, Bool.false_and]) (fun kf => ?_)
      rw [sx_lp4_1, bdX5_told_79, if_neg (nI_nleI (by omega) (by omega)), e1]
      simp only [sx_c2, sx_lt, sx_nm, nI_1]
      rfl
    | true =>
      have one : ∀ kf, sx_lp4 (bdX5_told_79 F (nI t) (nI s) (nI i) (nI N) (nI h) it kf) (f + 1) (if true = true then 1 else 0) (nI d) w hd0 = if it (24 * s + i + d) = lN (ct_who (cc_sl (cc_day C h)) t (cc_n (cc_day C h))) then sx_lp4 (bdX5_told_79 F (nI t) (nI s) (nI i) (nI N) (nI h) it kf) f 1 (nI (d + 1)) w1 hd1 else sx_lp4 (bdX5_told_79 F (nI t) (nI s) (nI i) (nI N) (nI h) it kf) f 0 (nI (d + 1)) w1 hd1 := by
        intro kf
        rw [sx_lp4_1, bdX5_told_79, if_neg (nI_nleI (by omega) (by omega)), e1]
        simp only [sx_c2, sx_lt, sx_nm, nI_1, if_true]
        rw [if_neg (show ¬ (1 : Int32) = 0 by decide), yd_who hF ok ht hw1]
        simp only [sx_c1]
        rw [ix24b, sx_gd_e (nm_ib (by omega)), nI_clamp (by omega), who_l ok.1]
        simp only [lg_eq]
        by_cases z : it (24 * s + i + d) = lN (ct_who (cc_sl (cc_day C h)) t (cc_n (cc_day C h)))
        · rw [if_pos z, if_pos z.symm]
        · rw [if_neg z, if_neg (fun q => z q.symm)]
      by_cases z : it (24 * s + i + d) = lN (ct_who (cc_sl (cc_day C h)) t (cc_n (cc_day C h)))
      · refine go true (by rw [tl_y (g := fun d => it (24 * s + i + d)) z]) (fun kf => ?_)
        rw [one kf, if_pos z]; rfl
      · refine go false (by rw [tl_n (g := fun d => it (24 * s + i + d)) z, Bool.and_false, Bool.false_and]) (fun kf => ?_)
        rw [one kf, if_neg z]; rfl
theorem xs_wb {h t i N : Nat} {C : ctC} {ki se : Nat → Int32} {a b : Nat → Int64} {pe wa we da dr : Int32} {g G : Nat → Int64} (hh : h ≤ 9) (ht : t < 8) (hi : i + N ≤ 24) (hG : ∀ d, d < N → g (i + d) = G d) (hC : cc_ok C 9999) (hX : cx_C C ki se a b pe wa we da dr) (tk ts : Nat → Int32) (ta tb tc : Nat → Int64) (tp tw te td tr : Int32) : ∃ tk' ts' ta' tb' tc' tp' tw' te' td' tr', fnX4_wouldBeAsTold 1000 ki se a b pe wa we da dr tk ts ta tb tc tp tw te td tr g (nI t) (nI i) (nI N) (nI h) = some (if tl_b h t G N 0 C = true then 1 else 0, tk', ts', ta', tb', tc', tp', tw', te', td', tr') := by
  obtain ⟨ki', se', a', b', e1, hX1⟩ := xs_become (F := 1000) hC.1 hX tk ts ta tb tp tw te td tr
  obtain ⟨tk1, ts1, ta1, tb1, tc1, tp1, tw1, te1, td1, tr1, e2⟩ := xt_l (F := 1000) (h := h) (t := t) (i := i) (N := N) (Nat.le_refl _) hh ht hi hG N 0 (by omega) 1000 (by omega) C 9999 a' b' tc da (by omega) hC hX1
  unfold fnX4_wouldBeAsTold
  rw [e1]
  simp only [sx_c9]
  rw [nm_0, e2]
  exact ⟨_, _, _, _, _, _, _, _, _, _, rfl⟩
theorem ag_told_l {t s i N : Nat} {C : ctC} {ki se : Nat → Int32} {a b : Nat → Int64} {pe wa we da dr : Int32} {si : Nat → Nat → Int64} {it : Nat → Int64} {as : Nat → Int32} (ht : t < 8) (hs : s < 4) (hi : i + N ≤ 24) (hG : ∀ j, j < 24 → si s j = it (24 * s + j)) (hC : cc_ok C 9999) (hX : cx_C C ki se a b pe wa we da dr) (has : cm_C C as) : ∀ k h, h + k = 10 → ∀ fuel, k < fuel → ∀ (v : Int32) (tk ts : Nat → Int32) (ta tb tc : Nat → Int64) (tp tw te td tr : Int32) (w hd : Nat → Int32), (∀ j, j < 65 → w j = as j) → ∃ r tk' ts' ta' tb' tc' tp' tw' te' td' tr' w' hd', sx_lp12 (bdX4_told_64 1000 (nI t) (nI s) (nI i) (nI N) ki se a b pe wa we da dr si) fuel v (nI h) tk ts ta tb tc tp tw te td tr = some (r, tk', ts', ta', tb', tc', tp', tw', te', td', tr') ∧ sx_lp4 (bdX5_told_66 1000 (nI t) (nI s) (nI i) (nI N) as it) fuel v (nI h) w hd = some (r, w', hd', as) ∧ ∀ j, j < 65 → w' j = as j := by
  intro k
  induction k with
  | zero =>
    intro h hk fuel hf v tk ts ta tb tc tp tw te td tr w hd hw
    obtain ⟨f, rfl⟩ : ∃ f, fuel = f + 1 := ⟨fuel - 1, by omega⟩
    rw [sx_lp12_1, sx_lp4_1, bdX4_told_64, bdX5_told_66, nm_9, nm_10, if_pos ((nI_ltI (by omega) (by omega)).mpr (by omega)), if_pos (nI_leT (by omega) (by omega))]
    exact ⟨_, _, _, _, _, _, _, _, _, _, _, _, _, rfl, rfl, hw⟩
  | succ k ih =>
    intro h hk fuel hf v tk ts ta tb tc tp tw te td tr w hd hw
    obtain ⟨f, rfl⟩ : ∃ f, fuel = f + 1 := ⟨fuel - 1, by omega⟩
    obtain ⟨tk1, ts1, ta1, tb1, tc1, tp1, tw1, te1, td1, tr1, e1⟩ := xs_wb (h := h) (t := t) (i := i) (N := N) (g := si s) (G := fun d => it (24 * s + i + d)) (by omega) ht hi (fun d hd => by rw [hG _ (by omega), show 24 * s + (i + d) = 24 * s + i + d by omega]) hC hX tk ts ta tb tc tp tw te td tr
    obtain ⟨w1, hd1, q⟩ := yt_l (F := 1000) (h := h) (t := t) (s := s) (i := i) (N := N) (it := it) (Nat.le_refl _) (by omega) ht hs hi N 0 (by omega) 1000 (by omega) true C 9999 w hd (by omega) hC (has.ext hC.1 hw)
    obtain ⟨w2, e2, hw2⟩ := ym_backs (F := 1000) (Nat.le_refl _) w1 as
    rw [Bool.true_and, if_pos rfl, ← nm_0] at q
    rw [sx_lp12_1, sx_lp4_1, bdX4_told_64, bdX5_told_66, nm_9, nm_10, if_neg (fun q => absurd ((nI_ltI (a := 9) (b := h) (by omega) (by omega)).mp q) (by omega)), if_neg (nI_nleI (by omega) (by omega)), sx_gd_e (nm_ib hs), nI_clamp (by omega), e1]
    simp only [sx_lt, sx_nm]
    rw [q]
    simp only [sx_c11, nI_1]
    rw [e2]
    simp only [sx_c1, if1]
    by_cases z : tl_b h t (fun d => it (24 * s + i + d)) N 0 C = true
    · rw [if_neg (not_not_intro z), if_neg (not_not_intro z)]
      exact ih (h + 1) (by omega) f (by omega) _ _ _ _ _ _ _ _ _ _ _ _ _ hw2
    · rw [if_pos z, if_pos z, Int32.or_zero]
      exact ih (h + 1) (by omega) f (by omega) _ _ _ _ _ _ _ _ _ _ _ _ _ hw2
theorem ag_told (a1 : Int32) (a2 : Int32) (a3 : Int32) (a4 : Int32) (a5 : Int32) {X : SX} {M : SM} (h : LInv X M) : ∃ r X2 M2, xo_told 1000 a1 a2 a3 a4 a5 X = some (r, X2) ∧ mo_told 1000 a1 a2 a3 a4 a5 M = some (r, M2) ∧ LInv X2 M2 := by
  obtain ⟨x_now_kinds, x_now_seating, x_now_knows, x_now_seals, x_now_telling, x_now_persons, x_now_wax, x_now_week, x_now_day, x_now_draw, x_past_knows, x_past_seals, x_past_dates, x_past_draws, x_past_next, x_past_steps, x_imageCourt_kinds, x_imageCourt_seating, x_imageCourt_knows, x_imageCourt_seals, x_imageCourt_telling, x_imageCourt_persons, x_imageCourt_wax, x_imageCourt_week, x_imageCourt_day, x_imageCourt_draw, x_imagePast_knows, x_imagePast_seals, x_imagePast_dates, x_imagePast_draws, x_imagePast_next, x_imagePast_steps, x_imaged, x_trial_kinds, x_trial_seating, x_trial_knows, x_trial_seals, x_trial_telling, x_trial_persons, x_trial_wax, x_trial_week, x_trial_day, x_trial_draw, x_order, x_bestOrder, x_tape_letters, x_tape_length, x_tape_at, x_sl, x_sn, x_si⟩ := X
  obtain ⟨m_now, m_tape, m_typed, m_place, m_isFault, m_read, m_heard, m_undone, m_undos, m_aside, m_kept, m_keptUndos, m_isKept, m_lanes, m_sizes, m_items, m_moved⟩ := M
  obtain ⟨hnow, himg, htape, hsheet⟩ := h
  have key : ∃ (r : Int32) (w_x_trial_kinds : Nat → Int32) (w_x_trial_seating : Nat → Int32) (w_x_trial_knows : Nat → Int64) (w_x_trial_seals : Nat → Int64) (w_x_trial_telling : Nat → Int64) (w_x_trial_persons : Int32) (w_x_trial_wax : Int32) (w_x_trial_week : Int32) (w_x_trial_day : Int32) (w_x_trial_draw : Int32) (v_m_now : Nat → Int32) (v_m_heard : Nat → Int32) (v_m_aside : Nat → Int32), fnX4_told 1000 x_now_kinds x_now_seating x_now_knows x_now_seals x_now_persons x_now_wax x_now_week x_now_day x_now_draw x_trial_kinds x_trial_seating x_trial_knows x_trial_seals x_trial_telling x_trial_persons x_trial_wax x_trial_week x_trial_day x_trial_draw x_sl x_sn x_si a1 a2 a3 a4 a5 = some (r, w_x_trial_kinds, w_x_trial_seating, w_x_trial_knows, w_x_trial_seals, w_x_trial_telling, w_x_trial_persons, w_x_trial_wax, w_x_trial_week, w_x_trial_day, w_x_trial_draw) ∧ fnX5_told 1000 m_now m_heard m_aside m_lanes m_sizes m_items a1 a2 a3 a4 a5 = some (r, v_m_now, v_m_heard, v_m_aside) ∧ P_now x_now_kinds x_now_seating x_now_knows x_now_seals x_now_persons x_now_wax x_now_week x_now_day x_now_draw x_past_knows x_past_seals x_past_dates x_past_draws x_past_next x_past_steps v_m_now m_undone m_undos := by
    have hnow2 := hnow
    obtain ⟨C, k, hs, hC, hk, hX, hP, hM, hU, rfl⟩ := hnow2
    have hC0 := hC
    obtain ⟨c1, c2, c3, c4, c5, c6, c7, c8⟩ := hC
    obtain ⟨x1, x2, x3, x4, rfl, rfl, rfl, rfl, rfl⟩ := hX
    have hM0 := hM
    obtain ⟨⟨m0, m1, m2, m3, m4, m5, m6⟩, mS⟩ := hM
    have hF : 1000 ≤ 1000 := Nat.le_refl _
    unfold fnX4_told fnX5_told
    rw [xs_isThing, xs_isSheet, xs_isLane, xs_within, ym_isThing, ym_isSheet, ym_isLane, lw1, lw6, ym_in, i1, i6]
    simp only [sx_c1, if1]
    by_cases g1 : rg a1 0 7 = true
    · rw [if_neg (not_not_intro g1), if_neg (not_not_intro g1)]
      by_cases g2 : rg a2 0 3 = true
      · rw [if_neg (not_not_intro g2), if_neg (not_not_intro g2)]
        by_cases g3 : rg a3 0 3 = true
        · rw [if_neg (not_not_intro g3), if_neg (not_not_intro g3)]
          by_cases g4 : rg a5 1 6 = true
          · rw [if_neg (not_not_intro g4), if_neg (not_not_intro g4)]
            obtain ⟨t, -, ht, rfl⟩ := rg_of (lo := 0) (hi := 7) g1
            obtain ⟨s, -, hs, rfl⟩ := rg_of (lo := 0) (hi := 3) g2
            obtain ⟨r, e1, e2, hr⟩ := sh_why 1000 (show s < 4 by omega) hsheet a3 a4 a5
            rw [sx_gd_e (nm_ib (show s < 4 by omega)), nI_clamp (by omega), e1, e2]
            simp only []
            rcases hr with ⟨rfl, i, N, z, l', rfl, rfl, h3, h4, h5, h6, rfl⟩ | ⟨h1, h2⟩
            · rw [if_pos rfl, if_pos (by decide)]
              obtain ⟨s', e3, hs'⟩ := ym_asides (F := 1000) hF m_now m_aside
              rw [e3]
              simp only []
              obtain ⟨r, q1, q2, q3, q4, q5, q6, q7, q8, q9, q10, w', hd', f1, f2, hw'⟩ := ag_told_l (t := t) (s := s) (i := i) (N := N) (by omega) (by omega) (by omega) (hsheet.it_ (by omega) h5 h6) hC0 ⟨x1, x2, x3, x4, rfl, rfl, rfl, rfl, rfl⟩ (hM0.ext c1 hs') 10 0 (by omega) 1000 (by omega) 0 x_trial_kinds x_trial_seating x_trial_knows x_trial_seals x_trial_telling x_trial_persons x_trial_wax x_trial_week x_trial_day x_trial_draw m_now m_heard (fun j hj => (hs' j hj).symm)
              rw [← nm_0] at f1 f2
              rw [f1, f2]
              exact ⟨_, _, _, _, _, _, _, _, _, _, _, _, _, _, rfl, rfl, hnow.m (fun j hj => by rw [hw' j hj, hs' j hj])⟩
            · rw [if_neg h1, if_neg h2]; exact ⟨_, _, _, _, _, _, _, _, _, _, _, _, _, _, rfl, rfl, hnow⟩
          · rw [if_pos g4, if_pos g4]; exact ⟨_, _, _, _, _, _, _, _, _, _, _, _, _, _, rfl, rfl, hnow⟩
        · rw [if_pos g3, if_pos g3]; exact ⟨_, _, _, _, _, _, _, _, _, _, _, _, _, _, rfl, rfl, hnow⟩
      · rw [if_pos g2, if_pos g2]; exact ⟨_, _, _, _, _, _, _, _, _, _, _, _, _, _, rfl, rfl, hnow⟩
    · rw [if_pos g1, if_pos g1]; exact ⟨_, _, _, _, _, _, _, _, _, _, _, _, _, _, rfl, rfl, hnow⟩
  obtain ⟨r, w_x_trial_kinds, w_x_trial_seating, w_x_trial_knows, w_x_trial_seals, w_x_trial_telling, w_x_trial_persons, w_x_trial_wax, w_x_trial_week, w_x_trial_day, w_x_trial_draw, v_m_now, v_m_heard, v_m_aside, e1, e2, khnow⟩ := key
  refine ⟨r, (x_now_kinds, x_now_seating, x_now_knows, x_now_seals, x_now_telling, x_now_persons, x_now_wax, x_now_week, x_now_day, x_now_draw, x_past_knows, x_past_seals, x_past_dates, x_past_draws, x_past_next, x_past_steps, x_imageCourt_kinds, x_imageCourt_seating, x_imageCourt_knows, x_imageCourt_seals, x_imageCourt_telling, x_imageCourt_persons, x_imageCourt_wax, x_imageCourt_week, x_imageCourt_day, x_imageCourt_draw, x_imagePast_knows, x_imagePast_seals, x_imagePast_dates, x_imagePast_draws, x_imagePast_next, x_imagePast_steps, x_imaged, w_x_trial_kinds, w_x_trial_seating, w_x_trial_knows, w_x_trial_seals, w_x_trial_telling, w_x_trial_persons, w_x_trial_wax, w_x_trial_week, w_x_trial_day, w_x_trial_draw, x_order, x_bestOrder, x_tape_letters, x_tape_length, x_tape_at, x_sl, x_sn, x_si), (v_m_now, m_tape, m_typed, m_place, m_isFault, m_read, v_m_heard, m_undone, m_undos, v_m_aside, m_kept, m_keptUndos, m_isKept, m_lanes, m_sizes, m_items, m_moved), ?_, ?_, khnow, himg, htape, hsheet⟩
  · unfold xo_told; simp only []; rw [e1]; rfl
  · unfold mo_told; simp only []; rw [e2]; rfl
theorem cut_small : ∀ x, x < 64 → ∀ l, l < 4 → cutv l ((nI x).toInt64) = (nI x).toInt64 := by decide +kernel
theorem ag_film_l {t s i N h l : Nat} {ki se : Nat → Int32} {pe wa we dr : Int32} {sl sn la sz : Nat → Int32} (hh : h ≤ 9) (ht : t < 8) (hs : s < 4) (hi : i + N ≤ 24) (hl : l < 4) (hsl : sl s = nI l) : ∀ k d, d + k = N → ∀ fuel, k < fuel → ∀ (C : ctC) (B : Nat) (a b c : Nat → Int64) (da : Int32) (si : Nat → Nat → Int64) (w hd : Nat → Int32) (it : Nat → Int64), B + k ≤ 100000 → cc_ok C B → cx_C C ki se a b pe wa we da dr → cm_C C w → P_sheet sl sn si la sz it → ∃ a' b' c' da' si' w' hd' it', sx_lp6 (bdX4_film_85 1000 (nI s) (nI t) (nI N) (nI h) (nI i) ki se pe wa we dr sl) fuel (nI d) a b c da si = some (nI N, ki, se, a', b', c', pe, wa, we, da', dr, si') ∧ (∀ kf, sx_lp4 (bdX5_film_72 1000 (nI t) (nI N) (nI h) (nI s) (nI i) kf) fuel (nI d) w hd it = kf w' hd' it') ∧ P_sheet sl sn si' la sz it' := by
  intro k
  induction k with
  | zero =>
    intro d hd fuel hf C B a b c da si w hd0 it hB hC hX hw hP
    obtain ⟨f, rfl⟩ : ∃ f, fuel = f + 1 := ⟨fuel - 1, by omega⟩
    rw [sx_lp6_1, bdX4_film_85, if_pos (nI_leT (by omega) (by omega))]
    exact ⟨a, b, c, da, si, w, hd0, it, rfl, fun kf => by rw [sx_lp4_1, bdX5_film_72, if_pos (nI_leT (by omega) (by omega))], hP⟩
  | succ k ih =>
    intro d hd fuel hf C B a b c da si w hd0 it hB hC hX hw hP
    obtain ⟨f, rfl⟩ : ∃ f, fuel = f + 1 := ⟨fuel - 1, by omega⟩
    obtain ⟨a1, b1, c1, d1, e1, hX1⟩ := xc_live (F := 1000) (h := h) (Nat.le_refl _) (by omega) hC hh hX c
    obtain ⟨w1, hd1, e2, hw1⟩ := ym_goesBy (F := 1000) (h := h) (Nat.le_refl _) (by omega) hC hh hw hd0
    have ok := cc_day_ok hC h
    have hP1 := hP.put (s := s) (i := i + d) hs (by omega) ((nI (ct_who (cc_sl (cc_day C h)) t (cc_n (cc_day C h)))).toInt64)
    rw [show 24 * s + (i + d) = 24 * s + i + d by omega] at hP1
    obtain ⟨a', b', c', da', si', w', hd', it', q1, q2, q3⟩ := ih (d + 1) (by omega) f (by omega) (cc_day C h) (B + 1) a1 b1 c1 d1 _ w1 hd1 _ (by omega) ok hX1 hw1 hP1
    refine ⟨a', b', c', da', si', w', hd', it', ?_, fun kf => ?_, q3⟩
    · rw [sx_lp6_1, bdX4_film_85, if_neg (nI_nleI (by omega) (by omega)), e1]
      simp only [sx_c5]
      rw [xd_who (Nat.le_refl _) ok ht hX1]
      simp only [sx_c1]
      rw [nI_clamp (by omega), hsl, nI_add, xs_put 1000 hl (by omega), cut_small _ (who_64 ok.1 _) l hl]
      simp only [sx_nm, nI_1]
      exact q1
    · rw [sx_lp4_1, bdX5_film_72, if_neg (nI_nleI (by omega) (by omega)), e2]
      simp only [sx_c2]
      rw [yd_who (Nat.le_refl _) ok ht hw1]
      simp only [sx_c1]
      rw [ix24b, sx_gd_e (nm_ib (by omega)), nI_clamp (by omega)]
      simp only [sx_nm, nI_1]
      exact q2 kf
theorem ag_film (a1 : Int32) (a2 : Int32) (a3 : Int32) (a4 : Int32) (a5 : Int32) (a6 : Int32) {X : SX} {M : SM} (h : LInv X M) : ∃ r X2 M2, xo_film 1000 a1 a2 a3 a4 a5 a6 X = some (r, X2) ∧ mo_film 1000 a1 a2 a3 a4 a5 a6 M = some (r, M2) ∧ LInv X2 M2 := by
  obtain ⟨x_now_kinds, x_now_seating, x_now_knows, x_now_seals, x_now_telling, x_now_persons, x_now_wax, x_now_week, x_now_day, x_now_draw, x_past_knows, x_past_seals, x_past_dates, x_past_draws, x_past_next, x_past_steps, x_imageCourt_kinds, x_imageCourt_seating, x_imageCourt_knows, x_imageCourt_seals, x_imageCourt_telling, x_imageCourt_persons, x_imageCourt_wax, x_imageCourt_week, x_imageCourt_day, x_imageCourt_draw, x_imagePast_knows, x_imagePast_seals, x_imagePast_dates, x_imagePast_draws, x_imagePast_next, x_imagePast_steps, x_imaged, x_trial_kinds, x_trial_seating, x_trial_knows, x_trial_seals, x_trial_telling, x_trial_persons, x_trial_wax, x_trial_week, x_trial_day, x_trial_draw, x_order, x_bestOrder, x_tape_letters, x_tape_length, x_tape_at, x_sl, x_sn, x_si⟩ := X
  obtain ⟨m_now, m_tape, m_typed, m_place, m_isFault, m_read, m_heard, m_undone, m_undos, m_aside, m_kept, m_keptUndos, m_isKept, m_lanes, m_sizes, m_items, m_moved⟩ := M
  obtain ⟨hnow, himg, htape, hsheet⟩ := h
  have key : ∃ (r : Int32) (w_x_trial_kinds : Nat → Int32) (w_x_trial_seating : Nat → Int32) (w_x_trial_knows : Nat → Int64) (w_x_trial_seals : Nat → Int64) (w_x_trial_telling : Nat → Int64) (w_x_trial_persons : Int32) (w_x_trial_wax : Int32) (w_x_trial_week : Int32) (w_x_trial_day : Int32) (w_x_trial_draw : Int32) (w_x_si : Nat → Nat → Int64) (v_m_now : Nat → Int32) (v_m_heard : Nat → Int32) (v_m_aside : Nat → Int32) (v_m_items : Nat → Int64), fnX4_film 1000 x_now_kinds x_now_seating x_now_knows x_now_seals x_now_persons x_now_wax x_now_week x_now_day x_now_draw x_trial_kinds x_trial_seating x_trial_knows x_trial_seals x_trial_telling x_trial_persons x_trial_wax x_trial_week x_trial_day x_trial_draw x_sl x_sn x_si a1 a2 a3 a4 a5 a6 = some (r, w_x_trial_kinds, w_x_trial_seating, w_x_trial_knows, w_x_trial_seals, w_x_trial_telling, w_x_trial_persons, w_x_trial_wax, w_x_trial_week, w_x_trial_day, w_x_trial_draw, w_x_si) ∧ fnX5_film 1000 m_now m_heard m_aside m_lanes m_sizes m_items a1 a2 a3 a4 a5 a6 = some (r, v_m_now, v_m_heard, v_m_aside, v_m_items) ∧ P_now x_now_kinds x_now_seating x_now_knows x_now_seals x_now_persons x_now_wax x_now_week x_now_day x_now_draw x_past_knows x_past_seals x_past_dates x_past_draws x_past_next x_past_steps v_m_now m_undone m_undos ∧ P_sheet x_sl x_sn w_x_si m_lanes m_sizes v_m_items := by
    have hnow2 := hnow
    obtain ⟨C, k, hs, hC, hk, hX, hP, hM, hU, rfl⟩ := hnow2
    have hC0 := hC
    obtain ⟨c1, c2, c3, c4, c5, c6, c7, c8⟩ := hC
    obtain ⟨x1, x2, x3, x4, rfl, rfl, rfl, rfl, rfl⟩ := hX
    have hM0 := hM
    obtain ⟨⟨m0, m1, m2, m3, m4, m5, m6⟩, mS⟩ := hM
    have hF : 1000 ≤ 1000 := Nat.le_refl _
    unfold fnX4_film fnX5_film
    rw [xs_isThing, xs_within, xs_isHeat, xs_isSheet, xs_isLane, ym_isThing, ym_isHeat, ym_isSheet, ym_isLane, lw1, lw24, ym_in, i1, i24]
    simp only [sx_c1, if1, sx_lt]
    by_cases g1 : rg a1 0 7 = true
    · rw [if_neg (not_not_intro g1), if_neg (not_not_intro g1)]
      by_cases g2 : rg a2 1 24 = true
      · rw [if_neg (not_not_intro g2), if_neg (not_not_intro g2)]
        by_cases g3 : rg a3 0 9 = true
        · rw [if_neg (not_not_intro g3), if_neg (not_not_intro g3)]
          by_cases g4 : rg a4 0 3 = true
          · rw [if_neg (not_not_intro g4), if_neg (not_not_intro g4)]
            by_cases g5 : rg a5 0 3 = true
            · rw [if_neg (not_not_intro g5), if_neg (not_not_intro g5)]
              obtain ⟨t, -, ht, rfl⟩ := rg_of (lo := 0) (hi := 7) g1
              obtain ⟨h, -, hh, rfl⟩ := rg_of (lo := 0) (hi := 9) g3
              obtain ⟨s, -, hs, rfl⟩ := rg_of (lo := 0) (hi := 3) g4
              obtain ⟨r, e1, e2, hr⟩ := sh_why 1000 (show s < 4 by omega) hsheet a5 a6 a2
              rw [sx_gd_e (nm_ib (show s < 4 by omega)), nI_clamp (by omega), e1, e2]
              simp only []
              rcases hr with ⟨rfl, i, N, z, l', rfl, rfl, h3, h4, h5, h6, rfl⟩ | ⟨h1, h2⟩
              · rw [if_pos rfl, if_pos (by decide)]
                obtain ⟨s', e3, hs'⟩ := ym_asides (F := 1000) hF m_now m_aside
                obtain ⟨ki', se', a', b', e4, hX1⟩ := xs_become (F := 1000) (C := C) c1 ⟨x1, x2, x3, x4, rfl, rfl, rfl, rfl, rfl⟩ x_trial_kinds x_trial_seating x_trial_knows x_trial_seals x_trial_persons x_trial_wax x_trial_week x_trial_day x_trial_draw
                obtain ⟨a2', b2', c2', da2, si', w', hd', it', q1, q2, q3⟩ := ag_film_l (t := t) (s := s) (i := i) (N := N) (h := h) (l := l') hh (by omega) (by omega) (by omega) h5 h6 N 0 (by omega) 1000 (by omega) C 9999 a' b' x_trial_telling (nI (cc_dy C)) x_si m_now m_heard m_items (by omega) hC0 hX1 hM0 hsheet
                obtain ⟨w2, e5, hw2⟩ := ym_backs (F := 1000) hF w' s'
                rw [e3, e4]
                simp only [sx_c9]
                rw [nm_0, q1, q2, e5]
                exact ⟨_, _, _, _, _, _, _, _, _, _, _, _, _, _, _, _, rfl, rfl, hnow.m (fun j hj => by rw [hw2 j hj, hs' j hj]), q3⟩
              · rw [if_neg h1, if_neg h2]; exact ⟨_, _, _, _, _, _, _, _, _, _, _, _, _, _, _, _, rfl, rfl, hnow, hsheet⟩
            · rw [if_pos g5, if_pos g5]; exact ⟨_, _, _, _, _, _, _, _, _, _, _, _, _, _, _, _, rfl, rfl, hnow, hsheet⟩
          · rw [if_pos g4, if_pos g4]; exact ⟨_, _, _, _, _, _, _, _, _, _, _, _, _, _, _, _, rfl, rfl, hnow, hsheet⟩
        · rw [if_pos g3, if_pos g3]; exact ⟨_, _, _, _, _, _, _, _, _, _, _, _, _, _, _, _, rfl, rfl, hnow, hsheet⟩
      · rw [if_pos g2, if_pos g2]; exact ⟨_, _, _, _, _, _, _, _, _, _, _, _, _, _, _, _, rfl, rfl, hnow, hsheet⟩
    · rw [if_pos g1, if_pos g1]; exact ⟨_, _, _, _, _, _, _, _, _, _, _, _, _, _, _, _, rfl, rfl, hnow, hsheet⟩
  obtain ⟨r, w_x_trial_kinds, w_x_trial_seating, w_x_trial_knows, w_x_trial_seals, w_x_trial_telling, w_x_trial_persons, w_x_trial_wax, w_x_trial_week, w_x_trial_day, w_x_trial_draw, w_x_si, v_m_now, v_m_heard, v_m_aside, v_m_items, e1, e2, khnow, khsheet⟩ := key
  refine ⟨r, (x_now_kinds, x_now_seating, x_now_knows, x_now_seals, x_now_telling, x_now_persons, x_now_wax, x_now_week, x_now_day, x_now_draw, x_past_knows, x_past_seals, x_past_dates, x_past_draws, x_past_next, x_past_steps, x_imageCourt_kinds, x_imageCourt_seating, x_imageCourt_knows, x_imageCourt_seals, x_imageCourt_telling, x_imageCourt_persons, x_imageCourt_wax, x_imageCourt_week, x_imageCourt_day, x_imageCourt_draw, x_imagePast_knows, x_imagePast_seals, x_imagePast_dates, x_imagePast_draws, x_imagePast_next, x_imagePast_steps, x_imaged, w_x_trial_kinds, w_x_trial_seating, w_x_trial_knows, w_x_trial_seals, w_x_trial_telling, w_x_trial_persons, w_x_trial_wax, w_x_trial_week, w_x_trial_day, w_x_trial_draw, x_order, x_bestOrder, x_tape_letters, x_tape_length, x_tape_at, x_sl, x_sn, w_x_si), (v_m_now, m_tape, m_typed, m_place, m_isFault, m_read, v_m_heard, m_undone, m_undos, v_m_aside, m_kept, m_keptUndos, m_isKept, m_lanes, m_sizes, v_m_items, m_moved), ?_, ?_, khnow, himg, htape, khsheet⟩
  · unfold xo_film; simp only []; rw [e1]; rfl
  · unfold mo_film; simp only []; rw [e2]; rfl
