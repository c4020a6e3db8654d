-- MORE CALLS THAT CHANGE THE COURT
theorem xs_forget1 (F : Nat) (s : Int32) : fnX1_forget F s = some 0 := rfl
def cc_new (C : ctC) (kind : Nat) : ctC := (cc_n C + 1, fun p => if p = cc_n C then kind else cc_kd C p, fun i => if i = cc_n C then cc_n C else cc_st C i, fun p t => if p = cc_n C then 0 else cc_sl C p t, cc_wx C, cc_wk C, cc_dy C, cc_dr C)
theorem cc_new_ok {C : ctC} {B kind : Nat} (hC : cc_ok C B) (hn : cc_n C < 6) (hk : kind ≤ 4) : cc_ok (cc_new C kind) B := by
  obtain ⟨c1, c2, c3, c4, c5, c6, c7, c8⟩ := hC
  refine ⟨hn, fun p hp => ?_, ⟨fun i hi => ?_, fun i j hi hj e => ?_⟩, fun p hp t ht => ?_, c5, c6, c7, c8⟩
  · show (if p = cc_n C then kind else cc_kd C p) ≤ 4
    have hp' : p < cc_n C + 1 := hp
    by_cases e : p = cc_n C
    · rw [if_pos e]; exact hk
    · rw [if_neg e]; exact c2 p (by omega)
  · show (if i = cc_n C then cc_n C else cc_st C i) < cc_n C + 1
    have hi' : i < cc_n C + 1 := hi
    by_cases e : i = cc_n C
    · rw [if_pos e]; omega
    · rw [if_neg e]; have := c3.1 i (by omega); omega
  · have hi' : i < cc_n C + 1 := hi
    have hj' : j < cc_n C + 1 := hj
    have e' : (if i = cc_n C then cc_n C else cc_st C i) = (if j = cc_n C then cc_n C else cc_st C j) := e
    by_cases e1 : i = cc_n C
    · by_cases e2 : j = cc_n C
      · omega
      · rw [if_pos e1, if_neg e2] at e'; have := c3.1 j (by omega); omega
    · by_cases e2 : j = cc_n C
      · rw [if_neg e1, if_pos e2] at e'; have := c3.1 i (by omega); omega
      · rw [if_neg e1, if_neg e2] at e'; exact c3.2 i j (by omega) (by omega) e'
  · show (if p = cc_n C then 0 else cc_sl C p t) ≤ 10
    have hp' : p < cc_n C + 1 := hp
    by_cases e : p = cc_n C
    · rw [if_pos e]; omega
    · rw [if_neg e]; exact c4 p (by omega) t ht
theorem xs_seatNew {F kind : Nat} {C : ctC} {ki se : Nat → Int32} {a b : Nat → Int64} {pe wa we da dr : Int32} (hn : cc_n C < 6) (hX : cx_C C ki se a b pe wa we da dr) : ∃ ki' se' a' b', fnX0_seatNew F ki se a b pe (nI kind) = some (nI (cc_n C), ki', se', a', b', nI (cc_n C + 1)) ∧ cx_C (cc_new C kind) ki' se' a' b' (nI (cc_n C + 1)) wa we da dr := by
  obtain ⟨x1, x2, x3, x4, rfl, rfl, rfl, rfl, rfl⟩ := hX
  unfold fnX0_seatNew
  rw [sx_gd_e (nm_ib hn), sx_gd_e (nm_ib hn), sx_gd_e (nm_ib hn), sx_gd_e (nm_ib hn), nI_clamp (by omega), nI_1]
  refine ⟨_, _, _, _, rfl, fun p hp => ?_, fun p hp => ?_, fun p hp => ?_, fun p hp => ?_, rfl, rfl, rfl, rfl, rfl⟩
  · show upd ki (cc_n C) (nI kind) p = nI (if p = cc_n C then kind else cc_kd C p)
    have hp' : p < cc_n C + 1 := hp
    by_cases e : p = cc_n C
    · rw [if_pos e, e, pu_same]
    · rw [if_neg e, pu_ne e]; exact x1 p (by omega)
  · show upd se (cc_n C) (nI (cc_n C)) p = nI (if p = cc_n C then cc_n C else cc_st C p)
    have hp' : p < cc_n C + 1 := hp
    by_cases e : p = cc_n C
    · rw [if_pos e, e, pu_same]
    · rw [if_neg e, pu_ne e]; exact x2 p (by omega)
  · show vp_updL a (cc_n C) 0 p = lN (mp_P (cx_kn (fun p t => if p = cc_n C then 0 else cc_sl C p t) p))
    have hp' : p < cc_n C + 1 := hp
    by_cases e : p = cc_n C
    · rw [e, up_same, ml_0]; congr 1; refine mp_cong (fun t _ => ?_); simp [cx_kn]
    · rw [up_ne e, x3 p (by omega)]; congr 1; refine mp_cong (fun t _ => ?_); simp [cx_kn, e]
  · show vp_updL b (cc_n C) 0 p = lN (mp_P (cx_sg (fun p t => if p = cc_n C then 0 else cc_sl C p t) p))
    have hp' : p < cc_n C + 1 := hp
    by_cases e : p = cc_n C
    · rw [e, up_same, ml_0]; congr 1; refine mp_cong (fun t _ => ?_); simp [cx_sg]
    · rw [up_ne e, x4 p (by omega)]; congr 1; refine mp_cong (fun t _ => ?_); simp [cx_sg, e]
theorem ym_comes_l {F n : Nat} (hn : n < 6) (kf : (Nat → Int32) → Option ((Nat → Int32) × Int32)) : ∀ k i, i + k = 8 → ∀ fuel, k < fuel → ∀ w : Nat → Int32, (∀ t, t < i → w (17 + 8 * n + t) = -1) → ∃ w', sx_lp2 (bdX5_comes_28 F (nI n) kf) fuel (nI i) w = kf w' ∧ (∀ j, (j < 17 + 8 * n ∨ 17 + 8 * n + 8 ≤ j) → w' j = w j) ∧ ∀ t, t < 8 → w' (17 + 8 * n + t) = -1 := by
  intro k
  induction k with
  | zero =>
    intro i hi fuel hf w h1
    obtain ⟨f, rfl⟩ : ∃ f, fuel = f + 1 := ⟨fuel - 1, by omega⟩
    rw [sx_lp2_1, bdX5_comes_28, nm_8, if_pos (nI_leT (by omega) (by omega))]
    exact ⟨w, rfl, fun _ _ => rfl, fun t ht => h1 t (by omega)⟩
  | succ k ih =>
    intro i hi fuel hf w h1
    obtain ⟨f, rfl⟩ : ∃ f, fuel = f + 1 := ⟨fuel - 1, by omega⟩
    rw [sx_lp2_1, bdX5_comes_28, ym_ix, nm_8, if_neg (nI_nleI (by omega) (by omega)), sx_gd_e (nm_ib (by omega)), nI_clamp (by omega)]
    simp only [sx_nm, nI_1]
    obtain ⟨w', q1, q2, q3⟩ := ih (i + 1) (by omega) f (by omega) (upd w (17 + 8 * n + i) (-1)) (fun t ht => by
      by_cases e : t = i
      · subst e; rw [pu_same]
      · rw [pu_ne (by omega)]; exact h1 t (by omega))
    exact ⟨w', q1, fun j hj => by rw [q2 j hj, pu_ne (by omega)], q3⟩
theorem ym_comes {F kind : Nat} {C : ctC} {w : Nat → Int32} (hF : 1000 ≤ F) (hn : cc_n C < 6) (hw : cm_C C w) (ud : Int32) : ∃ w', fnX5_comes F w ud (nI kind) = some (w', 0) ∧ cm_C (cc_new C kind) w' := by
  obtain ⟨⟨m0, m1, m2, m3, m4, m5, m6⟩, mS⟩ := hw
  unfold fnX5_comes
  simp only [sx_nm, sx_lt]
  rw [sx_n0, m0, ym_ix5, ym_ix11, sx_gd_e (nm_ib (by omega)), sx_gd_e (nm_ib (by omega)), nI_clamp (by omega), nI_clamp (by omega), nm_0]
  obtain ⟨w', q1, q2, q3⟩ := ym_comes_l (F := F) hn (fun z4 => some (upd z4 0 (z4 0 + 1), nI 0)) 8 0 (by omega) F (by omega) (upd (upd w (5 + cc_n C) (nI kind)) (11 + cc_n C) (nI (cc_n C))) (fun t ht => by omega)
  rw [q1]
  have hk : ∀ j, (j < 17 + 8 * cc_n C ∨ 17 + 8 * cc_n C + 8 ≤ j) → j ≠ 0 → j ≠ 5 + cc_n C → j ≠ 11 + cc_n C → upd w' 0 (w' 0 + 1) j = w j := fun j hj h0 h5 h11 => by
    rw [pu_ne h0, q2 j hj, pu_ne h11, pu_ne h5]
  refine ⟨_, rfl, ⟨?_, ?_, ?_, ?_, ?_, fun p hp => ?_, fun p hp => ?_⟩, fun p hp t ht => ?_⟩
  · rw [pu_same, q2 0 (Or.inl (by omega)), pu_ne (by omega), pu_ne (by omega), m0, nI_1]; rfl
  · rw [hk 1 (Or.inl (by omega)) (by omega) (by omega) (by omega)]; exact m1
  · rw [hk 2 (Or.inl (by omega)) (by omega) (by omega) (by omega)]; exact m2
  · rw [hk 3 (Or.inl (by omega)) (by omega) (by omega) (by omega)]; exact m3
  · rw [hk 4 (Or.inl (by omega)) (by omega) (by omega) (by omega)]; exact m4
  · have hp' : p < cc_n C + 1 := hp
    show _ = nI (if p = cc_n C then kind else cc_kd C p)
    by_cases e : p = cc_n C
    · rw [if_pos e, e, pu_ne (by omega), q2 _ (Or.inl (by omega)), pu_ne (by omega), pu_same]
    · rw [if_neg e, hk _ (Or.inl (by omega)) (by omega) (by omega) (by omega)]; exact m5 p (by omega)
  · have hp' : p < cc_n C + 1 := hp
    show _ = nI (if p = cc_n C then cc_n C else cc_st C p)
    by_cases e : p = cc_n C
    · rw [if_pos e, e, pu_ne (by omega), q2 _ (Or.inl (by omega)), pu_same]
    · rw [if_neg e, hk _ (Or.inl (by omega)) (by omega) (by omega) (by omega)]; exact m6 p (by omega)
  · have hp' : p < cc_n C + 1 := hp
    show _ = cm_v (if p = cc_n C then 0 else cc_sl C p t)
    by_cases e : p = cc_n C
    · rw [if_pos e, e, pu_ne (by omega), q3 t ht]; rfl
    · rw [if_neg e, hk _ (Or.inl (by omega)) (by omega) (by omega) (by omega)]; exact mS p (by omega) t ht
theorem ag_person (a1 : Int32) {X : SX} {M : SM} (h : LInv X M) : ∃ r X2 M2, xo_person 1000 a1 X = some (r, X2) ∧ mo_person 1000 a1 M = some (r, M2) ∧ LInv X2 M2 := by
  obtain ⟨x_now_kinds, x_now_seating, x_now_knows, x_now_seals, x_now_telling, x_now_persons, x_now_wax, x_now_week, x_now_day, x_now_draw, x_past_knows, x_past_seals, x_past_dates, x_past_draws, x_past_next, x_past_steps, x_imageCourt_kinds, x_imageCourt_seating, x_imageCourt_knows, x_imageCourt_seals, x_imageCourt_telling, x_imageCourt_persons, x_imageCourt_wax, x_imageCourt_week, x_imageCourt_day, x_imageCourt_draw, x_imagePast_knows, x_imagePast_seals, x_imagePast_dates, x_imagePast_draws, x_imagePast_next, x_imagePast_steps, x_imaged, x_trial_kinds, x_trial_seating, x_trial_knows, x_trial_seals, x_trial_telling, x_trial_persons, x_trial_wax, x_trial_week, x_trial_day, x_trial_draw, x_order, x_bestOrder, x_tape_letters, x_tape_length, x_tape_at, x_sl, x_sn, x_si⟩ := X
  obtain ⟨m_now, m_tape, m_typed, m_place, m_isFault, m_read, m_heard, m_undone, m_undos, m_aside, m_kept, m_keptUndos, m_isKept, m_lanes, m_sizes, m_items, m_moved⟩ := M
  obtain ⟨hnow, himg, htape, hsheet⟩ := h
  have key : ∃ (r : Int32) (w_x_now_kinds : Nat → Int32) (w_x_now_seating : Nat → Int32) (w_x_now_knows : Nat → Int64) (w_x_now_seals : Nat → Int64) (w_x_now_persons : Int32) (w_x_past_steps : Int32) (v_m_now : Nat → Int32) (v_m_undos : Int32), fnX4_person 1000 x_now_kinds x_now_seating x_now_knows x_now_seals x_now_persons x_past_steps a1 = some (r, w_x_now_kinds, w_x_now_seating, w_x_now_knows, w_x_now_seals, w_x_now_persons, w_x_past_steps) ∧ fnX5_person 1000 m_now m_undos a1 = some (r, v_m_now, v_m_undos) ∧ P_now w_x_now_kinds w_x_now_seating w_x_now_knows w_x_now_seals w_x_now_persons x_now_wax x_now_week x_now_day x_now_draw x_past_knows x_past_seals x_past_dates x_past_draws x_past_next w_x_past_steps v_m_now m_undone v_m_undos := by
    have hnow2 := hnow
    obtain ⟨C, k, hs, hC, hk, hX, hP, hM, hU, rfl⟩ := hnow2
    have hC0 := hC
    obtain ⟨c1, c2, c3, c4, c5, c6, c7, c8⟩ := hC
    obtain ⟨x1, x2, x3, x4, rfl, rfl, rfl, rfl, rfl⟩ := hX
    have hM0 := hM
    obtain ⟨⟨m0, m1, m2, m3, m4, m5, m6⟩, mS⟩ := hM
    have hF : 1000 ≤ 1000 := Nat.le_refl _
    unfold fnX4_person fnX5_person
    rw [xs_within, lw0, lw4, ym_in, i0, i4]
    simp only [sx_c1, if1]
    by_cases g : rg a1 0 4 = true
    · obtain ⟨kd, -, hkd, rfl⟩ := rg_of (lo := 0) (hi := 4) g
      rw [if_neg (not_not_intro g), if_neg (not_not_intro g), sx_n0, m0, nm_6]
      by_cases e : cc_n C = 6
      · rw [if_pos (by rw [e]), if_pos (by rw [e])]; exact ⟨_, _, _, _, _, _, _, _, _, rfl, rfl, hnow⟩
      · rw [if_neg (fun q => e ((nI_eq (by omega) (by omega)).mp q)), if_neg (fun q => e ((nI_eq (by omega) (by omega)).mp q))]
        obtain ⟨ki', se', a', b', e1, hX'⟩ := xs_seatNew (F := 1000) (kind := kd) (C := C) (by omega) ⟨x1, x2, x3, x4, rfl, rfl, rfl, rfl, rfl⟩
        obtain ⟨w', e2, hM'⟩ := ym_comes (F := 1000) (kind := kd) hF (by omega) hM0 (nI k)
        obtain ⟨x, hx, hnx, -, -⟩ := hP
        have w0 : w' 0 = nI (cc_n C + 1) := hM'.1.1
        rw [xs_forget1, e1, e2]
        simp only [sx_c6, sx_c2]
        rw [w0, nm_1, pk_sub (by omega), show cc_n C + 1 - 1 = cc_n C by omega]
        exact ⟨_, _, _, _, _, _, _, _, _, rfl, rfl, cc_new C kd, 0, hs, cc_new_ok hC0 (by omega) hkd, ⟨by omega, fun i hi => absurd hi (by omega)⟩, hX', ⟨x, hx, hnx, nm_0, fun i hi => absurd hi (by omega)⟩, hM', fun i hi => absurd hi (by omega), nm_0⟩
    · rw [if_pos g, if_pos g]; exact ⟨_, _, _, _, _, _, _, _, _, rfl, rfl, hnow⟩
  obtain ⟨r, w_x_now_kinds, w_x_now_seating, w_x_now_knows, w_x_now_seals, w_x_now_persons, w_x_past_steps, v_m_now, v_m_undos, e1, e2, khnow⟩ := key
  refine ⟨r, (w_x_now_kinds, w_x_now_seating, w_x_now_knows, w_x_now_seals, x_now_telling, w_x_now_persons, x_now_wax, x_now_week, x_now_day, x_now_draw, x_past_knows, x_past_seals, x_past_dates, x_past_draws, x_past_next, w_x_past_steps, x_imageCourt_kinds, x_imageCourt_seating, x_imageCourt_knows, x_imageCourt_seals, x_imageCourt_telling, x_imageCourt_persons, x_imageCourt_wax, x_imageCourt_week, x_imageCourt_day, x_imageCourt_draw, x_imagePast_knows, x_imagePast_seals, x_imagePast_dates, x_imagePast_draws, x_imagePast_next, x_imagePast_steps, x_imaged, x_trial_kinds, x_trial_seating, x_trial_knows, x_trial_seals, x_trial_telling, x_trial_persons, x_trial_wax, x_trial_week, x_trial_day, x_trial_draw, x_order, x_bestOrder, x_tape_letters, x_tape_length, x_tape_at, x_sl, x_sn, x_si), (v_m_now, m_tape, m_typed, m_place, m_isFault, m_read, m_heard, m_undone, v_m_undos, m_aside, m_kept, m_keptUndos, m_isKept, m_lanes, m_sizes, m_items, m_moved), ?_, ?_, khnow, himg, htape, hsheet⟩
  · unfold xo_person; simp only []; rw [e1]; rfl
  · unfold mo_person; simp only []; rw [e2]; rfl
def cc_sw (C : ctC) (p q : Nat) : ctC := (cc_n C, cc_kd C, fun i => if cc_st C i = q then p else if cc_st C i = p then q else cc_st C i, cc_sl C, cc_wx C, cc_wk C, cc_dy C, cc_dr C)
theorem cc_sw_ok {C : ctC} {B p q : Nat} (hC : cc_ok C B) (hp : p < cc_n C) (hq : q < cc_n C) : cc_ok (cc_sw C p q) B := by
  obtain ⟨c1, c2, c3, c4, c5, c6, c7, c8⟩ := hC
  refine ⟨c1, c2, ⟨fun i hi => ?_, fun i j hi hj e => ?_⟩, c4, c5, c6, c7, c8⟩
  · show (if cc_st C i = q then p else if cc_st C i = p then q else cc_st C i) < cc_n C
    have := c3.1 i hi
    split
    · exact hp
    · split
      · exact hq
      · exact this
  · have e' : (if cc_st C i = q then p else if cc_st C i = p then q else cc_st C i) = (if cc_st C j = q then p else if cc_st C j = p then q else cc_st C j) := e
    refine c3.2 i j hi hj ?_
    by_cases a1 : cc_st C i = q <;> by_cases a2 : cc_st C j = q <;> by_cases a3 : cc_st C i = p <;> by_cases a4 : cc_st C j = p <;> simp only [a1, a2, a3, a4, if_true, if_false] at e' <;> first | omega | (split at e' <;> omega) | (split at e' <;> split at e' <;> omega)
theorem ct_pl_ne {n : Nat} {st : Nat → Nat} (h : ct_st n st) {i p : Nat} (hi : i < n) (hne : i ≠ ct_pl st p n) : st i ≠ p := fun e => hne (by rw [← e, ct_pl_at h hi])
theorem cc_sw_at {C : ctC} {B p q : Nat} (hC : cc_ok C B) (hp : p < cc_n C) (hq : q < cc_n C) (hpq : p ≠ q) {i : Nat} (hi : i < cc_n C) : cc_st (cc_sw C p q) i = if i = ct_pl (cc_st C) q (cc_n C) then p else if i = ct_pl (cc_st C) p (cc_n C) then q else cc_st C i := by
  show (if cc_st C i = q then p else if cc_st C i = p then q else cc_st C i) = _
  have c3 := hC.2.2.1
  have hP := ct_pl_lt c3 hp
  have hQ := ct_pl_lt c3 hq
  by_cases e1 : i = ct_pl (cc_st C) q (cc_n C)
  · rw [if_pos e1, if_pos (by rw [e1]; exact hQ.2)]
  · rw [if_neg e1, if_neg (ct_pl_ne c3 hi e1)]
    by_cases e2 : i = ct_pl (cc_st C) p (cc_n C)
    · rw [if_pos e2, if_pos (by rw [e2]; exact hP.2)]
    · rw [if_neg e2, if_neg (ct_pl_ne c3 hi e2)]
theorem ag_seats (a1 : Int32) (a2 : Int32) {X : SX} {M : SM} (h : LInv X M) : ∃ r X2 M2, xo_seats 1000 a1 a2 X = some (r, X2) ∧ mo_seats 1000 a1 a2 M = some (r, M2) ∧ LInv X2 M2 := by
  obtain ⟨x_now_kinds, x_now_seating, x_now_knows, x_now_seals, x_now_telling, x_now_persons, x_now_wax, x_now_week, x_now_day, x_now_draw, x_past_knows, x_past_seals, x_past_dates, x_past_draws, x_past_next, x_past_steps, x_imageCourt_kinds, x_imageCourt_seating, x_imageCourt_knows, x_imageCourt_seals, x_imageCourt_telling, x_imageCourt_persons, x_imageCourt_wax, x_imageCourt_week, x_imageCourt_day, x_imageCourt_draw, x_imagePast_knows, x_imagePast_seals, x_imagePast_dates, x_imagePast_draws, x_imagePast_next, x_imagePast_steps, x_imaged, x_trial_kinds, x_trial_seating, x_trial_knows, x_trial_seals, x_trial_telling, x_trial_persons, x_trial_wax, x_trial_week, x_trial_day, x_trial_draw, x_order, x_bestOrder, x_tape_letters, x_tape_length, x_tape_at, x_sl, x_sn, x_si⟩ := X
  obtain ⟨m_now, m_tape, m_typed, m_place, m_isFault, m_read, m_heard, m_undone, m_undos, m_aside, m_kept, m_keptUndos, m_isKept, m_lanes, m_sizes, m_items, m_moved⟩ := M
  obtain ⟨hnow, himg, htape, hsheet⟩ := h
  have key : ∃ (r : Int32) (w_x_now_seating : Nat → Int32) (v_m_now : Nat → Int32), fnX4_seats 1000 x_now_seating x_now_persons a1 a2 = some (r, w_x_now_seating) ∧ fnX5_seats 1000 m_now a1 a2 = some (r, v_m_now) ∧ P_now x_now_kinds w_x_now_seating x_now_knows x_now_seals x_now_persons x_now_wax x_now_week x_now_day x_now_draw x_past_knows x_past_seals x_past_dates x_past_draws x_past_next x_past_steps v_m_now m_undone m_undos := by
    have hnow2 := hnow
    obtain ⟨C, k, hs, hC, hk, hX, hP, hM, hU, rfl⟩ := hnow2
    have hC0 := hC
    obtain ⟨c1, c2, c3, c4, c5, c6, c7, c8⟩ := hC
    obtain ⟨x1, x2, x3, x4, rfl, rfl, rfl, rfl, rfl⟩ := hX
    have hM0 := hM
    obtain ⟨⟨m0, m1, m2, m3, m4, m5, m6⟩, mS⟩ := hM
    have hF : 1000 ≤ 1000 := Nat.le_refl _
    unfold fnX4_seats fnX5_seats
    rw [xs_isPerson _ c1, xs_isPerson _ c1, ym_isPerson _ c1 m0, ym_isPerson _ c1 m0]
    simp only [sx_c1, if1]
    by_cases g1 : rg a1 0 ((cc_n C : Int) - 1) = true
    · rw [if_neg (not_not_intro g1), if_neg (not_not_intro g1)]
      by_cases g2 : rg a2 0 ((cc_n C : Int) - 1) = true
      · rw [if_neg (not_not_intro g2), if_neg (not_not_intro g2)]
        obtain ⟨p, hp, rfl⟩ := rg_person g1
        obtain ⟨q, hq, rfl⟩ := rg_person g2
        by_cases e : p = q
        · rw [if_pos (by rw [e]), if_pos (by rw [e])]; exact ⟨_, _, _, rfl, rfl, hnow⟩
        · rw [if_neg (fun z => e ((nI_eq (by omega) (by omega)).mp z)), if_neg (fun z => e ((nI_eq (by omega) (by omega)).mp z))]
          unfold fnX0_swapSeats
          have hP1 := ct_pl_lt c3 hp
          have hQ1 := ct_pl_lt c3 hq
          rw [xs_placeOf hF c1 x2 c3 hp, xs_placeOf hF c1 x2 c3 hq, ym_placeOf hF c1 c3 m6 hp, ym_placeOf hF c1 c3 m6 hq]
          simp only [sx_c1]
          rw [sx_gd_e (nm_ib (by omega)), sx_gd_e (nm_ib (by omega)), ym_ix11, ym_ix11, sx_gd_e (nm_ib (by omega)), sx_gd_e (nm_ib (by omega)), nI_clamp (by omega), nI_clamp (by omega), nI_clamp (by omega), nI_clamp (by omega)]
          simp only []
          have ok := cc_sw_ok hC0 hp hq
          have hx : cx_St (cc_n C) (cc_st (cc_sw C p q)) (upd (upd x_now_seating (ct_pl (cc_st C) p (cc_n C)) (nI q)) (ct_pl (cc_st C) q (cc_n C)) (nI p)) := fun i hi => by
            rw [cc_sw_at hC0 hp hq e hi]
            by_cases e1 : i = ct_pl (cc_st C) q (cc_n C)
            · rw [if_pos e1, e1, pu_same]
            · rw [if_neg e1, pu_ne e1]
              by_cases e2 : i = ct_pl (cc_st C) p (cc_n C)
              · rw [if_pos e2, e2, pu_same]
              · rw [if_neg e2, pu_ne e2]; exact x2 i hi
          have hm : ∀ i, i < cc_n C → upd (upd m_now (11 + ct_pl (cc_st C) p (cc_n C)) (nI q)) (11 + ct_pl (cc_st C) q (cc_n C)) (nI p) (11 + i) = nI (cc_st (cc_sw C p q) i) := fun i hi => by
            rw [cc_sw_at hC0 hp hq e hi]
            by_cases e1 : i = ct_pl (cc_st C) q (cc_n C)
            · rw [if_pos e1, e1, pu_same]
            · rw [if_neg e1, pu_ne (by omega)]
              by_cases e2 : i = ct_pl (cc_st C) p (cc_n C)
              · rw [if_pos e2, e2, pu_same]
              · rw [if_neg e2, pu_ne (by omega)]; exact m6 i hi
          have hkp : ∀ j, (j < 11 ∨ 17 ≤ j) → upd (upd m_now (11 + ct_pl (cc_st C) p (cc_n C)) (nI q)) (11 + ct_pl (cc_st C) q (cc_n C)) (nI p) j = m_now j := fun j hj => by rw [pu_ne (by omega), pu_ne (by omega)]
          rw [nm_1, xs_beside (k := 1) (st := cc_st (cc_sw C p q)) hF c1 hx ok.2.2.1 hp (by omega), ym_beside (k := 1) (st := cc_st (cc_sw C p q)) hF c1 ok.2.2.1 (by rw [hkp 0 (by omega)]; exact m0) hm hp (by omega)]
          refine ⟨_, _, _, rfl, rfl, cc_sw C p q, k, hs, ok, hk, ⟨x1, hx, x3, x4, rfl, rfl, rfl, rfl, rfl⟩, hP, ⟨⟨?_, ?_, ?_, ?_, ?_, fun p hp => ?_, hm⟩, fun p hp t ht => ?_⟩, hU, rfl⟩
          · rw [hkp 0 (by omega)]; exact m0
          · rw [hkp 1 (by omega)]; exact m1
          · rw [hkp 2 (by omega)]; exact m2
          · rw [hkp 3 (by omega)]; exact m3
          · rw [hkp 4 (by omega)]; exact m4
          · have hp' : p < cc_n C := hp
            rw [hkp _ (by omega)]; exact m5 p hp
          · rw [hkp _ (by omega)]; exact mS p hp t ht
      · rw [if_pos g2, if_pos g2]; exact ⟨_, _, _, rfl, rfl, hnow⟩
    · rw [if_pos g1, if_pos g1]; exact ⟨_, _, _, rfl, rfl, hnow⟩
  obtain ⟨r, w_x_now_seating, v_m_now, e1, e2, khnow⟩ := key
  refine ⟨r, (x_now_kinds, w_x_now_seating, x_now_knows, x_now_seals, x_now_telling, x_now_persons, x_now_wax, x_now_week, x_now_day, x_now_draw, x_past_knows, x_past_seals, x_past_dates, x_past_draws, x_past_next, x_past_steps, x_imageCourt_kinds, x_imageCourt_seating, x_imageCourt_knows, x_imageCourt_seals, x_imageCourt_telling, x_imageCourt_persons, x_imageCourt_wax, x_imageCourt_week, x_imageCourt_day, x_imageCourt_draw, x_imagePast_knows, x_imagePast_seals, x_imagePast_dates, x_imagePast_draws, x_imagePast_next, x_imagePast_steps, x_imaged, x_trial_kinds, x_trial_seating, x_trial_knows, x_trial_seals, x_trial_telling, x_trial_persons, x_trial_wax, x_trial_week, x_trial_day, x_trial_draw, x_order, x_bestOrder, x_tape_letters, x_tape_length, x_tape_at, x_sl, x_sn, x_si), (v_m_now, m_tape, m_typed, m_place, m_isFault, m_read, m_heard, m_undone, m_undos, m_aside, m_kept, m_keptUndos, m_isKept, m_lanes, m_sizes, m_items, m_moved), ?_, ?_, khnow, himg, htape, hsheet⟩
  · unfold xo_seats; simp only []; rw [e1]; rfl
  · unfold mo_seats; simp only []; rw [e2]; rfl
def cc_put (C : ctC) (p t v : Nat) : ctC := (cc_n C, cc_kd C, cc_st C, ct_put (cc_sl C) p t v, cc_wx C, cc_wk C, cc_dy C, cc_dr C)
theorem cc_put_ok {C : ctC} {B : Nat} (hC : cc_ok C B) (p t : Nat) {v : Nat} (hv : v ≤ 10) : cc_ok (cc_put C p t v) B := by
  obtain ⟨c1, c2, c3, c4, c5, c6, c7, c8⟩ := hC
  exact ⟨c1, c2, c3, ct_put_sl c4 hv, c5, c6, c7, c8⟩
theorem cm_put {C : ctC} {w : Nat → Int32} {p t v : Nat} {y : Int32} (hn : cc_n C ≤ 6) (hw : cm_C C w) (hp : p < cc_n C) (ht : t < 8) (hy : y = cm_v v) : cm_C (cc_put C p t v) (upd w (17 + 8 * p + t) y) := by
  refine ⟨cm_H.kept (C := C) hw.1 hn (fun j hj => pu_ne (by omega)), fun q hq u hu => ?_⟩
  show _ = cm_v (if q = p ∧ u = t then v else cc_sl C q u)
  by_cases e : q = p ∧ u = t
  · rw [if_pos e, e.1, e.2, pu_same, hy]
  · rw [if_neg e, pu_ne (fun z => e (by omega))]; exact hw.2 q hq u hu
theorem ag_trust (a1 : Int32) (a2 : Int32) {X : SX} {M : SM} (h : LInv X M) : ∃ r X2 M2, xo_trust 1000 a1 a2 X = some (r, X2) ∧ mo_trust 1000 a1 a2 M = some (r, M2) ∧ LInv X2 M2 := by
  obtain ⟨x_now_kinds, x_now_seating, x_now_knows, x_now_seals, x_now_telling, x_now_persons, x_now_wax, x_now_week, x_now_day, x_now_draw, x_past_knows, x_past_seals, x_past_dates, x_past_draws, x_past_next, x_past_steps, x_imageCourt_kinds, x_imageCourt_seating, x_imageCourt_knows, x_imageCourt_seals, x_imageCourt_telling, x_imageCourt_persons, x_imageCourt_wax, x_imageCourt_week, x_imageCourt_day, x_imageCourt_draw, x_imagePast_knows, x_imagePast_seals, x_imagePast_dates, x_imagePast_draws, x_imagePast_next, x_imagePast_steps, x_imaged, x_trial_kinds, x_trial_seating, x_trial_knows, x_trial_seals, x_trial_telling, x_trial_persons, x_trial_wax, x_trial_week, x_trial_day, x_trial_draw, x_order, x_bestOrder, x_tape_letters, x_tape_length, x_tape_at, x_sl, x_sn, x_si⟩ := X
  obtain ⟨m_now, m_tape, m_typed, m_place, m_isFault, m_read, m_heard, m_undone, m_undos, m_aside, m_kept, m_keptUndos, m_isKept, m_lanes, m_sizes, m_items, m_moved⟩ := M
  obtain ⟨hnow, himg, htape, hsheet⟩ := h
  have key : ∃ (r : Int32) (w_x_now_knows : Nat → Int64) (w_x_now_seals : Nat → Int64) (w_x_past_knows : Nat → Int64) (w_x_past_seals : Nat → Int64) (w_x_past_dates : Nat → Int32) (w_x_past_draws : Nat → Int32) (w_x_past_next : Int32) (w_x_past_steps : Int32) (v_m_now : Nat → Int32) (v_m_undone : Nat → Int32) (v_m_undos : Int32), fnX4_trust 1000 x_now_knows x_now_seals x_now_persons x_now_wax x_now_day x_now_draw x_past_knows x_past_seals x_past_dates x_past_draws x_past_next x_past_steps a1 a2 = some (r, w_x_now_knows, w_x_now_seals, w_x_past_knows, w_x_past_seals, w_x_past_dates, w_x_past_draws, w_x_past_next, w_x_past_steps) ∧ fnX5_trust 1000 m_now m_undone m_undos a1 a2 = some (r, v_m_now, v_m_undone, v_m_undos) ∧ P_now x_now_kinds x_now_seating w_x_now_knows w_x_now_seals x_now_persons x_now_wax x_now_week x_now_day x_now_draw w_x_past_knows w_x_past_seals w_x_past_dates w_x_past_draws w_x_past_next w_x_past_steps v_m_now v_m_undone v_m_undos := by
    have hnow2 := hnow
    obtain ⟨C, k, hs, hC, hk, hX, hP, hM, hU, rfl⟩ := hnow2
    have hC0 := hC
    obtain ⟨c1, c2, c3, c4, c5, c6, c7, c8⟩ := hC
    obtain ⟨x1, x2, x3, x4, rfl, rfl, rfl, rfl, rfl⟩ := hX
    have hM0 := hM
    obtain ⟨⟨m0, m1, m2, m3, m4, m5, m6⟩, mS⟩ := hM
    have hF : 1000 ≤ 1000 := Nat.le_refl _
    unfold fnX4_trust fnX5_trust
    rw [xs_isPerson _ c1, xs_isThing, ym_isPerson _ c1 m0, ym_isThing]
    simp only [sx_c1, if1]
    by_cases g1 : rg a1 0 ((cc_n C : Int) - 1) = true
    · rw [if_neg (not_not_intro g1), if_neg (not_not_intro g1)]
      by_cases g : rg a2 0 7 = true
      · rw [if_neg (not_not_intro g), if_neg (not_not_intro g)]
        obtain ⟨p, hp, rfl⟩ := rg_person g1
        obtain ⟨t, -, ht, rfl⟩ := rg_of (lo := 0) (hi := 7) g
        have hx := c4 p hp t (by omega)
        rw [xs_isKnownBy c1 hp (by omega) x3, ym_knows _ _ (by omega) (by omega) (by omega) (mS p hp t (by omega))]
        simp only []
        by_cases z : cc_sl C p t = 0
        · obtain ⟨pk', ps', pd', pr', pn', pt', e1, hP'⟩ := xs_keep (F := 1000) (day := cc_dy C) (draw := cc_dr C) c1 hk.1 hP x3 x4
          obtain ⟨a', b', e2, ha', hb'⟩ := xs_learn (F := 1000) (p := p) (t := t) (v := cc_wx C) c1 hp (by omega) c5.2 c4 x3 x4
          obtain ⟨un', e3, hU'⟩ := ym_notes (F := 1000) (day := cc_dy C) (draw := cc_dr C) hF c1 hk.1 hU mS m1 m4
          have hM' := cm_put (y := m_now 2) (v := cc_wx C + 1) c1 hM0 hp (show t < 8 by omega) (by rw [m2]; rfl)
          have hw' : ct_sl (cc_n C) (ct_put (cc_sl C) p t (cc_wx C + 1)) := ct_put_sl c4 (by omega)
          rw [if_pos z, if_pos rfl, if_pos rfl, e1, e3]
          simp only [sx_c6, sx_c2]
          rw [e2, ym_ix, sx_gd_e (nm_ib (by omega)), nI_clamp (by omega), sx_n2]
          simp only [sx_c2]
          rw [xs_rankOf c1 hp hw' hb', ym_rank hF c1 hp hw' hM'.2]
          exact ⟨_, _, _, _, _, _, _, _, _, _, _, _, rfl, rfl, cc_put C p t (cc_wx C + 1), _, _, cc_put_ok hC0 p t (by omega), hs_add_ok (s := (cc_sl C, cc_dy C, cc_dr C)) hk c4 c7 c8, ⟨x1, x2, ha', hb', rfl, rfl, rfl, rfl, rfl⟩, hP', hM', hU', rfl⟩
        · rw [if_neg z, if_neg (by decide), if_neg (by decide)]; exact ⟨_, _, _, _, _, _, _, _, _, _, _, _, rfl, rfl, hnow⟩
      · rw [if_pos g, if_pos g]; exact ⟨_, _, _, _, _, _, _, _, _, _, _, _, rfl, rfl, hnow⟩
    · rw [if_pos g1, if_pos g1]; exact ⟨_, _, _, _, _, _, _, _, _, _, _, _, rfl, rfl, hnow⟩
  obtain ⟨r, w_x_now_knows, w_x_now_seals, w_x_past_knows, w_x_past_seals, w_x_past_dates, w_x_past_draws, w_x_past_next, w_x_past_steps, v_m_now, v_m_undone, v_m_undos, e1, e2, khnow⟩ := key
  refine ⟨r, (x_now_kinds, x_now_seating, w_x_now_knows, w_x_now_seals, x_now_telling, x_now_persons, x_now_wax, x_now_week, x_now_day, x_now_draw, w_x_past_knows, w_x_past_seals, w_x_past_dates, w_x_past_draws, w_x_past_next, w_x_past_steps, x_imageCourt_kinds, x_imageCourt_seating, x_imageCourt_knows, x_imageCourt_seals, x_imageCourt_telling, x_imageCourt_persons, x_imageCourt_wax, x_imageCourt_week, x_imageCourt_day, x_imageCourt_draw, x_imagePast_knows, x_imagePast_seals, x_imagePast_dates, x_imagePast_draws, x_imagePast_next, x_imagePast_steps, x_imaged, x_trial_kinds, x_trial_seating, x_trial_knows, x_trial_seals, x_trial_telling, x_trial_persons, x_trial_wax, x_trial_week, x_trial_day, x_trial_draw, x_order, x_bestOrder, x_tape_letters, x_tape_length, x_tape_at, x_sl, x_sn, x_si), (v_m_now, m_tape, m_typed, m_place, m_isFault, m_read, m_heard, v_m_undone, v_m_undos, m_aside, m_kept, m_keptUndos, m_isKept, m_lanes, m_sizes, m_items, m_moved), ?_, ?_, khnow, himg, htape, hsheet⟩
  · unfold xo_trust; simp only []; rw [e1]; rfl
  · unfold mo_trust; simp only []; rw [e2]; rfl
theorem ag_seal (a1 : Int32) (a2 : Int32) {X : SX} {M : SM} (h : LInv X M) : ∃ r X2 M2, xo_seal 1000 a1 a2 X = some (r, X2) ∧ mo_seal 1000 a1 a2 M = some (r, M2) ∧ LInv X2 M2 := by
  obtain ⟨x_now_kinds, x_now_seating, x_now_knows, x_now_seals, x_now_telling, x_now_persons, x_now_wax, x_now_week, x_now_day, x_now_draw, x_past_knows, x_past_seals, x_past_dates, x_past_draws, x_past_next, x_past_steps, x_imageCourt_kinds, x_imageCourt_seating, x_imageCourt_knows, x_imageCourt_seals, x_imageCourt_telling, x_imageCourt_persons, x_imageCourt_wax, x_imageCourt_week, x_imageCourt_day, x_imageCourt_draw, x_imagePast_knows, x_imagePast_seals, x_imagePast_dates, x_imagePast_draws, x_imagePast_next, x_imagePast_steps, x_imaged, x_trial_kinds, x_trial_seating, x_trial_knows, x_trial_seals, x_trial_telling, x_trial_persons, x_trial_wax, x_trial_week, x_trial_day, x_trial_draw, x_order, x_bestOrder, x_tape_letters, x_tape_length, x_tape_at, x_sl, x_sn, x_si⟩ := X
  obtain ⟨m_now, m_tape, m_typed, m_place, m_isFault, m_read, m_heard, m_undone, m_undos, m_aside, m_kept, m_keptUndos, m_isKept, m_lanes, m_sizes, m_items, m_moved⟩ := M
  obtain ⟨hnow, himg, htape, hsheet⟩ := h
  have key : ∃ (r : Int32) (w_x_now_knows : Nat → Int64) (w_x_now_seals : Nat → Int64) (w_x_past_knows : Nat → Int64) (w_x_past_seals : Nat → Int64) (w_x_past_dates : Nat → Int32) (w_x_past_draws : Nat → Int32) (w_x_past_next : Int32) (w_x_past_steps : Int32) (v_m_now : Nat → Int32) (v_m_undone : Nat → Int32) (v_m_undos : Int32), fnX4_seal 1000 x_now_knows x_now_seals x_now_persons x_now_wax x_now_day x_now_draw x_past_knows x_past_seals x_past_dates x_past_draws x_past_next x_past_steps a1 a2 = some (r, w_x_now_knows, w_x_now_seals, w_x_past_knows, w_x_past_seals, w_x_past_dates, w_x_past_draws, w_x_past_next, w_x_past_steps) ∧ fnX5_seal 1000 m_now m_undone m_undos a1 a2 = some (r, v_m_now, v_m_undone, v_m_undos) ∧ P_now x_now_kinds x_now_seating w_x_now_knows w_x_now_seals x_now_persons x_now_wax x_now_week x_now_day x_now_draw w_x_past_knows w_x_past_seals w_x_past_dates w_x_past_draws w_x_past_next w_x_past_steps v_m_now v_m_undone v_m_undos := by
    have hnow2 := hnow
    obtain ⟨C, k, hs, hC, hk, hX, hP, hM, hU, rfl⟩ := hnow2
    have hC0 := hC
    obtain ⟨c1, c2, c3, c4, c5, c6, c7, c8⟩ := hC
    obtain ⟨x1, x2, x3, x4, rfl, rfl, rfl, rfl, rfl⟩ := hX
    have hM0 := hM
    obtain ⟨⟨m0, m1, m2, m3, m4, m5, m6⟩, mS⟩ := hM
    have hF : 1000 ≤ 1000 := Nat.le_refl _
    unfold fnX4_seal fnX5_seal
    rw [xs_isPerson _ c1, xs_isThing, ym_isPerson _ c1 m0, ym_isThing]
    simp only [sx_c1, if1]
    by_cases g1 : rg a1 0 ((cc_n C : Int) - 1) = true
    · rw [if_neg (not_not_intro g1), if_neg (not_not_intro g1)]
      by_cases g : rg a2 0 7 = true
      · rw [if_neg (not_not_intro g), if_neg (not_not_intro g)]
        obtain ⟨p, hp, rfl⟩ := rg_person g1
        obtain ⟨t, -, ht, rfl⟩ := rg_of (lo := 0) (hi := 7) g
        have hx := c4 p hp t (by omega)
        rw [xs_isKnownBy c1 hp (by omega) x3, ym_knows _ _ (by omega) (by omega) (by omega) (mS p hp t (by omega))]
        simp only []
        by_cases z : cc_sl C p t = 0
        · rw [if_pos z, if_pos rfl, if_pos rfl]; exact ⟨_, _, _, _, _, _, _, _, _, _, _, _, rfl, rfl, hnow⟩
        · obtain ⟨pk', ps', pd', pr', pn', pt', e1, hP'⟩ := xs_keep (F := 1000) (day := cc_dy C) (draw := cc_dr C) c1 hk.1 hP x3 x4
          obtain ⟨a', b', e2, ha', hb'⟩ := xs_learn (F := 1000) (p := p) (t := t) (v := cc_wx C) c1 hp (by omega) c5.2 c4 x3 x4
          obtain ⟨un', e3, hU'⟩ := ym_notes (F := 1000) (day := cc_dy C) (draw := cc_dr C) hF c1 hk.1 hU mS m1 m4
          have hM' := cm_put (y := m_now 2) (v := cc_wx C + 1) c1 hM0 hp (show t < 8 by omega) (by rw [m2]; rfl)
          have hw' : ct_sl (cc_n C) (ct_put (cc_sl C) p t (cc_wx C + 1)) := ct_put_sl c4 (by omega)
          rw [if_neg z, if_neg (by decide), if_neg (by decide), xs_strengthOf c1 hp (by omega) c4 x4, e3]
          simp only [sx_c1, sx_c2]
          rw [e1, ym_sealOf _ _ (by omega) (by omega), mS p hp t (by omega), cm_vs z]
          simp only [sx_c1, sx_c6]
          rw [e2, ym_ix, sx_gd_e (nm_ib (by omega)), nI_clamp (by omega), sx_n2]
          exact ⟨_, _, _, _, _, _, _, _, _, _, _, _, rfl, rfl, cc_put C p t (cc_wx C + 1), _, _, cc_put_ok hC0 p t (by omega), hs_add_ok (s := (cc_sl C, cc_dy C, cc_dr C)) hk c4 c7 c8, ⟨x1, x2, ha', hb', rfl, rfl, rfl, rfl, rfl⟩, hP', hM', hU', rfl⟩
      · rw [if_pos g, if_pos g]; exact ⟨_, _, _, _, _, _, _, _, _, _, _, _, rfl, rfl, hnow⟩
    · rw [if_pos g1, if_pos g1]; exact ⟨_, _, _, _, _, _, _, _, _, _, _, _, rfl, rfl, hnow⟩
  obtain ⟨r, w_x_now_knows, w_x_now_seals, w_x_past_knows, w_x_past_seals, w_x_past_dates, w_x_past_draws, w_x_past_next, w_x_past_steps, v_m_now, v_m_undone, v_m_undos, e1, e2, khnow⟩ := key
  refine ⟨r, (x_now_kinds, x_now_seating, w_x_now_knows, w_x_now_seals, x_now_telling, x_now_persons, x_now_wax, x_now_week, x_now_day, x_now_draw, w_x_past_knows, w_x_past_seals, w_x_past_dates, w_x_past_draws, w_x_past_next, w_x_past_steps, x_imageCourt_kinds, x_imageCourt_seating, x_imageCourt_knows, x_imageCourt_seals, x_imageCourt_telling, x_imageCourt_persons, x_imageCourt_wax, x_imageCourt_week, x_imageCourt_day, x_imageCourt_draw, x_imagePast_knows, x_imagePast_seals, x_imagePast_dates, x_imagePast_draws, x_imagePast_next, x_imagePast_steps, x_imaged, x_trial_kinds, x_trial_seating, x_trial_knows, x_trial_seals, x_trial_telling, x_trial_persons, x_trial_wax, x_trial_week, x_trial_day, x_trial_draw, x_order, x_bestOrder, x_tape_letters, x_tape_length, x_tape_at, x_sl, x_sn, x_si), (v_m_now, m_tape, m_typed, m_place, m_isFault, m_read, m_heard, v_m_undone, v_m_undos, m_aside, m_kept, m_keptUndos, m_isKept, m_lanes, m_sizes, m_items, m_moved), ?_, ?_, khnow, himg, htape, hsheet⟩
  · unfold xo_seal; simp only []; rw [e1]; rfl
  · unfold mo_seal; simp only []; rw [e2]; rfl
theorem ym_undo_l {F z : Nat} {un : Nat → Int32} (hz : z < 8) (kf : (Nat → Int32) → Option (Int32 × (Nat → Int32) × Int32)) : ∀ k i, i + k = 48 → ∀ fuel, k < fuel → ∀ w : Nat → Int32, (∀ j, j < i → w (17 + j) = un (50 * z + j)) → ∃ w', sx_lp2 (bdX5_undo_22 F un (nI z) kf) fuel (nI i) w = kf w' ∧ (∀ j, j < 48 → w' (17 + j) = un (50 * z + j)) ∧ ∀ j, j < 17 → w' j = w j := by
  intro k
  induction k with
  | zero =>
    intro i hi fuel hf u h1
    obtain ⟨f, rfl⟩ : ∃ f, fuel = f + 1 := ⟨fuel - 1, by omega⟩
    rw [sx_lp2_1, bdX5_undo_22, nm_48, if_pos (nI_leT (by omega) (by omega))]
    exact ⟨u, rfl, fun j hj => h1 j (by omega), fun _ _ => rfl⟩
  | succ k ih =>
    intro i hi fuel hf u h1
    obtain ⟨f, rfl⟩ : ∃ f, fuel = f + 1 := ⟨fuel - 1, by omega⟩
    rw [sx_lp2_1, bdX5_undo_22, nm_48, nm_17, nm_50, if_neg (nI_nleI (by omega) (by omega)), pk_mul, nI_add, nI_add, sx_gd_e (nm_ib (by omega)), sx_gd_e (nm_ib (by omega)), nI_clamp (by omega), nI_clamp (by omega), nI_1]
    simp only [sx_nm]
    obtain ⟨u', q1, q2, q3⟩ := ih (i + 1) (by omega) f (by omega) (upd u (17 + i) (un (50 * z + i))) (fun j hj => by
      by_cases e : j = i
      · subst e; rw [pu_same]
      · rw [pu_ne (by omega)]; exact h1 j (by omega))
    exact ⟨u', q1, q2, fun j hj => by rw [q3 j hj, pu_ne (by omega)]⟩
theorem ym_undo {F n k : Nat} {hs : Nat → snp} {w un : Nat → Int32} (hF : 1000 ≤ F) (hn : n ≤ 6) (hk : k ≤ 8) (hk0 : 0 < k) (hU : cm_U n k hs un) :
    ∃ w', fnX5_undo F w un (nI k) = some (nI (k - 1), w', nI (k - 1)) ∧ (∀ j, j < 17 → j ≠ 1 → j ≠ 4 → w' j = w j) ∧ w' 1 = nI (hs 0).2.1 ∧ w' 4 = nI (hs 0).2.2 ∧ cm_S n (hs 0).1 w' ∧ cm_U n (k - 1) (fun i => hs (i + 1)) un := by
  unfold fnX5_undo
  simp only [sx_lt]
  rw [if_neg (show ¬ nI k = (0 : Int32) by rw [nm_0, nI_eq (by omega) (by omega)]; omega), nm_1, pk_sub (by omega), nm_50, nm_48, nm_49, pk_mul, nI_add, nI_add, nI_clamp (by omega), nI_clamp (by omega), nI_clamp (by omega), sx_n4]
  obtain ⟨w', q1, q2, q3⟩ := ym_undo_l (F := F) (z := k - 1) (un := un) (by omega) (fun z2 => sx_gd (sx_ib (nI (50 * (k - 1) + 48)) 400) (sx_gd (sx_ib (nI (50 * (k - 1) + 49)) 400) (some (nI (k - 1), upd (upd z2 1 (un (50 * (k - 1) + 48))) 4 (un (50 * (k - 1) + 49)), nI (k - 1))))) 48 0 (by omega) F (by omega) w (fun j hj => by omega)
  rw [nm_0, q1, sx_gd_e (nm_ib (by omega)), sx_gd_e (nm_ib (by omega))]
  obtain ⟨r1, r2, r3⟩ := hU 0 hk0
  rw [show k - 1 - 0 = k - 1 by omega] at r1 r2 r3
  refine ⟨_, rfl, fun j hj h1 h4 => ?_, ?_, ?_, fun p hp t ht => ?_, fun i hi => ?_⟩
  · rw [pu_ne h4, pu_ne h1, q3 j hj]
  · rw [pu_ne (by omega), pu_same, r2]
  · rw [pu_same, r3]
  · rw [pu_ne (by omega), pu_ne (by omega), show 17 + 8 * p + t = 17 + (8 * p + t) by omega, q2 _ (by omega)]; exact r1 p hp t ht
  · have := hU (i + 1) (by omega)
    rw [show k - 1 - (i + 1) = k - 1 - 1 - i by omega] at this
    exact this
theorem ag_undo {X : SX} {M : SM} (h : LInv X M) : ∃ r X2 M2, xo_undo 1000 X = some (r, X2) ∧ mo_undo 1000 M = some (r, M2) ∧ LInv X2 M2 := by
  obtain ⟨x_now_kinds, x_now_seating, x_now_knows, x_now_seals, x_now_telling, x_now_persons, x_now_wax, x_now_week, x_now_day, x_now_draw, x_past_knows, x_past_seals, x_past_dates, x_past_draws, x_past_next, x_past_steps, x_imageCourt_kinds, x_imageCourt_seating, x_imageCourt_knows, x_imageCourt_seals, x_imageCourt_telling, x_imageCourt_persons, x_imageCourt_wax, x_imageCourt_week, x_imageCourt_day, x_imageCourt_draw, x_imagePast_knows, x_imagePast_seals, x_imagePast_dates, x_imagePast_draws, x_imagePast_next, x_imagePast_steps, x_imaged, x_trial_kinds, x_trial_seating, x_trial_knows, x_trial_seals, x_trial_telling, x_trial_persons, x_trial_wax, x_trial_week, x_trial_day, x_trial_draw, x_order, x_bestOrder, x_tape_letters, x_tape_length, x_tape_at, x_sl, x_sn, x_si⟩ := X
  obtain ⟨m_now, m_tape, m_typed, m_place, m_isFault, m_read, m_heard, m_undone, m_undos, m_aside, m_kept, m_keptUndos, m_isKept, m_lanes, m_sizes, m_items, m_moved⟩ := M
  obtain ⟨hnow, himg, htape, hsheet⟩ := h
  have key : ∃ (r : Int32) (w_x_now_knows : Nat → Int64) (w_x_now_seals : Nat → Int64) (w_x_now_day : Int32) (w_x_now_draw : Int32) (w_x_past_next : Int32) (w_x_past_steps : Int32) (v_m_now : Nat → Int32) (v_m_undos : Int32), fnX4_undo 1000 x_now_knows x_now_seals x_now_day x_now_draw x_past_knows x_past_seals x_past_dates x_past_draws x_past_next x_past_steps = some (r, w_x_now_knows, w_x_now_seals, w_x_now_day, w_x_now_draw, w_x_past_next, w_x_past_steps) ∧ fnX5_undo 1000 m_now m_undone m_undos = some (r, v_m_now, v_m_undos) ∧ P_now x_now_kinds x_now_seating w_x_now_knows w_x_now_seals x_now_persons x_now_wax x_now_week w_x_now_day w_x_now_draw x_past_knows x_past_seals x_past_dates x_past_draws w_x_past_next w_x_past_steps v_m_now m_undone v_m_undos := by
    have hnow2 := hnow
    obtain ⟨C, k, hs, hC, hk, hX, hP, hM, hU, rfl⟩ := hnow2
    have hC0 := hC
    obtain ⟨c1, c2, c3, c4, c5, c6, c7, c8⟩ := hC
    obtain ⟨x1, x2, x3, x4, rfl, rfl, rfl, rfl, rfl⟩ := hX
    have hM0 := hM
    obtain ⟨⟨m0, m1, m2, m3, m4, m5, m6⟩, mS⟩ := hM
    have hF : 1000 ≤ 1000 := Nat.le_refl _
    by_cases e : k = 0
    · obtain ⟨x, hx, hnx, hst, -⟩ := hP
      unfold fnX4_undo fnX5_undo
      rw [hst, e, if_pos nm_0.symm, if_pos nm_0.symm]
      rw [e] at hst
      rw [hst, e] at hnow
      exact ⟨_, _, _, _, _, _, _, _, _, rfl, rfl, hnow⟩
    · obtain ⟨nx', a', b', e1, hP', ha', hb'⟩ := xs_takeBack (F := 1000) x_now_knows x_now_seals (nI (cc_dy C)) (nI (cc_dr C)) c1 hk.1 (by omega) hP
      obtain ⟨w', e2, hk1, h1, h4, hS', hU'⟩ := ym_undo (F := 1000) (w := m_now) hF c1 hk.1 (by omega) hU
      obtain ⟨s1, s2, s3⟩ := hk.2 0 (by omega)
      have hst : x_past_steps = nI k := by obtain ⟨x, -, -, h, -⟩ := hP; exact h
      unfold fnX4_undo
      rw [e1, e2, hst, if_neg (show ¬ nI k = (0 : Int32) by rw [nm_0, nI_eq (by have := hk.1; omega) (by omega)]; exact e)]
      simp only [sx_c6]
      refine ⟨_, _, _, _, _, _, _, _, _, rfl, rfl, (cc_n C, cc_kd C, cc_st C, (hs 0).1, cc_wx C, cc_wk C, (hs 0).2.1, (hs 0).2.2), k - 1, fun i => hs (i + 1), ⟨c1, c2, c3, s1, c5, c6, s2, s3⟩, ⟨by have := hk.1; omega, fun i hi => hk.2 (i + 1) (by omega)⟩, ⟨x1, x2, ha', hb', rfl, rfl, rfl, rfl, rfl⟩, hP', ⟨⟨?_, h1, ?_, ?_, h4, fun p hp => ?_, fun p hp => ?_⟩, hS'⟩, hU', rfl⟩
      · rw [hk1 0 (by omega) (by omega) (by omega)]; exact m0
      · rw [hk1 2 (by omega) (by omega) (by omega)]; exact m2
      · rw [hk1 3 (by omega) (by omega) (by omega)]; exact m3
      · have hp' : p < cc_n C := hp
        rw [hk1 _ (by omega) (by omega) (by omega)]; exact m5 p hp
      · have hp' : p < cc_n C := hp
        rw [hk1 _ (by omega) (by omega) (by omega)]; exact m6 p hp
  obtain ⟨r, w_x_now_knows, w_x_now_seals, w_x_now_day, w_x_now_draw, w_x_past_next, w_x_past_steps, v_m_now, v_m_undos, e1, e2, khnow⟩ := key
  refine ⟨r, (x_now_kinds, x_now_seating, w_x_now_knows, w_x_now_seals, x_now_telling, x_now_persons, x_now_wax, x_now_week, w_x_now_day, w_x_now_draw, x_past_knows, x_past_seals, x_past_dates, x_past_draws, w_x_past_next, w_x_past_steps, x_imageCourt_kinds, x_imageCourt_seating, x_imageCourt_knows, x_imageCourt_seals, x_imageCourt_telling, x_imageCourt_persons, x_imageCourt_wax, x_imageCourt_week, x_imageCourt_day, x_imageCourt_draw, x_imagePast_knows, x_imagePast_seals, x_imagePast_dates, x_imagePast_draws, x_imagePast_next, x_imagePast_steps, x_imaged, x_trial_kinds, x_trial_seating, x_trial_knows, x_trial_seals, x_trial_telling, x_trial_persons, x_trial_wax, x_trial_week, x_trial_day, x_trial_draw, x_order, x_bestOrder, x_tape_letters, x_tape_length, x_tape_at, x_sl, x_sn, x_si), (v_m_now, m_tape, m_typed, m_place, m_isFault, m_read, m_heard, m_undone, v_m_undos, m_aside, m_kept, m_keptUndos, m_isKept, m_lanes, m_sizes, m_items, m_moved), ?_, ?_, khnow, himg, htape, hsheet⟩
  · unfold xo_undo; simp only []; rw [e1]; rfl
  · unfold mo_undo; simp only []; rw [e2]; rfl
