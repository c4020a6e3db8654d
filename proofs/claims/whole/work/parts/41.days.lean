-- DAYS, IMAGES
def rn (g : ctC → ctC) : Nat → ctC → Nat → (Nat → snp) → ctC × Nat × (Nat → snp)
  | 0, C, k, hs => (C, k, hs)
  | i + 1, C, k, hs => rn g i (g C) (if k < 8 then k + 1 else 8) (hs_add hs (cc_sl C, cc_dy C, cc_dr C))
theorem rn_s (g : ctC → ctC) (i : Nat) (C : ctC) (k : Nat) (hs : Nat → snp) : rn g (i + 1) C k hs = rn g i (g C) (if k < 8 then k + 1 else 8) (hs_add hs (cc_sl C, cc_dy C, cc_dr C)) := rfl
theorem rn_ok {g : ctC → ctC} (hg : ∀ (C : ctC) (B : Nat), cc_ok C B → cc_ok (g C) (B + 1)) (hn : ∀ C, cc_n (g C) = cc_n C) : ∀ (i : Nat) (C : ctC) (B k : Nat) (hs : Nat → snp), cc_ok C B → B + i ≤ 9999 → hs_ok (cc_n C) k hs → cc_ok (rn g i C k hs).1 (B + i) ∧ hs_ok (cc_n (rn g i C k hs).1) (rn g i C k hs).2.1 (rn g i C k hs).2.2 ∧ cc_n (rn g i C k hs).1 = cc_n C := by
  intro i
  induction i with
  | zero => intro C B k hs hC _ hk; exact ⟨hC, hk, rfl⟩
  | succ i ih =>
    intro C B k hs hC hB hk
    obtain ⟨c1, c2, c3, c4, c5, c6, c7, c8⟩ := hC
    have h1 := hs_add_ok (s := (cc_sl C, cc_dy C, cc_dr C)) hk c4 (show cc_dy C ≤ 9999 by omega) c8
    rw [← hn C] at h1
    obtain ⟨r1, r2, r3⟩ := ih (g C) (B + 1) _ _ (hg C B ⟨c1, c2, c3, c4, c5, c6, c7, c8⟩) (by omega) h1
    rw [rn_s]
    exact ⟨r1.mono (by omega), r2, by rw [r3, hn]⟩
theorem ym_draw {d : Nat} (h : d < 2 ^ 31) : (((nI d).toInt64 * (1103515245 : Int64) + (12345 : Int64)) &&& (2147483647 : Int64)).toInt32 = nI (ct_dr d) := by
  rw [nI_l h, show (1103515245 : Int64) = lN 1103515245 from rfl, show (12345 : Int64) = lN 12345 from rfl, show (2147483647 : Int64) = lN (2 ^ 31 - 1) from rfl, lN_mul, lN_add, fb_maskL, lN_i]
  rfl
theorem ym_heat {x : Nat} (h1 : x < 2 ^ 31) : nI x / (65536 : Int32) - nI x / (65536 : Int32) / (10 : Int32) * (10 : Int32) = nI (x / 65536 % 10) := by
  rw [show (65536 : Int32) = nI 65536 by decide +kernel, show (10 : Int32) = nI 10 by decide +kernel, pk_div (by omega) (by omega) (by omega), pk_rem (by omega) (by omega) (by omega)]
def dl_ok (d : Nat → Nat) : Prop := (∀ x, d x < 2 ^ 31) ∧ (∀ F x, fnX0_drawHeat F (nI x) = some (nI (d x / 65536 % 10), nI (d x))) ∧ ∀ x, x < 2 ^ 31 → (((nI x).toInt64 * (1103515245 : Int64) + (12345 : Int64)) &&& (2147483647 : Int64)).toInt32 = nI (d x)
theorem dl_is : ∃ d, dl_ok d := ⟨ct_dr, ct_dr_lt, fun _ _ => xs_drawHeat, fun _ h => ym_draw h⟩
/-- the draw goes on -/
def cc_dw (d : Nat → Nat) (C : ctC) : ctC := (cc_n C, cc_kd C, cc_st C, cc_sl C, cc_wx C, cc_wk C, cc_dy C, d (cc_dr C))
def cc_ht (d : Nat → Nat) (C : ctC) : Nat := d (cc_dr C) / 65536 % 10
theorem cc_ht_le (d : Nat → Nat) (C : ctC) : cc_ht d C ≤ 9 := by unfold cc_ht; omega
theorem cc_dw_ok {d : Nat → Nat} (hd : dl_ok d) {C : ctC} {B : Nat} (hC : cc_ok C B) : cc_ok (cc_dw d C) B := by
  obtain ⟨c1, c2, c3, c4, c5, c6, c7, c8⟩ := hC
  exact ⟨c1, c2, c3, c4, c5, c6, c7, hd.1 _⟩
def cc_df (d : Nat → Nat) (C : ctC) : ctC := cc_day (cc_dw d C) (cc_ht d C)
theorem xr_days_l {F h N : Nat} {ki se : Nat → Int32} {pe wa we dr : Int32} (hF : 1000 ≤ F) (hh : h ≤ 9) (hN : N ≤ 40) : ∀ k i, i + k = N → ∀ fuel, k < fuel → ∀ (C : ctC) (B kk : Nat) (hs : Nat → snp) (a b c : Nat → Int64) (da : Int32) (pk ps : Nat → Int64) (pd pr : Nat → Int32) (pn pt : Int32), B + k ≤ 9999 → cc_ok C B → kk ≤ 8 → cx_C C ki se a b pe wa we da dr → cx_P (cc_n C) kk hs pk ps pd pr pn pt →
    ∃ a' b' c' da' pk' ps' pd' pr' pn' pt', (∀ kf, sx_lp11 (bdX4_days_39 F (nI N) (nI h) ki se pe wa we dr kf) fuel (nI i) a b c da pk ps pd pr pn pt = kf a' b' c' da' pk' ps' pd' pr' pn' pt') ∧ cx_C (rn (fun C => cc_day C h) k C kk hs).1 ki se a' b' pe wa we da' dr ∧ cx_P (cc_n (rn (fun C => cc_day C h) k C kk hs).1) (rn (fun C => cc_day C h) k C kk hs).2.1 (rn (fun C => cc_day C h) k C kk hs).2.2 pk' ps' pd' pr' pn' pt' := by
  intro k
  induction k with
  | zero =>
    intro i hi fuel hf C B kk hs a b c da pk ps pd pr pn pt hB hC hk hX hP
    obtain ⟨f, rfl⟩ : ∃ f, fuel = f + 1 := ⟨fuel - 1, by omega⟩
    exact ⟨a, b, c, da, pk, ps, pd, pr, pn, pt, fun kf => by rw [sx_lp11_1, bdX4_days_39, if_pos (nI_leT (by omega) (by omega))], hX, hP⟩
  | succ k ih =>
    intro i hi fuel hf C B kk hs a b c da pk ps pd pr pn pt hB hC hk hX hP
    obtain ⟨f, rfl⟩ : ∃ f, fuel = f + 1 := ⟨fuel - 1, by omega⟩
    have hda := hX.2.2.2.2.2.2.2.1
    have hdr := hX.2.2.2.2.2.2.2.2
    obtain ⟨pk1, ps1, pd1, pr1, pn1, pt1, e1, hP1⟩ := xs_keep (F := F) (day := cc_dy C) (draw := cc_dr C) hC.1 hk hP hX.2.2.1 hX.2.2.2.1
    rw [← hda, ← hdr] at e1
    obtain ⟨a1, b1, c1, d1, e2, hX1⟩ := xc_live (F := F) (h := h) hF (by omega) hC hh hX c
    obtain ⟨a', b', c', da', pk', ps', pd', pr', pn', pt', q, r1, r2⟩ := ih (i + 1) (by omega) f (by omega) ((fun C => cc_day C h) C) (B + 1) (if kk < 8 then kk + 1 else 8) (hs_add hs (cc_sl C, cc_dy C, cc_dr C)) a1 b1 c1 d1 pk1 ps1 pd1 pr1 pn1 pt1 (by omega) (cc_day_ok hC h) (by split <;> omega) hX1 hP1
    refine ⟨a', b', c', da', pk', ps', pd', pr', pn', pt', fun kf => ?_, r1, r2⟩
    rw [sx_lp11_1, bdX4_days_39, if_neg (nI_nleI (by omega) (by omega)), e1]
    simp only [sx_c6]
    rw [e2]
    simp only [sx_c5, sx_nm, nI_1]
    exact q kf
theorem yr_days_l {F h N : Nat} (hF : 1000 ≤ F) (hh : h ≤ 9) (hN : N ≤ 40) : ∀ k i, i + k = N → ∀ fuel, k < fuel → ∀ (C : ctC) (B kk : Nat) (hs : Nat → snp) (w hd un : Nat → Int32), B + k ≤ 9999 → cc_ok C B → kk ≤ 8 → cm_C C w → cm_U (cc_n C) kk hs un →
    ∃ w' hd' un', (∀ kf, sx_lp5 (bdX5_days_40 F (nI N) (nI h) kf) fuel (nI i) w hd un (nI kk) = kf w' hd' un' (nI (rn (fun C => cc_day C h) k C kk hs).2.1)) ∧ cm_C (rn (fun C => cc_day C h) k C kk hs).1 w' ∧ cm_U (cc_n (rn (fun C => cc_day C h) k C kk hs).1) (rn (fun C => cc_day C h) k C kk hs).2.1 (rn (fun C => cc_day C h) k C kk hs).2.2 un' := by
  intro k
  induction k with
  | zero =>
    intro i hi fuel hf C B kk hs w hd un hB hC hk hw hU
    obtain ⟨f, rfl⟩ : ∃ f, fuel = f + 1 := ⟨fuel - 1, by omega⟩
    exact ⟨w, hd, un, fun kf => by rw [sx_lp5_1, bdX5_days_40, if_pos (nI_leT (by omega) (by omega))]; rfl, hw, hU⟩
  | succ k ih =>
    intro i hi fuel hf C B kk hs w hd un hB hC hk hw hU
    obtain ⟨f, rfl⟩ : ∃ f, fuel = f + 1 := ⟨fuel - 1, by omega⟩
    obtain ⟨un1, e1, hU1⟩ := ym_notes (F := F) (day := cc_dy C) (draw := cc_dr C) hF hC.1 hk hU hw.2 hw.1.2.1 hw.1.2.2.2.2.1
    obtain ⟨w1, hd1, e2, hw1⟩ := ym_goesBy (F := F) (h := h) hF (by omega) hC hh hw hd
    obtain ⟨w', hd', un', q, r1, r2⟩ := ih (i + 1) (by omega) f (by omega) ((fun C => cc_day C h) C) (B + 1) (if kk < 8 then kk + 1 else 8) (hs_add hs (cc_sl C, cc_dy C, cc_dr C)) w1 hd1 un1 (by omega) (cc_day_ok hC h) (by split <;> omega) hw1 hU1
    refine ⟨w', hd', un', fun kf => ?_, r1, r2⟩
    rw [sx_lp5_1, bdX5_days_40, if_neg (nI_nleI (by omega) (by omega)), e1]
    simp only [sx_c2]
    rw [e2]
    simp only [sx_nm, nI_1]
    exact q kf
theorem xr_drift_l {F N : Nat} {dl : Nat → Nat} {ki se : Nat → Int32} {pe wa we : Int32} (hF : 1000 ≤ F) (hl : dl_ok dl) (hN : N ≤ 40) : ∀ k i, i + k = N → ∀ fuel, k < fuel → ∀ (C : ctC) (B kk : Nat) (hs : Nat → snp) (a b c : Nat → Int64) (da : Int32) (dr : Int32) (pk ps : Nat → Int64) (pd pr : Nat → Int32) (pn pt : Int32), B + k ≤ 9999 → cc_ok C B → kk ≤ 8 → cx_C C ki se a b pe wa we da dr → cx_P (cc_n C) kk hs pk ps pd pr pn pt →
    ∃ a' b' c' da' dr' pk' ps' pd' pr' pn' pt', (∀ kf, sx_lp12 (bdX4_drift_32 F (nI N) ki se pe wa we kf) fuel (nI i) a b c da dr pk ps pd pr pn pt = kf a' b' c' da' dr' pk' ps' pd' pr' pn' pt') ∧ cx_C (rn (cc_df dl) k C kk hs).1 ki se a' b' pe wa we da' dr' ∧ cx_P (cc_n (rn (cc_df dl) k C kk hs).1) (rn (cc_df dl) k C kk hs).2.1 (rn (cc_df dl) k C kk hs).2.2 pk' ps' pd' pr' pn' pt' := by
  intro k
  induction k with
  | zero =>
    intro i hi fuel hf C B kk hs a b c da dr pk ps pd pr pn pt hB hC hk hX hP
    obtain ⟨f, rfl⟩ : ∃ f, fuel = f + 1 := ⟨fuel - 1, by omega⟩
    exact ⟨a, b, c, da, dr, pk, ps, pd, pr, pn, pt, fun kf => by rw [sx_lp12_1, bdX4_drift_32, if_pos (nI_leT (by omega) (by omega))], hX, hP⟩
  | succ k ih =>
    intro i hi fuel hf C B kk hs a b c da dr pk ps pd pr pn pt hB hC hk hX hP
    obtain ⟨f, rfl⟩ : ∃ f, fuel = f + 1 := ⟨fuel - 1, by omega⟩
    have hda := hX.2.2.2.2.2.2.2.1
    have hdr := hX.2.2.2.2.2.2.2.2
    obtain ⟨pk1, ps1, pd1, pr1, pn1, pt1, e1, hP1⟩ := xs_keep (F := F) (day := cc_dy C) (draw := cc_dr C) hC.1 hk hP hX.2.2.1 hX.2.2.2.1
    rw [← hda, ← hdr] at e1
    obtain ⟨x1, x2, x3, x4, x5, x6, x7, x8, x9⟩ := hX
    obtain ⟨a1, b1, c1, d1, e2, hX1⟩ := xc_live (F := F) (h := cc_ht dl C) (C := cc_dw dl C) (dr := nI (dl (cc_dr C))) hF (show B ≤ 100000 by omega) (cc_dw_ok hl hC) (cc_ht_le dl C) ⟨x1, x2, x3, x4, x5, x6, x7, x8, rfl⟩ c
    obtain ⟨a', b', c', da', dr', pk', ps', pd', pr', pn', pt', q, r1, r2⟩ := ih (i + 1) (by omega) f (by omega) ((cc_df dl) C) (B + 1) (if kk < 8 then kk + 1 else 8) (hs_add hs (cc_sl C, cc_dy C, cc_dr C)) a1 b1 c1 d1 (nI (dl (cc_dr C))) pk1 ps1 pd1 pr1 pn1 pt1 (by omega) (cc_day_ok (cc_dw_ok hl hC) (cc_ht dl C)) (by split <;> omega) hX1 hP1
    refine ⟨a', b', c', da', dr', pk', ps', pd', pr', pn', pt', fun kf => ?_, r1, r2⟩
    rw [sx_lp12_1, bdX4_drift_32, if_neg (nI_nleI (by omega) (by omega)), e1]
    simp only [sx_c6]
    rw [hdr, hl.2.1]
    simp only [sx_c2]
    rw [show nI (dl (cc_dr C) / 65536 % 10) = nI (cc_ht dl C) from rfl, e2]
    simp only [sx_c5, sx_nm, nI_1]
    exact q kf
theorem yr_drift_l {F N : Nat} {dl : Nat → Nat} (hF : 1000 ≤ F) (hl : dl_ok dl) (hN : N ≤ 40) : ∀ k i, i + k = N → ∀ fuel, k < fuel → ∀ (C : ctC) (B kk : Nat) (hs : Nat → snp) (w hd un : Nat → Int32), B + k ≤ 9999 → cc_ok C B → kk ≤ 8 → cm_C C w → cm_U (cc_n C) kk hs un →
    ∃ w' hd' un', (∀ kf, sx_lp5 (bdX5_drift_33 F (nI N) kf) fuel (nI i) w hd un (nI kk) = kf w' hd' un' (nI (rn (cc_df dl) k C kk hs).2.1)) ∧ cm_C (rn (cc_df dl) k C kk hs).1 w' ∧ cm_U (cc_n (rn (cc_df dl) k C kk hs).1) (rn (cc_df dl) k C kk hs).2.1 (rn (cc_df dl) k C kk hs).2.2 un' := by
  intro k
  induction k with
  | zero =>
    intro i hi fuel hf C B kk hs w hd un hB hC hk hw hU
    obtain ⟨f, rfl⟩ : ∃ f, fuel = f + 1 := ⟨fuel - 1, by omega⟩
    exact ⟨w, hd, un, fun kf => by rw [sx_lp5_1, bdX5_drift_33, if_pos (nI_leT (by omega) (by omega))]; rfl, hw, hU⟩
  | succ k ih =>
    intro i hi fuel hf C B kk hs w hd un hB hC hk hw hU
    obtain ⟨f, rfl⟩ : ∃ f, fuel = f + 1 := ⟨fuel - 1, by omega⟩
    obtain ⟨un1, e1, hU1⟩ := ym_notes (F := F) (day := cc_dy C) (draw := cc_dr C) hF hC.1 hk hU hw.2 hw.1.2.1 hw.1.2.2.2.2.1
    have hw2 : cm_C (cc_dw dl C) (upd w 4 (nI (dl (cc_dr C)))) := by
      have := hC.1
      obtain ⟨⟨m0, m1, m2, m3, m4, m5, m6⟩, mS⟩ := hw
      exact ⟨⟨by rw [pu_ne (by omega)]; exact m0, by rw [pu_ne (by omega)]; exact m1, by rw [pu_ne (by omega)]; exact m2, by rw [pu_ne (by omega)]; exact m3, by rw [pu_same]; rfl, fun p hp => by rw [pu_ne (by omega)]; exact m5 p hp, fun p hp => by rw [pu_ne (by omega)]; exact m6 p hp⟩, fun p hp t ht => by rw [pu_ne (by omega)]; exact mS p hp t ht⟩
    obtain ⟨w1, hd1, e2, hw1⟩ := ym_goesBy (F := F) (h := cc_ht dl C) (C := cc_dw dl C) hF (show B ≤ 100000 by omega) (cc_dw_ok hl hC) (cc_ht_le dl C) hw2 hd
    obtain ⟨w', hd', un', q, r1, r2⟩ := ih (i + 1) (by omega) f (by omega) ((cc_df dl) C) (B + 1) (if kk < 8 then kk + 1 else 8) (hs_add hs (cc_sl C, cc_dy C, cc_dr C)) w1 hd1 un1 (by omega) (cc_day_ok (cc_dw_ok hl hC) (cc_ht dl C)) (by split <;> omega) hw1 hU1
    refine ⟨w', hd', un', fun kf => ?_, r1, r2⟩
    rw [sx_lp5_1, bdX5_drift_33, if_neg (nI_nleI (by omega) (by omega)), e1]
    simp only [sx_c2]
    rw [sx_n4, hw.1.2.2.2.2.1, hl.2.2 _ hC.2.2.2.2.2.2.2, pu_same, ym_heat (hl.1 _), show nI (dl (cc_dr C) / 65536 % 10) = nI (cc_ht dl C) from rfl, e2]
    simp only [sx_nm, nI_1]
    exact q kf
theorem nm_9999 : (9999 : Int32) = nI 9999 := by decide +kernel
theorem ag_days (a1 : Int32) (a2 : Int32) {X : SX} {M : SM} (h : LInv X M) : ∃ r X2 M2, xo_days 1000 a1 a2 X = some (r, X2) ∧ mo_days 1000 a1 a2 M = some (r, M2) ∧ LInv X2 M2 := by
  obtain ⟨x_now_kinds, x_now_seating, x_now_knows, x_now_seals, x_now_telling, x_now_persons, x_now_wax, x_now_week, x_now_day, x_now_draw, x_past_knows, x_past_seals, x_past_dates, x_past_draws, x_past_next, x_past_steps, x_imageCourt_kinds, x_imageCourt_seating, x_imageCourt_knows, x_imageCourt_seals, x_imageCourt_telling, x_imageCourt_persons, x_imageCourt_wax, x_imageCourt_week, x_imageCourt_day, x_imageCourt_draw, x_imagePast_knows, x_imagePast_seals, x_imagePast_dates, x_imagePast_draws, x_imagePast_next, x_imagePast_steps, x_imaged, x_trial_kinds, x_trial_seating, x_trial_knows, x_trial_seals, x_trial_telling, x_trial_persons, x_trial_wax, x_trial_week, x_trial_day, x_trial_draw, x_order, x_bestOrder, x_tape_letters, x_tape_length, x_tape_at, x_sl, x_sn, x_si⟩ := X
  obtain ⟨m_now, m_tape, m_typed, m_place, m_isFault, m_read, m_heard, m_undone, m_undos, m_aside, m_kept, m_keptUndos, m_isKept, m_lanes, m_sizes, m_items, m_moved⟩ := M
  obtain ⟨hnow, himg, htape, hsheet⟩ := h
  have key : ∃ (r : Int32) (w_x_now_knows : Nat → Int64) (w_x_now_seals : Nat → Int64) (w_x_now_telling : Nat → Int64) (w_x_now_day : Int32) (w_x_past_knows : Nat → Int64) (w_x_past_seals : Nat → Int64) (w_x_past_dates : Nat → Int32) (w_x_past_draws : Nat → Int32) (w_x_past_next : Int32) (w_x_past_steps : Int32) (v_m_now : Nat → Int32) (v_m_heard : Nat → Int32) (v_m_undone : Nat → Int32) (v_m_undos : Int32), fnX4_days 1000 x_now_kinds x_now_seating x_now_knows x_now_seals x_now_telling x_now_persons x_now_wax x_now_week x_now_day x_now_draw x_past_knows x_past_seals x_past_dates x_past_draws x_past_next x_past_steps a1 a2 = some (r, w_x_now_knows, w_x_now_seals, w_x_now_telling, w_x_now_day, w_x_past_knows, w_x_past_seals, w_x_past_dates, w_x_past_draws, w_x_past_next, w_x_past_steps) ∧ fnX5_days 1000 m_now m_heard m_undone m_undos a1 a2 = some (r, v_m_now, v_m_heard, v_m_undone, v_m_undos) ∧ P_now x_now_kinds x_now_seating w_x_now_knows w_x_now_seals x_now_persons x_now_wax x_now_week w_x_now_day x_now_draw w_x_past_knows w_x_past_seals w_x_past_dates w_x_past_draws w_x_past_next w_x_past_steps v_m_now v_m_undone v_m_undos := by
    have hnow2 := hnow
    obtain ⟨C, k, hs, hC, hk, hX, hP, hM, hU, rfl⟩ := hnow2
    have hC0 := hC
    obtain ⟨c1, c2, c3, c4, c5, c6, c7, c8⟩ := hC
    obtain ⟨x1, x2, x3, x4, rfl, rfl, rfl, rfl, rfl⟩ := hX
    have hM0 := hM
    obtain ⟨⟨m0, m1, m2, m3, m4, m5, m6⟩, mS⟩ := hM
    have hF : 1000 ≤ 1000 := Nat.le_refl _
    unfold fnX4_days fnX5_days
    rw [xs_within, xs_isHeat, lw1, lw40, ym_in, ym_isHeat, i1, i40]
    simp only [sx_c1, if1, sx_lt]
    by_cases g1 : rg a1 1 40 = true
    · rw [if_neg (not_not_intro g1), if_neg (not_not_intro g1)]
      by_cases g3 : rg a2 0 9 = true
      · rw [if_neg (not_not_intro g3), if_neg (not_not_intro g3)]
        obtain ⟨N, hN1, hN, rfl⟩ := rg_of (lo := 1) (hi := 40) g1
        obtain ⟨h, -, hh, rfl⟩ := rg_of (lo := 0) (hi := 9) g3
        rw [sx_n1, m1, nI_add, nm_9999]
        by_cases e : cc_dy C + N ≤ 9999
        · rw [if_pos (nI_leT e (by omega)), if_pos (nI_leT e (by omega))]
          have okC : cc_ok C (cc_dy C) := ⟨c1, c2, c3, c4, c5, c6, Nat.le_refl _, c8⟩
          obtain ⟨a', b', c', da', pk', ps', pd', pr', pn', pt', q, r1, r2⟩ := xr_days_l (F := 1000) (h := h) (N := N) hF hh hN N 0 (by omega) 1000 (by omega) C (cc_dy C) k hs x_now_knows x_now_seals x_now_telling (nI (cc_dy C)) x_past_knows x_past_seals x_past_dates x_past_draws x_past_next x_past_steps (by omega) okC hk.1 ⟨x1, x2, x3, x4, rfl, rfl, rfl, rfl, rfl⟩ hP
          obtain ⟨w', hd', un', p, s1, s2⟩ := yr_days_l (F := 1000) (h := h) (N := N) hF hh hN N 0 (by omega) 1000 (by omega) C (cc_dy C) k hs m_now m_heard m_undone (by omega) okC hk.1 hM0 hU
          obtain ⟨ok1, ok2, -⟩ := rn_ok (g := (fun C => cc_day C h)) (fun C B hC => cc_day_ok hC h) (fun _ => rfl) N C (cc_dy C) k hs okC (by omega) hk
          rw [nm_0, q, p, xd_times hF ok1 r1, yd_times hF ok1 s1]
          exact ⟨_, _, _, _, _, _, _, _, _, _, _, _, _, _, _, rfl, rfl, (rn (fun C => cc_day C h) N C k hs).1, (rn (fun C => cc_day C h) N C k hs).2.1, (rn (fun C => cc_day C h) N C k hs).2.2, ok1.mono e, ok2, r1, r2, s1, s2, rfl⟩
        · rw [if_neg (nI_nleI (by omega) (by omega)), if_neg (nI_nleI (by omega) (by omega))]; exact ⟨_, _, _, _, _, _, _, _, _, _, _, _, _, _, _, rfl, rfl, hnow⟩
      · rw [if_pos g3, if_pos g3]; exact ⟨_, _, _, _, _, _, _, _, _, _, _, _, _, _, _, rfl, rfl, hnow⟩
    · rw [if_pos g1, if_pos g1]; exact ⟨_, _, _, _, _, _, _, _, _, _, _, _, _, _, _, rfl, rfl, hnow⟩
  obtain ⟨r, w_x_now_knows, w_x_now_seals, w_x_now_telling, w_x_now_day, w_x_past_knows, w_x_past_seals, w_x_past_dates, w_x_past_draws, w_x_past_next, w_x_past_steps, v_m_now, v_m_heard, v_m_undone, v_m_undos, e1, e2, khnow⟩ := key
  refine ⟨r, (x_now_kinds, x_now_seating, w_x_now_knows, w_x_now_seals, w_x_now_telling, x_now_persons, x_now_wax, x_now_week, w_x_now_day, x_now_draw, w_x_past_knows, w_x_past_seals, w_x_past_dates, w_x_past_draws, w_x_past_next, w_x_past_steps, x_imageCourt_kinds, x_imageCourt_seating, x_imageCourt_knows, x_imageCourt_seals, x_imageCourt_telling, x_imageCourt_persons, x_imageCourt_wax, x_imageCourt_week, x_imageCourt_day, x_imageCourt_draw, x_imagePast_knows, x_imagePast_seals, x_imagePast_dates, x_imagePast_draws, x_imagePast_next, x_imagePast_steps, x_imaged, x_trial_kinds, x_trial_seating, x_trial_knows, x_trial_seals, x_trial_telling, x_trial_persons, x_trial_wax, x_trial_week, x_trial_day, x_trial_draw, x_order, x_bestOrder, x_tape_letters, x_tape_length, x_tape_at, x_sl, x_sn, x_si), (v_m_now, m_tape, m_typed, m_place, m_isFault, m_read, v_m_heard, v_m_undone, v_m_undos, m_aside, m_kept, m_keptUndos, m_isKept, m_lanes, m_sizes, m_items, m_moved), ?_, ?_, khnow, himg, htape, hsheet⟩
  · unfold xo_days; simp only []; rw [e1]; rfl
  · unfold mo_days; simp only []; rw [e2]; rfl
theorem ag_drift (a1 : Int32) {X : SX} {M : SM} (h : LInv X M) : ∃ r X2 M2, xo_drift 1000 a1 X = some (r, X2) ∧ mo_drift 1000 a1 M = some (r, M2) ∧ LInv X2 M2 := by
  obtain ⟨x_now_kinds, x_now_seating, x_now_knows, x_now_seals, x_now_telling, x_now_persons, x_now_wax, x_now_week, x_now_day, x_now_draw, x_past_knows, x_past_seals, x_past_dates, x_past_draws, x_past_next, x_past_steps, x_imageCourt_kinds, x_imageCourt_seating, x_imageCourt_knows, x_imageCourt_seals, x_imageCourt_telling, x_imageCourt_persons, x_imageCourt_wax, x_imageCourt_week, x_imageCourt_day, x_imageCourt_draw, x_imagePast_knows, x_imagePast_seals, x_imagePast_dates, x_imagePast_draws, x_imagePast_next, x_imagePast_steps, x_imaged, x_trial_kinds, x_trial_seating, x_trial_knows, x_trial_seals, x_trial_telling, x_trial_persons, x_trial_wax, x_trial_week, x_trial_day, x_trial_draw, x_order, x_bestOrder, x_tape_letters, x_tape_length, x_tape_at, x_sl, x_sn, x_si⟩ := X
  obtain ⟨m_now, m_tape, m_typed, m_place, m_isFault, m_read, m_heard, m_undone, m_undos, m_aside, m_kept, m_keptUndos, m_isKept, m_lanes, m_sizes, m_items, m_moved⟩ := M
  obtain ⟨hnow, himg, htape, hsheet⟩ := h
  have key : ∃ (r : Int32) (w_x_now_knows : Nat → Int64) (w_x_now_seals : Nat → Int64) (w_x_now_telling : Nat → Int64) (w_x_now_day : Int32) (w_x_now_draw : Int32) (w_x_past_knows : Nat → Int64) (w_x_past_seals : Nat → Int64) (w_x_past_dates : Nat → Int32) (w_x_past_draws : Nat → Int32) (w_x_past_next : Int32) (w_x_past_steps : Int32) (v_m_now : Nat → Int32) (v_m_heard : Nat → Int32) (v_m_undone : Nat → Int32) (v_m_undos : Int32), fnX4_drift 1000 x_now_kinds x_now_seating x_now_knows x_now_seals x_now_telling x_now_persons x_now_wax x_now_week x_now_day x_now_draw x_past_knows x_past_seals x_past_dates x_past_draws x_past_next x_past_steps a1 = some (r, w_x_now_knows, w_x_now_seals, w_x_now_telling, w_x_now_day, w_x_now_draw, w_x_past_knows, w_x_past_seals, w_x_past_dates, w_x_past_draws, w_x_past_next, w_x_past_steps) ∧ fnX5_drift 1000 m_now m_heard m_undone m_undos a1 = some (r, v_m_now, v_m_heard, v_m_undone, v_m_undos) ∧ P_now x_now_kinds x_now_seating w_x_now_knows w_x_now_seals x_now_persons x_now_wax x_now_week w_x_now_day w_x_now_draw w_x_past_knows w_x_past_seals w_x_past_dates w_x_past_draws w_x_past_next w_x_past_steps v_m_now v_m_undone v_m_undos := by
    have hnow2 := hnow
    obtain ⟨C, k, hs, hC, hk, hX, hP, hM, hU, rfl⟩ := hnow2
    have hC0 := hC
    obtain ⟨c1, c2, c3, c4, c5, c6, c7, c8⟩ := hC
    obtain ⟨x1, x2, x3, x4, rfl, rfl, rfl, rfl, rfl⟩ := hX
    have hM0 := hM
    obtain ⟨⟨m0, m1, m2, m3, m4, m5, m6⟩, mS⟩ := hM
    have hF : 1000 ≤ 1000 := Nat.le_refl _
    unfold fnX4_drift fnX5_drift
    rw [xs_within, lw1, lw40, ym_in, i1, i40]
    simp only [sx_c1, if1, sx_lt]
    by_cases g1 : rg a1 1 40 = true
    · rw [if_neg (not_not_intro g1), if_neg (not_not_intro g1)]
      obtain ⟨N, hN1, hN, rfl⟩ := rg_of (lo := 1) (hi := 40) g1
      obtain ⟨dl, hl⟩ := dl_is
      rw [sx_n1, m1, nI_add, nm_9999]
      by_cases e : cc_dy C + N ≤ 9999
      · rw [if_pos (nI_leT e (by omega)), if_pos (nI_leT e (by omega))]
        have okC : cc_ok C (cc_dy C) := ⟨c1, c2, c3, c4, c5, c6, Nat.le_refl _, c8⟩
        obtain ⟨a', b', c', da', dr', pk', ps', pd', pr', pn', pt', q, r1, r2⟩ := xr_drift_l (F := 1000) (dl := dl) (N := N) hF hl hN N 0 (by omega) 1000 (by omega) C (cc_dy C) k hs x_now_knows x_now_seals x_now_telling (nI (cc_dy C)) (nI (cc_dr C)) x_past_knows x_past_seals x_past_dates x_past_draws x_past_next x_past_steps (by omega) okC hk.1 ⟨x1, x2, x3, x4, rfl, rfl, rfl, rfl, rfl⟩ hP
        obtain ⟨w', hd', un', p, s1, s2⟩ := yr_drift_l (F := 1000) (dl := dl) (N := N) hF hl hN N 0 (by omega) 1000 (by omega) C (cc_dy C) k hs m_now m_heard m_undone (by omega) okC hk.1 hM0 hU
        obtain ⟨ok1, ok2, -⟩ := rn_ok (g := (cc_df dl)) (fun C B hC => cc_day_ok (cc_dw_ok hl hC) (cc_ht dl C)) (fun _ => rfl) N C (cc_dy C) k hs okC (by omega) hk
        rw [nm_0, q, p, xd_times hF ok1 r1, yd_times hF ok1 s1]
        exact ⟨_, _, _, _, _, _, _, _, _, _, _, _, _, _, _, _, rfl, rfl, (rn (cc_df dl) N C k hs).1, (rn (cc_df dl) N C k hs).2.1, (rn (cc_df dl) N C k hs).2.2, ok1.mono e, ok2, r1, r2, s1, s2, rfl⟩
      · rw [if_neg (nI_nleI (by omega) (by omega)), if_neg (nI_nleI (by omega) (by omega))]; exact ⟨_, _, _, _, _, _, _, _, _, _, _, _, _, _, _, _, rfl, rfl, hnow⟩
    · rw [if_pos g1, if_pos g1]; exact ⟨_, _, _, _, _, _, _, _, _, _, _, _, _, _, _, _, rfl, rfl, hnow⟩
  obtain ⟨r, w_x_now_knows, w_x_now_seals, w_x_now_telling, w_x_now_day, w_x_now_draw, w_x_past_knows, w_x_past_seals, w_x_past_dates, w_x_past_draws, w_x_past_next, w_x_past_steps, v_m_now, v_m_heard, v_m_undone, v_m_undos, e1, e2, khnow⟩ := key
  refine ⟨r, (x_now_kinds, x_now_seating, w_x_now_knows, w_x_now_seals, w_x_now_telling, x_now_persons, x_now_wax, x_now_week, w_x_now_day, w_x_now_draw, w_x_past_knows, w_x_past_seals, w_x_past_dates, w_x_past_draws, w_x_past_next, w_x_past_steps, x_imageCourt_kinds, x_imageCourt_seating, x_imageCourt_knows, x_imageCourt_seals, x_imageCourt_telling, x_imageCourt_persons, x_imageCourt_wax, x_imageCourt_week, x_imageCourt_day, x_imageCourt_draw, x_imagePast_knows, x_imagePast_seals, x_imagePast_dates, x_imagePast_draws, x_imagePast_next, x_imagePast_steps, x_imaged, x_trial_kinds, x_trial_seating, x_trial_knows, x_trial_seals, x_trial_telling, x_trial_persons, x_trial_wax, x_trial_week, x_trial_day, x_trial_draw, x_order, x_bestOrder, x_tape_letters, x_tape_length, x_tape_at, x_sl, x_sn, x_si), (v_m_now, m_tape, m_typed, m_place, m_isFault, m_read, v_m_heard, v_m_undone, v_m_undos, m_aside, m_kept, m_keptUndos, m_isKept, m_lanes, m_sizes, m_items, m_moved), ?_, ?_, khnow, himg, htape, hsheet⟩
  · unfold xo_drift; simp only []; rw [e1]; rfl
  · unfold mo_drift; simp only []; rw [e2]; rfl
theorem cx_P.ext {n k : Nat} {hs : Nat → snp} {kn sg kn' sg' : Nat → Int64} {da dr da' dr' : Nat → Int32} {nx stp : Int32} (h : cx_P n k hs kn sg da dr nx stp) (hn : n ≤ 6) (h1 : ∀ j, j < 48 → kn' j = kn j) (h2 : ∀ j, j < 48 → sg' j = sg j) (h3 : ∀ j, j < 8 → da' j = da j) (h4 : ∀ j, j < 8 → dr' j = dr j) : cx_P n k hs kn' sg' da' dr' nx stp := by
  obtain ⟨x, hx, e1, e2, hr⟩ := h
  refine ⟨x, hx, e1, e2, fun i hi => ?_⟩
  obtain ⟨r1, r2, r3, r4⟩ := hr i hi
  have hy : (x + 7 - i) % 8 < 8 := Nat.mod_lt _ (by omega)
  exact ⟨fun p hp => by rw [h1 _ (by omega)]; exact r1 p hp, fun p hp => by rw [h2 _ (by omega)]; exact r2 p hp, by rw [h3 _ hy]; exact r3, by rw [h4 _ hy]; exact r4⟩
theorem cm_U.ext {n k : Nat} {hs : Nat → snp} {un un' : Nat → Int32} (h : cm_U n k hs un) (hn : n ≤ 6) (hk : k ≤ 8) (h1 : ∀ j, j < 400 → un' j = un j) : cm_U n k hs un' := by
  intro i hi
  obtain ⟨r1, r2, r3⟩ := h i hi
  exact ⟨fun p hp t ht => by rw [h1 _ (by omega)]; exact r1 p hp t ht, by rw [h1 _ (by omega)]; exact r2, by rw [h1 _ (by omega)]; exact r3⟩
theorem sx_n48 : (48 : Int32).toNatClampNeg = 48 := by decide
theorem sx_n8 : (8 : Int32).toNatClampNeg = 8 := by decide
theorem xs_pbecome {F n k : Nat} {hs : Nat → snp} {kn sg : Nat → Int64} {da dr : Nat → Int32} {nx stp : Int32} (h : cx_P n k hs kn sg da dr nx stp) (hn : n ≤ 6) (ok os : Nat → Int64) (od or_ : Nat → Int32) (on ot : Int32) : ∃ kn' sg' da' dr', fnX1_become F ok os od or_ on ot kn sg da dr nx stp = some (kn', sg', da', dr', nx, stp) ∧ cx_P n k hs kn' sg' da' dr' nx stp := by
  unfold fnX1_become
  rw [sx_gd_e (by decide), sx_gd_e (by decide), sx_gd_e (by decide), sx_gd_e (by decide), sx_n0, sx_n48, sx_n8]
  refine ⟨_, _, _, _, rfl, h.ext hn (fun j hj => ?_) (fun j hj => ?_) (fun j hj => ?_) (fun j hj => ?_)⟩
  · rw [pk_cpy_in (by omega) (by omega), show 0 + (j - 0) = j by omega]
  · rw [pk_cpy_in (by omega) (by omega), show 0 + (j - 0) = j by omega]
  · rw [pk_cpy_in (by omega) (by omega), show 0 + (j - 0) = j by omega]
  · rw [pk_cpy_in (by omega) (by omega), show 0 + (j - 0) = j by omega]
theorem ym_im1 {F : Nat} {s : Nat → Int32} : ∀ k i, i + k = 65 → ∀ fuel, k < fuel → ∀ u : Nat → Int32, (∀ j, j < i → u (j) = s (j)) → ∃ u', (∀ kf, sx_lp2 (bdX5_image_2 F s kf) fuel (nI i) u = kf u') ∧ (∀ j, j < 65 → u' (j) = s (j)) := by
  intro k
  induction k with
  | zero =>
    intro i hi fuel hf u h1
    obtain ⟨f, rfl⟩ : ∃ f, fuel = f + 1 := ⟨fuel - 1, by omega⟩
    exact ⟨u, fun kf => by rw [sx_lp2_1, bdX5_image_2, nm_65, if_pos (nI_leT (by omega) (by omega))], fun j hj => h1 j (by omega)⟩
  | succ k ih =>
    intro i hi fuel hf u h1
    obtain ⟨f, rfl⟩ : ∃ f, fuel = f + 1 := ⟨fuel - 1, by omega⟩
    obtain ⟨u', q, r⟩ := ih (i + 1) (by omega) f (by omega) (upd u (i) (s (i))) (fun j hj => by
      by_cases e : j = i
      · subst e; rw [pu_same]
      · rw [pu_ne (by omega)]; exact h1 j (by omega))
    refine ⟨u', fun kf => ?_, r⟩
    rw [sx_lp2_1, bdX5_image_2, nm_65, if_neg (nI_nleI (by omega) (by omega)), sx_gd_e (nm_ib (by omega)), sx_gd_e (nm_ib (by omega)), nI_clamp (by omega), nI_1]
    simp only [sx_nm]
    exact q kf
theorem ym_im2 {F : Nat} {s : Nat → Int32} : ∀ k i, i + k = 400 → ∀ fuel, k < fuel → ∀ u : Nat → Int32, (∀ j, j < i → u (65 + j) = s (j)) → ∃ u', (∀ kf, sx_lp2 (bdX5_image_28 F s kf) fuel (nI i) u = kf u') ∧ (∀ j, j < 400 → u' (65 + j) = s (j)) ∧ ∀ j, j < 65 → u' j = u j := by
  intro k
  induction k with
  | zero =>
    intro i hi fuel hf u h1
    obtain ⟨f, rfl⟩ : ∃ f, fuel = f + 1 := ⟨fuel - 1, by omega⟩
    exact ⟨u, fun kf => by rw [sx_lp2_1, bdX5_image_28, nm_400, if_pos (nI_leT (by omega) (by omega))], fun j hj => h1 j (by omega), fun _ _ => rfl⟩
  | succ k ih =>
    intro i hi fuel hf u h1
    obtain ⟨f, rfl⟩ : ∃ f, fuel = f + 1 := ⟨fuel - 1, by omega⟩
    obtain ⟨u', q, r, r2⟩ := ih (i + 1) (by omega) f (by omega) (upd u (65 + i) (s (i))) (fun j hj => by
      by_cases e : j = i
      · subst e; rw [pu_same]
      · rw [pu_ne (by omega)]; exact h1 j (by omega))
    refine ⟨u', fun kf => ?_, r, fun j hj => by rw [r2 j hj, pu_ne (by omega)]⟩
    rw [sx_lp2_1, bdX5_image_28, nm_400, if_neg (nI_nleI (by omega) (by omega)), nm_65, nI_add, sx_gd_e (nm_ib (by omega)), sx_gd_e (nm_ib (by omega)), nI_clamp (by omega), nI_clamp (by omega), nI_1]
    simp only [sx_nm]
    exact q kf
theorem ym_re1 {F : Nat} {s : Nat → Int32} : ∀ k i, i + k = 65 → ∀ fuel, k < fuel → ∀ u : Nat → Int32, (∀ j, j < i → u (j) = s (j)) → ∃ u', (∀ kf, sx_lp2 (bdX5_restore_12 F s kf) fuel (nI i) u = kf u') ∧ (∀ j, j < 65 → u' (j) = s (j)) := by
  intro k
  induction k with
  | zero =>
    intro i hi fuel hf u h1
    obtain ⟨f, rfl⟩ : ∃ f, fuel = f + 1 := ⟨fuel - 1, by omega⟩
    exact ⟨u, fun kf => by rw [sx_lp2_1, bdX5_restore_12, nm_65, if_pos (nI_leT (by omega) (by omega))], fun j hj => h1 j (by omega)⟩
  | succ k ih =>
    intro i hi fuel hf u h1
    obtain ⟨f, rfl⟩ : ∃ f, fuel = f + 1 := ⟨fuel - 1, by omega⟩
    obtain ⟨u', q, r⟩ := ih (i + 1) (by omega) f (by omega) (upd u (i) (s (i))) (fun j hj => by
      by_cases e : j = i
      · subst e; rw [pu_same]
      · rw [pu_ne (by omega)]; exact h1 j (by omega))
    refine ⟨u', fun kf => ?_, r⟩
    rw [sx_lp2_1, bdX5_restore_12, nm_65, if_neg (nI_nleI (by omega) (by omega)), sx_gd_e (nm_ib (by omega)), sx_gd_e (nm_ib (by omega)), nI_clamp (by omega), nI_1]
    simp only [sx_nm]
    exact q kf
theorem ym_re2 {F : Nat} {s : Nat → Int32} : ∀ k i, i + k = 400 → ∀ fuel, k < fuel → ∀ u : Nat → Int32, (∀ j, j < i → u (j) = s (65 + j)) → ∃ u', (∀ kf, sx_lp2 (bdX5_restore_38 F s kf) fuel (nI i) u = kf u') ∧ (∀ j, j < 400 → u' (j) = s (65 + j)) := by
  intro k
  induction k with
  | zero =>
    intro i hi fuel hf u h1
    obtain ⟨f, rfl⟩ : ∃ f, fuel = f + 1 := ⟨fuel - 1, by omega⟩
    exact ⟨u, fun kf => by rw [sx_lp2_1, bdX5_restore_38, nm_400, if_pos (nI_leT (by omega) (by omega))], fun j hj => h1 j (by omega)⟩
  | succ k ih =>
    intro i hi fuel hf u h1
    obtain ⟨f, rfl⟩ : ∃ f, fuel = f + 1 := ⟨fuel - 1, by omega⟩
    obtain ⟨u', q, r⟩ := ih (i + 1) (by omega) f (by omega) (upd u (i) (s (65 + i))) (fun j hj => by
      by_cases e : j = i
      · subst e; rw [pu_same]
      · rw [pu_ne (by omega)]; exact h1 j (by omega))
    refine ⟨u', fun kf => ?_, r⟩
    rw [sx_lp2_1, bdX5_restore_38, nm_400, if_neg (nI_nleI (by omega) (by omega)), nm_65, nI_add, sx_gd_e (nm_ib (by omega)), sx_gd_e (nm_ib (by omega)), nI_clamp (by omega), nI_clamp (by omega), nI_1]
    simp only [sx_nm]
    exact q kf
theorem ym_image {F : Nat} (hF : 1000 ≤ F) (w un : Nat → Int32) (ud : Int32) (kp : Nat → Int32) (ku ik : Int32) : ∃ kp', fnX5_image F w un ud kp ku ik = some (1, kp', ud, 1) ∧ (∀ j, j < 65 → kp' j = w j) ∧ ∀ j, j < 400 → kp' (65 + j) = un j := by
  unfold fnX5_image
  simp only [sx_lt]
  obtain ⟨k1, q1, r1⟩ := ym_im1 (F := F) (s := w) 65 0 (by omega) F (by omega) kp (fun j hj => by omega)
  obtain ⟨k2, q2, r2, r3⟩ := ym_im2 (F := F) (s := un) 400 0 (by omega) F (by omega) k1 (fun j hj => by omega)
  rw [nm_0, q1, q2]
  exact ⟨k2, rfl, fun j hj => by rw [r3 j hj, r1 j hj], r2⟩
theorem ym_restore {F : Nat} (hF : 1000 ≤ F) (w un : Nat → Int32) (ud : Int32) (kp : Nat → Int32) (ku : Int32) : ∃ w' un', fnX5_restore F w un ud kp ku 1 = some (1, w', un', ku) ∧ (∀ j, j < 65 → w' j = kp j) ∧ ∀ j, j < 400 → un' j = kp (65 + j) := by
  unfold fnX5_restore
  simp only [sx_lt]
  obtain ⟨k1, q1, r1⟩ := ym_re1 (F := F) (s := kp) 65 0 (by omega) F (by omega) w (fun j hj => by omega)
  obtain ⟨k2, q2, r2⟩ := ym_re2 (F := F) (s := kp) 400 0 (by omega) F (by omega) un (fun j hj => by omega)
  rw [if_neg (by decide), nm_0, q1, q2]
  exact ⟨k1, k2, rfl, r1, r2⟩
theorem ag_image {X : SX} {M : SM} (h : LInv X M) : ∃ r X2 M2, xo_image 1000 X = some (r, X2) ∧ mo_image 1000 M = some (r, M2) ∧ LInv X2 M2 := by
  obtain ⟨x_now_kinds, x_now_seating, x_now_knows, x_now_seals, x_now_telling, x_now_persons, x_now_wax, x_now_week, x_now_day, x_now_draw, x_past_knows, x_past_seals, x_past_dates, x_past_draws, x_past_next, x_past_steps, x_imageCourt_kinds, x_imageCourt_seating, x_imageCourt_knows, x_imageCourt_seals, x_imageCourt_telling, x_imageCourt_persons, x_imageCourt_wax, x_imageCourt_week, x_imageCourt_day, x_imageCourt_draw, x_imagePast_knows, x_imagePast_seals, x_imagePast_dates, x_imagePast_draws, x_imagePast_next, x_imagePast_steps, x_imaged, x_trial_kinds, x_trial_seating, x_trial_knows, x_trial_seals, x_trial_telling, x_trial_persons, x_trial_wax, x_trial_week, x_trial_day, x_trial_draw, x_order, x_bestOrder, x_tape_letters, x_tape_length, x_tape_at, x_sl, x_sn, x_si⟩ := X
  obtain ⟨m_now, m_tape, m_typed, m_place, m_isFault, m_read, m_heard, m_undone, m_undos, m_aside, m_kept, m_keptUndos, m_isKept, m_lanes, m_sizes, m_items, m_moved⟩ := M
  obtain ⟨hnow, himg, htape, hsheet⟩ := h
  have key : ∃ (r : Int32) (w_x_imageCourt_kinds : Nat → Int32) (w_x_imageCourt_seating : Nat → Int32) (w_x_imageCourt_knows : Nat → Int64) (w_x_imageCourt_seals : Nat → Int64) (w_x_imageCourt_persons : Int32) (w_x_imageCourt_wax : Int32) (w_x_imageCourt_week : Int32) (w_x_imageCourt_day : Int32) (w_x_imageCourt_draw : Int32) (w_x_imagePast_knows : Nat → Int64) (w_x_imagePast_seals : Nat → Int64) (w_x_imagePast_dates : Nat → Int32) (w_x_imagePast_draws : Nat → Int32) (w_x_imagePast_next : Int32) (w_x_imagePast_steps : Int32) (w_x_imaged : Int32) (v_m_kept : Nat → Int32) (v_m_keptUndos : Int32) (v_m_isKept : Int32), fnX4_image 1000 x_now_kinds x_now_seating x_now_knows x_now_seals x_now_persons x_now_wax x_now_week x_now_day x_now_draw x_past_knows x_past_seals x_past_dates x_past_draws x_past_next x_past_steps x_imageCourt_kinds x_imageCourt_seating x_imageCourt_knows x_imageCourt_seals x_imageCourt_persons x_imageCourt_wax x_imageCourt_week x_imageCourt_day x_imageCourt_draw x_imagePast_knows x_imagePast_seals x_imagePast_dates x_imagePast_draws x_imagePast_next x_imagePast_steps x_imaged = some (r, w_x_imageCourt_kinds, w_x_imageCourt_seating, w_x_imageCourt_knows, w_x_imageCourt_seals, w_x_imageCourt_persons, w_x_imageCourt_wax, w_x_imageCourt_week, w_x_imageCourt_day, w_x_imageCourt_draw, w_x_imagePast_knows, w_x_imagePast_seals, w_x_imagePast_dates, w_x_imagePast_draws, w_x_imagePast_next, w_x_imagePast_steps, w_x_imaged) ∧ fnX5_image 1000 m_now m_undone m_undos m_kept m_keptUndos m_isKept = some (r, v_m_kept, v_m_keptUndos, v_m_isKept) ∧ P_img w_x_imaged w_x_imageCourt_kinds w_x_imageCourt_seating w_x_imageCourt_knows w_x_imageCourt_seals w_x_imageCourt_persons w_x_imageCourt_wax w_x_imageCourt_week w_x_imageCourt_day w_x_imageCourt_draw w_x_imagePast_knows w_x_imagePast_seals w_x_imagePast_dates w_x_imagePast_draws w_x_imagePast_next w_x_imagePast_steps v_m_isKept v_m_kept v_m_keptUndos := by
    have hnow2 := hnow
    obtain ⟨C, k, hs, hC, hk, hX, hP, hM, hU, rfl⟩ := hnow2
    have hC0 := hC
    obtain ⟨c1, c2, c3, c4, c5, c6, c7, c8⟩ := hC
    obtain ⟨x1, x2, x3, x4, rfl, rfl, rfl, rfl, rfl⟩ := hX
    have hM0 := hM
    obtain ⟨⟨m0, m1, m2, m3, m4, m5, m6⟩, mS⟩ := hM
    have hF : 1000 ≤ 1000 := Nat.le_refl _
    obtain ⟨ki', se', a', b', e1, hX'⟩ := xs_become (F := 1000) (C := C) c1 ⟨x1, x2, x3, x4, rfl, rfl, rfl, rfl, rfl⟩ x_imageCourt_kinds x_imageCourt_seating x_imageCourt_knows x_imageCourt_seals x_imageCourt_persons x_imageCourt_wax x_imageCourt_week x_imageCourt_day x_imageCourt_draw
    obtain ⟨pk', ps', pd', pr', e2, hP'⟩ := xs_pbecome (F := 1000) hP c1 x_imagePast_knows x_imagePast_seals x_imagePast_dates x_imagePast_draws x_imagePast_next x_imagePast_steps
    obtain ⟨kp', e3, r1, r2⟩ := ym_image (F := 1000) hF m_now m_undone (nI k) m_kept m_keptUndos m_isKept
    unfold fnX4_image
    rw [e1, e3]
    simp only [sx_c9]
    rw [e2]
    exact ⟨_, _, _, _, _, _, _, _, _, _, _, _, _, _, _, _, _, _, _, _, rfl, rfl, Or.inr ⟨rfl, rfl, C, k, hs, hC0, hk, hX', hP', hM0.ext c1 r1, hU.ext c1 hk.1 r2, rfl⟩⟩
  obtain ⟨r, w_x_imageCourt_kinds, w_x_imageCourt_seating, w_x_imageCourt_knows, w_x_imageCourt_seals, w_x_imageCourt_persons, w_x_imageCourt_wax, w_x_imageCourt_week, w_x_imageCourt_day, w_x_imageCourt_draw, w_x_imagePast_knows, w_x_imagePast_seals, w_x_imagePast_dates, w_x_imagePast_draws, w_x_imagePast_next, w_x_imagePast_steps, w_x_imaged, v_m_kept, v_m_keptUndos, v_m_isKept, e1, e2, khimg⟩ := key
  refine ⟨r, (x_now_kinds, x_now_seating, x_now_knows, x_now_seals, x_now_telling, x_now_persons, x_now_wax, x_now_week, x_now_day, x_now_draw, x_past_knows, x_past_seals, x_past_dates, x_past_draws, x_past_next, x_past_steps, w_x_imageCourt_kinds, w_x_imageCourt_seating, w_x_imageCourt_knows, w_x_imageCourt_seals, x_imageCourt_telling, w_x_imageCourt_persons, w_x_imageCourt_wax, w_x_imageCourt_week, w_x_imageCourt_day, w_x_imageCourt_draw, w_x_imagePast_knows, w_x_imagePast_seals, w_x_imagePast_dates, w_x_imagePast_draws, w_x_imagePast_next, w_x_imagePast_steps, w_x_imaged, x_trial_kinds, x_trial_seating, x_trial_knows, x_trial_seals, x_trial_telling, x_trial_persons, x_trial_wax, x_trial_week, x_trial_day, x_trial_draw, x_order, x_bestOrder, x_tape_letters, x_tape_length, x_tape_at, x_sl, x_sn, x_si), (m_now, m_tape, m_typed, m_place, m_isFault, m_read, m_heard, m_undone, m_undos, m_aside, v_m_kept, v_m_keptUndos, v_m_isKept, m_lanes, m_sizes, m_items, m_moved), ?_, ?_, hnow, khimg, htape, hsheet⟩
  · unfold xo_image; simp only []; rw [e1]; rfl
  · unfold mo_image; simp only []; rw [e2]; rfl
theorem ag_restore {X : SX} {M : SM} (h : LInv X M) : ∃ r X2 M2, xo_restore 1000 X = some (r, X2) ∧ mo_restore 1000 M = some (r, M2) ∧ LInv X2 M2 := by
  obtain ⟨x_now_kinds, x_now_seating, x_now_knows, x_now_seals, x_now_telling, x_now_persons, x_now_wax, x_now_week, x_now_day, x_now_draw, x_past_knows, x_past_seals, x_past_dates, x_past_draws, x_past_next, x_past_steps, x_imageCourt_kinds, x_imageCourt_seating, x_imageCourt_knows, x_imageCourt_seals, x_imageCourt_telling, x_imageCourt_persons, x_imageCourt_wax, x_imageCourt_week, x_imageCourt_day, x_imageCourt_draw, x_imagePast_knows, x_imagePast_seals, x_imagePast_dates, x_imagePast_draws, x_imagePast_next, x_imagePast_steps, x_imaged, x_trial_kinds, x_trial_seating, x_trial_knows, x_trial_seals, x_trial_telling, x_trial_persons, x_trial_wax, x_trial_week, x_trial_day, x_trial_draw, x_order, x_bestOrder, x_tape_letters, x_tape_length, x_tape_at, x_sl, x_sn, x_si⟩ := X
  obtain ⟨m_now, m_tape, m_typed, m_place, m_isFault, m_read, m_heard, m_undone, m_undos, m_aside, m_kept, m_keptUndos, m_isKept, m_lanes, m_sizes, m_items, m_moved⟩ := M
  obtain ⟨hnow, himg, htape, hsheet⟩ := h
  have key : ∃ (r : Int32) (w_x_now_kinds : Nat → Int32) (w_x_now_seating : Nat → Int32) (w_x_now_knows : Nat → Int64) (w_x_now_seals : Nat → Int64) (w_x_now_persons : Int32) (w_x_now_wax : Int32) (w_x_now_week : Int32) (w_x_now_day : Int32) (w_x_now_draw : Int32) (w_x_past_knows : Nat → Int64) (w_x_past_seals : Nat → Int64) (w_x_past_dates : Nat → Int32) (w_x_past_draws : Nat → Int32) (w_x_past_next : Int32) (w_x_past_steps : Int32) (v_m_now : Nat → Int32) (v_m_undone : Nat → Int32) (v_m_undos : Int32), fnX4_restore 1000 x_now_kinds x_now_seating x_now_knows x_now_seals x_now_persons x_now_wax x_now_week x_now_day x_now_draw x_past_knows x_past_seals x_past_dates x_past_draws x_past_next x_past_steps x_imageCourt_kinds x_imageCourt_seating x_imageCourt_knows x_imageCourt_seals x_imageCourt_persons x_imageCourt_wax x_imageCourt_week x_imageCourt_day x_imageCourt_draw x_imagePast_knows x_imagePast_seals x_imagePast_dates x_imagePast_draws x_imagePast_next x_imagePast_steps x_imaged = some (r, w_x_now_kinds, w_x_now_seating, w_x_now_knows, w_x_now_seals, w_x_now_persons, w_x_now_wax, w_x_now_week, w_x_now_day, w_x_now_draw, w_x_past_knows, w_x_past_seals, w_x_past_dates, w_x_past_draws, w_x_past_next, w_x_past_steps) ∧ fnX5_restore 1000 m_now m_undone m_undos m_kept m_keptUndos m_isKept = some (r, v_m_now, v_m_undone, v_m_undos) ∧ P_now w_x_now_kinds w_x_now_seating w_x_now_knows w_x_now_seals w_x_now_persons w_x_now_wax w_x_now_week w_x_now_day w_x_now_draw w_x_past_knows w_x_past_seals w_x_past_dates w_x_past_draws w_x_past_next w_x_past_steps v_m_now v_m_undone v_m_undos := by
    rcases himg with ⟨h1, h2⟩ | ⟨h1, h2, C, k, hs, hC, hk, hX, hP, hM, hU, hu⟩
    · unfold fnX4_restore fnX5_restore
      rw [h1, h2, if_pos rfl, if_pos rfl]
      exact ⟨_, _, _, _, _, _, _, _, _, _, _, _, _, _, _, _, _, _, _, rfl, rfl, hnow⟩
    · obtain ⟨ki', se', a', b', e1, hX'⟩ := xs_become (F := 1000) (C := C) hC.1 hX x_now_kinds x_now_seating x_now_knows x_now_seals x_now_persons x_now_wax x_now_week x_now_day x_now_draw
      obtain ⟨pk', ps', pd', pr', e2, hP'⟩ := xs_pbecome (F := 1000) hP hC.1 x_past_knows x_past_seals x_past_dates x_past_draws x_past_next x_past_steps
      obtain ⟨w', un', e3, r1, r2⟩ := ym_restore (F := 1000) (Nat.le_refl _) m_now m_undone m_undos m_kept m_keptUndos
      unfold fnX4_restore
      rw [h1, h2, if_neg (by decide), e1, e3]
      simp only [sx_c9]
      rw [e2]
      exact ⟨_, _, _, _, _, _, _, _, _, _, _, _, _, _, _, _, _, _, _, rfl, rfl, C, k, hs, hC, hk, hX', hP', hM.ext hC.1 r1, hU.ext hC.1 hk.1 r2, hu⟩
  obtain ⟨r, w_x_now_kinds, w_x_now_seating, w_x_now_knows, w_x_now_seals, w_x_now_persons, w_x_now_wax, w_x_now_week, w_x_now_day, w_x_now_draw, w_x_past_knows, w_x_past_seals, w_x_past_dates, w_x_past_draws, w_x_past_next, w_x_past_steps, v_m_now, v_m_undone, v_m_undos, e1, e2, khnow⟩ := key
  refine ⟨r, (w_x_now_kinds, w_x_now_seating, w_x_now_knows, w_x_now_seals, x_now_telling, w_x_now_persons, w_x_now_wax, w_x_now_week, w_x_now_day, w_x_now_draw, w_x_past_knows, w_x_past_seals, w_x_past_dates, w_x_past_draws, w_x_past_next, w_x_past_steps, x_imageCourt_kinds, x_imageCourt_seating, x_imageCourt_knows, x_imageCourt_seals, x_imageCourt_telling, x_imageCourt_persons, x_imageCourt_wax, x_imageCourt_week, x_imageCourt_day, x_imageCourt_draw, x_imagePast_knows, x_imagePast_seals, x_imagePast_dates, x_imagePast_draws, x_imagePast_next, x_imagePast_steps, x_imaged, x_trial_kinds, x_trial_seating, x_trial_knows, x_trial_seals, x_trial_telling, x_trial_persons, x_trial_wax, x_trial_week, x_trial_day, x_trial_draw, x_order, x_bestOrder, x_tape_letters, x_tape_length, x_tape_at, x_sl, x_sn, x_si), (v_m_now, m_tape, m_typed, m_place, m_isFault, m_read, m_heard, v_m_undone, v_m_undos, m_aside, m_kept, m_keptUndos, m_isKept, m_lanes, m_sizes, m_items, m_moved), ?_, ?_, khnow, himg, htape, hsheet⟩
  · unfold xo_restore; simp only []; rw [e1]; rfl
  · unfold mo_restore; simp only []; rw [e2]; rfl
