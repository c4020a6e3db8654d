-- SHEETS
def hb (z : Nat) (i n : Int32) : Bool := decide (0 ≤ i.toInt ∧ 0 ≤ n.toInt ∧ i.toInt + n.toInt ≤ z)
theorem xs_holds (F : Nat) {z : Nat} (hz : z ≤ 24) (i n : Int32) : fnX2_holds F (nI z) i n = some (if hb z i n then 1 else 0) := by
  unfold fnX2_holds hb
  have r1 := fb_rng i
  have r2 := fb_rng n
  simp only [fa_lt, i0]
  by_cases h1 : i.toInt < 0
  · rw [if_pos h1, if_neg (by simp; omega)]
  · rw [if_neg h1]
    by_cases h2 : n.toInt < 0
    · rw [if_pos h2, if_neg (by simp; omega)]
    · rw [if_neg h2]
      have e : (nI z - n).toInt = (z : Int) - n.toInt := by
        rw [Int32.toInt_sub, nI_toInt (by omega)]; exact fb_bmod (by omega) (by omega)
      rw [e]
      by_cases h3 : (z : Int) - n.toInt < i.toInt
      · rw [if_pos h3, if_neg (by simp; omega)]
      · rw [if_neg h3, if_pos (by simp; omega)]
theorem hb_of {z : Nat} {i n : Int32} (h : hb z i n = true) : ∃ a b : Nat, i = nI a ∧ n = nI b ∧ a + b ≤ z := by
  obtain ⟨h1, h2, h3⟩ := of_decide_eq_true h
  obtain ⟨a, ha, rfl⟩ := nI_of (x := i) (by rw [fa_lt, i0]; omega)
  obtain ⟨b, hb, rfl⟩ := nI_of (x := n) (by rw [fa_lt, i0]; omega)
  rw [nI_toInt ha, nI_toInt hb] at h3
  exact ⟨a, b, rfl, rfl, by omega⟩
theorem ym_why0 (F : Nat) {s : Nat} {la sz : Nat → Int32} (hs : s < 4) (h : la s = -1) (l i n : Int32) : fnX5_why F la sz (nI s) l i n = some (-11) := by
  unfold fnX5_why
  rw [sx_gd_e (nm_ib hs), nI_clamp (by omega), h, if_neg (by decide)]
theorem ym_why1 (F : Nat) {s l' z : Nat} {la sz : Nat → Int32} (hs : s < 4) (hl : l' < 4) (h : la s = nI l') (hz : z ≤ 24) (hsz : sz s = nI z) (l i n : Int32) : fnX5_why F la sz (nI s) l i n = some (if nI l' = l then (if hb z i n then 0 else -13) else -12) := by
  unfold fnX5_why hb
  have r1 := fb_rng i
  have r2 := fb_rng n
  rw [sx_gd_e (nm_ib hs), sx_gd_e (nm_ib hs), sx_gd_e (nm_ib hs), nI_clamp (by omega), h, hsz, if_pos (nI_pos' (by omega))]
  by_cases e : nI l' = l
  · rw [if_pos e, if_pos e]
    simp only [fa_lt, i0]
    by_cases h1 : i.toInt < 0
    · rw [if_pos h1, if_neg (by simp; omega)]
    · rw [if_neg h1]
      by_cases h2 : n.toInt < 0
      · rw [if_pos h2, if_neg (by simp; omega)]
      · rw [if_neg h2]
        have e : (i.toInt64 + n.toInt64).toInt = i.toInt + n.toInt := by
          rw [Int64.toInt_add, Int32.toInt_toInt64, Int32.toInt_toInt64]; exact fb_bmodL (by omega) (by omega)
        have e2 : (lg_cmp (i.toInt64 + n.toInt64) (nI z).toInt64 ≤ 0) ↔ i.toInt + n.toInt ≤ z := by
          have h3 := @lg_gt (i.toInt64 + n.toInt64) (nI z).toInt64
          rw [fa_lt64, e, Int32.toInt_toInt64, nI_toInt (by omega)] at h3
          constructor
          · intro q
            rcases Int.lt_or_le (z : Int) (i.toInt + n.toInt) with y | y
            · have := h3.mpr y
              rw [fa_le] at q
              rw [fa_lt] at this
              omega
            · exact y
          · intro q
            rw [fa_le]
            rcases Int.lt_or_le (0 : Int32).toInt (lg_cmp (i.toInt64 + n.toInt64) (nI z).toInt64).toInt with y | y
            · have := h3.mp ((fa_lt _ _).mpr y)
              omega
            · exact y
        by_cases h3 : i.toInt + n.toInt ≤ (z : Int)
        · rw [if_pos (e2.mpr h3), if_pos (by simp; omega)]
        · rw [if_neg (fun q => h3 (e2.mp q)), if_neg (by simp; omega)]
  · rw [if_neg e, if_neg e]
theorem sh_why {s : Nat} {sl sn : Nat → Int32} {si : Nat → Nat → Int64} {la sz : Nat → Int32} {it : Nat → Int64} (F : Nat) (hs : s < 4) (hP : P_sheet sl sn si la sz it) (l i n : Int32) : ∃ r, fnX2_refusal F (sl s) (sn s) l i n = some r ∧ fnX5_why F la sz (nI s) l i n = some r ∧ ((r = 0 ∧ ∃ a b z l' : Nat, i = nI a ∧ n = nI b ∧ a + b ≤ z ∧ z ≤ 24 ∧ l' < 4 ∧ sl s = nI l' ∧ l = nI l') ∨ (¬ r = 0 ∧ ¬ 0 ≤ r)) := by
  obtain ⟨e1, h⟩ := hP s hs
  unfold fnX2_refusal fnX2_isMissing
  rcases h with h | ⟨⟨l', hl, h⟩, e2, ⟨z, hz, e3⟩, -⟩
  · rw [ym_why0 F hs (by rw [← e1]; exact h), h, if_pos rfl]
    exact ⟨_, rfl, rfl, Or.inr ⟨by decide, by decide⟩⟩
  · rw [ym_why1 F hs hl (by rw [← e1]; exact h) hz (by rw [← e2]; exact e3), h, e3, if_neg (fun q => by
      have h1 := congrArg Int32.toInt q
      rw [nI_toInt (by omega)] at h1
      have h2 : (-1 : Int32).toInt = -1 := by decide
      omega)]
    simp only [sx_c1, if_true]
    by_cases e : nI l' = l
    · rw [if_pos e, if_pos e, xs_holds F hz]
      simp only [if1]
      by_cases y : hb z i n = true
      · rw [if_neg (not_not_intro y), if_pos y]
        obtain ⟨a, b, r1, r2, r3⟩ := hb_of y
        exact ⟨_, rfl, rfl, Or.inl ⟨rfl, a, b, z, l', r1, r2, r3, hz, hl, rfl, e.symm⟩⟩
      · rw [if_pos y, if_neg y]
        exact ⟨_, rfl, rfl, Or.inr ⟨by decide, by decide⟩⟩
    · rw [if_neg e, if_neg e]
      exact ⟨_, rfl, rfl, Or.inr ⟨by decide, by decide⟩⟩
def cutv (l : Nat) (v : Int64) : Int64 := if l = 0 then ((v.toInt32).toInt8.toInt32).toInt64 else if l = 1 then ((v.toInt32).toInt16.toInt32).toInt64 else if l = 2 then (v.toInt32).toInt64 else v
theorem xs_put (F : Nat) {l i : Nat} (hl : l < 4) (hi : i < 24) (g : Nat → Int64) (v : Int64) : fnX2_put F g (nI l) (nI i) v = some (vp_updL g i (cutv l v)) := by
  unfold fnX2_put cutv
  rw [sx_gd_e (nm_ib hi), sx_gd_e (nm_ib hi), sx_gd_e (nm_ib hi), sx_gd_e (nm_ib hi), nI_clamp (by omega)]
  rcases (show l = 0 ∨ l = 1 ∨ l = 2 ∨ l = 3 by omega) with rfl | rfl | rfl | rfl
  · rw [if_pos (show nI 0 = (0 : Int32) by decide), if_pos rfl]
  · rw [if_neg (show ¬ nI 1 = (0 : Int32) by decide), if_pos (show nI 1 = (1 : Int32) by decide), if_neg (by omega), if_pos rfl]
  · rw [if_neg (show ¬ nI 2 = (0 : Int32) by decide), if_neg (show ¬ nI 2 = (1 : Int32) by decide), if_pos (show nI 2 = (2 : Int32) by decide), if_neg (by omega), if_neg (by omega), if_pos rfl]
  · rw [if_neg (show ¬ nI 3 = (0 : Int32) by decide), if_neg (show ¬ nI 3 = (1 : Int32) by decide), if_neg (show ¬ nI 3 = (2 : Int32) by decide), if_neg (by omega), if_neg (by omega), if_neg (by omega)]
theorem P_sheet.put {sl sn : Nat → Int32} {si : Nat → Nat → Int64} {la sz : Nat → Int32} {it : Nat → Int64} (hP : P_sheet sl sn si la sz it) {s i : Nat} (hs : s < 4) (hi : i < 24) (y : Int64) : P_sheet sl sn (va_up si s (vp_updL (si s) i y)) la sz (vp_updL it (24 * s + i) y) := by
  intro q hq
  obtain ⟨e1, h⟩ := hP q hq
  refine ⟨e1, ?_⟩
  rcases h with h | ⟨h1, h2, h3, h4⟩
  · exact Or.inl h
  · refine Or.inr ⟨h1, h2, h3, fun j hj => ?_⟩
    by_cases e : q = s
    · subst e
      rw [va_up_self]
      by_cases e2 : j = i
      · rw [e2, up_same, up_same]
      · rw [up_ne e2, up_ne (by omega)]; exact h4 j hj
    · rw [va_up_ne _ _ e, up_ne (by omega)]; exact h4 j hj
theorem nm_24 : (24 : Int32) = nI 24 := by decide +kernel
theorem xs_fill_l {F : Nat} {v : Int64} : ∀ k i, i + k = 24 → ∀ fuel, k < fuel → ∀ g : Nat → Int64, (∀ j, j < i → g j = v) → ∃ g', sx_lp2 (bdJ7_fill_d0a16_6 F v (24 : Int32)) fuel (nI i) g = some g' ∧ ∀ j, j < 24 → g' j = v := by
  intro k
  induction k with
  | zero =>
    intro i hi fuel hf g h1
    obtain ⟨f, rfl⟩ : ∃ f, fuel = f + 1 := ⟨fuel - 1, by omega⟩
    rw [sx_lp2_1, bdJ7_fill_d0a16_6, if_pos (by rw [nm_24]; exact nI_leT (by omega) (by omega))]
    exact ⟨g, rfl, fun j hj => h1 j (by omega)⟩
  | succ k ih =>
    intro i hi fuel hf g h1
    obtain ⟨f, rfl⟩ : ∃ f, fuel = f + 1 := ⟨fuel - 1, by omega⟩
    rw [sx_lp2_1, bdJ7_fill_d0a16_6, if_neg (by rw [nm_24]; exact nI_nleI (by omega) (by omega)), sx_gd_e (nm_ib (by omega)), nI_clamp (by omega)]
    simp only [sx_nm, nI_1]
    exact ih (i + 1) (by omega) f (by omega) _ (fun j hj => by
      by_cases e : j = i
      · rw [e, up_same]
      · rw [up_ne e]; exact h1 j (by omega))
theorem xs_begin {F : Nat} (hF : 1000 ≤ F) (g : Nat → Int64) (l n a b : Int32) : ∃ g', fnX2_begin F g l n a b = some (g', a, b) ∧ ∀ j, j < 24 → g' j = 0 := by
  unfold fnX2_begin fnJ7_fill_d0a16
  obtain ⟨g', e, h⟩ := xs_fill_l (F := F) (v := 0) 24 0 (by omega) F (by omega) g (fun j hj => by omega)
  rw [nm_0, e]
  exact ⟨g', rfl, h⟩
theorem ix24 (s k : Nat) : (24 : Int32) * nI s + nI k = nI (24 * s + k) := by rw [nm_24, pk_mul, nI_add]
theorem ym_sheet_l {F s : Nat} {x : Int32} {la sz : Nat → Int32} (hs : s < 4) : ∀ k i, i + k = 24 → ∀ fuel, k < fuel → ∀ g : Nat → Int64, (∀ j, j < i → g (24 * s + j) = 0) → ∃ g', sx_lp2 (bdX5_sheet_46 F (nI s) x la sz) fuel (nI i) g = some (x, la, sz, g') ∧ (∀ j, j < 24 → g' (24 * s + j) = 0) ∧ ∀ j, (j < 24 * s ∨ 24 * s + 24 ≤ j) → g' j = g j := by
  intro k
  induction k with
  | zero =>
    intro i hi fuel hf g h1
    obtain ⟨f, rfl⟩ : ∃ f, fuel = f + 1 := ⟨fuel - 1, by omega⟩
    rw [sx_lp2_1, bdX5_sheet_46, if_pos (by rw [nm_24]; exact nI_leT (by omega) (by omega))]
    exact ⟨g, rfl, fun j hj => h1 j (by omega), fun _ _ => rfl⟩
  | succ k ih =>
    intro i hi fuel hf g h1
    obtain ⟨f, rfl⟩ : ∃ f, fuel = f + 1 := ⟨fuel - 1, by omega⟩
    rw [sx_lp2_1, bdX5_sheet_46, if_neg (by rw [nm_24]; exact nI_nleI (by omega) (by omega)), ix24, sx_gd_e (nm_ib (by omega)), nI_clamp (by omega)]
    simp only [sx_nm, nI_1]
    obtain ⟨g', q1, q2, q3⟩ := ih (i + 1) (by omega) f (by omega) (vp_updL g (24 * s + i) 0) (fun j hj => by
      by_cases e : j = i
      · rw [e, up_same]
      · rw [up_ne (by omega)]; exact h1 j (by omega))
    exact ⟨g', q1, q2, fun j hj => by rw [q3 j hj, up_ne (by omega)]⟩
theorem ag_sheet (a1 : Int32) (a2 : Int32) (a3 : Int32) {X : SX} {M : SM} (h : LInv X M) : ∃ r X2 M2, xo_sheet 1000 a1 a2 a3 X = some (r, X2) ∧ mo_sheet 1000 a1 a2 a3 M = some (r, M2) ∧ LInv X2 M2 := by
  obtain ⟨x_now_kinds, x_now_seating, x_now_knows, x_now_seals, x_now_telling, x_now_persons, x_now_wax, x_now_week, x_now_day, x_now_draw, x_past_knows, x_past_seals, x_past_dates, x_past_draws, x_past_next, x_past_steps, x_imageCourt_kinds, x_imageCourt_seating, x_imageCourt_knows, x_imageCourt_seals, x_imageCourt_telling, x_imageCourt_persons, x_imageCourt_wax, x_imageCourt_week, x_imageCourt_day, x_imageCourt_draw, x_imagePast_knows, x_imagePast_seals, x_imagePast_dates, x_imagePast_draws, x_imagePast_next, x_imagePast_steps, x_imaged, x_trial_kinds, x_trial_seating, x_trial_knows, x_trial_seals, x_trial_telling, x_trial_persons, x_trial_wax, x_trial_week, x_trial_day, x_trial_draw, x_order, x_bestOrder, x_tape_letters, x_tape_length, x_tape_at, x_sl, x_sn, x_si⟩ := X
  obtain ⟨m_now, m_tape, m_typed, m_place, m_isFault, m_read, m_heard, m_undone, m_undos, m_aside, m_kept, m_keptUndos, m_isKept, m_lanes, m_sizes, m_items, m_moved⟩ := M
  obtain ⟨hnow, himg, htape, hsheet⟩ := h
  have key : ∃ (r : Int32) (w_x_sl : Nat → Int32) (w_x_sn : Nat → Int32) (w_x_si : Nat → Nat → Int64) (v_m_lanes : Nat → Int32) (v_m_sizes : Nat → Int32) (v_m_items : Nat → Int64), fnX4_sheet 1000 x_sl x_sn x_si a1 a2 a3 = some (r, w_x_sl, w_x_sn, w_x_si) ∧ fnX5_sheet 1000 m_lanes m_sizes m_items a1 a2 a3 = some (r, v_m_lanes, v_m_sizes, v_m_items) ∧ P_sheet w_x_sl w_x_sn w_x_si v_m_lanes v_m_sizes v_m_items := by
    unfold fnX4_sheet fnX5_sheet
    rw [xs_isSheet, xs_isLane, ym_isSheet, ym_isLane]
    simp only [sx_c1, if1]
    by_cases g1 : rg a1 0 3 = true
    · rw [if_neg (not_not_intro g1), if_neg (not_not_intro g1)]
      by_cases g2 : rg a2 0 3 = true
      · rw [if_neg (not_not_intro g2), if_neg (not_not_intro g2)]
        by_cases g3 : a3 ≤ (24 : Int32)
        · rw [if_pos g3, if_pos g3]
          by_cases g4 : 0 ≤ a3
          · rw [if_pos g4, if_pos g4]
            obtain ⟨s, -, hs, rfl⟩ := rg_of (lo := 0) (hi := 3) g1
            obtain ⟨l, -, hl, rfl⟩ := rg_of (lo := 0) (hi := 3) g2
            obtain ⟨n, hn, rfl⟩ := nI_of2 (n := 24) (by decide) (by rw [Int32.not_lt]; exact g4) g3
            rw [sx_gd_e (nm_ib (show s < 4 by omega)), sx_gd_e (nm_ib (show s < 4 by omega)), sx_gd_e (nm_ib (show s < 4 by omega)), nI_clamp (by omega)]
            obtain ⟨g', e1, r1⟩ := xs_begin (F := 1000) (Nat.le_refl _) (x_si s) (x_sl s) (x_sn s) (nI l) (nI n)
            obtain ⟨it', e2, r2, r3⟩ := ym_sheet_l (F := 1000) (s := s) (x := nI n) (la := upd m_lanes s (nI l)) (sz := upd m_sizes s (nI n)) (by omega) 24 0 (by omega) 1000 (by omega) m_items (fun j hj => by omega)
            rw [← nm_0] at e2
            rw [e1, e2]
            refine ⟨_, _, _, _, _, _, _, rfl, rfl, fun q hq => ?_⟩
            by_cases e : q = s
            · subst e
              rw [va_up_self, va_up_self, va_up_self, pu_same, pu_same]
              exact ⟨rfl, Or.inr ⟨⟨l, by omega, rfl⟩, rfl, ⟨n, hn, rfl⟩, fun j hj => by rw [r1 j hj, r2 j hj]⟩⟩
            · rw [va_up_ne _ _ e, va_up_ne _ _ e, va_up_ne _ _ e, pu_ne e, pu_ne e]
              obtain ⟨f1, f2⟩ := hsheet q hq
              refine ⟨f1, ?_⟩
              rcases f2 with f2 | ⟨f2, f3, f4, f5⟩
              · exact Or.inl f2
              · exact Or.inr ⟨f2, f3, f4, fun j hj => by rw [r3 _ (by omega)]; exact f5 j hj⟩
          · rw [if_neg g4, if_neg g4]; exact ⟨_, _, _, _, _, _, _, rfl, rfl, hsheet⟩
        · rw [if_neg g3, if_neg g3]; exact ⟨_, _, _, _, _, _, _, rfl, rfl, hsheet⟩
      · rw [if_pos g2, if_pos g2]; exact ⟨_, _, _, _, _, _, _, rfl, rfl, hsheet⟩
    · rw [if_pos g1, if_pos g1]; exact ⟨_, _, _, _, _, _, _, rfl, rfl, hsheet⟩
  obtain ⟨r, w_x_sl, w_x_sn, w_x_si, v_m_lanes, v_m_sizes, v_m_items, e1, e2, khsheet⟩ := key
  refine ⟨r, (x_now_kinds, x_now_seating, x_now_knows, x_now_seals, x_now_telling, x_now_persons, x_now_wax, x_now_week, x_now_day, x_now_draw, x_past_knows, x_past_seals, x_past_dates, x_past_draws, x_past_next, x_past_steps, x_imageCourt_kinds, x_imageCourt_seating, x_imageCourt_knows, x_imageCourt_seals, x_imageCourt_telling, x_imageCourt_persons, x_imageCourt_wax, x_imageCourt_week, x_imageCourt_day, x_imageCourt_draw, x_imagePast_knows, x_imagePast_seals, x_imagePast_dates, x_imagePast_draws, x_imagePast_next, x_imagePast_steps, x_imaged, x_trial_kinds, x_trial_seating, x_trial_knows, x_trial_seals, x_trial_telling, x_trial_persons, x_trial_wax, x_trial_week, x_trial_day, x_trial_draw, x_order, x_bestOrder, x_tape_letters, x_tape_length, x_tape_at, w_x_sl, w_x_sn, w_x_si), (m_now, m_tape, m_typed, m_place, m_isFault, m_read, m_heard, m_undone, m_undos, m_aside, m_kept, m_keptUndos, m_isKept, v_m_lanes, v_m_sizes, v_m_items, m_moved), ?_, ?_, hnow, himg, htape, khsheet⟩
  · unfold xo_sheet; simp only []; rw [e1]; rfl
  · unfold mo_sheet; simp only []; rw [e2]; rfl
theorem ag_drop (a1 : Int32) {X : SX} {M : SM} (h : LInv X M) : ∃ r X2 M2, xo_drop 1000 a1 X = some (r, X2) ∧ mo_drop 1000 a1 M = some (r, M2) ∧ LInv X2 M2 := by
  obtain ⟨x_now_kinds, x_now_seating, x_now_knows, x_now_seals, x_now_telling, x_now_persons, x_now_wax, x_now_week, x_now_day, x_now_draw, x_past_knows, x_past_seals, x_past_dates, x_past_draws, x_past_next, x_past_steps, x_imageCourt_kinds, x_imageCourt_seating, x_imageCourt_knows, x_imageCourt_seals, x_imageCourt_telling, x_imageCourt_persons, x_imageCourt_wax, x_imageCourt_week, x_imageCourt_day, x_imageCourt_draw, x_imagePast_knows, x_imagePast_seals, x_imagePast_dates, x_imagePast_draws, x_imagePast_next, x_imagePast_steps, x_imaged, x_trial_kinds, x_trial_seating, x_trial_knows, x_trial_seals, x_trial_telling, x_trial_persons, x_trial_wax, x_trial_week, x_trial_day, x_trial_draw, x_order, x_bestOrder, x_tape_letters, x_tape_length, x_tape_at, x_sl, x_sn, x_si⟩ := X
  obtain ⟨m_now, m_tape, m_typed, m_place, m_isFault, m_read, m_heard, m_undone, m_undos, m_aside, m_kept, m_keptUndos, m_isKept, m_lanes, m_sizes, m_items, m_moved⟩ := M
  obtain ⟨hnow, himg, htape, hsheet⟩ := h
  have key : ∃ (r : Int32) (w_x_sl : Nat → Int32) (w_x_sn : Nat → Int32) (v_m_lanes : Nat → Int32), fnX4_drop 1000 x_sl x_sn a1 = some (r, w_x_sl, w_x_sn) ∧ fnX5_drop 1000 m_lanes m_sizes a1 = some (r, v_m_lanes) ∧ P_sheet w_x_sl w_x_sn x_si v_m_lanes m_sizes m_items := by
    unfold fnX4_drop fnX5_drop
    rw [xs_isSheet, ym_isSheet]
    simp only [sx_c1, if1]
    by_cases g1 : rg a1 0 3 = true
    · rw [if_neg (not_not_intro g1), if_neg (not_not_intro g1)]
      obtain ⟨s, -, hs, rfl⟩ := rg_of (lo := 0) (hi := 3) g1
      have is4 : sx_ib (nI s) 4 = true := nm_ib (by omega)
      simp only [sx_gd_e is4, nI_clamp (show s < 2 ^ 31 by omega), sx_nm]
      obtain ⟨e1, h⟩ := hsheet s (by omega)
      unfold fnX2_isMissing fnX2_lose
      rcases h with h | ⟨⟨l', hl, h⟩, e2, -, -⟩
      · rw [← e1, h, if_pos rfl, if_neg (show ¬ (0 : Int32) ≤ -1 by decide)]
        exact ⟨_, _, _, _, rfl, rfl, hsheet⟩
      · rw [← e1, h, if_neg (fun q => by
          have h1 := congrArg Int32.toInt q
          rw [nI_toInt (by omega)] at h1
          have h2 : (-1 : Int32).toInt = -1 := by decide
          omega), if_pos (nI_pos' (by omega)), ← e2]
        simp only [sx_c2, if_true]
        refine ⟨_, _, _, _, rfl, rfl, fun q hq => ?_⟩
        by_cases e : q = s
        · subst e
          rw [va_up_self, pu_same]
          exact ⟨rfl, Or.inl rfl⟩
        · rw [va_up_ne _ _ e, va_up_ne _ _ e, pu_ne e]
          exact hsheet q hq
    · rw [if_pos g1, if_pos g1]; exact ⟨_, _, _, _, rfl, rfl, hsheet⟩
  obtain ⟨r, w_x_sl, w_x_sn, v_m_lanes, e1, e2, khsheet⟩ := key
  refine ⟨r, (x_now_kinds, x_now_seating, x_now_knows, x_now_seals, x_now_telling, x_now_persons, x_now_wax, x_now_week, x_now_day, x_now_draw, x_past_knows, x_past_seals, x_past_dates, x_past_draws, x_past_next, x_past_steps, x_imageCourt_kinds, x_imageCourt_seating, x_imageCourt_knows, x_imageCourt_seals, x_imageCourt_telling, x_imageCourt_persons, x_imageCourt_wax, x_imageCourt_week, x_imageCourt_day, x_imageCourt_draw, x_imagePast_knows, x_imagePast_seals, x_imagePast_dates, x_imagePast_draws, x_imagePast_next, x_imagePast_steps, x_imaged, x_trial_kinds, x_trial_seating, x_trial_knows, x_trial_seals, x_trial_telling, x_trial_persons, x_trial_wax, x_trial_week, x_trial_day, x_trial_draw, x_order, x_bestOrder, x_tape_letters, x_tape_length, x_tape_at, w_x_sl, w_x_sn, x_si), (m_now, m_tape, m_typed, m_place, m_isFault, m_read, m_heard, m_undone, m_undos, m_aside, m_kept, m_keptUndos, m_isKept, v_m_lanes, m_sizes, m_items, m_moved), ?_, ?_, hnow, himg, htape, khsheet⟩
  · unfold xo_drop; simp only []; rw [e1]; rfl
  · unfold mo_drop; simp only []; rw [e2]; rfl
theorem ag_item (a1 : Int32) (a2 : Int32) (a3 : Int32) (a4 : Int64) {X : SX} {M : SM} (h : LInv X M) : ∃ r X2 M2, xo_item 1000 a1 a2 a3 a4 X = some (r, X2) ∧ mo_item 1000 a1 a2 a3 a4 M = some (r, M2) ∧ LInv X2 M2 := by
  obtain ⟨x_now_kinds, x_now_seating, x_now_knows, x_now_seals, x_now_telling, x_now_persons, x_now_wax, x_now_week, x_now_day, x_now_draw, x_past_knows, x_past_seals, x_past_dates, x_past_draws, x_past_next, x_past_steps, x_imageCourt_kinds, x_imageCourt_seating, x_imageCourt_knows, x_imageCourt_seals, x_imageCourt_telling, x_imageCourt_persons, x_imageCourt_wax, x_imageCourt_week, x_imageCourt_day, x_imageCourt_draw, x_imagePast_knows, x_imagePast_seals, x_imagePast_dates, x_imagePast_draws, x_imagePast_next, x_imagePast_steps, x_imaged, x_trial_kinds, x_trial_seating, x_trial_knows, x_trial_seals, x_trial_telling, x_trial_persons, x_trial_wax, x_trial_week, x_trial_day, x_trial_draw, x_order, x_bestOrder, x_tape_letters, x_tape_length, x_tape_at, x_sl, x_sn, x_si⟩ := X
  obtain ⟨m_now, m_tape, m_typed, m_place, m_isFault, m_read, m_heard, m_undone, m_undos, m_aside, m_kept, m_keptUndos, m_isKept, m_lanes, m_sizes, m_items, m_moved⟩ := M
  obtain ⟨hnow, himg, htape, hsheet⟩ := h
  have key : ∃ (r : Int32) (w_x_si : Nat → Nat → Int64) (v_m_items : Nat → Int64), fnX4_item 1000 x_sl x_sn x_si a1 a2 a3 a4 = some (r, w_x_si) ∧ fnX5_item 1000 m_lanes m_sizes m_items a1 a2 a3 a4 = some (r, v_m_items) ∧ P_sheet x_sl x_sn w_x_si m_lanes m_sizes v_m_items := by
    unfold fnX4_item fnX5_item
    rw [xs_isSheet, xs_isLane, ym_isSheet, ym_isLane]
    simp only [sx_c1, if1]
    by_cases g1 : rg a1 0 3 = true
    · rw [if_neg (not_not_intro g1), if_neg (not_not_intro g1)]
      by_cases g2 : rg a2 0 3 = true
      · rw [if_neg (not_not_intro g2), if_neg (not_not_intro g2)]
        obtain ⟨s, -, hs, rfl⟩ := rg_of (lo := 0) (hi := 3) g1
        obtain ⟨r, e1, e2, h⟩ := sh_why 1000 (show s < 4 by omega) hsheet a2 a3 (1 : Int32)
        rw [sx_gd_e (nm_ib (show s < 4 by omega)), sx_gd_e (nm_ib (show s < 4 by omega)), nI_clamp (by omega), e1, e2]
        simp only []
        rcases h with ⟨rfl, a, b, z, l', rfl, hb1, h3, h4, h5, h6, rfl⟩ | ⟨h1, h2⟩
        · have hb1 : b = 1 := by
            have := congrArg Int32.toInt hb1
            rcases Nat.lt_or_ge b 25 with q | q
            · rw [nI_toInt (by omega), i1] at this; omega
            · omega
          have ha : a < 24 := by omega
          rw [if_pos rfl, if_pos (by decide), h6, xs_put 1000 h5 ha, ix24, sx_gd_e (nm_ib (by omega)), sx_gd_e (nm_ib (by omega)), sx_gd_e (nm_ib (by omega)), sx_gd_e (nm_ib (by omega)), nI_clamp (by omega)]
          have key : (if nI l' = (0 : Int32) then some ((1 : Int32), vp_updL m_items (24 * s + a) ((a4.toInt32).toInt8.toInt32).toInt64) else if nI l' = (1 : Int32) then some ((1 : Int32), vp_updL m_items (24 * s + a) ((a4.toInt32).toInt16.toInt32).toInt64) else if nI l' = (2 : Int32) then some ((1 : Int32), vp_updL m_items (24 * s + a) (a4.toInt32).toInt64) else some ((1 : Int32), vp_updL m_items (24 * s + a) a4)) = some ((1 : Int32), vp_updL m_items (24 * s + a) (cutv l' a4)) := by
            unfold cutv
            rcases (show l' = 0 ∨ l' = 1 ∨ l' = 2 ∨ l' = 3 by omega) with rfl | rfl | rfl | rfl
            · rw [if_pos (show nI 0 = (0 : Int32) by decide), if_pos rfl]
            · rw [if_neg (show ¬ nI 1 = (0 : Int32) by decide), if_pos (show nI 1 = (1 : Int32) by decide), if_neg (by omega), if_pos rfl]
            · rw [if_neg (show ¬ nI 2 = (0 : Int32) by decide), if_neg (show ¬ nI 2 = (1 : Int32) by decide), if_pos (show nI 2 = (2 : Int32) by decide), if_neg (by omega), if_neg (by omega), if_pos rfl]
            · rw [if_neg (show ¬ nI 3 = (0 : Int32) by decide), if_neg (show ¬ nI 3 = (1 : Int32) by decide), if_neg (show ¬ nI 3 = (2 : Int32) by decide), if_neg (by omega), if_neg (by omega), if_neg (by omega)]
          rw [key]
          exact ⟨_, _, _, rfl, rfl, hsheet.put (by omega) ha _⟩
        · rw [if_neg h1, if_neg h2]; exact ⟨_, _, _, rfl, rfl, hsheet⟩
      · rw [if_pos g2, if_pos g2]; exact ⟨_, _, _, rfl, rfl, hsheet⟩
    · rw [if_pos g1, if_pos g1]; exact ⟨_, _, _, rfl, rfl, hsheet⟩
  obtain ⟨r, w_x_si, v_m_items, e1, e2, khsheet⟩ := key
  refine ⟨r, (x_now_kinds, x_now_seating, x_now_knows, x_now_seals, x_now_telling, x_now_persons, x_now_wax, x_now_week, x_now_day, x_now_draw, x_past_knows, x_past_seals, x_past_dates, x_past_draws, x_past_next, x_past_steps, x_imageCourt_kinds, x_imageCourt_seating, x_imageCourt_knows, x_imageCourt_seals, x_imageCourt_telling, x_imageCourt_persons, x_imageCourt_wax, x_imageCourt_week, x_imageCourt_day, x_imageCourt_draw, x_imagePast_knows, x_imagePast_seals, x_imagePast_dates, x_imagePast_draws, x_imagePast_next, x_imagePast_steps, x_imaged, x_trial_kinds, x_trial_seating, x_trial_knows, x_trial_seals, x_trial_telling, x_trial_persons, x_trial_wax, x_trial_week, x_trial_day, x_trial_draw, x_order, x_bestOrder, x_tape_letters, x_tape_length, x_tape_at, x_sl, x_sn, w_x_si), (m_now, m_tape, m_typed, m_place, m_isFault, m_read, m_heard, m_undone, m_undos, m_aside, m_kept, m_keptUndos, m_isKept, m_lanes, m_sizes, v_m_items, m_moved), ?_, ?_, hnow, himg, htape, khsheet⟩
  · unfold xo_item; simp only []; rw [e1]; rfl
  · unfold mo_item; simp only []; rw [e2]; rfl
theorem ix24b (s i k : Nat) : ((24 : Int32) * nI s + nI i) + nI k = nI (24 * s + i + k) := by rw [ix24, nI_add]
theorem ym_copy1 {F s i n : Nat} {it : Nat → Int64} (hs : s < 4) (hn : i + n ≤ 24) : ∀ k j, j + k = n → ∀ fuel, k < fuel → ∀ g : Nat → Int64, (∀ q, q < j → g q = it (24 * s + i + q)) → ∃ g', (∀ kf, sx_lp2 (bdX5_copy_91 F (nI s) (nI i) (nI n) it kf) fuel (nI j) g = kf g') ∧ ∀ q, q < n → g' q = it (24 * s + i + q) := by
  intro k
  induction k with
  | zero =>
    intro j hj fuel hf g h1
    obtain ⟨f, rfl⟩ : ∃ f, fuel = f + 1 := ⟨fuel - 1, by omega⟩
    exact ⟨g, fun kf => by rw [sx_lp2_1, bdX5_copy_91, if_pos (nI_leT (by omega) (by omega))], fun q hq => h1 q (by omega)⟩
  | succ k ih =>
    intro j hj fuel hf g h1
    obtain ⟨f, rfl⟩ : ∃ f, fuel = f + 1 := ⟨fuel - 1, by omega⟩
    obtain ⟨g', q1, q2⟩ := ih (j + 1) (by omega) f (by omega) (vp_updL g j (it (24 * s + i + j))) (fun q hq => by
      by_cases e : q = j
      · rw [e, up_same]
      · rw [up_ne e]; exact h1 q (by omega))
    refine ⟨g', fun kf => ?_, q2⟩
    rw [sx_lp2_1, bdX5_copy_91, if_neg (nI_nleI (by omega) (by omega)), ix24b, sx_gd_e (nm_ib (by omega)), sx_gd_e (nm_ib (by omega)), nI_clamp (by omega), nI_clamp (by omega)]
    simp only [sx_nm, nI_1]
    exact q1 kf
theorem ym_copy2 {F s i n : Nat} {mv : Nat → Int64} (hs : s < 4) (hn : i + n ≤ 24) : ∀ k j, j + k = n → ∀ fuel, k < fuel → ∀ g : Nat → Int64, (∀ q, q < j → g (24 * s + i + q) = mv q) → ∃ g', sx_lp2 (bdX5_copy_128 F (nI s) (nI i) (nI n) mv) fuel (nI j) g = some (nI n, g', mv) ∧ (∀ q, q < n → g' (24 * s + i + q) = mv q) ∧ ∀ q, (q < 24 * s + i ∨ 24 * s + i + n ≤ q) → g' q = g q := by
  intro k
  induction k with
  | zero =>
    intro j hj fuel hf g h1
    obtain ⟨f, rfl⟩ : ∃ f, fuel = f + 1 := ⟨fuel - 1, by omega⟩
    rw [sx_lp2_1, bdX5_copy_128, if_pos (nI_leT (by omega) (by omega))]
    exact ⟨g, rfl, fun q hq => h1 q (by omega), fun _ _ => rfl⟩
  | succ k ih =>
    intro j hj fuel hf g h1
    obtain ⟨f, rfl⟩ : ∃ f, fuel = f + 1 := ⟨fuel - 1, by omega⟩
    obtain ⟨g', q1, q2, q3⟩ := ih (j + 1) (by omega) f (by omega) (vp_updL g (24 * s + i + j) (mv j)) (fun q hq => by
      by_cases e : q = j
      · rw [e, up_same]
      · rw [up_ne (by omega)]; exact h1 q (by omega))
    rw [sx_lp2_1, bdX5_copy_128, if_neg (nI_nleI (by omega) (by omega)), ix24b, sx_gd_e (nm_ib (by omega)), sx_gd_e (nm_ib (by omega)), nI_clamp (by omega), nI_clamp (by omega)]
    simp only [sx_nm, nI_1]
    exact ⟨g', q1, q2, fun q hq => by rw [q3 q (by omega), up_ne (by omega)]⟩
theorem nI_nm1 {l : Nat} (h : l < 4) : ¬ nI l = (-1 : Int32) := fun q => by
  have h1 := congrArg Int32.toInt q
  rw [nI_toInt (by omega)] at h1
  have h2 : (-1 : Int32).toInt = -1 := by decide
  omega
theorem ag_copy (a1 : Int32) (a2 : Int32) (a3 : Int32) (a4 : Int32) (a5 : Int32) {X : SX} {M : SM} (h : LInv X M) : ∃ r X2 M2, xo_copy 1000 a1 a2 a3 a4 a5 X = some (r, X2) ∧ mo_copy 1000 a1 a2 a3 a4 a5 M = some (r, M2) ∧ LInv X2 M2 := by
  obtain ⟨x_now_kinds, x_now_seating, x_now_knows, x_now_seals, x_now_telling, x_now_persons, x_now_wax, x_now_week, x_now_day, x_now_draw, x_past_knows, x_past_seals, x_past_dates, x_past_draws, x_past_next, x_past_steps, x_imageCourt_kinds, x_imageCourt_seating, x_imageCourt_knows, x_imageCourt_seals, x_imageCourt_telling, x_imageCourt_persons, x_imageCourt_wax, x_imageCourt_week, x_imageCourt_day, x_imageCourt_draw, x_imagePast_knows, x_imagePast_seals, x_imagePast_dates, x_imagePast_draws, x_imagePast_next, x_imagePast_steps, x_imaged, x_trial_kinds, x_trial_seating, x_trial_knows, x_trial_seals, x_trial_telling, x_trial_persons, x_trial_wax, x_trial_week, x_trial_day, x_trial_draw, x_order, x_bestOrder, x_tape_letters, x_tape_length, x_tape_at, x_sl, x_sn, x_si⟩ := X
  obtain ⟨m_now, m_tape, m_typed, m_place, m_isFault, m_read, m_heard, m_undone, m_undos, m_aside, m_kept, m_keptUndos, m_isKept, m_lanes, m_sizes, m_items, m_moved⟩ := M
  obtain ⟨hnow, himg, htape, hsheet⟩ := h
  have key : ∃ (r : Int32) (w_x_si : Nat → Nat → Int64) (v_m_items : Nat → Int64) (v_m_moved : Nat → Int64), fnX4_copy 1000 x_sl x_sn x_si a1 a2 a3 a4 a5 = some (r, w_x_si) ∧ fnX5_copy 1000 m_lanes m_sizes m_items m_moved a1 a2 a3 a4 a5 = some (r, v_m_items, v_m_moved) ∧ P_sheet x_sl x_sn w_x_si m_lanes m_sizes v_m_items := by
    unfold fnX4_copy fnX5_copy
    rw [xs_isSheet, xs_isSheet, ym_isSheet, ym_isSheet]
    simp only [sx_c1, if1, sx_lt]
    by_cases g1 : rg a1 0 3 = true
    · rw [if_neg (not_not_intro g1), if_neg (not_not_intro g1)]
      by_cases g2 : rg a3 0 3 = true
      · rw [if_neg (not_not_intro g2), if_neg (not_not_intro g2)]
        obtain ⟨s, -, hs, rfl⟩ := rg_of (lo := 0) (hi := 3) g1
        obtain ⟨u, -, hu, rfl⟩ := rg_of (lo := 0) (hi := 3) g2
        obtain ⟨e1, h⟩ := hsheet s (by omega)
        obtain ⟨e2, k⟩ := hsheet u (by omega)
        have is4 : sx_ib (nI s) 4 = true := nm_ib (by omega)
        have iu4 : sx_ib (nI u) 4 = true := nm_ib (by omega)
        simp only [sx_gd_e is4, sx_gd_e iu4, nI_clamp (show s < 2 ^ 31 by omega), nI_clamp (show u < 2 ^ 31 by omega)]
        unfold fnX2_isMissing
        rcases h with h | ⟨⟨l, hl, h⟩, h2, ⟨z, hz, h3⟩, h4⟩
        · rw [← e1, h, if_pos rfl, if_pos (show (-1 : Int32) < 0 by decide)]
          simp only [show ¬ (1 : Int32) = 0 from by decide, if_false]
          exact ⟨_, _, _, _, rfl, rfl, hsheet⟩
        · rw [← e1, h, if_neg (nI_nm1 hl), if_neg (nI_pos (by omega))]
          simp only [if_true]
          rcases k with k | ⟨⟨m, hm, k⟩, k2, ⟨y, hy, k3⟩, k4⟩
          · rw [← e2, k, if_pos rfl, if_neg (show ¬ (0 : Int32) ≤ -1 by decide)]
            simp only [show ¬ (1 : Int32) = 0 from by decide, if_false]
            exact ⟨_, _, _, _, rfl, rfl, hsheet⟩
          · rw [← e2, k, if_neg (nI_nm1 hm), if_pos (nI_pos' (by omega)), ym_why1 1000 (show u < 4 by omega) hm (by rw [← e2]; exact k) hy (by rw [← k2]; exact k3), ym_why1 1000 (show s < 4 by omega) hl (by rw [← e1]; exact h) hz (by rw [← h2]; exact h3), h3, k3, xs_holds 1000 hz, xs_holds 1000 hy]
            simp only [if_true, if1]
            by_cases e : l = m
            · subst e
              rw [if_pos rfl]
              by_cases y1 : hb z a2 a5 = true
              · rw [if_neg (not_not_intro y1)]
                by_cases y2 : hb y a4 a5 = true
                · rw [if_neg (not_not_intro y2)]
                  simp only [if_pos y1, if_pos y2, if_true]
                  obtain ⟨i, n, rfl, rfl, r1⟩ := hb_of y1
                  obtain ⟨j, n', rfl, hn', r2⟩ := hb_of y2
                  have hnn : n' = n := by
                    have q := congrArg Int32.toInt hn'
                    rw [nI_toInt (by omega), nI_toInt (by omega)] at q
                    omega
                  subst hnn
                  rw [sx_gd_e (cp_ok (by omega) (by omega) (by omega) (by omega)), nI_clamp (by omega), nI_clamp (by omega), nI_clamp (by omega), if_pos (by decide)]
                  obtain ⟨mv, q1, q2⟩ := ym_copy1 (F := 1000) (s := s) (i := i) (n := n') (it := m_items) (by omega) (by omega) n' 0 (by omega) 1000 (by omega) m_moved (fun q hq => by omega)
                  obtain ⟨it', q3, q4, q5⟩ := ym_copy2 (F := 1000) (s := u) (i := j) (n := n') (mv := mv) (by omega) (by omega) n' 0 (by omega) 1000 (by omega) m_items (fun q hq => by omega)
                  rw [nm_0, q1, q3]
                  refine ⟨_, _, _, _, rfl, rfl, fun q hq => ?_⟩
                  obtain ⟨f1, f2⟩ := hsheet q hq
                  refine ⟨f1, ?_⟩
                  rcases f2 with f2 | ⟨f2, f3, f4, f5⟩
                  · exact Or.inl f2
                  · refine Or.inr ⟨f2, f3, f4, fun p hp => ?_⟩
                    by_cases e : q = u
                    · subst e
                      rw [va_up_self]
                      by_cases c : j ≤ p ∧ p < j + n'
                      · rw [pk_cpy_in c.1 c.2, h4 _ (by omega), show 24 * q + p = 24 * q + j + (p - j) by omega, q4 _ (by omega), q2 _ (by omega), show 24 * s + (i + (p - j)) = 24 * s + i + (p - j) by omega]
                      · rw [pk_cpy_out (by omega), q5 _ (by omega)]; exact f5 p hp
                    · rw [va_up_ne _ _ e, q5 _ (by omega)]; exact f5 p hp
                · rw [if_pos y2]
                  simp only [if_neg y2, show ¬ (-13 : Int32) = 0 from by decide, if_false, show ¬ (0 : Int32) ≤ -13 from by decide]
                  exact ⟨_, _, _, _, rfl, rfl, hsheet⟩
              · rw [if_pos y1]
                simp only [if_neg y1]
                by_cases y2 : hb y a4 a5 = true
                · simp only [if_pos y2, if_true, show ¬ (0 : Int32) ≤ -13 from by decide, if_false]
                  exact ⟨_, _, _, _, rfl, rfl, hsheet⟩
                · simp only [if_neg y2, show ¬ (-13 : Int32) = 0 from by decide, if_false, show ¬ (0 : Int32) ≤ -13 from by decide]
                  exact ⟨_, _, _, _, rfl, rfl, hsheet⟩
            · have ne : ¬ nI l = nI m := fun q => e ((nI_eq (by omega) (by omega)).mp q)
              have ne2 : ¬ nI m = nI l := fun q => ne q.symm
              simp only [if_neg ne, if_neg ne2, show ¬ (-12 : Int32) = 0 from by decide, if_false, show ¬ (0 : Int32) ≤ -12 from by decide]
              exact ⟨_, _, _, _, rfl, rfl, hsheet⟩
      · rw [if_pos g2, if_pos g2]; exact ⟨_, _, _, _, rfl, rfl, hsheet⟩
    · rw [if_pos g1, if_pos g1]; exact ⟨_, _, _, _, rfl, rfl, hsheet⟩
  obtain ⟨r, w_x_si, v_m_items, v_m_moved, e1, e2, khsheet⟩ := key
  refine ⟨r, (x_now_kinds, x_now_seating, x_now_knows, x_now_seals, x_now_telling, x_now_persons, x_now_wax, x_now_week, x_now_day, x_now_draw, x_past_knows, x_past_seals, x_past_dates, x_past_draws, x_past_next, x_past_steps, x_imageCourt_kinds, x_imageCourt_seating, x_imageCourt_knows, x_imageCourt_seals, x_imageCourt_telling, x_imageCourt_persons, x_imageCourt_wax, x_imageCourt_week, x_imageCourt_day, x_imageCourt_draw, x_imagePast_knows, x_imagePast_seals, x_imagePast_dates, x_imagePast_draws, x_imagePast_next, x_imagePast_steps, x_imaged, x_trial_kinds, x_trial_seating, x_trial_knows, x_trial_seals, x_trial_telling, x_trial_persons, x_trial_wax, x_trial_week, x_trial_day, x_trial_draw, x_order, x_bestOrder, x_tape_letters, x_tape_length, x_tape_at, x_sl, x_sn, w_x_si), (m_now, m_tape, m_typed, m_place, m_isFault, m_read, m_heard, m_undone, m_undos, m_aside, m_kept, m_keptUndos, m_isKept, m_lanes, m_sizes, v_m_items, v_m_moved), ?_, ?_, hnow, himg, htape, khsheet⟩
  · unfold xo_copy; simp only []; rw [e1]; rfl
  · unfold mo_copy; simp only []; rw [e2]; rfl
