-- RIVALS, FROM
theorem lg_eq {x y : Int64} : lg_cmp x y = 0 ↔ x = y := by
  unfold lg_cmp
  by_cases h : x > y
  · rw [if_pos h]; exact ⟨fun q => absurd q (by decide), fun q => by rw [q] at h; have := (fa_lt64 y y).mp h; omega⟩
  · rw [if_neg h]
    by_cases e : x = y
    · rw [if_pos e]; exact ⟨fun _ => e, fun _ => rfl⟩
    · rw [if_neg e]; exact ⟨fun q => absurd q (by decide), fun q => absurd q e⟩
theorem ct_bits_8 (f : Nat → Nat) : ct_bits f 8 = f 0 + 2 * f 1 + 4 * f 2 + 8 * f 3 + 16 * f 4 + 32 * f 5 + 64 * f 6 + 128 * f 7 := by
  rw [ct_bits_s, ct_bits_s, ct_bits_s, ct_bits_s, ct_bits_s, ct_bits_s, ct_bits_s, ct_bits_s]
  show 0 + f 0 * 1 + f 1 * 2 + f 2 * 4 + f 3 * 8 + f 4 * 16 + f 5 * 32 + f 6 * 64 + f 7 * 128 = _
  omega
theorem bits_inj {f g : Nat → Nat} (hf : mp_B 2 f) (hg : mp_B 2 g) : ct_bits f 8 = ct_bits g 8 ↔ mp_P f = mp_P g := by
  constructor
  · intro h
    rw [ct_bits_8, ct_bits_8] at h
    obtain ⟨a0, a1, a2, a3, a4, a5, a6, a7⟩ := mp_all hf
    obtain ⟨b0, b1, b2, b3, b4, b5, b6, b7⟩ := mp_all hg
    refine mp_cong (fun t ht => ?_)
    rcases (show t = 0 ∨ t = 1 ∨ t = 2 ∨ t = 3 ∨ t = 4 ∨ t = 5 ∨ t = 6 ∨ t = 7 by omega) with rfl | rfl | rfl | rfl | rfl | rfl | rfl | rfl <;> omega
  · intro h
    have := mp_inj (hf.mono (by omega)) (hg.mono (by omega)) h
    rw [ct_bits_8, ct_bits_8, this 0 (by omega), this 1 (by omega), this 2 (by omega), this 3 (by omega), this 4 (by omega), this 5 (by omega), this 6 (by omega), this 7 (by omega)]
theorem bits_0 {f : Nat → Nat} : ct_bits f 8 = 0 ↔ mp_P f = 0 := by
  rw [mp_0, ct_bits_8]
  constructor
  · intro h t ht
    rcases (show t = 0 ∨ t = 1 ∨ t = 2 ∨ t = 3 ∨ t = 4 ∨ t = 5 ∨ t = 6 ∨ t = 7 by omega) with rfl | rfl | rfl | rfl | rfl | rfl | rfl | rfl <;> omega
  · intro h
    rw [h 0 (by omega), h 1 (by omega), h 2 (by omega), h 3 (by omega), h 4 (by omega), h 5 (by omega), h 6 (by omega), h 7 (by omega)]
theorem bits_lt {f : Nat → Nat} (hf : mp_B 2 f) : ct_bits f 8 < 256 := ct_bits_lt hf 8 (by omega)
theorem rv_in {n i : Nat} {sl : Nat → Nat → Nat} {a : Nat → Int64} {w : Nat → Int32} (hn : n ≤ 6) (hi : i < n) (hsl : ct_sl n sl) (ha : cx_L n (cx_kn sl) a) (h0 : w 0 = nI n) (hS : cm_S n sl w) : ∀ k j, j + k = n → ∀ fuel, k < fuel → ∀ (c : Nat) (f : Int32), c + k < 1000 → ∃ (c' : Nat) (f' : Int32), c' ≤ c + k ∧ (∀ kf, sx_lp3 (bdX4_rivals_37 1000 (nI i) a (nI n) kf) fuel (nI c) f (nI j) = kf (nI c') f') ∧ (∀ kf, sx_lp3 (bdX5_rivals_37 1000 (nI i) w kf) fuel (nI c) f (nI j) = kf (nI c') f') := by
  intro k
  induction k with
  | zero =>
    intro j hj fuel hf c f hc
    obtain ⟨g, rfl⟩ : ∃ g, fuel = g + 1 := ⟨fuel - 1, by omega⟩
    exact ⟨c, f, by omega, fun kf => by rw [sx_lp3_1, bdX4_rivals_37, if_pos (nI_leT (by omega) (by omega))], fun kf => by rw [sx_lp3_1, bdX5_rivals_37, sx_n0, h0, if_pos (nI_leT (by omega) (by omega))]⟩
  | succ k ih =>
    intro j hj fuel hf c f hc
    obtain ⟨g, rfl⟩ : ∃ g, fuel = g + 1 := ⟨fuel - 1, by omega⟩
    have hB := fun p => cx_kn_B sl p
    have hlt := fun p => mp_lt ((hB p).mono (show 2 ≤ 256 by omega))
    have tI := ym_things (F := 1000) (0 : Int32) (cx_kn sl i) (hB i) (fun t _ => by rw [if_pos rfl]) (Nat.le_refl _) hn hi hsl hS
    have tJ := ym_things (F := 1000) (p := j) (0 : Int32) (cx_kn sl j) (hB j) (fun t _ => by rw [if_pos rfl]) (Nat.le_refl _) hn (by omega) hsl hS
    have z1 : (lg_cmp (lN (mp_P (cx_kn sl i))) (0 : Int64) = 0) ↔ ct_bits (cx_kn sl i) 8 = 0 := by rw [ml_cmp0 (hlt i), bits_0]
    have z2 : (nI (ct_bits (cx_kn sl i) 8) = (0 : Int32)) ↔ ct_bits (cx_kn sl i) 8 = 0 := by rw [nm_0, nI_eq (by have := bits_lt (hB i); omega) (by omega)]
    have z3 : (lg_cmp (lN (mp_P (cx_kn sl i))) (lN (mp_P (cx_kn sl j))) = 0) ↔ ct_bits (cx_kn sl i) 8 = ct_bits (cx_kn sl j) 8 := by rw [lg_eq, ml_eq (hlt i) (hlt j), bits_inj (hB i) (hB j)]
    have z4 : (nI (ct_bits (cx_kn sl i) 8) = nI (ct_bits (cx_kn sl j) 8)) ↔ ct_bits (cx_kn sl i) 8 = ct_bits (cx_kn sl j) 8 := nI_eq (by have := bits_lt (hB i); omega) (by have := bits_lt (hB j); omega)
    have z5 : (nI c = (0 : Int32)) ↔ c = 0 := by rw [nm_0, nI_eq (by omega) (by omega)]
    have cx : ∀ (c2 : Nat) (f2 : Int32), c2 + k < 1000 → (∀ kf, sx_lp3 (bdX4_rivals_37 1000 (nI i) a (nI n) kf) (g + 1) (nI c) f (nI j) = sx_lp3 (bdX4_rivals_37 1000 (nI i) a (nI n) kf) g (nI c2) f2 (nI (j + 1))) → (∀ kf, sx_lp3 (bdX5_rivals_37 1000 (nI i) w kf) (g + 1) (nI c) f (nI j) = sx_lp3 (bdX5_rivals_37 1000 (nI i) w kf) g (nI c2) f2 (nI (j + 1))) → c2 ≤ c + 1 → ∃ (c' : Nat) (f' : Int32), c' ≤ c + (k + 1) ∧ (∀ kf, sx_lp3 (bdX4_rivals_37 1000 (nI i) a (nI n) kf) (g + 1) (nI c) f (nI j) = kf (nI c') f') ∧ (∀ kf, sx_lp3 (bdX5_rivals_37 1000 (nI i) w kf) (g + 1) (nI c) f (nI j) = kf (nI c') f') := by
      intro c2 f2 h1 h2 h3 h4
      obtain ⟨c', f', r0, r1, r2⟩ := ih (j + 1) (by omega) g (by omega) c2 f2 h1
      exact ⟨c', f', by omega, fun kf => by rw [h2 kf, r1 kf], fun kf => by rw [h3 kf, r2 kf]⟩
    have oX : ∀ kf, sx_lp3 (bdX4_rivals_37 1000 (nI i) a (nI n) kf) (g + 1) (nI c) f (nI j) = if ct_bits (cx_kn sl i) 8 = 0 then sx_lp3 (bdX4_rivals_37 1000 (nI i) a (nI n) kf) g (nI c) f (nI (j + 1)) else if ct_bits (cx_kn sl i) 8 = ct_bits (cx_kn sl j) 8 then (if c = 0 then sx_lp3 (bdX4_rivals_37 1000 (nI i) a (nI n) kf) g (nI (c + 1)) ((10 : Int32) * nI i + nI j) (nI (j + 1)) else sx_lp3 (bdX4_rivals_37 1000 (nI i) a (nI n) kf) g (nI (c + 1)) f (nI (j + 1))) else sx_lp3 (bdX4_rivals_37 1000 (nI i) a (nI n) kf) g (nI c) f (nI (j + 1)) := by
      intro kf
      rw [sx_lp3_1, bdX4_rivals_37, if_neg (nI_nleI (by omega) (by omega)), sx_gd_e (nm_ib (by omega))]
      simp only [sx_lt]
      rw [sx_gd_e (nm_ib (by omega)), sx_gd_e (nm_ib (by omega)), nI_clamp (by omega), nI_clamp (by omega), ha i hi, ha j (by omega)]
      simp only [sx_nm, nI_1, z1, z3, z5]
    have oM : ∀ kf, sx_lp3 (bdX5_rivals_37 1000 (nI i) w kf) (g + 1) (nI c) f (nI j) = if ct_bits (cx_kn sl i) 8 = 0 then sx_lp3 (bdX5_rivals_37 1000 (nI i) w kf) g (nI c) f (nI (j + 1)) else if ct_bits (cx_kn sl i) 8 = ct_bits (cx_kn sl j) 8 then (if c = 0 then sx_lp3 (bdX5_rivals_37 1000 (nI i) w kf) g (nI (c + 1)) ((10 : Int32) * nI i + nI j) (nI (j + 1)) else sx_lp3 (bdX5_rivals_37 1000 (nI i) w kf) g (nI (c + 1)) f (nI (j + 1))) else sx_lp3 (bdX5_rivals_37 1000 (nI i) w kf) g (nI c) f (nI (j + 1)) := by
      intro kf
      rw [sx_lp3_1, bdX5_rivals_37, sx_n0, h0, if_neg (nI_nleI (by omega) (by omega)), tI, tJ]
      simp only [sx_c1, sx_lt, sx_nm, nI_1, z2, z4]
      by_cases y1 : ct_bits (cx_kn sl i) 8 = 0
      · simp only [if_pos y1, if_true, Int32.add_zero]
      · simp only [if_neg y1]
        by_cases y2 : ct_bits (cx_kn sl i) 8 = ct_bits (cx_kn sl j) 8
        · simp only [if_pos y2, show ¬ (1 : Int32) = 0 from by decide, if_false, nI_1, z5]
        · simp only [if_neg y2, if_true, Int32.add_zero]
    by_cases y1 : ct_bits (cx_kn sl i) 8 = 0
    · exact cx c f (by omega) (fun kf => by rw [oX kf, if_pos y1]) (fun kf => by rw [oM kf, if_pos y1]) (by omega)
    · by_cases y2 : ct_bits (cx_kn sl i) 8 = ct_bits (cx_kn sl j) 8
      · by_cases y3 : c = 0
        · exact cx (c + 1) ((10 : Int32) * nI i + nI j) (by omega) (fun kf => by rw [oX kf, if_neg y1, if_pos y2, if_pos y3]) (fun kf => by rw [oM kf, if_neg y1, if_pos y2, if_pos y3]) (by omega)
        · exact cx (c + 1) f (by omega) (fun kf => by rw [oX kf, if_neg y1, if_pos y2, if_neg y3]) (fun kf => by rw [oM kf, if_neg y1, if_pos y2, if_neg y3]) (by omega)
      · exact cx c f (by omega) (fun kf => by rw [oX kf, if_neg y1, if_neg y2]) (fun kf => by rw [oM kf, if_neg y1, if_neg y2]) (by omega)
theorem rv_out {n : Nat} {sl : Nat → Nat → Nat} {a : Nat → Int64} {w : Nat → Int32} (hn : n ≤ 6) (hsl : ct_sl n sl) (ha : cx_L n (cx_kn sl) a) (h0 : w 0 = nI n) (hS : cm_S n sl w) : ∀ k i, i + k = n → ∀ fuel, k < fuel → ∀ (c : Nat) (f : Int32), c + 10 * k < 100 → ∃ (c' : Nat) (f' : Int32), (∀ kf, sx_lp3 (bdX4_rivals_19 1000 a (nI n) kf) fuel (nI c) f (nI i) = kf (nI c') f') ∧ (∀ kf, sx_lp3 (bdX5_rivals_20 1000 w kf) fuel (nI c) f (nI i) = kf (nI c') f') := by
  intro k
  induction k with
  | zero =>
    intro i hi fuel hf c f hc
    obtain ⟨g, rfl⟩ : ∃ g, fuel = g + 1 := ⟨fuel - 1, by omega⟩
    exact ⟨c, f, fun kf => by rw [sx_lp3_1, bdX4_rivals_19, if_pos (nI_leT (by omega) (by omega))], fun kf => by rw [sx_lp3_1, bdX5_rivals_20, sx_n0, h0, if_pos (nI_leT (by omega) (by omega))]⟩
  | succ k ih =>
    intro i hi fuel hf c f hc
    obtain ⟨g, rfl⟩ : ∃ g, fuel = g + 1 := ⟨fuel - 1, by omega⟩
    obtain ⟨c1, f1, q0, q1, q2⟩ := rv_in (i := i) hn (by omega) hsl ha h0 hS (n - (i + 1)) (i + 1) (by omega) 1000 (by omega) c f (by omega)
    obtain ⟨c', f', r1, r2⟩ := ih (i + 1) (by omega) g (by omega) c1 f1 (by omega)
    refine ⟨c', f', fun kf => ?_, fun kf => ?_⟩
    · rw [sx_lp3_1, bdX4_rivals_19, if_neg (nI_nleI (by omega) (by omega))]
      simp only [sx_nm, sx_lt, nI_1]
      rw [q1]; exact r1 kf
    · rw [sx_lp3_1, bdX5_rivals_20, sx_n0, h0, if_neg (nI_nleI (by omega) (by omega))]
      simp only [sx_nm, sx_lt, nI_1]
      rw [q2]; exact r2 kf
theorem ag_rivals (a1 : Int32) {X : SX} {M : SM} (h : LInv X M) : ∃ r X2 M2, xo_rivals 1000 a1 X = some (r, X2) ∧ mo_rivals 1000 a1 M = some (r, M2) ∧ LInv X2 M2 := by
  obtain ⟨x_now_kinds, x_now_seating, x_now_knows, x_now_seals, x_now_telling, x_now_persons, x_now_wax, x_now_week, x_now_day, x_now_draw, x_past_knows, x_past_seals, x_past_dates, x_past_draws, x_past_next, x_past_steps, x_imageCourt_kinds, x_imageCourt_seating, x_imageCourt_knows, x_imageCourt_seals, x_imageCourt_telling, x_imageCourt_persons, x_imageCourt_wax, x_imageCourt_week, x_imageCourt_day, x_imageCourt_draw, x_imagePast_knows, x_imagePast_seals, x_imagePast_dates, x_imagePast_draws, x_imagePast_next, x_imagePast_steps, x_imaged, x_trial_kinds, x_trial_seating, x_trial_knows, x_trial_seals, x_trial_telling, x_trial_persons, x_trial_wax, x_trial_week, x_trial_day, x_trial_draw, x_order, x_bestOrder, x_tape_letters, x_tape_length, x_tape_at, x_sl, x_sn, x_si⟩ := X
  obtain ⟨m_now, m_tape, m_typed, m_place, m_isFault, m_read, m_heard, m_undone, m_undos, m_aside, m_kept, m_keptUndos, m_isKept, m_lanes, m_sizes, m_items, m_moved⟩ := M
  obtain ⟨hnow, himg, htape, hsheet⟩ := h
  have key : ∃ r, fnX4_rivals 1000 x_now_knows x_now_persons a1 = some r ∧ fnX5_rivals 1000 m_now a1 = some r := by
    have hnow2 := hnow
    obtain ⟨C, k, hs, hC, hk, hX, hP, hM, hU, rfl⟩ := hnow2
    obtain ⟨c1, c2, c3, c4, c5, c6, c7, c8⟩ := hC
    obtain ⟨x1, x2, x3, x4, rfl, rfl, rfl, rfl, rfl⟩ := hX
    obtain ⟨⟨m0, m1, m2, m3, m4, m5, m6⟩, mS⟩ := hM
    have hF : 1000 ≤ 1000 := Nat.le_refl _
    unfold fnX4_rivals fnX5_rivals
    rw [xs_within, lw0, lw1, ym_in, i0, i1]
    simp only [sx_c1, if1, sx_lt]
    by_cases g : rg a1 0 1 = true
    · rw [if_neg (not_not_intro g), if_neg (not_not_intro g)]
      obtain ⟨c', f', r1, r2⟩ := rv_out c1 c4 x3 m0 mS (cc_n C) 0 (by omega) 1000 (by omega) 0 (-4) (by omega)
      rw [← nm_0] at r1 r2
      rw [r1, r2]
      by_cases e : a1 = 0
      · rw [if_pos e]; exact ⟨_, rfl, rfl⟩
      · rw [if_neg e]; exact ⟨_, rfl, rfl⟩
    · rw [if_pos g, if_pos g]; exact ⟨_, rfl, rfl⟩
  obtain ⟨r, e1, e2⟩ := key
  refine ⟨r, (x_now_kinds, x_now_seating, x_now_knows, x_now_seals, x_now_telling, x_now_persons, x_now_wax, x_now_week, x_now_day, x_now_draw, x_past_knows, x_past_seals, x_past_dates, x_past_draws, x_past_next, x_past_steps, x_imageCourt_kinds, x_imageCourt_seating, x_imageCourt_knows, x_imageCourt_seals, x_imageCourt_telling, x_imageCourt_persons, x_imageCourt_wax, x_imageCourt_week, x_imageCourt_day, x_imageCourt_draw, x_imagePast_knows, x_imagePast_seals, x_imagePast_dates, x_imagePast_draws, x_imagePast_next, x_imagePast_steps, x_imaged, x_trial_kinds, x_trial_seating, x_trial_knows, x_trial_seals, x_trial_telling, x_trial_persons, x_trial_wax, x_trial_week, x_trial_day, x_trial_draw, x_order, x_bestOrder, x_tape_letters, x_tape_length, x_tape_at, x_sl, x_sn, x_si), (m_now, m_tape, m_typed, m_place, m_isFault, m_read, m_heard, m_undone, m_undos, m_aside, m_kept, m_keptUndos, m_isKept, m_lanes, m_sizes, m_items, m_moved), ?_, ?_, hnow, himg, htape, hsheet⟩
  · unfold xo_rivals; simp only []; rw [e1]; rfl
  · unfold mo_rivals; simp only []; rw [e2]; rfl
theorem ym_from52 {F n t p : Nat} (hn : n ≤ 6) (ht : t < 8) (hp : p < n) : ∀ k i, i + k = n → ∀ fuel, k < fuel → ∀ w : Nat → Int32, w 0 = nI n → (∀ q, q < i → w (17 + 8 * q + t) = cm_v (if q = p then 1 else 0)) → ∃ w', (∀ kf, sx_lp2 (bdX5_from_52 F (nI t) (nI p) kf) fuel (nI i) w = kf w') ∧ (∀ j, (∀ q, q < n → j ≠ 17 + 8 * q + t) → w' j = w j) ∧ ∀ q, q < n → w' (17 + 8 * q + t) = cm_v (if q = p then 1 else 0) := by
  intro k
  induction k with
  | zero =>
    intro i hi fuel hf w h0 h1
    obtain ⟨f, rfl⟩ : ∃ f, fuel = f + 1 := ⟨fuel - 1, by omega⟩
    exact ⟨w, fun kf => by rw [sx_lp2_1, bdX5_from_52, sx_n0, h0, if_pos (nI_leT (by omega) (by omega))], fun _ _ => rfl, fun q hq => h1 q (by omega)⟩
  | succ k ih =>
    intro i hi fuel hf w h0 h1
    obtain ⟨f, rfl⟩ : ∃ f, fuel = f + 1 := ⟨fuel - 1, by omega⟩
    obtain ⟨w', q1, q2, q3⟩ := ih (i + 1) (by omega) f (by omega) (upd w (17 + 8 * i + t) (cm_v (if i = p then 1 else 0))) (by rw [pu_ne (by omega)]; exact h0) (fun q hq => by
      by_cases e : q = i
      · rw [e, pu_same]
      · rw [pu_ne (by omega)]; exact h1 q (by omega))
    refine ⟨w', fun kf => ?_, fun j hj => by rw [q2 j hj, pu_ne (hj i (by omega))], q3⟩
    rw [sx_lp2_1, bdX5_from_52, sx_n0, h0, if_neg (nI_nleI (by omega) (by omega)), ym_ix]
    simp only [sx_lt]
    rw [sx_gd_e (nm_ib (by omega)), sx_gd_e (nm_ib (by omega)), nI_clamp (by omega)]
    simp only [sx_nm, nI_1]
    by_cases e : i = p
    · rw [if_pos (by rw [e])]
      have := q1 kf
      rw [if_pos e] at this
      exact this
    · rw [if_neg (fun z => e ((nI_eq (by omega) (by omega)).mp z))]
      have := q1 kf
      rw [if_neg e] at this
      exact this
theorem ym_from99 {F h t N : Nat} (hF : 1000 ≤ F) (hh : h ≤ 9) (ht : t < 8) (hN : N ≤ 60) : ∀ k i, i + k = N + 1 → ∀ fuel, k < fuel → ∀ (C : ctC) (B : Nat) (w hd : Nat → Int32), B + k ≤ 100000 → cc_ok C B → cm_C C w → ∃ w' hd', ∀ kf, sx_lp3 (bdX5_from_99 F (nI t) (nI N) (nI h) kf) fuel (nI i) w hd = kf (nI (i + cc_fx h t k C)) w' hd' := by
  intro k
  induction k with
  | zero =>
    intro i hi fuel hf C B w hd hB hC hw
    obtain ⟨f, rfl⟩ : ∃ f, fuel = f + 1 := ⟨fuel - 1, by omega⟩
    exact ⟨w, hd, fun kf => by rw [sx_lp3_1, bdX5_from_99, if_pos ((nI_ltI (by omega) (by omega)).mpr (by omega))]; rfl⟩
  | succ k ih =>
    intro i hi fuel hf C B w hd hB hC hw
    obtain ⟨f, rfl⟩ : ∃ f, fuel = f + 1 := ⟨fuel - 1, by omega⟩
    have hlt : ¬ nI N < nI i := fun q => absurd ((nI_ltI (by omega) (by omega)).mp q) (by omega)
    rw [cc_fx_s]
    by_cases z : ct_out (cc_sl C) (cc_n C) t = true
    · refine ⟨w, hd, fun kf => ?_⟩
      rw [sx_lp3_1, bdX5_from_99, if_neg hlt, yd_out hF hC ht hw]
      simp only [sx_c1, sx_nm, if1]
      rw [if_neg (not_not_intro z), if_pos z]; rfl
    · obtain ⟨w1, hd1, e1, hw1⟩ := ym_goesBy (F := F) (h := h) hF (by omega) hC hh hw hd
      obtain ⟨w', hd', q⟩ := ih (i + 1) (by omega) f (by omega) (cc_day C h) (B + 1) w1 hd1 (by omega) (cc_day_ok hC h) hw1
      refine ⟨w', hd', fun kf => ?_⟩
      rw [sx_lp3_1, bdX5_from_99, if_neg hlt, yd_out hF hC ht hw]
      simp only [sx_c1, sx_nm, if1]
      rw [if_pos z, if_neg z, e1]
      simp only [sx_c2, nI_1]
      rw [q kf, show i + 1 + cc_fx h t k (cc_day C h) = i + (cc_fx h t k (cc_day C h) + 1) by omega]
/-- a thing is known by one alone, its seal broken -/
def cc_on (C : ctC) (p t : Nat) : ctC := (cc_n C, cc_kd C, cc_st C, ct_put (ct_fg (cc_sl C) t) p t 1, cc_wx C, cc_wk C, cc_dy C, cc_dr C)
theorem cc_on_ok {C : ctC} {B : Nat} (hC : cc_ok C B) (p t : Nat) : cc_ok (cc_on C p t) B := by
  obtain ⟨c1, c2, c3, c4, c5, c6, c7, c8⟩ := hC
  exact ⟨c1, c2, c3, ct_put_sl (ct_fg_sl c4 t) (by omega), c5, c6, c7, c8⟩
theorem ag_from_l {N h t : Nat} {C : ctC} {ki se : Nat → Int32} {a b : Nat → Int64} {pe wa we da dr : Int32} {s : Nat → Int32} (hN : N ≤ 60) (hh : h ≤ 9) (ht : t < 8) (hC : cc_ok C 9999) (hX : cx_C C ki se a b pe wa we da dr) (hs : cm_C C s) : ∀ k i, i + k = cc_n C → ∀ fuel, k < fuel → ∀ (v : Int32) (tk ts : Nat → Int32) (ta tb tc : Nat → Int64) (tp tw te td tr : Int32) (w hd : Nat → Int32), (∀ j, j < 65 → w j = s j) → ∃ r q w' hd', sx_lp12 (bdX4_from_32 1000 (nI t) (nI N) (nI h) ki se a b pe wa we da dr) fuel v (nI i) tk ts ta tb tc tp tw te td tr = some (r, q) ∧ sx_lp4 (bdX5_from_38 1000 (nI t) (nI N) (nI h) s) fuel v (nI i) w hd = some (r, w', hd', s) ∧ ∀ j, j < 65 → w' j = s j := by
  have hpe := hX.2.2.2.2.1
  have hn := hC.1
  intro k
  induction k with
  | zero =>
    intro i hi fuel hf v tk ts ta tb tc tp tw te td tr w hd hw
    obtain ⟨f, rfl⟩ : ∃ f, fuel = f + 1 := ⟨fuel - 1, by omega⟩
    rw [sx_lp12_1, sx_lp4_1, bdX4_from_32, bdX5_from_38, sx_n0, hw 0 (by omega), hs.1.1, if_pos (by rw [hpe]; exact nI_leT (by omega) (by omega)), if_pos (nI_leT (by omega) (by omega))]
    exact ⟨_, _, _, _, rfl, rfl, hw⟩
  | succ k ih =>
    intro i hi fuel hf v tk ts ta tb tc tp tw te td tr w hd hw
    obtain ⟨f, rfl⟩ : ∃ f, fuel = f + 1 := ⟨fuel - 1, by omega⟩
    obtain ⟨ki', se', a', b', e1, hX1⟩ := xs_become (F := 1000) hC.1 hX tk ts ta tb tp tw te td tr
    obtain ⟨x1, x2, x3, x4, x5, x6, x7, x8, x9⟩ := hX1
    obtain ⟨a2, b2, e2, ha2, hb2⟩ := xs_forgetThing (F := 1000) (t := t) (Nat.le_refl _) hC.1 ht hC.2.2.2.1 x3 x4
    obtain ⟨a3, b3, e3, ha3, hb3⟩ := xs_learn (F := 1000) (p := i) (t := t) (v := 0) hC.1 (show i < cc_n C by omega) ht (by omega) (ct_fg_sl hC.2.2.2.1 t) ha2 hb2
    have okD := cc_on_ok hC i t
    obtain ⟨a4, b4, c4, d4, e4⟩ := xc_firstOut (F := 1000) (N := N) (h := h) (t := t) (C := cc_on C i t) (Nat.le_refl _) (show 9999 ≤ 90000 by omega) okD hh hN ht ⟨x1, x2, ha3, hb3, x5, x6, x7, x8, x9⟩ tc
    have hM := hs.ext hC.1 hw
    obtain ⟨w1, q1, q2, q3⟩ := ym_from52 (F := 1000) (t := t) (p := i) hn ht (show i < cc_n C by omega) (cc_n C) 0 (by omega) 1000 (by omega) w hM.1.1 (fun q hq => by omega)
    have hM1 : cm_C (cc_on C i t) w1 := by
      refine ⟨cm_H.kept (C := C) hM.1 hn (fun j hj => q2 j (fun q hq => by omega)), fun q hq u hu => ?_⟩
      have hq' : q < cc_n C := hq
      show _ = cm_v (if q = i ∧ u = t then 1 else if u = t then 0 else cc_sl C q u)
      by_cases e : u = t
      · rw [e, q3 q hq']
        by_cases e' : q = i
        · rw [if_pos e', if_pos ⟨e', rfl⟩]
        · rw [if_neg e', if_neg (fun z => e' z.1), if_pos rfl]
      · rw [if_neg (fun z => e z.2), if_neg e, q2 _ (fun r hr => by omega)]; exact hM.2 q hq u hu
    obtain ⟨w2, hd2, q4⟩ := ym_from99 (F := 1000) (h := h) (t := t) (N := N) (Nat.le_refl _) hh ht hN (N + 1) 0 (by omega) 1000 (by omega) (cc_on C i t) 9999 w1 hd (by omega) okD hM1
    obtain ⟨w3, e5, hw3⟩ := ym_backs (F := 1000) (Nat.le_refl _) w2 s
    have hx := cc_fx_fo h t N (cc_on C i t)
    rw [← nm_0] at q1 q4 e3
    rw [← hpe] at e2
    rw [sx_lp12_1, sx_lp4_1, bdX4_from_32, bdX5_from_38, sx_n0, hM.1.1, if_neg (by rw [hpe]; exact nI_nleI (by omega) (by omega)), if_neg (nI_nleI (by omega) (by omega)), e1]
    simp only [sx_c9, sx_lt, sx_nm]
    rw [e2, q1, q4]
    simp only [sx_c2]
    rw [e3, e5]
    simp only [sx_c1]
    rw [e4]
    simp only [sx_c5, nI_1]
    rw [Nat.zero_add]
    rcases hx with ⟨y, f1, f2, f3⟩ | ⟨f1, f2⟩
    · rw [f1, f3]
      have ey : cc_fr 0 (some y) = nI y := by show nI (0 + y) = nI y; rw [Nat.zero_add]
      rw [ey]
      by_cases z : y = N
      · rw [if_pos (by rw [z]), if_pos (by rw [z])]
        exact ih (i + 1) (by omega) f (by omega) _ _ _ _ _ _ _ _ _ _ _ _ _ hw3
      · rw [if_neg (fun q => z ((nI_eq (by omega) (by omega)).mp q)), if_neg (fun q => z ((nI_eq (by omega) (by omega)).mp q)), Int32.or_zero]
        exact ih (i + 1) (by omega) f (by omega) _ _ _ _ _ _ _ _ _ _ _ _ _ hw3
    · rw [f1, f2]
      have ey : cc_fr 0 none = -4 := rfl
      rw [ey, if_neg (fun q => by
        have h1 := congrArg Int32.toInt q
        rw [nI_toInt (by omega)] at h1
        have h2 : (-4 : Int32).toInt = -4 := by decide
        omega), if_neg (fun q => absurd ((nI_eq (by omega) (by omega)).mp q) (by omega)), Int32.or_zero]
      exact ih (i + 1) (by omega) f (by omega) _ _ _ _ _ _ _ _ _ _ _ _ _ hw3
theorem ag_from (a1 : Int32) (a2 : Int32) (a3 : Int32) {X : SX} {M : SM} (h : LInv X M) : ∃ r X2 M2, xo_from 1000 a1 a2 a3 X = some (r, X2) ∧ mo_from 1000 a1 a2 a3 M = some (r, M2) ∧ LInv X2 M2 := by
  obtain ⟨x_now_kinds, x_now_seating, x_now_knows, x_now_seals, x_now_telling, x_now_persons, x_now_wax, x_now_week, x_now_day, x_now_draw, x_past_knows, x_past_seals, x_past_dates, x_past_draws, x_past_next, x_past_steps, x_imageCourt_kinds, x_imageCourt_seating, x_imageCourt_knows, x_imageCourt_seals, x_imageCourt_telling, x_imageCourt_persons, x_imageCourt_wax, x_imageCourt_week, x_imageCourt_day, x_imageCourt_draw, x_imagePast_knows, x_imagePast_seals, x_imagePast_dates, x_imagePast_draws, x_imagePast_next, x_imagePast_steps, x_imaged, x_trial_kinds, x_trial_seating, x_trial_knows, x_trial_seals, x_trial_telling, x_trial_persons, x_trial_wax, x_trial_week, x_trial_day, x_trial_draw, x_order, x_bestOrder, x_tape_letters, x_tape_length, x_tape_at, x_sl, x_sn, x_si⟩ := X
  obtain ⟨m_now, m_tape, m_typed, m_place, m_isFault, m_read, m_heard, m_undone, m_undos, m_aside, m_kept, m_keptUndos, m_isKept, m_lanes, m_sizes, m_items, m_moved⟩ := M
  obtain ⟨hnow, himg, htape, hsheet⟩ := h
  have key : ∃ (r : Int32) (w_x_trial_kinds : Nat → Int32) (w_x_trial_seating : Nat → Int32) (w_x_trial_knows : Nat → Int64) (w_x_trial_seals : Nat → Int64) (w_x_trial_telling : Nat → Int64) (w_x_trial_persons : Int32) (w_x_trial_wax : Int32) (w_x_trial_week : Int32) (w_x_trial_day : Int32) (w_x_trial_draw : Int32) (v_m_now : Nat → Int32) (v_m_heard : Nat → Int32) (v_m_aside : Nat → Int32), fnX4_from 1000 x_now_kinds x_now_seating x_now_knows x_now_seals x_now_persons x_now_wax x_now_week x_now_day x_now_draw x_trial_kinds x_trial_seating x_trial_knows x_trial_seals x_trial_telling x_trial_persons x_trial_wax x_trial_week x_trial_day x_trial_draw a1 a2 a3 = some (r, w_x_trial_kinds, w_x_trial_seating, w_x_trial_knows, w_x_trial_seals, w_x_trial_telling, w_x_trial_persons, w_x_trial_wax, w_x_trial_week, w_x_trial_day, w_x_trial_draw) ∧ fnX5_from 1000 m_now m_heard m_aside a1 a2 a3 = some (r, v_m_now, v_m_heard, v_m_aside) ∧ P_now x_now_kinds x_now_seating x_now_knows x_now_seals x_now_persons x_now_wax x_now_week x_now_day x_now_draw x_past_knows x_past_seals x_past_dates x_past_draws x_past_next x_past_steps v_m_now m_undone m_undos := by
    have hnow2 := hnow
    obtain ⟨C, k, hs, hC, hk, hX, hP, hM, hU, rfl⟩ := hnow2
    have hC0 := hC
    obtain ⟨c1, c2, c3, c4, c5, c6, c7, c8⟩ := hC
    obtain ⟨x1, x2, x3, x4, rfl, rfl, rfl, rfl, rfl⟩ := hX
    have hM0 := hM
    obtain ⟨⟨m0, m1, m2, m3, m4, m5, m6⟩, mS⟩ := hM
    have hF : 1000 ≤ 1000 := Nat.le_refl _
    unfold fnX4_from fnX5_from
    rw [xs_isThing, xs_within, xs_isHeat, ym_isThing, lw0, lw60, ym_in, ym_isHeat, i0, i60]
    simp only [sx_c1, if1]
    by_cases g1 : rg a1 0 7 = true
    · rw [if_neg (not_not_intro g1), if_neg (not_not_intro g1)]
      by_cases g2 : rg a2 0 60 = true
      · rw [if_neg (not_not_intro g2), if_neg (not_not_intro g2)]
        by_cases g3 : rg a3 0 9 = true
        · rw [if_neg (not_not_intro g3), if_neg (not_not_intro g3)]
          obtain ⟨t, -, ht, rfl⟩ := rg_of (lo := 0) (hi := 7) g1
          obtain ⟨N, -, hN, rfl⟩ := rg_of (lo := 0) (hi := 60) g2
          obtain ⟨h, -, hh, rfl⟩ := rg_of (lo := 0) (hi := 9) g3
          obtain ⟨s', e3, hs'⟩ := ym_asides (F := 1000) hF m_now m_aside
          rw [e3]
          simp only []
          obtain ⟨r, ⟨q1, q2, q3, q4, q5, q6, q7, q8, q9, q10⟩, w', hd', e1, e2, hw'⟩ := ag_from_l (N := N) (h := h) (t := t) hN hh (by omega) hC0 ⟨x1, x2, x3, x4, rfl, rfl, rfl, rfl, rfl⟩ (hM0.ext c1 hs') (cc_n C) 0 (by omega) 1000 (by omega) 0 x_trial_kinds x_trial_seating x_trial_knows x_trial_seals x_trial_telling x_trial_persons x_trial_wax x_trial_week x_trial_day x_trial_draw m_now m_heard (fun j hj => (hs' j hj).symm)
          rw [← nm_0] at e1 e2
          rw [e1, e2]
          exact ⟨_, _, _, _, _, _, _, _, _, _, _, _, _, _, rfl, rfl, hnow.m (fun j hj => by rw [hw' j hj, hs' j hj])⟩
        · rw [if_pos g3, if_pos g3]; exact ⟨_, _, _, _, _, _, _, _, _, _, _, _, _, _, rfl, rfl, hnow⟩
      · rw [if_pos g2, if_pos g2]; exact ⟨_, _, _, _, _, _, _, _, _, _, _, _, _, _, rfl, rfl, hnow⟩
    · rw [if_pos g1, if_pos g1]; exact ⟨_, _, _, _, _, _, _, _, _, _, _, _, _, _, rfl, rfl, hnow⟩
  obtain ⟨r, w_x_trial_kinds, w_x_trial_seating, w_x_trial_knows, w_x_trial_seals, w_x_trial_telling, w_x_trial_persons, w_x_trial_wax, w_x_trial_week, w_x_trial_day, w_x_trial_draw, v_m_now, v_m_heard, v_m_aside, e1, e2, khnow⟩ := key
  refine ⟨r, (x_now_kinds, x_now_seating, x_now_knows, x_now_seals, x_now_telling, x_now_persons, x_now_wax, x_now_week, x_now_day, x_now_draw, x_past_knows, x_past_seals, x_past_dates, x_past_draws, x_past_next, x_past_steps, x_imageCourt_kinds, x_imageCourt_seating, x_imageCourt_knows, x_imageCourt_seals, x_imageCourt_telling, x_imageCourt_persons, x_imageCourt_wax, x_imageCourt_week, x_imageCourt_day, x_imageCourt_draw, x_imagePast_knows, x_imagePast_seals, x_imagePast_dates, x_imagePast_draws, x_imagePast_next, x_imagePast_steps, x_imaged, w_x_trial_kinds, w_x_trial_seating, w_x_trial_knows, w_x_trial_seals, w_x_trial_telling, w_x_trial_persons, w_x_trial_wax, w_x_trial_week, w_x_trial_day, w_x_trial_draw, x_order, x_bestOrder, x_tape_letters, x_tape_length, x_tape_at, x_sl, x_sn, x_si), (v_m_now, m_tape, m_typed, m_place, m_isFault, m_read, v_m_heard, m_undone, m_undos, v_m_aside, m_kept, m_keptUndos, m_isKept, m_lanes, m_sizes, m_items, m_moved), ?_, ?_, khnow, himg, htape, hsheet⟩
  · unfold xo_from; simp only []; rw [e1]; rfl
  · unfold mo_from; simp only []; rw [e2]; rfl
