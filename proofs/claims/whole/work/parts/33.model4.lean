-- THE REFERENCE'S COURT: a day goes by, on
theorem nm_1sh {a : Nat} (ha : a < 31) : (1 : Int32) <<< (nI a &&& 31) = nI (2 ^ a) := by
  rw [nm_1, nm_shl ha (by omega), Nat.one_mul]
theorem ym_g115 {F n t : Nat} {kd st : Nat → Nat} {sl : Nat → Nat → Nat} {w : Nat → Int32} (hF : 1000 ≤ F) (hn : n ≤ 6) (ht : t < 8) (hst : ct_st n st) (hkd : ct_kd n kd) (hsl : ct_sl n sl) (h0 : w 0 = nI n) (h5 : ∀ p, p < n → w (5 + p) = nI (kd p)) (h11 : ∀ i, i < n → w (11 + i) = nI (st i)) (hS : cm_S n sl w) (kf : (Nat → Int32) → Option ((Nat → Int32) × (Nat → Int32))) : ∀ k i, i + k = n → ∀ fuel, k < fuel → ∀ hd : Nat → Int32, hd t = nI (ct_hm n kd st sl t i) →
    ∃ hd', sx_lp2 (bdX5_goesBy_115 F (nI t) w kf) fuel (nI i) hd = kf hd' ∧ (∀ j, j ≠ t → hd' j = hd j) ∧ hd' t = nI (ct_hm n kd st sl t n) := by
  intro k
  induction k with
  | zero =>
    intro i hi fuel hf hd hh
    obtain ⟨f, rfl⟩ : ∃ f, fuel = f + 1 := ⟨fuel - 1, by omega⟩
    rw [sx_lp2_1, bdX5_goesBy_115, sx_n0, h0, if_pos (nI_leT (by omega) (by omega))]
    exact ⟨hd, rfl, fun _ _ => rfl, by rw [hh, show i = n by omega]⟩
  | succ k ih =>
    intro i hi fuel hf hd hh
    obtain ⟨f, rfl⟩ : ∃ f, fuel = f + 1 := ⟨fuel - 1, by omega⟩
    have hx := hsl i (by omega) t ht
    have b1 := ct_by_lt hst (p := i) (show 0 < n by omega) 1
    have b2 := ct_by_lt hst (p := i) (show 0 < n by omega) (n - 1)
    rw [sx_lp2_1, bdX5_goesBy_115, sx_n0, h0, if_neg (nI_nleI (by omega) (by omega)), ym_sealOf F w (by omega) ht, hS i (by omega) t ht]
    simp only [sx_c1, sx_lt, sx_nm, nI_1]
    by_cases z : sl i t = 1
    · rw [if_pos ((cm_z (by omega)).mpr z), ym_isSilent (by omega) (hkd i (by omega)) (h5 i (by omega))]
      simp only []
      by_cases y : kd i = 2 ∨ kd i = 4
      · rw [if_pos y, if_neg (by decide)]
        exact ih (i + 1) (by omega) f (by omega) hd (by rw [hh, ct_hm_s, if_neg (fun q => q.2 y)])
      · rw [if_neg y, if_pos rfl, sx_gd_e (nm_ib (by omega)), nm_1, ym_beside hF hn hst h0 h11 (by omega) (by omega)]
        simp only []
        rw [pk_sub (by omega), ym_beside hF hn hst h0 h11 (by omega) (by omega)]
        simp only []
        rw [sx_gd_e (nm_ib (by omega)), nI_clamp (by omega), hh, ← nm_1, nm_1sh (by omega), nm_1sh (by omega), fa_or, fa_or]
        obtain ⟨hd', q1, q2, q3⟩ := ih (i + 1) (by omega) f (by omega) (upd hd t (nI (ct_hm n kd st sl t i ||| (2 ^ ct_by n st i 1 ||| 2 ^ ct_by n st i (n - 1))))) (by rw [pu_same, ct_hm_s, if_pos ⟨z, y⟩])
        exact ⟨hd', q1, fun j hj => by rw [q2 j hj, pu_ne hj], q3⟩
    · rw [if_neg (fun q => z ((cm_z (by omega)).mp q))]
      exact ih (i + 1) (by omega) f (by omega) hd (by rw [hh, ct_hm_s, if_neg (fun q => z q.1)])
theorem ym_g100 {F n : Nat} {kd st : Nat → Nat} {sl : Nat → Nat → Nat} {w : Nat → Int32} (hF : 1000 ≤ F) (hn : n ≤ 6) (hst : ct_st n st) (hkd : ct_kd n kd) (hsl : ct_sl n sl) (h0 : w 0 = nI n) (h5 : ∀ p, p < n → w (5 + p) = nI (kd p)) (h11 : ∀ i, i < n → w (11 + i) = nI (st i)) (hS : cm_S n sl w) (kf : (Nat → Int32) → Option ((Nat → Int32) × (Nat → Int32))) : ∀ k i, i + k = 8 → ∀ fuel, k < fuel → ∀ hd : Nat → Int32, (∀ t, t < i → hd t = nI (ct_hm n kd st sl t n)) →
    ∃ hd', sx_lp2 (bdX5_goesBy_100 F w kf) fuel (nI i) hd = kf hd' ∧ ∀ t, t < 8 → hd' t = nI (ct_hm n kd st sl t n) := by
  intro k
  induction k with
  | zero =>
    intro i hi fuel hf hd hh
    obtain ⟨f, rfl⟩ : ∃ f, fuel = f + 1 := ⟨fuel - 1, by omega⟩
    rw [sx_lp2_1, bdX5_goesBy_100, nm_8, if_pos (nI_leT (by omega) (by omega))]
    exact ⟨hd, rfl, fun t ht => hh t (by omega)⟩
  | succ k ih =>
    intro i hi fuel hf hd hh
    obtain ⟨f, rfl⟩ : ∃ f, fuel = f + 1 := ⟨fuel - 1, by omega⟩
    rw [sx_lp2_1, bdX5_goesBy_100, if_neg (by rw [nm_8]; exact nI_nleI (by omega) (by omega)), sx_gd_e (nm_ib (by omega)), nI_clamp (by omega)]
    simp only [sx_lt, sx_nm]
    obtain ⟨h2, q1, q2, q3⟩ := ym_g115 (F := F) (t := i) hF hn (by omega) hst hkd hsl h0 h5 h11 hS (fun z34 => sx_lp2 (bdX5_goesBy_100 F w kf) f (nI i + 1) z34) n 0 (by omega) F (by omega) (upd hd i 0) (by rw [pu_same]; exact nm_0)
    rw [nm_0] at q1
    rw [nm_0, q1, nI_1]
    refine ih (i + 1) (by omega) f (by omega) h2 (fun t ht => ?_)
    by_cases e : t = i
    · subst e; exact q3
    · rw [q2 t e, pu_ne e]; exact hh t (by omega)
theorem nm_bit {x p : Nat} (hx : x < 2 ^ 31) (hp : p < 31) : ((nI x >>> (nI p &&& 31)) &&& (1 : Int32)) = (1 : Int32) ↔ x.testBit p = true := by
  rw [pk_shrN hx _ p (s_l p (by omega)), show (1 : Int32) = nI (2 ^ 1 - 1) by decide +kernel, fa_mask, Nat.testBit_eq_decide_div_mod_eq]
  rw [nI_eq (by omega) (by omega)]
  simp
theorem ym_g201 {F n p : Nat} {kd st : Nat → Nat} {sl : Nat → Nat → Nat} {hd : Nat → Int32} (hn : n ≤ 6) (hp : p < n) (hst : ct_st n st) (hkd : ct_kd n kd) (hsl : ct_sl n sl) (hh : ∀ t, t < 8 → hd t = nI (ct_hm n kd st sl t n)) (kf : (Nat → Int32) → Option ((Nat → Int32) × (Nat → Int32))) : ∀ k i, i + k = 8 → ∀ fuel, k < fuel → ∀ w : Nat → Int32, w (5 + p) = nI (kd p) → (∀ t, t < 8 → w (17 + 8 * p + t) = cm_v ((if t < i then ct_s2 n kd st sl else sl) p t)) →
    ∃ w', sx_lp2 (bdX5_goesBy_201 F (nI p) hd kf) fuel (nI i) w = kf w' ∧ (∀ j, (j < 17 + 8 * p ∨ 17 + 8 * p + 8 ≤ j) → w' j = w j) ∧ ∀ t, t < 8 → w' (17 + 8 * p + t) = cm_v (ct_s2 n kd st sl p t) := by
  intro k
  induction k with
  | zero =>
    intro i hi fuel hf w h5 hS
    obtain ⟨f, rfl⟩ : ∃ f, fuel = f + 1 := ⟨fuel - 1, by omega⟩
    rw [sx_lp2_1, bdX5_goesBy_201, nm_8, if_pos (nI_leT (by omega) (by omega))]
    exact ⟨w, rfl, fun _ _ => rfl, fun t ht => by rw [hS t ht, if_pos (by omega)]⟩
  | succ k ih =>
    intro i hi fuel hf w h5 hS
    obtain ⟨f, rfl⟩ : ∃ f, fuel = f + 1 := ⟨fuel - 1, by omega⟩
    have hx := hsl p hp i (by omega)
    have e1 := hS i (by omega)
    rw [if_neg (by omega)] at e1
    have hlt := ct_hm_lt (kd := kd) (sl := sl) hn hst i n (Nat.le_refl n)
    rw [sx_lp2_1, bdX5_goesBy_201]
    simp only [sx_lt, sx_nm]
    rw [ym_ix, ym_ix5, if_neg (by rw [nm_8]; exact nI_nleI (by omega) (by omega)), sx_gd_e (nm_ib (by omega)), nI_clamp (by omega), nI_clamp (by omega), nI_clamp (by omega), hh i (by omega), ym_sealOf F w (by omega) (by omega), ym_knows F w (by omega) (by omega) (by omega) e1, h5, e1, nI_1]
    simp only [sx_c1]
    have fin : ∀ y : Int32, y = cm_v (ct_s2 n kd st sl p i) → ∃ w', sx_lp2 (bdX5_goesBy_201 F (nI p) hd kf) f (nI (i + 1)) (upd w (17 + 8 * p + i) y) = kf w' ∧ (∀ j, (j < 17 + 8 * p ∨ 17 + 8 * p + 8 ≤ j) → w' j = w j) ∧ ∀ t, t < 8 → w' (17 + 8 * p + t) = cm_v (ct_s2 n kd st sl p t) := by
      intro y hy
      obtain ⟨w', q1, q2, q3⟩ := ih (i + 1) (by omega) f (by omega) (upd w (17 + 8 * p + i) y) (by rw [pu_ne (by omega)]; exact h5) (fun t ht => by
        by_cases e : t = i
        · subst e; rw [pu_same, if_pos (by omega), hy]
        · rw [pu_ne (by omega), hS t ht]
          by_cases z : t < i
          · rw [if_pos z, if_pos (by omega)]
          · rw [if_neg z, if_neg (by omega)])
      exact ⟨w', q1, fun j hj => by rw [q2 j hj, pu_ne (by omega)], q3⟩
    have nw : ct_nw n kd st sl p i = 1 ↔ sl p i = 0 ∧ (ct_hm n kd st sl i n).testBit p = true := by
      rw [ct_hm_nw hn hst hp]
      unfold ct_nw
      by_cases c : sl p i = 0 ∧ (ct_tl kd sl (ct_by n st p 1) i = 1 ∨ ct_tl kd sl (ct_by n st p (n - 1)) i = 1)
      · rw [if_pos c]; exact ⟨fun _ => c, fun _ => rfl⟩
      · rw [if_neg c]; exact ⟨fun h => by omega, fun h => absurd h c⟩
    have no : ¬ (kd p ≠ 4 ∧ ct_nw n kd st sl p i = 1) → cm_v (sl p i) = cm_v (ct_s2 n kd st sl p i) := fun h => by rw [ct_s2_no h]
    have k4 := hkd p hp
    by_cases c1 : (ct_hm n kd st sl i n).testBit p = true
    · rw [if_pos ((nm_bit (by omega) (by omega)).mpr c1)]
      by_cases c2 : sl p i = 0
      · rw [if_pos c2, if_pos rfl, sx_gd_e (nm_ib (by omega))]
        by_cases c3 : kd p = 4
        · rw [if_pos (by rw [c3]; decide +kernel), if_pos trivial, sx_gd_e (nm_ib (by omega))]
          exact fin _ (no (fun q => q.1 c3))
        · rw [if_neg (fun q => c3 (by rw [nm_4] at q; exact (nI_eq (by omega) (by omega)).mp q)), if_neg (by decide), sx_gd_e (nm_ib (by omega))]
          refine fin _ ?_
          unfold ct_s2
          rw [if_pos ⟨c3, nw.mpr ⟨c2, c1⟩⟩]
          decide +kernel
      · rw [if_neg c2, if_neg (by decide), if_pos trivial, sx_gd_e (nm_ib (by omega))]
        exact fin _ (no (fun q => c2 (nw.mp q.2).1))
    · rw [if_neg (fun q => c1 ((nm_bit (by omega) (by omega)).mp q)), if_pos trivial, sx_gd_e (nm_ib (by omega))]
      exact fin _ (no (fun q => c1 (nw.mp q.2).2))
theorem ym_g189 {F n : Nat} {kd st : Nat → Nat} {sl : Nat → Nat → Nat} {hd : Nat → Int32} (hF : 1000 ≤ F) (hn : n ≤ 6) (hst : ct_st n st) (hkd : ct_kd n kd) (hsl : ct_sl n sl) (hh : ∀ t, t < 8 → hd t = nI (ct_hm n kd st sl t n)) (kf : (Nat → Int32) → Option ((Nat → Int32) × (Nat → Int32))) : ∀ k i, i + k = n → ∀ fuel, k < fuel → ∀ w : Nat → Int32, w 0 = nI n → (∀ p, p < n → w (5 + p) = nI (kd p)) → (∀ p, p < n → ∀ t, t < 8 → w (17 + 8 * p + t) = cm_v ((if p < i then ct_s2 n kd st sl else sl) p t)) →
    ∃ w', sx_lp2 (bdX5_goesBy_189 F hd kf) fuel (nI i) w = kf w' ∧ (∀ j, j < 17 → w' j = w j) ∧ cm_S n (ct_s2 n kd st sl) w' := by
  intro k
  induction k with
  | zero =>
    intro i hi fuel hf w h0 h5 hS
    obtain ⟨f, rfl⟩ : ∃ f, fuel = f + 1 := ⟨fuel - 1, by omega⟩
    rw [sx_lp2_1, bdX5_goesBy_189, sx_n0, h0, if_pos (nI_leT (by omega) (by omega))]
    exact ⟨w, rfl, fun _ _ => rfl, fun p hp t ht => by rw [hS p hp t ht, if_pos (by omega)]⟩
  | succ k ih =>
    intro i hi fuel hf w h0 h5 hS
    obtain ⟨f, rfl⟩ : ∃ f, fuel = f + 1 := ⟨fuel - 1, by omega⟩
    rw [sx_lp2_1, bdX5_goesBy_189, sx_n0, h0, if_neg (nI_nleI (by omega) (by omega))]
    simp only [sx_lt, sx_nm]
    obtain ⟨w2, q1, q2, q3⟩ := ym_g201 (F := F) (p := i) hn (by omega) hst hkd hsl hh (fun z11 => sx_lp2 (bdX5_goesBy_189 F hd kf) f (nI i + 1) z11) 8 0 (by omega) F (by omega) w (h5 i (by omega)) (fun t ht => by
      have := hS i (by omega) t ht
      rw [if_neg (by omega)] at this
      rw [if_neg (by omega)]; exact this)
    rw [nm_0, q1, nI_1]
    obtain ⟨w3, r1, r2, r3⟩ := ih (i + 1) (by omega) f (by omega) w2 (by rw [q2 0 (by omega)]; exact h0) (fun p hp => by rw [q2 _ (by omega)]; exact h5 p hp) (fun p hp t ht => by
      by_cases e : p = i
      · subst e; rw [q3 t ht, if_pos (by omega)]
      · rw [q2 _ (by omega), hS p hp t ht]
        by_cases z : p < i
        · rw [if_pos z, if_pos (by omega)]
        · rw [if_neg z, if_neg (by omega)])
    exact ⟨w3, r1, fun j hj => by rw [r2 j hj, q2 j (by omega)], r3⟩
theorem el2 {A O : Type} {lp : Option O} {kf : A → Option O} {P : A → Prop} {R : Option O → Prop} (h : ∃ w', lp = kf w' ∧ P w') (hR : ∀ w', P w' → R (kf w')) : R lp := by
  obtain ⟨w', e, p⟩ := h; rw [e]; exact hR w' p
theorem ym_goesBy {F h B : Nat} {C : ctC} {w : Nat → Int32} (hF : 1000 ≤ F) (hB : B ≤ 100000) (hC : cc_ok C B) (hh : h ≤ 9) (hw : cm_C C w) (hd : Nat → Int32) : ∃ w' hd', fnX5_goesBy F w hd (nI h) = some (w', hd') ∧ cm_C (cc_day C h) w' := by
  obtain ⟨c1, c2, c3, c4, c5, c6, c7, c8⟩ := hC
  obtain ⟨⟨h0, h1, h2, h3, h4, h5, h6⟩, hS⟩ := hw
  unfold fnX5_goesBy
  simp only [sx_lt]
  rw [nm_0]
  refine el2 (R := fun x => ∃ w' hd', x = some (w', hd') ∧ cm_C (cc_day C h) w') (ym_g2 (F := F) (n := cc_n C) (h := h) (day := cc_dy C) (kd := cc_kd C) (sl := cc_sl C) hF c1 hh (by omega) c2 c4 _ (cc_n C) 0 (by omega) F (by omega) w h0 h1 h5 (fun p hp t ht => by rw [if_neg (by omega)]; exact hS p hp t ht)) (fun w1 hq => ?_)
  obtain ⟨q2, q3⟩ := hq
  have g0 : w1 0 = nI (cc_n C) := by rw [q2 0 (by omega)]; exact h0
  have g1 : w1 1 = nI (cc_dy C) := by rw [q2 1 (by omega)]; exact h1
  have g2 : w1 2 = nI (cc_wx C) := by rw [q2 2 (by omega)]; exact h2
  have g3 : w1 3 = nI (cc_wk C) := by rw [q2 3 (by omega)]; exact h3
  have g5 : ∀ p, p < cc_n C → w1 (5 + p) = nI (cc_kd C p) := fun p hp => by rw [q2 _ (by omega)]; exact h5 p hp
  have g6 : ∀ p, p < cc_n C → w1 (11 + p) = nI (cc_st C p) := fun p hp => by rw [q2 _ (by omega)]; exact h6 p hp
  have hs1 := ct_s1_sl c4 (cc_kd C) h (cc_dy C)
  refine el2 (R := fun x => ∃ w' hd', x = some (w', hd') ∧ cm_C (cc_day C h) w') (ym_g100 (F := F) hF c1 c3 c2 hs1 g0 g5 g6 q3 _ 8 0 (by omega) F (by omega) hd (fun t ht => by omega)) (fun hd1 r2 => ?_)
  refine el2 (R := fun x => ∃ w' hd', x = some (w', hd') ∧ cm_C (cc_day C h) w') (ym_g189 (F := F) hF c1 c3 c2 hs1 r2 _ (cc_n C) 0 (by omega) F (by omega) w1 g0 g5 (fun p hp t ht => by rw [if_neg (by omega)]; exact q3 p hp t ht)) (fun w2 hu => ?_)
  obtain ⟨u2, u3⟩ := hu
  rw [sx_n1, sx_n3, sx_n2, pu_same, pu_ne (show 3 ≠ 1 by omega), pu_ne (show 2 ≠ 1 by omega), u2 1 (by omega), u2 2 (by omega), u2 3 (by omega), g1, g2, g3, nI_1, sx_gd_e (nm_nz (by omega) (by omega)), pk_rem (by omega) (by omega) (by omega)]
  have hm := Nat.mod_lt (cc_dy C + 1) (show 0 < cc_wk C by omega)
  have hdr : ∀ w3 : Nat → Int32, (∀ j, j < 17 → w3 j = upd w2 1 (nI (cc_dy C + 1)) j) → cm_H (cc_day C h) w3 := by
    intro w3 k
    have e : ∀ j, j < 17 → j ≠ 1 → w3 j = w j := fun j hj hj1 => by rw [k j hj, pu_ne hj1, u2 j hj, q2 j hj]
    refine ⟨by rw [e 0 (by omega) (by omega)]; exact h0, by rw [k 1 (by omega), pu_same]; rfl, by rw [e 2 (by omega) (by omega)]; exact h2, by rw [e 3 (by omega) (by omega)]; exact h3, by rw [e 4 (by omega) (by omega)]; exact h4, fun p hp => ?_, fun p hp => ?_⟩
    · have hp' : p < cc_n C := hp
      rw [e _ (by omega) (by omega)]; exact h5 p hp
    · have hp' : p < cc_n C := hp
      rw [e _ (by omega) (by omega)]; exact h6 p hp
  have hS2 : cm_S (cc_n C) (ct_s2 (cc_n C) (cc_kd C) (cc_st C) (ct_s1 (cc_kd C) h (cc_dy C) (cc_sl C))) (upd w2 1 (nI (cc_dy C + 1))) := fun p hp t ht => by rw [pu_ne (by omega)]; exact u3 p hp t ht
  by_cases z : (cc_dy C + 1) % cc_wk C = 0
  · rw [if_pos (by rw [z])]
    obtain ⟨w3, v1, v2, v3⟩ := ym_renews (F := F) (wax := cc_wx C) hF c1 c5.2 (ct_s2_sl hs1 (cc_kd C) (cc_st C)) (by rw [pu_ne (by omega), u2 0 (by omega)]; exact g0) hS2
    rw [v1]
    refine ⟨w3, hd1, rfl, hdr w3 v2, ?_⟩
    show cm_S (cc_n C) (ct_day _ _ _ _ _ _ _ _) w3
    unfold ct_day; rw [if_pos z]; exact v3
  · rw [if_neg (fun q => z ((nI_eq (by omega) (by omega)).mp q))]
    refine ⟨_, hd1, rfl, hdr _ (fun _ _ => rfl), ?_⟩
    show cm_S (cc_n C) (ct_day _ _ _ _ _ _ _ _) _
    unfold ct_day; rw [if_neg z]; exact hS2
theorem ym_goesOn_l {F h N : Nat} (hF : 1000 ≤ F) (hh : h ≤ 9) (hN : N ≤ 100) : ∀ k i, i + k = N → ∀ fuel, k < fuel → ∀ (C : ctC) (B : Nat) (w hd : Nat → Int32), B + k ≤ 100000 → cc_ok C B → cm_C C w → ∃ w' hd', sx_lp3 (bdX5_goesOn_2 F (nI N) (nI h)) fuel (nI i) w hd = some (w', hd') ∧ cm_C (cc_days h k C) w' := by
  intro k
  induction k with
  | zero =>
    intro i hi fuel hf C B w hd hB hC hw
    obtain ⟨f, rfl⟩ : ∃ f, fuel = f + 1 := ⟨fuel - 1, by omega⟩
    rw [sx_lp3_1, bdX5_goesOn_2, if_pos (nI_leT (by omega) (by omega))]
    exact ⟨w, hd, rfl, hw⟩
  | succ k ih =>
    intro i hi fuel hf C B w hd hB hC hw
    obtain ⟨f, rfl⟩ : ∃ f, fuel = f + 1 := ⟨fuel - 1, by omega⟩
    rw [sx_lp3_1, bdX5_goesOn_2, if_neg (nI_nleI (by omega) (by omega))]
    obtain ⟨w1, hd1, e1, hw1⟩ := ym_goesBy (F := F) (h := h) hF (by omega) hC hh hw hd
    rw [e1]
    simp only [sx_c2, sx_nm, nI_1]
    rw [cc_days_s]
    exact ih (i + 1) (by omega) f (by omega) (cc_day C h) (B + 1) w1 hd1 (by omega) (cc_day_ok hC h) hw1
theorem ym_goesOn {F h N B : Nat} {C : ctC} {w : Nat → Int32} (hF : 1000 ≤ F) (hh : h ≤ 9) (hN : N ≤ 100) (hB : B ≤ 90000) (hC : cc_ok C B) (hw : cm_C C w) (hd : Nat → Int32) : ∃ w' hd', fnX5_goesOn F w hd (nI N) (nI h) = some (w', hd') ∧ cm_C (cc_days h N C) w' := by
  unfold fnX5_goesOn
  rw [nm_0]
  exact ym_goesOn_l (F := F) hF hh hN N 0 (by omega) F (by omega) C B w hd (by omega) hC hw
