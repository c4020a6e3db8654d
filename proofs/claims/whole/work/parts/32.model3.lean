-- THE REFERENCE'S COURT: a day goes by
theorem pu_same {f : Nat → Int32} {k : Nat} {x : Int32} : upd f k x k = x := pk_us
theorem pu_ne {f : Nat → Int32} {k j : Nat} {x : Int32} (h : j ≠ k) : upd f k x j = f j := pk_un h
theorem ym_renews_l {F n wax : Nat} {sl : Nat → Nat → Nat} (hn : n ≤ 6) (hw : wax ≤ 9) (hsl : ct_sl n sl) : ∀ k i, i + k = 8 * n → ∀ fuel, k < fuel → ∀ w : Nat → Int32, w 0 = nI n → (∀ j, j < 8 * n → w (17 + j) = cm_v ((if j < i then ct_rn sl wax else sl) (j / 8) (j % 8))) →
    ∃ w', sx_lp2 (bdX5_renews_3 F (nI wax)) fuel (nI (17 + i)) w = some w' ∧ (∀ j, j < 17 → w' j = w j) ∧ ∀ j, j < 8 * n → w' (17 + j) = cm_v (ct_rn sl wax (j / 8) (j % 8)) := by
  intro k
  induction k with
  | zero =>
    intro i hi fuel hf w h0 hS
    obtain ⟨f, rfl⟩ : ∃ f, fuel = f + 1 := ⟨fuel - 1, by omega⟩
    rw [sx_lp2_1, bdX5_renews_3, sx_n0, h0, nm_17, nm_8, pk_mul, nI_add, if_pos (nI_leT (by omega) (by omega))]
    exact ⟨w, rfl, fun _ _ => rfl, fun j hj => by rw [hS j hj, if_pos (by omega)]⟩
  | succ k ih =>
    intro i hi fuel hf w h0 hS
    obtain ⟨f, rfl⟩ : ∃ f, fuel = f + 1 := ⟨fuel - 1, by omega⟩
    have hx := hsl (i / 8) (by omega) (i % 8) (by omega)
    have e1 := hS i (by omega)
    rw [if_neg (by omega)] at e1
    rw [sx_lp2_1, bdX5_renews_3, sx_n0, h0, nm_17, nm_8, pk_mul, nI_add, if_neg (nI_nleI (by omega) (by omega)), sx_gd_e (nm_ib (by omega)), nI_clamp (by omega), e1]
    simp only [sx_lt]
    have fin : ∀ y : Int32, y = cm_v (ct_rn sl wax (i / 8) (i % 8)) → ∃ w', sx_lp2 (bdX5_renews_3 F (nI wax)) f (nI (17 + (i + 1))) (upd w (17 + i) y) = some w' ∧ (∀ j, j < 17 → w' j = w j) ∧ ∀ j, j < 8 * n → w' (17 + j) = cm_v (ct_rn sl wax (j / 8) (j % 8)) := by
      intro y hy
      obtain ⟨w', q1, q2, q3⟩ := ih (i + 1) (by omega) f (by omega) (upd w (17 + i) y) (by rw [pu_ne (by omega)]; exact h0) (fun j hj => by
        by_cases e : j = i
        · subst e; rw [pu_same, if_pos (by omega), hy]
        · rw [pu_ne (by omega), hS j hj]
          by_cases z : j < i
          · rw [if_pos z, if_pos (by omega)]
          · rw [if_neg z, if_neg (by omega)])
      exact ⟨w', q1, fun j hj => by rw [q2 j hj, pu_ne (by omega)], q3⟩
    by_cases z : sl (i / 8) (i % 8) = 0
    · rw [if_neg (fun q => (cm_pos (by omega)).mp q z), sx_gd_e (nm_ib (by omega))]
      simp only [sx_nm, nI_1]
      exact fin _ (by unfold ct_rn; rw [if_pos z]; rfl)
    · rw [if_pos ((cm_pos (by omega)).mpr z), sx_gd_e (nm_ib (by omega))]
      simp only [sx_nm, nI_1]
      exact fin _ (by unfold ct_rn; rw [if_neg z, cm_vs (by omega)]; rfl)
theorem cm_lin {n : Nat} {sl : Nat → Nat → Nat} {w : Nat → Int32} : cm_S n sl w ↔ ∀ j, j < 8 * n → w (17 + j) = cm_v (sl (j / 8) (j % 8)) := by
  constructor
  · intro h j hj
    have := h (j / 8) (by omega) (j % 8) (by omega)
    rw [show 17 + 8 * (j / 8) + j % 8 = 17 + j by omega] at this
    exact this
  · intro h p hp t ht
    have := h (8 * p + t) (by omega)
    rw [show (8 * p + t) / 8 = p by omega, show (8 * p + t) % 8 = t by omega] at this
    rw [show 17 + 8 * p + t = 17 + (8 * p + t) by omega]; exact this
theorem ym_renews {F n wax : Nat} {sl : Nat → Nat → Nat} {w : Nat → Int32} (hF : 1000 ≤ F) (hn : n ≤ 6) (hw : wax ≤ 9) (hsl : ct_sl n sl) (h0 : w 0 = nI n) (hS : cm_S n sl w) : ∃ w', fnX5_renews F w (nI wax) = some w' ∧ (∀ j, j < 17 → w' j = w j) ∧ cm_S n (ct_rn sl wax) w' := by
  unfold fnX5_renews
  obtain ⟨w', q1, q2, q3⟩ := ym_renews_l (F := F) hn hw hsl (8 * n) 0 (by omega) F (by omega) w h0 (fun j hj => by rw [if_neg (by omega)]; exact cm_lin.mp hS j hj)
  exact ⟨w', by rw [nm_17]; exact q1, q2, cm_lin.mpr q3⟩
-- the heat
theorem ym_g22 {F p by_ : Nat} {sl : Nat → Nat} (hp : p < 6) (hby : by_ ≤ 10) (hsl : ∀ t, t < 8 → sl t ≤ 10) (kf : (Nat → Int32) → Option ((Nat → Int32) × (Nat → Int32))) : ∀ k i, i + k = 8 → ∀ fuel, k < fuel → ∀ w : Nat → Int32, (∀ t, t < 8 → w (17 + 8 * p + t) = cm_v (if t < i then (if sl t = 0 then 0 else 1 + (sl t - 1 - by_)) else sl t)) →
    ∃ w', sx_lp2 (bdX5_goesBy_22 F (nI p) (nI by_) kf) fuel (nI i) w = kf w' ∧ (∀ j, (j < 17 + 8 * p ∨ 17 + 8 * p + 8 ≤ j) → w' j = w j) ∧ ∀ t, t < 8 → w' (17 + 8 * p + t) = cm_v (if sl t = 0 then 0 else 1 + (sl t - 1 - by_)) := by
  intro k
  induction k with
  | zero =>
    intro i hi fuel hf w hS
    obtain ⟨f, rfl⟩ : ∃ f, fuel = f + 1 := ⟨fuel - 1, by omega⟩
    rw [sx_lp2_1, bdX5_goesBy_22, nm_8, if_pos (nI_leT (by omega) (by omega))]
    exact ⟨w, rfl, fun _ _ => rfl, fun t ht => by rw [hS t ht, if_pos (by omega)]⟩
  | succ k ih =>
    intro i hi fuel hf w hS
    obtain ⟨f, rfl⟩ : ∃ f, fuel = f + 1 := ⟨fuel - 1, by omega⟩
    have hx := hsl i (by omega)
    have e1 := hS i (by omega)
    rw [if_neg (by omega)] at e1
    rw [sx_lp2_1, bdX5_goesBy_22]
    simp only [sx_nm, sx_lt]
    rw [ym_ix, if_neg (by rw [nm_8]; exact nI_nleI (by omega) (by omega)), sx_gd_e (nm_ib (by omega)), nI_clamp (by omega), e1, nI_1]
    have fin : ∀ y : Int32, y = cm_v (if sl i = 0 then 0 else 1 + (sl i - 1 - by_)) → ∃ w', sx_lp2 (bdX5_goesBy_22 F (nI p) (nI by_) kf) f (nI (i + 1)) (upd w (17 + 8 * p + i) y) = kf w' ∧ (∀ j, (j < 17 + 8 * p ∨ 17 + 8 * p + 8 ≤ j) → w' j = w j) ∧ ∀ t, t < 8 → w' (17 + 8 * p + t) = cm_v (if sl t = 0 then 0 else 1 + (sl t - 1 - by_)) := by
      intro y hy
      obtain ⟨w', q1, q2, q3⟩ := ih (i + 1) (by omega) f (by omega) (upd w (17 + 8 * p + i) y) (fun t ht => by
        by_cases e : t = i
        · subst e; rw [pu_same, if_pos (by omega), hy]
        · rw [pu_ne (by omega), hS t ht]
          by_cases z : t < i
          · rw [if_pos z, if_pos (show t < i + 1 by omega)]
          · rw [if_neg z, if_neg (by omega)])
      exact ⟨w', q1, fun j hj => by rw [q2 j hj, pu_ne (by omega)], q3⟩
    by_cases z : sl i = 0
    · rw [if_neg (fun q => (cm_pos (by omega)).mp q z), sx_gd_e (nm_ib (by omega))]
      exact fin _ (by rw [if_pos z]; rfl)
    · rw [if_pos ((cm_pos (by omega)).mpr z), sx_gd_e (nm_ib (by omega)), cm_vs z]
      by_cases y : sl i - 1 ≤ by_
      · rw [if_pos (nI_leT y (by omega)), sx_gd_e (nm_ib (by omega))]
        exact fin _ (by rw [if_neg z, show 1 + (sl i - 1 - by_) = 1 by omega]; rfl)
      · rw [if_neg (nI_nleI (by omega) (by omega)), sx_gd_e (nm_ib (by omega)), sx_gd_e (nm_ib (by omega)), pk_sub (by omega)]
        exact fin _ (by rw [if_neg z, cm_vs (by omega)]; congr 1; omega)
theorem ym_g2 {F n h day : Nat} {kd : Nat → Nat} {sl : Nat → Nat → Nat} (hF : 1000 ≤ F) (hn : n ≤ 6) (hh : h ≤ 9) (hd : day < 2 ^ 30) (hkd : ct_kd n kd) (hsl : ct_sl n sl) (kf : (Nat → Int32) → Option ((Nat → Int32) × (Nat → Int32))) : ∀ k i, i + k = n → ∀ fuel, k < fuel → ∀ w : Nat → Int32, w 0 = nI n → w 1 = nI day → (∀ p, p < n → w (5 + p) = nI (kd p)) → (∀ p, p < n → ∀ t, t < 8 → w (17 + 8 * p + t) = cm_v ((if p < i then ct_s1 kd h day sl else sl) p t)) →
    ∃ w', sx_lp2 (bdX5_goesBy_2 F (nI h) kf) fuel (nI i) w = kf w' ∧ (∀ j, j < 17 → w' j = w j) ∧ cm_S n (ct_s1 kd h day sl) w' := by
  intro k
  induction k with
  | zero =>
    intro i hi fuel hf w h0 h1 h5 hS
    obtain ⟨f, rfl⟩ : ∃ f, fuel = f + 1 := ⟨fuel - 1, by omega⟩
    rw [sx_lp2_1, bdX5_goesBy_2, sx_n0, h0, if_pos (nI_leT (by omega) (by omega))]
    exact ⟨w, rfl, fun _ _ => rfl, fun p hp t ht => by rw [hS p hp t ht, if_pos (by omega)]⟩
  | succ k ih =>
    intro i hi fuel hf w h0 h1 h5 hS
    obtain ⟨f, rfl⟩ : ∃ f, fuel = f + 1 := ⟨fuel - 1, by omega⟩
    rw [sx_lp2_1, bdX5_goesBy_2, sx_n0, h0, if_neg (nI_nleI (by omega) (by omega)), ym_weakens (by omega) (hkd i (by omega)) hh hd h1 (h5 i (by omega))]
    simp only [sx_c1, sx_lt, sx_nm]
    obtain ⟨w2, q1, q2, q3⟩ := ym_g22 (F := F) (p := i) (by_ := ct_wk (kd i) h day) (sl := sl i) (by omega) (ct_wk_le hh) (fun t ht => hsl i (by omega) t ht) (fun z58 => sx_lp2 (bdX5_goesBy_2 F (nI h) kf) f (nI i + 1) z58) 8 0 (by omega) F (by omega) w (fun t ht => by
      have := hS i (by omega) t ht
      rw [if_neg (by omega)] at this
      rw [if_neg (by omega)]; exact this)
    rw [nm_0, q1, nI_1]
    obtain ⟨w3, r1, r2, r3⟩ := ih (i + 1) (by omega) f (by omega) w2 (by rw [q2 0 (by omega)]; exact h0) (by rw [q2 1 (by omega)]; exact h1) (fun p hp => by rw [q2 _ (by omega)]; exact h5 p hp) (fun p hp t ht => by
      by_cases e : p = i
      · subst e; rw [q3 t ht, if_pos (show p < p + 1 by omega)]; rfl
      · rw [q2 _ (by omega), hS p hp t ht]
        by_cases z : p < i
        · rw [if_pos z, if_pos (by omega)]
        · rw [if_neg z, if_neg (by omega)])
    exact ⟨w3, r1, fun j hj => by rw [r2 j hj, q2 j (by omega)], r3⟩
-- what is told
def ct_td (kd : Nat → Nat) (sl : Nat → Nat → Nat) (t p : Nat) : Prop := sl p t = 1 ∧ kd p ≠ 2 ∧ kd p ≠ 4
/-- who hears a thing, told by the first k persons -/
noncomputable def ct_hm (n : Nat) (kd st : Nat → Nat) (sl : Nat → Nat → Nat) (t : Nat) : Nat → Nat
  | 0 => 0
  | k + 1 => if sl k t = 1 ∧ ¬ (kd k = 2 ∨ kd k = 4) then ct_hm n kd st sl t k ||| (2 ^ ct_by n st k 1 ||| 2 ^ ct_by n st k (n - 1)) else ct_hm n kd st sl t k
theorem ct_hm_s (n : Nat) (kd st : Nat → Nat) (sl : Nat → Nat → Nat) (t k : Nat) : ct_hm n kd st sl t (k + 1) = if sl k t = 1 ∧ ¬ (kd k = 2 ∨ kd k = 4) then ct_hm n kd st sl t k ||| (2 ^ ct_by n st k 1 ||| 2 ^ ct_by n st k (n - 1)) else ct_hm n kd st sl t k := rfl
theorem ct_hm_lt {n : Nat} {kd st : Nat → Nat} {sl : Nat → Nat → Nat} (hn : n ≤ 6) (hst : ct_st n st) (t : Nat) : ∀ k, k ≤ n → ct_hm n kd st sl t k < 2 ^ 6
  | 0, _ => by show 0 < 2 ^ 6; decide
  | k + 1, h => by
    have h1 := ct_hm_lt (kd := kd) (sl := sl) hn hst t k (by omega)
    rw [ct_hm_s]
    split
    · refine Nat.or_lt_two_pow h1 (Nat.or_lt_two_pow ?_ ?_)
      · exact Nat.pow_lt_pow_right (by omega) (by have := ct_by_lt hst (p := k) (show 0 < n by omega) 1; omega)
      · exact Nat.pow_lt_pow_right (by omega) (by have := ct_by_lt hst (p := k) (show 0 < n by omega) (n - 1); omega)
    · exact h1
theorem ct_hm_tb {n : Nat} {kd st : Nat → Nat} {sl : Nat → Nat → Nat} (t q : Nat) : ∀ k, (ct_hm n kd st sl t k).testBit q = true ↔ ∃ p, p < k ∧ (sl p t = 1 ∧ ¬ (kd p = 2 ∨ kd p = 4)) ∧ (ct_by n st p 1 = q ∨ ct_by n st p (n - 1) = q)
  | 0 => by
    show (0 : Nat).testBit q = true ↔ _
    simp
  | k + 1 => by
    have ih := ct_hm_tb (n := n) (kd := kd) (st := st) (sl := sl) t q k
    rw [ct_hm_s]
    by_cases c : sl k t = 1 ∧ ¬ (kd k = 2 ∨ kd k = 4)
    · rw [if_pos c, Nat.testBit_or, Nat.testBit_or, Nat.testBit_two_pow, Nat.testBit_two_pow, Bool.or_eq_true, Bool.or_eq_true, ih, decide_eq_true_eq, decide_eq_true_eq]
      constructor
      · rintro (⟨p, h1, h2, h3⟩ | h)
        · exact ⟨p, by omega, h2, h3⟩
        · exact ⟨k, by omega, c, h⟩
      · rintro ⟨p, h1, h2, h3⟩
        by_cases e : p = k
        · subst e; exact Or.inr h3
        · exact Or.inl ⟨p, by omega, h2, h3⟩
    · rw [if_neg c, ih]
      constructor
      · rintro ⟨p, h1, h2, h3⟩; exact ⟨p, by omega, h2, h3⟩
      · rintro ⟨p, h1, h2, h3⟩
        by_cases e : p = k
        · subst e; exact absurd h2 c
        · exact ⟨p, by omega, h2, h3⟩
theorem ct_round {n i j : Nat} (hn : n ≤ 6) (hi : i < n) (hj : j < n) : (i + 1) % n = j ↔ i = (j + (n - 1)) % n := by
  rcases (show n = 1 ∨ n = 2 ∨ n = 3 ∨ n = 4 ∨ n = 5 ∨ n = 6 by omega) with rfl | rfl | rfl | rfl | rfl | rfl <;> omega
theorem ct_by_inv {n : Nat} {st : Nat → Nat} (hn : n ≤ 6) (hst : ct_st n st) {p q : Nat} (hp : p < n) (hq : q < n) : ct_by n st p 1 = q ↔ p = ct_by n st q (n - 1) := by
  obtain ⟨i, hi, rfl⟩ := ct_onto hst hp
  obtain ⟨j, hj, rfl⟩ := ct_onto hst hq
  rw [ct_by_at hst hi, ct_by_at hst hj]
  have m1 : (i + 1) % n < n := Nat.mod_lt _ (by omega)
  have m2 : (j + (n - 1)) % n < n := Nat.mod_lt _ (by omega)
  constructor
  · intro h
    rw [(ct_round hn hi hj).mp (hst.2 _ _ m1 hj h)]
  · intro h
    have := hst.2 _ _ hi m2 h
    rw [(ct_round hn hi hj).mpr this]
theorem ct_hm_nw {n : Nat} {kd st : Nat → Nat} {sl : Nat → Nat → Nat} (hn : n ≤ 6) (hst : ct_st n st) {t q : Nat} (hq : q < n) : (ct_hm n kd st sl t n).testBit q = true ↔ (ct_tl kd sl (ct_by n st q 1) t = 1 ∨ ct_tl kd sl (ct_by n st q (n - 1)) t = 1) := by
  have tl : ∀ p, ct_tl kd sl p t = 1 ↔ (sl p t = 1 ∧ ¬ (kd p = 2 ∨ kd p = 4)) := by
    intro p
    unfold ct_tl ct_op
    by_cases c : kd p = 2 ∨ kd p = 4
    · rw [if_pos c]; exact ⟨fun h => by omega, fun h => absurd c h.2⟩
    · rw [if_neg c]
      by_cases z : sl p t = 1
      · rw [if_pos z]; exact ⟨fun _ => ⟨z, c⟩, fun _ => rfl⟩
      · rw [if_neg z]; exact ⟨fun h => by omega, fun h => absurd h.1 z⟩
  rw [ct_hm_tb, tl, tl]
  constructor
  · rintro ⟨p, hp, h2, h3 | h3⟩
    · rw [(ct_by_inv hn hst hp hq).mp h3] at h2
      exact Or.inr h2
    · rw [← (ct_by_inv hn hst hq hp).mpr h3.symm] at h2
      exact Or.inl h2
  · rintro (h | h)
    · have hb := ct_by_lt hst (p := q) (show 0 < n by omega) 1
      exact ⟨_, hb, h, Or.inr ((ct_by_inv hn hst hq hb).mp rfl).symm⟩
    · have hb := ct_by_lt hst (p := q) (show 0 < n by omega) (n - 1)
      exact ⟨_, hb, h, Or.inl ((ct_by_inv hn hst hb hq).mpr rfl)⟩
