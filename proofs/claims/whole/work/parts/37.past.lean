-- THE STEPS THAT MAY BE UNDONE, on both sides
theorem cp_ok {a b c n0 n1 : Nat} (h1 : a + c ≤ n0) (h2 : b + c ≤ n1) (h3 : n0 < 2 ^ 31) (h4 : n1 < 2 ^ 31) : sx_cp (nI a) (nI b) (nI c) n0 n1 = true := by
  unfold sx_cp
  rw [nI_clamp (by omega), nI_clamp (by omega), nI_clamp (by omega)]
  exact decide_eq_true ⟨nI_pos (by omega), nI_pos (by omega), nI_pos (by omega), h1, h2⟩
theorem nm_6 : (6 : Int32) = nI 6 := by decide +kernel
/-- one step more -/
def hs_add (hs : Nat → snp) (s : snp) : Nat → snp := fun i => if i = 0 then s else hs (i - 1)
theorem hs_add_ok {n k : Nat} {hs : Nat → snp} {s : snp} (h : hs_ok n k hs) (h1 : ct_sl n s.1) (h2 : s.2.1 ≤ 9999) (h3 : s.2.2 < 2 ^ 31) : hs_ok n (if k < 8 then k + 1 else 8) (hs_add hs s) := by
  refine ⟨by split <;> omega, fun i hi => ?_⟩
  unfold hs_add
  by_cases e : i = 0
  · rw [if_pos e]; exact ⟨h1, h2, h3⟩
  · rw [if_neg e]; exact h.2 (i - 1) (by have := h.1; split at hi <;> omega)
theorem xs_keep {F n k day draw : Nat} {sl : Nat → Nat → Nat} {hs : Nat → snp} {kn sg : Nat → Int64} {da dr : Nat → Int32} {nx stp : Int32} {a b : Nat → Int64} (hn : n ≤ 6) (hk : k ≤ 8) (hP : cx_P n k hs kn sg da dr nx stp) (ha : cx_L n (cx_kn sl) a) (hb : cx_L n (cx_sg sl) b) :
    ∃ kn' sg' da' dr' nx' stp', fnX1_keep F kn sg da dr nx stp a b (nI day) (nI draw) = some (kn', sg', da', dr', nx', stp') ∧ cx_P n (if k < 8 then k + 1 else 8) (hs_add hs (sl, day, draw)) kn' sg' da' dr' nx' stp' := by
  obtain ⟨x, hx, rfl, rfl, hr⟩ := hP
  unfold fnX1_keep
  rw [nm_0, nm_6, pk_mul, sx_gd_e (cp_ok (by omega) (by omega) (by omega) (by omega)), sx_gd_e (cp_ok (by omega) (by omega) (by omega) (by omega)), sx_gd_e (nm_ib (by omega)), sx_gd_e (nm_ib (by omega)), nI_clamp (by omega), nI_clamp (by omega), nI_clamp (by omega), nI_clamp (by omega), nI_1, nI_1, nm_8, pk_rem (by omega) (by omega) (by omega)]
  refine ⟨_, _, _, _, _, _, rfl, (x + 1) % 8, by omega, rfl, ?_, fun i hi => ?_⟩
  · by_cases z : k < 8
    · rw [if_pos z, if_neg (fun q => absurd ((nI_ltI (by omega) (by omega)).mp q) (by omega))]
    · rw [if_neg z, if_pos ((nI_ltI (by omega) (by omega)).mpr (by omega))]
  · have hi8 : i < 8 := by split at hi <;> omega
    by_cases e : i = 0
    · subst e
      have hs0 : hs_add hs (sl, day, draw) 0 = (sl, day, draw) := rfl
      rw [hs0, show ((x + 1) % 8 + 7 - 0) % 8 = x by omega]
      refine ⟨fun p hp => ?_, fun p hp => ?_, pu_same, pu_same⟩
      · rw [pk_cpy_in (by omega) (by omega), show 0 + (x * 6 + p - x * 6) = p by omega]; exact ha p hp
      · rw [pk_cpy_in (by omega) (by omega), show 0 + (x * 6 + p - x * 6) = p by omega]; exact hb p hp
    · have hs1 : hs_add hs (sl, day, draw) i = hs (i - 1) := by unfold hs_add; rw [if_neg e]
      obtain ⟨r1, r2, r3, r4⟩ := hr (i - 1) (by split at hi <;> omega)
      have hj : ((x + 1) % 8 + 7 - i) % 8 = (x + 7 - (i - 1)) % 8 := by omega
      have hjx : (x + 7 - (i - 1)) % 8 ≠ x := by omega
      rw [hs1, hj]
      generalize (x + 7 - (i - 1)) % 8 = y at r1 r2 r3 r4 hjx ⊢
      refine ⟨fun p hp => ?_, fun p hp => ?_, by rw [pu_ne hjx]; exact r3, by rw [pu_ne hjx]; exact r4⟩
      · rw [pk_cpy_out (by rcases Nat.lt_or_ge y x with q | q <;> omega)]; exact r1 p hp
      · rw [pk_cpy_out (by rcases Nat.lt_or_ge y x with q | q <;> omega)]; exact r2 p hp
theorem xs_takeBack {F n k : Nat} {hs : Nat → snp} {kn sg : Nat → Int64} {da dr : Nat → Int32} {nx stp : Int32} (a b : Nat → Int64) (d1 d2 : Int32) (hn : n ≤ 6) (hk : k ≤ 8) (hk0 : 0 < k) (hP : cx_P n k hs kn sg da dr nx stp) :
    ∃ nx' a' b', fnX1_takeBack F kn sg da dr nx stp a b d1 d2 = some (nx', nI (k - 1), a', b', nI (hs 0).2.1, nI (hs 0).2.2) ∧ cx_P n (k - 1) (fun i => hs (i + 1)) kn sg da dr nx' (nI (k - 1)) ∧ cx_L n (cx_kn (hs 0).1) a' ∧ cx_L n (cx_sg (hs 0).1) b' := by
  obtain ⟨x, hx, rfl, rfl, hr⟩ := hP
  unfold fnX1_takeBack
  have e : nI x + (8 : Int32) - (1 : Int32) - (nI x + (8 : Int32) - (1 : Int32)) / (8 : Int32) * (8 : Int32) = nI ((x + 7) % 8) := by
    rw [nm_8, nm_1, nI_add, pk_sub (by omega), pk_rem (by omega) (by omega) (by omega), show x + 8 - 1 = x + 7 by omega]
  obtain ⟨r1, r2, r3, r4⟩ := hr 0 hk0
  have hm : (x + 7 - 0) % 8 = (x + 7) % 8 := rfl
  rw [hm] at r1 r2 r3 r4
  have hy : (x + 7) % 8 < 8 := by omega
  rw [e, nm_0, nm_6, pk_mul, sx_gd_e (cp_ok (by omega) (by omega) (by omega) (by omega)), sx_gd_e (cp_ok (by omega) (by omega) (by omega) (by omega)), sx_gd_e (nm_ib (by omega)), sx_gd_e (nm_ib (by omega)), nI_clamp (by omega), nI_clamp (by omega), nI_clamp (by omega), nI_clamp (by omega), nm_1, pk_sub (by omega), r3, r4]
  refine ⟨_, _, _, rfl, ⟨(x + 7) % 8, hy, rfl, rfl, fun i hi => ?_⟩, fun p hp => ?_, fun p hp => ?_⟩
  · have := hr (i + 1) (by omega)
    rw [show (x + 7 - (i + 1)) % 8 = ((x + 7) % 8 + 7 - i) % 8 by omega] at this
    exact this
  · rw [pk_cpy_in (by omega) (by omega), show (x + 7) % 8 * 6 + (p - 0) = (x + 7) % 8 * 6 + p by omega]; exact r1 p hp
  · rw [pk_cpy_in (by omega) (by omega), show (x + 7) % 8 * 6 + (p - 0) = (x + 7) % 8 * 6 + p by omega]; exact r2 p hp
-- the reference
theorem nm_50 : (50 : Int32) = nI 50 := by decide +kernel
theorem nm_48 : (48 : Int32) = nI 48 := by decide +kernel
theorem nm_49 : (49 : Int32) = nI 49 := by decide +kernel
theorem nm_400 : (400 : Int32) = nI 400 := by decide +kernel
theorem nm_65 : (65 : Int32) = nI 65 := by decide +kernel
theorem nm_7 : (7 : Int32) = nI 7 := by decide +kernel
theorem ym_n12 {F : Nat} (u0 : Nat → Int32) (kf : (Nat → Int32) → Option ((Nat → Int32) × Int32)) : ∀ k i, 50 + i + k = 400 → ∀ fuel, k < fuel → ∀ u : Nat → Int32, (∀ j, j < i → u j = u0 (j + 50)) → (∀ j, i ≤ j → u j = u0 j) → ∃ u', sx_lp2 (bdX5_notes_12 F kf) fuel (nI (50 + i)) u = kf u' ∧ ∀ j, j < 350 → u' j = u0 (j + 50) := by
  intro k
  induction k with
  | zero =>
    intro i hi fuel hf u h1 h2
    obtain ⟨f, rfl⟩ : ∃ f, fuel = f + 1 := ⟨fuel - 1, by omega⟩
    rw [sx_lp2_1, bdX5_notes_12, nm_400, if_pos (nI_leT (by omega) (by omega))]
    exact ⟨u, rfl, fun j hj => h1 j (by omega)⟩
  | succ k ih =>
    intro i hi fuel hf u h1 h2
    obtain ⟨f, rfl⟩ : ∃ f, fuel = f + 1 := ⟨fuel - 1, by omega⟩
    rw [sx_lp2_1, bdX5_notes_12, nm_400, nm_50, if_neg (nI_nleI (by omega) (by omega)), pk_sub (by omega), sx_gd_e (nm_ib (by omega)), sx_gd_e (nm_ib (by omega)), nI_clamp (by omega), nI_clamp (by omega), nI_1]
    simp only [sx_nm]
    rw [show 50 + i - 50 = i by omega, show 50 + i + 1 = 50 + (i + 1) by omega]
    refine ih (i + 1) (by omega) f (by omega) _ (fun j hj => ?_) (fun j hj => ?_)
    · by_cases e : j = i
      · subst e; rw [pu_same, h2 _ (by omega), Nat.add_comm]
      · rw [pu_ne e]; exact h1 j (by omega)
    · rw [pu_ne (by omega)]; exact h2 j (by omega)
theorem ym_n48 {F z : Nat} {w : Nat → Int32} (hz : z < 8) (kf : (Nat → Int32) → Option ((Nat → Int32) × Int32)) : ∀ k i, i + k = 48 → ∀ fuel, k < fuel → ∀ u : Nat → Int32, (∀ j, j < i → u (50 * z + j) = w (17 + j)) → ∃ u', sx_lp2 (bdX5_notes_48 F w (nI z) kf) fuel (nI i) u = kf u' ∧ (∀ j, j < 48 → u' (50 * z + j) = w (17 + j)) ∧ ∀ j, j < 50 * z → u' j = u j := by
  intro k
  induction k with
  | zero =>
    intro i hi fuel hf u h1
    obtain ⟨f, rfl⟩ : ∃ f, fuel = f + 1 := ⟨fuel - 1, by omega⟩
    rw [sx_lp2_1, bdX5_notes_48, nm_48, if_pos (nI_leT (by omega) (by omega))]
    exact ⟨u, rfl, fun j hj => h1 j (by omega), fun _ _ => rfl⟩
  | succ k ih =>
    intro i hi fuel hf u h1
    obtain ⟨f, rfl⟩ : ∃ f, fuel = f + 1 := ⟨fuel - 1, by omega⟩
    rw [sx_lp2_1, bdX5_notes_48, nm_48, nm_17, nm_50, if_neg (nI_nleI (by omega) (by omega)), pk_mul, nI_add, nI_add, sx_gd_e (nm_ib (by omega)), sx_gd_e (nm_ib (by omega)), nI_clamp (by omega), nI_clamp (by omega), nI_1]
    simp only [sx_nm]
    obtain ⟨u', q1, q2, q3⟩ := ih (i + 1) (by omega) f (by omega) (upd u (50 * z + i) (w (17 + i))) (fun j hj => by
      by_cases e : j = i
      · subst e; rw [pu_same]
      · rw [pu_ne (by omega)]; exact h1 j (by omega))
    exact ⟨u', q1, q2, fun j hj => by rw [q3 j hj, pu_ne (by omega)]⟩
theorem ym_notes {F n k day draw : Nat} {sl : Nat → Nat → Nat} {hs : Nat → snp} {w un : Nat → Int32} (hF : 1000 ≤ F) (hn : n ≤ 6) (hk : k ≤ 8) (hU : cm_U n k hs un) (hS : cm_S n sl w) (h1 : w 1 = nI day) (h4 : w 4 = nI draw) :
    ∃ un', fnX5_notes F w un (nI k) = some (un', nI (if k < 8 then k + 1 else 8)) ∧ cm_U n (if k < 8 then k + 1 else 8) (hs_add hs (sl, day, draw)) un' := by
  unfold fnX5_notes
  simp only [sx_lt]
  have fin : ∀ (z : Nat) (u : Nat → Int32), z < 8 → (∀ i, i < z → (∀ p, p < n → ∀ t, t < 8 → u (50 * (z - 1 - i) + (8 * p + t)) = cm_v ((hs i).1 p t)) ∧ u (50 * (z - 1 - i) + 48) = nI (hs i).2.1 ∧ u (50 * (z - 1 - i) + 49) = nI (hs i).2.2) →
      ∃ un', sx_lp2 (bdX5_notes_48 F w (nI z) (fun z3 => sx_gd (sx_ib ((50 : Int32) * nI z + (48 : Int32)) 400) (sx_gd (sx_ib ((50 : Int32) * nI z + (49 : Int32)) 400) (some (upd (upd z3 ((50 : Int32) * nI z + (48 : Int32)).toNatClampNeg (w (1 : Int32).toNatClampNeg)) ((50 : Int32) * nI z + (49 : Int32)).toNatClampNeg (w (4 : Int32).toNatClampNeg), nI z + (1 : Int32)))))) F (0 : Int32) u = some (un', nI (z + 1)) ∧ cm_U n (z + 1) (hs_add hs (sl, day, draw)) un' := by
    intro z u hz hu
    obtain ⟨u', q1, q2, q3⟩ := ym_n48 (F := F) (z := z) (w := w) hz (fun z3 => sx_gd (sx_ib ((50 : Int32) * nI z + (48 : Int32)) 400) (sx_gd (sx_ib ((50 : Int32) * nI z + (49 : Int32)) 400) (some (upd (upd z3 ((50 : Int32) * nI z + (48 : Int32)).toNatClampNeg (w (1 : Int32).toNatClampNeg)) ((50 : Int32) * nI z + (49 : Int32)).toNatClampNeg (w (4 : Int32).toNatClampNeg), nI z + (1 : Int32))))) 48 0 (by omega) F (by omega) u (fun j hj => by omega)
    rw [nm_0, q1, nm_50, nm_48, nm_49, pk_mul, nI_add, nI_add, sx_gd_e (nm_ib (by omega)), sx_gd_e (nm_ib (by omega)), nI_clamp (by omega), nI_clamp (by omega), nI_1, sx_n1, sx_n4, h1, h4]
    refine ⟨_, rfl, fun i hi => ?_⟩
    by_cases e : i = 0
    · subst e
      have hs0 : hs_add hs (sl, day, draw) 0 = (sl, day, draw) := rfl
      rw [hs0, show z + 1 - 1 - 0 = z by omega]
      refine ⟨fun p hp t ht => ?_, ?_, ?_⟩
      · rw [pu_ne (by omega), pu_ne (by omega), q2 _ (by omega)]
        have := hS p hp t ht
        rw [show 17 + 8 * p + t = 17 + (8 * p + t) by omega] at this
        exact this
      · rw [pu_ne (by omega), pu_same]
      · rw [pu_same]
    · have hs1 : hs_add hs (sl, day, draw) i = hs (i - 1) := by unfold hs_add; rw [if_neg e]
      obtain ⟨r1, r2, r3⟩ := hu (i - 1) (by omega)
      rw [hs1, show z + 1 - 1 - i = z - 1 - (i - 1) by omega]
      have hlt : 50 * (z - 1 - (i - 1)) + 50 ≤ 50 * z := by omega
      generalize z - 1 - (i - 1) = y at r1 r2 r3 hlt ⊢
      refine ⟨fun p hp t ht => ?_, ?_, ?_⟩
      · rw [pu_ne (by omega), pu_ne (by omega), q3 _ (by omega)]; exact r1 p hp t ht
      · rw [pu_ne (by omega), pu_ne (by omega), q3 _ (by omega)]; exact r2
      · rw [pu_ne (by omega), pu_ne (by omega), q3 _ (by omega)]; exact r3
  by_cases z : k < 8
  · rw [if_neg (show ¬ nI k = (8 : Int32) by rw [nm_8, nI_eq (by omega) (by omega)]; omega), if_pos z]
    exact fin k un z hU
  · have ek : k = 8 := by omega
    subst ek
    rw [if_pos (by rw [nm_8]), if_neg z]
    obtain ⟨u', q1, q2⟩ := ym_n12 (F := F) un (fun z13 => sx_lp2 (bdX5_notes_48 F w (7 : Int32) (fun z3 => sx_gd (sx_ib ((50 : Int32) * (7 : Int32) + (48 : Int32)) 400) (sx_gd (sx_ib ((50 : Int32) * (7 : Int32) + (49 : Int32)) 400) (some (upd (upd z3 ((50 : Int32) * (7 : Int32) + (48 : Int32)).toNatClampNeg (w (1 : Int32).toNatClampNeg)) ((50 : Int32) * (7 : Int32) + (49 : Int32)).toNatClampNeg (w (4 : Int32).toNatClampNeg), (7 : Int32) + (1 : Int32)))))) F (0 : Int32) z13) 350 0 (by omega) F (by omega) un (fun j hj => by omega) (fun j hj => rfl)
    rw [nm_50] at q1
    rw [nm_50]
    rw [show (50 + 0 : Nat) = 50 by rfl] at q1
    rw [q1, ← nm_50, nm_7]
    have := fin 7 u' (by omega) (fun i hi => by
      obtain ⟨r1, r2, r3⟩ := hU i (by omega)
      have e : 50 * (8 - 1 - i) = 50 * (7 - 1 - i) + 50 := by omega
      rw [e] at r1 r2 r3
      have hlt : 50 * (7 - 1 - i) + 50 ≤ 350 := by omega
      generalize 50 * (7 - 1 - i) = y at r1 r2 r3 hlt ⊢
      refine ⟨fun p hp t ht => ?_, ?_, ?_⟩
      · rw [q2 _ (by omega)]
        have := r1 p hp t ht
        rw [show y + 50 + (8 * p + t) = y + (8 * p + t) + 50 by omega] at this; exact this
      · rw [q2 _ (by omega), show y + 48 + 50 = y + 50 + 48 by omega]; exact r2
      · rw [q2 _ (by omega), show y + 49 + 50 = y + 50 + 49 by omega]; exact r3)
    exact this
