-- RANGES: what both sides ask of their numbers
def rg (a : Int32) (lo hi : Int) : Bool := decide (lo ≤ a.toInt ∧ a.toInt ≤ hi)
theorem rg_nI {j : Nat} {k : Nat} (h : j ≤ k) (hk : k < 2 ^ 31) : rg (nI j) 0 k = true := by
  unfold rg; rw [nI_toInt (by omega)]; exact decide_eq_true ⟨by omega, by omega⟩
theorem rg_of {a : Int32} {lo hi : Nat} (h : rg a lo hi = true) : ∃ j : Nat, lo ≤ j ∧ j ≤ hi ∧ a = nI j := by
  obtain ⟨h1, h2⟩ := of_decide_eq_true h
  have h3 := fb_rng a
  refine ⟨a.toInt.toNat, by omega, by omega, ?_⟩
  apply Int32.toInt_inj.mp
  rw [nI_toInt (by omega)]
  omega
theorem rg_no {a : Int32} {lo hi : Int} (h : ¬ rg a lo hi = true) : a.toInt < lo ∨ hi < a.toInt := by
  unfold rg at h
  rcases Int.lt_or_le a.toInt lo with q | q
  · exact Or.inl q
  · rcases Int.lt_or_le hi a.toInt with q2 | q2
    · exact Or.inr q2
    · exact absurd (decide_eq_true ⟨q, q2⟩) h
theorem xs_within (F : Nat) (a lo hi : Int32) : fnX4_within F a lo hi = some (if rg a lo.toInt hi.toInt then 1 else 0) := by
  unfold fnX4_within rg
  simp only [fa_lt]
  by_cases h1 : a.toInt < lo.toInt
  · rw [if_pos h1, if_neg (by simp; omega)]
  · rw [if_neg h1]
    by_cases h2 : hi.toInt < a.toInt
    · rw [if_pos h2, if_neg (by simp; omega)]
    · rw [if_neg h2, if_pos (by simp; omega)]
theorem lg_lt {x y : Int64} : lg_cmp x y < 0 ↔ x < y := by
  unfold lg_cmp
  by_cases h : x > y
  · rw [if_pos h]; exact ⟨fun q => absurd q (by decide), fun q => by rw [fa_lt64] at q; have := (fa_lt64 y x).mp h; omega⟩
  · rw [if_neg h]
    by_cases e : x = y
    · rw [if_pos e]; exact ⟨fun q => absurd q (by decide), fun q => by rw [e, fa_lt64] at q; omega⟩
    · rw [if_neg e]
      refine ⟨fun _ => ?_, fun _ => by decide⟩
      rw [fa_lt64]
      have h1 : ¬ y.toInt < x.toInt := fun q => h ((fa_lt64 y x).mpr q)
      have h2 : ¬ x.toInt = y.toInt := fun q => e ((fa_eq64 x y).mpr q)
      omega
theorem lg_gt {x y : Int64} : 0 < lg_cmp x y ↔ y < x := by
  unfold lg_cmp
  by_cases h : x > y
  · rw [if_pos h]; exact ⟨fun _ => h, fun _ => by decide⟩
  · rw [if_neg h]
    refine ⟨fun q => ?_, fun q => absurd q h⟩
    split at q <;> exact absurd q (by decide)
theorem ym_in (F : Nat) (a lo hi : Int32) : fnX5_in F a.toInt64 lo.toInt64 hi.toInt64 = some (if rg a lo.toInt hi.toInt then 1 else 0) := by
  unfold fnX5_in rg
  simp only [lg_lt, lg_gt, fa_wide_lt]
  simp only [fa_lt]
  by_cases h1 : a.toInt < lo.toInt
  · rw [if_pos h1, if_neg (by simp; omega)]
  · rw [if_neg h1]
    by_cases h2 : hi.toInt < a.toInt
    · rw [if_pos h2, if_neg (by simp; omega)]
    · rw [if_neg h2, if_pos (by simp; omega)]
theorem bl_if (b : Bool) : sx_bl (if b then 1 else 0) = true := by cases b <;> decide
theorem lw0 : (0 : Int64) = (0 : Int32).toInt64 := by decide
theorem lw7 : (7 : Int64) = (7 : Int32).toInt64 := by decide
theorem lw9 : (9 : Int64) = (9 : Int32).toInt64 := by decide
theorem lw3 : (3 : Int64) = (3 : Int32).toInt64 := by decide
theorem i0 : (0 : Int32).toInt = 0 := by decide
theorem i1 : (1 : Int32).toInt = 1 := by decide
theorem i2 : (2 : Int32).toInt = 2 := by decide
theorem i3 : (3 : Int32).toInt = 3 := by decide
theorem i4 : (4 : Int32).toInt = 4 := by decide
theorem i5 : (5 : Int32).toInt = 5 := by decide
theorem i6 : (6 : Int32).toInt = 6 := by decide
theorem i7 : (7 : Int32).toInt = 7 := by decide
theorem i9 : (9 : Int32).toInt = 9 := by decide
theorem xs_isThing (F : Nat) (a : Int32) : fnX4_isThing F a = some (if rg a 0 7 then 1 else 0) := by
  unfold fnX4_isThing
  rw [xs_within, i0, i7]; simp only [sx_c1]; rw [sx_gd_e (bl_if _)]
theorem xs_isHeat (F : Nat) (a : Int32) : fnX4_isHeat F a = some (if rg a 0 9 then 1 else 0) := by
  unfold fnX4_isHeat
  rw [xs_within, i0, i9]; simp only [sx_c1]; rw [sx_gd_e (bl_if _)]
theorem xs_isSheet (F : Nat) (a : Int32) : fnX4_isSheet F a = some (if rg a 0 3 then 1 else 0) := by
  unfold fnX4_isSheet
  rw [xs_within, i0, i3]; simp only [sx_c1]; rw [sx_gd_e (bl_if _)]
theorem xs_isLane (F : Nat) (a : Int32) : fnX4_isLane F a = some (if rg a 0 3 then 1 else 0) := by
  unfold fnX4_isLane
  rw [xs_within, i0, i3]; simp only [sx_c1]; rw [sx_gd_e (bl_if _)]
theorem pm1 {n : Nat} (hn : n ≤ 6) : (nI n - (1 : Int32)).toInt = (n : Int) - 1 := by
  rw [nm_1, pk_sub_toInt (by omega) (by omega)]; rfl
theorem xs_isPerson (F : Nat) {n : Nat} (hn : n ≤ 6) (a : Int32) : fnX4_isPerson F (nI n) a = some (if rg a 0 ((n : Int) - 1) then 1 else 0) := by
  unfold fnX4_isPerson
  rw [xs_within, i0, pm1 hn]; simp only [sx_c1]; rw [sx_gd_e (bl_if _)]
theorem ym_isThing (F : Nat) (a : Int32) : fnX5_isThing F a = some (if rg a 0 7 then 1 else 0) := by
  unfold fnX5_isThing
  rw [lw0, lw7, ym_in, i0, i7]; simp only [sx_c1]; rw [sx_gd_e (bl_if _)]
theorem ym_isHeat (F : Nat) (a : Int32) : fnX5_isHeat F a = some (if rg a 0 9 then 1 else 0) := by
  unfold fnX5_isHeat
  rw [lw0, lw9, ym_in, i0, i9]; simp only [sx_c1]; rw [sx_gd_e (bl_if _)]
theorem ym_isSheet (F : Nat) (a : Int32) : fnX5_isSheet F a = some (if rg a 0 3 then 1 else 0) := by
  unfold fnX5_isSheet
  rw [lw0, lw3, ym_in, i0, i3]; simp only [sx_c1]; rw [sx_gd_e (bl_if _)]
theorem ym_isLane (F : Nat) (a : Int32) : fnX5_isLane F a = some (if rg a 0 3 then 1 else 0) := by
  unfold fnX5_isLane
  rw [lw0, lw3, ym_in, i0, i3]; simp only [sx_c1]; rw [sx_gd_e (bl_if _)]
theorem ym_isPerson (F : Nat) {n : Nat} (hn : n ≤ 6) {w : Nat → Int32} (h0 : w 0 = nI n) (a : Int32) : fnX5_isPerson F w a = some (if rg a 0 ((n : Int) - 1) then 1 else 0) := by
  unfold fnX5_isPerson
  rw [sx_n0, h0, lw0, ym_in, i0, pm1 hn]; simp only [sx_c1]; rw [sx_gd_e (bl_if _)]
theorem rg_person {a : Int32} {n : Nat} (h : rg a 0 ((n : Int) - 1) = true) : ∃ j : Nat, j < n ∧ a = nI j := by
  have hn : 1 ≤ n := by
    obtain ⟨h1, h2⟩ := of_decide_eq_true h
    omega
  have h' : rg a ((0 : Nat) : Int) ((n - 1 : Nat) : Int) = true := by rw [show ((n - 1 : Nat) : Int) = (n : Int) - 1 by omega]; exact h
  obtain ⟨j, -, h2, h3⟩ := rg_of h'
  exact ⟨j, by omega, h3⟩
theorem if1 (b : Bool) : ((if b then 1 else 0 : Int32) = 0) ↔ ¬ b = true := by cases b <;> decide
