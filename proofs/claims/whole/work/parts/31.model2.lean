-- THE REFERENCE'S COURT: seats, times, a day
theorem ym_placeOf_l {F n p : Nat} {st : Nat → Nat} {w : Nat → Int32} (hn : n ≤ 6) (hst : ct_st n st) (hw : ∀ i, i < n → w (11 + i) = nI (st i)) {j : Nat} (hj : j < n) (hp : st j = p) : ∀ k i, i + k = j → ∀ fuel, k < fuel → sx_lp1 (bdX5_placeOf_2 F (nI p) w) fuel (nI i) = some (nI j) := by
  intro k
  induction k with
  | zero =>
    intro i hi fuel hf
    obtain ⟨f, rfl⟩ : ∃ f, fuel = f + 1 := ⟨fuel - 1, by omega⟩
    rw [sx_lp1_1, bdX5_placeOf_2, ym_ix11, sx_gd_e (nm_ib (by omega)), nI_clamp (by omega), show i = j by omega, hw j hj, hp, if_pos rfl]
  | succ k ih =>
    intro i hi fuel hf
    obtain ⟨f, rfl⟩ : ∃ f, fuel = f + 1 := ⟨fuel - 1, by omega⟩
    have h1 := hst.1 i (by omega)
    have h2 := hst.1 j hj
    rw [sx_lp1_1, bdX5_placeOf_2, ym_ix11, sx_gd_e (nm_ib (by omega)), nI_clamp (by omega), hw i (by omega), if_neg (fun q => by
      have := (nI_eq (by omega) (by omega)).mp q
      have := hst.2 i j (by omega) hj (by omega)
      omega)]
    simp only [sx_nm, nI_1]
    exact ih (i + 1) (by omega) f (by omega)
theorem ym_placeOf {F n p : Nat} {st : Nat → Nat} {w : Nat → Int32} (hF : 1000 ≤ F) (hn : n ≤ 6) (hst : ct_st n st) (hw : ∀ i, i < n → w (11 + i) = nI (st i)) (hp : p < n) : fnX5_placeOf F w (nI p) = some (nI (ct_pl st p n)) := by
  unfold fnX5_placeOf
  have h := ct_pl_lt hst hp
  exact ym_placeOf_l hn hst hw h.1 h.2 (ct_pl st p n) 0 (by omega) F (by omega)
theorem ym_beside {F n p k : Nat} {st : Nat → Nat} {w : Nat → Int32} (hF : 1000 ≤ F) (hn : n ≤ 6) (hst : ct_st n st) (h0 : w 0 = nI n) (hw : ∀ i, i < n → w (11 + i) = nI (st i)) (hp : p < n) (hk : k ≤ n) : fnX5_beside F w (nI p) (nI k) = some (nI (ct_by n st p k)) := by
  unfold fnX5_beside
  have h := ct_pl_lt hst hp
  have hm : (ct_pl st p n + k) % n < n := Nat.mod_lt _ (by omega)
  rw [ym_placeOf hF hn hst hw hp]
  simp only [sx_c1]
  rw [sx_n0, h0, sx_gd_e (nm_nz (by omega) (by omega)), nI_add, pk_rem (by omega) (by omega) (by omega), ym_ix11, sx_gd_e (nm_ib (by omega)), nI_clamp (by omega), hw _ hm]
  rfl
/-- a sum of one person's things -/
def ct_sm (g : Nat → Nat) : Nat → Nat
  | 0 => 0
  | t + 1 => ct_sm g t + g t
theorem ct_sm_s (g : Nat → Nat) (t : Nat) : ct_sm g (t + 1) = ct_sm g t + g t := rfl
theorem ct_sm_8 (g : Nat → Nat) : ct_sm g 8 = mp_S g := by
  unfold mp_S
  rw [ct_sm_s, ct_sm_s, ct_sm_s, ct_sm_s, ct_sm_s, ct_sm_s, ct_sm_s, ct_sm_s]
  show 0 + _ + _ + _ + _ + _ + _ + _ + _ = _
  rw [Nat.zero_add]
theorem ym_times_i {F n p a : Nat} {sl : Nat → Nat → Nat} {w : Nat → Int32} (hn : n ≤ 6) (hp : p < n) (hsl : ct_sl n sl) (hS : cm_S n sl w) (kf : Int32 → Option Int32) : ∀ k i, i + k = 8 → ∀ fuel, k < fuel → sx_lp2 (bdX5_times_16 F (nI p) w kf) fuel (nI (a + ct_sm (cx_kn sl p) i)) (nI i) = kf (nI (a + ct_sm (cx_kn sl p) 8)) := by
  intro k
  induction k with
  | zero =>
    intro i hi fuel hf
    obtain ⟨f, rfl⟩ : ∃ f, fuel = f + 1 := ⟨fuel - 1, by omega⟩
    rw [sx_lp2_1, bdX5_times_16, nm_8, if_pos (nI_leT (by omega) (by omega)), show i = 8 by omega]
  | succ k ih =>
    intro i hi fuel hf
    obtain ⟨f, rfl⟩ : ∃ f, fuel = f + 1 := ⟨fuel - 1, by omega⟩
    have hx := hsl p hp i (by omega)
    rw [sx_lp2_1, bdX5_times_16, nm_8, if_neg (nI_nleI (by omega) (by omega)), ym_knows F w (by omega) (by omega) (by omega) (hS p hp i (by omega))]
    have h2 := ih (i + 1) (by omega) f (by omega)
    rw [ct_sm_s] at h2
    simp only [sx_c1, sx_lt, sx_nm, nI_1]
    by_cases z : sl p i = 0
    · rw [show cx_kn sl p i = 0 by simp [cx_kn, z], Nat.add_zero] at h2
      rw [if_pos z, if_pos rfl, nm_0, nI_add]; exact h2
    · rw [show cx_kn sl p i = 1 by simp [cx_kn, z]] at h2
      rw [if_neg z, if_neg (by decide)]; exact h2
theorem ym_times_l {F n : Nat} {sl : Nat → Nat → Nat} {w : Nat → Int32} (hF : 1000 ≤ F) (hn : n ≤ 6) (hsl : ct_sl n sl) (h0 : w 0 = nI n) (hS : cm_S n sl w) : ∀ k i, i + k = n → ∀ fuel, k < fuel → sx_lp2 (bdX5_times_4 F w) fuel (nI (ct_tm (cx_kn sl) i)) (nI i) = some (nI (ct_tm (cx_kn sl) n)) := by
  intro k
  induction k with
  | zero =>
    intro i hi fuel hf
    obtain ⟨f, rfl⟩ : ∃ f, fuel = f + 1 := ⟨fuel - 1, by omega⟩
    rw [sx_lp2_1, bdX5_times_4, sx_n0, h0, if_pos (nI_leT (by omega) (by omega)), show i = n by omega]
  | succ k ih =>
    intro i hi fuel hf
    obtain ⟨f, rfl⟩ : ∃ f, fuel = f + 1 := ⟨fuel - 1, by omega⟩
    rw [sx_lp2_1, bdX5_times_4, sx_n0, h0, if_neg (nI_nleI (by omega) (by omega))]
    simp only [sx_lt, sx_nm]
    have h1 := ym_times_i (F := F) (a := ct_tm (cx_kn sl) i) hn (show i < n by omega) hsl hS (fun x4 => sx_lp2 (bdX5_times_4 F w) f x4 (nI i + 1)) 8 0 (by omega) F (by omega)
    have e0 : ct_sm (cx_kn sl i) 0 = 0 := rfl
    rw [e0, Nat.add_zero] at h1
    rw [nm_0]
    rw [h1, ct_sm_8, nI_1]
    exact ih (i + 1) (by omega) f (by omega)
theorem ym_times {F n : Nat} {sl : Nat → Nat → Nat} {w : Nat → Int32} (hF : 1000 ≤ F) (hn : n ≤ 6) (hsl : ct_sl n sl) (h0 : w 0 = nI n) (hS : cm_S n sl w) : fnX5_times F w = some (nI (ct_tm (cx_kn sl) n)) := by
  unfold fnX5_times
  exact ym_times_l hF hn hsl h0 hS n 0 (by omega) F (by omega)
theorem ym_open_i {F n p a : Nat} {sl : Nat → Nat → Nat} {w : Nat → Int32} (hn : n ≤ 6) (hp : p < n) (hsl : ct_sl n sl) (hS : cm_S n sl w) (kf : Int32 → Option Int32) : ∀ k i, i + k = 8 → ∀ fuel, k < fuel → sx_lp2 (bdX5_openOnes_16 F (nI p) w kf) fuel (nI (a + ct_sm (ct_op sl p) i)) (nI i) = kf (nI (a + ct_sm (ct_op sl p) 8)) := by
  intro k
  induction k with
  | zero =>
    intro i hi fuel hf
    obtain ⟨f, rfl⟩ : ∃ f, fuel = f + 1 := ⟨fuel - 1, by omega⟩
    rw [sx_lp2_1, bdX5_openOnes_16, nm_8, if_pos (nI_leT (by omega) (by omega)), show i = 8 by omega]
  | succ k ih =>
    intro i hi fuel hf
    obtain ⟨f, rfl⟩ : ∃ f, fuel = f + 1 := ⟨fuel - 1, by omega⟩
    have hx := hsl p hp i (by omega)
    rw [sx_lp2_1, bdX5_openOnes_16, nm_8, if_neg (nI_nleI (by omega) (by omega)), ym_sealOf F w (by omega) (by omega), hS p hp i (by omega)]
    have h2 := ih (i + 1) (by omega) f (by omega)
    rw [ct_sm_s] at h2
    simp only [sx_c1, sx_lt, sx_nm, nI_1]
    by_cases z : sl p i = 1
    · rw [show ct_op sl p i = 1 by simp [ct_op, z]] at h2
      rw [if_pos ((cm_z (by omega)).mpr z)]; exact h2
    · rw [show ct_op sl p i = 0 by simp [ct_op, z], Nat.add_zero] at h2
      rw [if_neg (fun q => z ((cm_z (by omega)).mp q)), nm_0, nI_add]; exact h2
theorem ym_open_l {F n : Nat} {sl : Nat → Nat → Nat} {w : Nat → Int32} (hF : 1000 ≤ F) (hn : n ≤ 6) (hsl : ct_sl n sl) (h0 : w 0 = nI n) (hS : cm_S n sl w) : ∀ k i, i + k = n → ∀ fuel, k < fuel → sx_lp2 (bdX5_openOnes_4 F w) fuel (nI (ct_tm (ct_op sl) i)) (nI i) = some (nI (ct_tm (ct_op sl) n)) := by
  intro k
  induction k with
  | zero =>
    intro i hi fuel hf
    obtain ⟨f, rfl⟩ : ∃ f, fuel = f + 1 := ⟨fuel - 1, by omega⟩
    rw [sx_lp2_1, bdX5_openOnes_4, sx_n0, h0, if_pos (nI_leT (by omega) (by omega)), show i = n by omega]
  | succ k ih =>
    intro i hi fuel hf
    obtain ⟨f, rfl⟩ : ∃ f, fuel = f + 1 := ⟨fuel - 1, by omega⟩
    rw [sx_lp2_1, bdX5_openOnes_4, sx_n0, h0, if_neg (nI_nleI (by omega) (by omega))]
    simp only [sx_lt, sx_nm]
    have h1 := ym_open_i (F := F) (a := ct_tm (ct_op sl) i) hn (show i < n by omega) hsl hS (fun x4 => sx_lp2 (bdX5_openOnes_4 F w) f x4 (nI i + 1)) 8 0 (by omega) F (by omega)
    have e0 : ct_sm (ct_op sl i) 0 = 0 := rfl
    rw [e0, Nat.add_zero] at h1
    rw [nm_0]
    rw [h1, ct_sm_8, nI_1]
    exact ih (i + 1) (by omega) f (by omega)
theorem ym_openOnes {F n : Nat} {sl : Nat → Nat → Nat} {w : Nat → Int32} (hF : 1000 ≤ F) (hn : n ≤ 6) (hsl : ct_sl n sl) (h0 : w 0 = nI n) (hS : cm_S n sl w) : fnX5_openOnes F w = some (nI (ct_tm (ct_op sl) n)) := by
  unfold fnX5_openOnes
  exact ym_open_l hF hn hsl h0 hS n 0 (by omega) F (by omega)
theorem ym_isOut {F n t : Nat} {sl : Nat → Nat → Nat} {w : Nat → Int32} (hF : 1000 ≤ F) (hn : n ≤ 6) (ht : t < 8) (hsl : ct_sl n sl) (h0 : w 0 = nI n) (hS : cm_S n sl w) : fnX5_isOut F w (nI t) = some (if ct_out sl n t then 1 else 0) := by
  unfold fnX5_isOut ct_out
  have h9 := pw6 hn
  have h8 := ct_who_lt sl t n
  rw [sx_n0, h0]
  by_cases h : n = 0
  · subst h; rw [if_pos (by decide)]; rfl
  · rw [if_neg (nI_nle (by omega) (by omega)), ym_who hF hn ht hsl h0 hS]
    simp only [sx_c1]
    rw [nm_1shl hn]
    by_cases e : ct_who sl t n = 2 ^ n - 1
    · rw [if_pos (by rw [e]), if_pos (by simp [e]; omega)]
    · rw [if_neg (fun q => e ((nI_eq (by omega) (by omega)).mp q)), if_neg (by simp [e])]
theorem ym_outs_l {F n : Nat} {sl : Nat → Nat → Nat} {w : Nat → Int32} (hF : 1000 ≤ F) (hn : n ≤ 6) (hsl : ct_sl n sl) (h0 : w 0 = nI n) (hS : cm_S n sl w) : ∀ k i, i + k = 8 → ∀ fuel, k < fuel → sx_lp2 (bdX5_outOnes_4 F w) fuel (nI (ct_outs sl n i)) (nI i) = some (nI (ct_outs sl n 8)) := by
  intro k
  induction k with
  | zero =>
    intro i hi fuel hf
    obtain ⟨f, rfl⟩ : ∃ f, fuel = f + 1 := ⟨fuel - 1, by omega⟩
    rw [sx_lp2_1, bdX5_outOnes_4, nm_8, if_pos (nI_leT (by omega) (by omega)), show i = 8 by omega]
  | succ k ih =>
    intro i hi fuel hf
    obtain ⟨f, rfl⟩ : ∃ f, fuel = f + 1 := ⟨fuel - 1, by omega⟩
    rw [sx_lp2_1, bdX5_outOnes_4, nm_8, if_neg (nI_nleI (by omega) (by omega)), ym_isOut hF hn (by omega) hsl h0 hS]
    have h2 := ih (i + 1) (by omega) f (by omega)
    rw [ct_outs_s] at h2
    simp only [sx_c1, sx_lt, sx_nm, nI_1]
    have h3 := nm_or (b := 1) (ct_outs_lt sl n i)
    have h4 := nm_or (b := 0) (ct_outs_lt sl n i)
    rw [Nat.zero_mul, Nat.add_zero] at h4
    rw [Nat.one_mul] at h3
    by_cases h : ct_out sl n i = true
    · rw [if_pos h] at h2
      simp only [h, if_true]
      rw [if_neg (by decide), nm_1, nm_shl (by omega) (by omega), Nat.one_mul, h3]
      exact h2
    · rw [if_neg h] at h2
      simp only [h]
      rw [if_pos (by decide), nm_0, h4]
      exact h2
theorem ym_outOnes {F n : Nat} {sl : Nat → Nat → Nat} {w : Nat → Int32} (hF : 1000 ≤ F) (hn : n ≤ 6) (hsl : ct_sl n sl) (h0 : w 0 = nI n) (hS : cm_S n sl w) : fnX5_outOnes F w = some (nI (ct_outs sl n 8)) := by
  unfold fnX5_outOnes
  exact ym_outs_l hF hn hsl h0 hS 8 0 (by omega) F (by omega)
theorem ym_weakens {F p k h day : Nat} {w : Nat → Int32} (hp : p < 6) (hk : k ≤ 4) (hh : h ≤ 9) (hd : day < 2 ^ 30) (h1 : w 1 = nI day) (h5 : w (5 + p) = nI k) : fnX5_weakens F w (nI p) (nI h) = some (nI (ct_wk k h day)) := by
  unfold fnX5_weakens
  rw [ym_ix5, sx_gd_e (nm_ib (by omega)), nI_clamp (by omega), h5, sx_n1, h1]
  exact xs_weakening (F := F) hk hh hd
theorem ym_isSilent {F p k : Nat} {w : Nat → Int32} (hp : p < 6) (hk : k ≤ 4) (h5 : w (5 + p) = nI k) : fnX5_isSilent F w (nI p) = some (if k = 2 ∨ k = 4 then 1 else 0) := by
  unfold fnX5_isSilent
  rw [ym_ix5, sx_gd_e (nm_ib (by omega)), sx_gd_e (nm_ib (by omega)), nI_clamp (by omega), h5]
  rcases (show k = 0 ∨ k = 1 ∨ k = 2 ∨ k = 3 ∨ k = 4 by omega) with rfl | rfl | rfl | rfl | rfl <;> decide +kernel
