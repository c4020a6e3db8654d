-- THE REFERENCE'S COURT, in numbers
def cm_v (x : Nat) : Int32 := if x = 0 then -1 else nI (x - 1)
theorem cm_v0 : cm_v 0 = -1 := rfl
theorem cm_vs {x : Nat} (h : x ≠ 0) : cm_v x = nI (x - 1) := if_neg h
theorem cm_neg {x : Nat} (hx : x ≤ 20) : cm_v x < 0 ↔ x = 0 := by
  unfold cm_v
  by_cases h : x = 0
  · rw [if_pos h]; exact ⟨fun _ => h, fun _ => by decide⟩
  · rw [if_neg h]; exact ⟨fun q => absurd q (nI_pos (by omega)), fun q => absurd q h⟩
theorem cm_pos {x : Nat} (hx : x ≤ 20) : 0 ≤ cm_v x ↔ x ≠ 0 := by
  have := cm_neg hx
  rw [← Int32.not_lt, this]
theorem cm_z {x : Nat} (hx : x ≤ 20) : cm_v x = 0 ↔ x = 1 := by
  unfold cm_v
  by_cases h : x = 0
  · rw [if_pos h]; exact ⟨fun q => absurd q (by decide), fun q => by omega⟩
  · rw [if_neg h, nm_0, nI_eq (by omega) (by omega)]; omega
theorem cm_le0 {x : Nat} (hx : x ≤ 20) : cm_v x ≤ 0 ↔ x ≤ 1 := by
  unfold cm_v
  by_cases h : x = 0
  · rw [if_pos h]; exact ⟨fun _ => by omega, fun _ => by decide⟩
  · rw [if_neg h, nm_0, nI_leI (by omega) (by omega)]; omega
def cm_S (n : Nat) (sl : Nat → Nat → Nat) (w : Nat → Int32) : Prop := ∀ p, p < n → ∀ t, t < 8 → w (17 + 8 * p + t) = cm_v (sl p t)
def cm_H (C : ctC) (w : Nat → Int32) : Prop := w 0 = nI (cc_n C) ∧ w 1 = nI (cc_dy C) ∧ w 2 = nI (cc_wx C) ∧ w 3 = nI (cc_wk C) ∧ w 4 = nI (cc_dr C) ∧ (∀ p, p < cc_n C → w (5 + p) = nI (cc_kd C p)) ∧ ∀ i, i < cc_n C → w (11 + i) = nI (cc_st C i)
def cm_C (C : ctC) (w : Nat → Int32) : Prop := cm_H C w ∧ cm_S (cc_n C) (cc_sl C) w
theorem cm_H.kept {C : ctC} {w w2 : Nat → Int32} (h : cm_H C w) (hn : cc_n C ≤ 6) (hk : ∀ j, j < 17 → w2 j = w j) : cm_H C w2 := by
  obtain ⟨h0, h1, h2, h3, h4, h5, h6⟩ := h
  refine ⟨by rw [hk 0 (by omega)]; exact h0, by rw [hk 1 (by omega)]; exact h1, by rw [hk 2 (by omega)]; exact h2, by rw [hk 3 (by omega)]; exact h3, by rw [hk 4 (by omega)]; exact h4, fun p hp => by rw [hk _ (by omega)]; exact h5 p hp, fun p hp => by rw [hk _ (by omega)]; exact h6 p hp⟩
theorem nm_8 : (8 : Int32) = nI 8 := by decide +kernel
theorem nm_17 : (17 : Int32) = nI 17 := by decide +kernel
theorem nm_5 : (5 : Int32) = nI 5 := by decide +kernel
theorem nm_11 : (11 : Int32) = nI 11 := by decide +kernel
theorem sx_n4 : (4 : Int32).toNatClampNeg = 4 := by decide
theorem ym_ix (p t : Nat) : ((17 : Int32) + (8 : Int32) * nI p) + nI t = nI (17 + 8 * p + t) := by
  rw [nm_17, nm_8, pk_mul, nI_add, nI_add]
theorem ym_ix5 (p : Nat) : (5 : Int32) + nI p = nI (5 + p) := by rw [nm_5, nI_add]
theorem ym_ix11 (p : Nat) : (11 : Int32) + nI p = nI (11 + p) := by rw [nm_11, nI_add]
theorem ym_sealOf (F : Nat) (w : Nat → Int32) {p t : Nat} (hp : p < 6) (ht : t < 8) : fnX5_sealOf F w (nI p) (nI t) = some (w (17 + 8 * p + t)) := by
  unfold fnX5_sealOf
  rw [ym_ix, sx_gd_e (nm_ib (by omega)), nI_clamp (by omega)]
theorem ym_knows (F : Nat) (w : Nat → Int32) {p t x : Nat} (hp : p < 6) (ht : t < 8) (hx : x ≤ 20) (hw : w (17 + 8 * p + t) = cm_v x) : fnX5_knows F w (nI p) (nI t) = some (if x = 0 then 0 else 1) := by
  unfold fnX5_knows
  rw [ym_sealOf F w hp ht, hw]
  simp only [sx_c1]
  by_cases h : x = 0
  · rw [if_pos ((cm_neg hx).mpr h), if_pos h]
  · rw [if_neg (fun q => h ((cm_neg hx).mp q)), if_neg h]
-- who, rank, things, times
theorem ym_who_l {F n t : Nat} {sl : Nat → Nat → Nat} {w : Nat → Int32} (hn : n ≤ 6) (ht : t < 8) (hsl : ct_sl n sl) (h0 : w 0 = nI n) (hS : cm_S n sl w) : ∀ k i, i + k = n → ∀ fuel, k < fuel → sx_lp2 (bdX5_who_4 F (nI t) w) fuel (nI (ct_who sl t i)) (nI i) = some (nI (ct_who sl t n)) := by
  intro k
  induction k with
  | zero =>
    intro i hi fuel hf
    obtain ⟨f, rfl⟩ : ∃ f, fuel = f + 1 := ⟨fuel - 1, by omega⟩
    rw [sx_lp2_1, bdX5_who_4, sx_n0, h0, if_pos (nI_leT (by omega) (by omega)), show i = n by omega]
  | succ k ih =>
    intro i hi fuel hf
    obtain ⟨f, rfl⟩ : ∃ f, fuel = f + 1 := ⟨fuel - 1, by omega⟩
    rw [sx_lp2_1, bdX5_who_4, sx_n0, h0, if_neg (nI_nleI (by omega) (by omega)), ym_knows F w (by omega) ht (by have := hsl i (by omega) t ht; omega) (hS i (by omega) t ht)]
    have h2 := ih (i + 1) (by omega) f (by omega)
    rw [ct_who_s] at h2
    simp only [sx_c1, sx_lt, sx_nm, nI_1]
    have h3 := nm_or (b := 1) (ct_who_lt sl t i)
    have h4 := nm_or (b := 0) (ct_who_lt sl t i)
    rw [Nat.zero_mul, Nat.add_zero] at h4
    rw [Nat.one_mul] at h3
    by_cases h : sl i t = 0
    · rw [if_pos h, Nat.add_zero] at h2
      rw [if_pos h, if_pos rfl, nm_0, h4]
      exact h2
    · rw [if_neg h] at h2
      rw [if_neg h, if_neg (by decide), nm_1, nm_shl (by omega) (by omega), Nat.one_mul, h3]
      exact h2
theorem ym_who {F n t : Nat} {sl : Nat → Nat → Nat} {w : Nat → Int32} (hF : 1000 ≤ F) (hn : n ≤ 6) (ht : t < 8) (hsl : ct_sl n sl) (h0 : w 0 = nI n) (hS : cm_S n sl w) : fnX5_who F w (nI t) = some (nI (ct_who sl t n)) := by
  unfold fnX5_who
  exact ym_who_l hn ht hsl h0 hS n 0 (by omega) F (by omega)
def ct_rk (sl : Nat → Nat → Nat) (p : Nat) : Nat → Nat
  | 0 => 0
  | t + 1 => ct_rk sl p t + (if sl p t ≤ 1 then 0 else 1)
theorem ct_rk_s (sl : Nat → Nat → Nat) (p t : Nat) : ct_rk sl p (t + 1) = ct_rk sl p t + (if sl p t ≤ 1 then 0 else 1) := rfl
theorem ct_rk_8 (sl : Nat → Nat → Nat) (p : Nat) : ct_rk sl p 8 = ct_rank sl p := by
  unfold ct_rank mp_S
  rw [ct_rk_s, ct_rk_s, ct_rk_s, ct_rk_s, ct_rk_s, ct_rk_s, ct_rk_s, ct_rk_s]
  show 0 + _ + _ + _ + _ + _ + _ + _ + _ = _
  rw [Nat.zero_add]
theorem ym_rank_l {F n p : Nat} {sl : Nat → Nat → Nat} {w : Nat → Int32} (hn : n ≤ 6) (hp : p < n) (hsl : ct_sl n sl) (hS : cm_S n sl w) : ∀ k i, i + k = 8 → ∀ fuel, k < fuel → sx_lp2 (bdX5_rank_4 F (nI p) w) fuel (nI (ct_rk sl p i)) (nI i) = some (nI (ct_rk sl p 8)) := by
  intro k
  induction k with
  | zero =>
    intro i hi fuel hf
    obtain ⟨f, rfl⟩ : ∃ f, fuel = f + 1 := ⟨fuel - 1, by omega⟩
    rw [sx_lp2_1, bdX5_rank_4, nm_8, if_pos (nI_leT (by omega) (by omega)), show i = 8 by omega]
  | succ k ih =>
    intro i hi fuel hf
    obtain ⟨f, rfl⟩ : ∃ f, fuel = f + 1 := ⟨fuel - 1, by omega⟩
    have hx := hsl p hp i (by omega)
    rw [sx_lp2_1, bdX5_rank_4, nm_8, if_neg (nI_nleI (by omega) (by omega)), ym_sealOf F w (by omega) (by omega), hS p hp i (by omega)]
    have h2 := ih (i + 1) (by omega) f (by omega)
    rw [ct_rk_s] at h2
    simp only [sx_c1, sx_lt, sx_nm, nI_1]
    by_cases h : sl p i ≤ 1
    · rw [if_pos h] at h2
      rw [if_pos ((cm_le0 (by omega)).mpr h), nm_0, nI_add]
      exact h2
    · rw [if_neg h] at h2
      rw [if_neg (fun q => h ((cm_le0 (by omega)).mp q))]
      exact h2
theorem ym_rank {F n p : Nat} {sl : Nat → Nat → Nat} {w : Nat → Int32} (hF : 1000 ≤ F) (hn : n ≤ 6) (hp : p < n) (hsl : ct_sl n sl) (hS : cm_S n sl w) : fnX5_rank F w (nI p) = some (nI (ct_rank sl p)) := by
  unfold fnX5_rank
  rw [← ct_rk_8]
  exact ym_rank_l hn hp hsl hS 8 0 (by omega) F (by omega)
/-- a set of things out of bits -/
def ct_bits (g : Nat → Nat) : Nat → Nat
  | 0 => 0
  | t + 1 => ct_bits g t + g t * 2 ^ t
theorem ct_bits_s (g : Nat → Nat) (t : Nat) : ct_bits g (t + 1) = ct_bits g t + g t * 2 ^ t := rfl
theorem ct_bits_lt {g : Nat → Nat} (hg : mp_B 2 g) : ∀ t, t ≤ 8 → ct_bits g t < 2 ^ t
  | 0, _ => Nat.zero_lt_one
  | t + 1, h => by
    have h1 := ct_bits_lt hg t (by omega)
    have h2 := hg t (by omega)
    rw [ct_bits_s, Nat.pow_succ]
    rcases (show g t = 0 ∨ g t = 1 by omega) with e | e <;> rw [e] <;> omega
theorem ym_things_l {F n p : Nat} {sl : Nat → Nat → Nat} {w : Nat → Int32} (o : Int32) (g : Nat → Nat) (hg : mp_B 2 g) (hgo : ∀ t, t < 8 → g t = if o = 0 then cx_kn sl p t else ct_op sl p t) (hn : n ≤ 6) (hp : p < n) (hsl : ct_sl n sl) (hS : cm_S n sl w) : ∀ k i, i + k = 8 → ∀ fuel, k < fuel → sx_lp2 (bdX5_things_5 F (nI p) o w) fuel (nI (ct_bits g i)) (nI i) = some (nI (ct_bits g 8)) := by
  intro k
  induction k with
  | zero =>
    intro i hi fuel hf
    obtain ⟨f, rfl⟩ : ∃ f, fuel = f + 1 := ⟨fuel - 1, by omega⟩
    rw [sx_lp2_1, bdX5_things_5, nm_8, if_pos (nI_leT (by omega) (by omega)), show i = 8 by omega]
  | succ k ih =>
    intro i hi fuel hf
    obtain ⟨f, rfl⟩ : ∃ f, fuel = f + 1 := ⟨fuel - 1, by omega⟩
    have hx := hsl p hp i (by omega)
    rw [sx_lp2_1, bdX5_things_5, nm_8, if_neg (nI_nleI (by omega) (by omega))]
    have h2 := ih (i + 1) (by omega) f (by omega)
    rw [ct_bits_s] at h2
    have hb := nm_or (b := g i) (ct_bits_lt hg i (by omega))
    have h1 : nI 1 <<< (nI i &&& 31) = nI (1 * 2 ^ i) := nm_shl (by omega) (by omega)
    have hgi := hgo i (by omega)
    simp only [sx_lt, sx_nm, nI_1]
    by_cases ho : o = 0
    · rw [if_pos ho] at hgi
      rw [if_pos ho, ym_knows F w (by omega) (by omega) (by omega) (hS p hp i (by omega))]
      simp only [sx_c1]
      by_cases z : sl p i = 0
      · rw [if_pos z, if_pos rfl]
        rw [show g i = 0 by rw [hgi]; simp [cx_kn, z]] at h2 hb
        rw [Nat.zero_mul] at hb h2
        rw [nm_0, hb]; exact h2
      · rw [if_neg z, if_neg (by decide)]
        rw [show g i = 1 by rw [hgi]; simp [cx_kn, z]] at h2 hb
        rw [nm_1, h1, hb]; exact h2
    · rw [if_neg ho] at hgi
      rw [if_neg ho, ym_sealOf F w (by omega) (by omega), hS p hp i (by omega)]
      simp only [sx_c1]
      by_cases z : sl p i = 1
      · rw [if_pos ((cm_z (by omega)).mpr z)]
        rw [show g i = 1 by rw [hgi]; simp [ct_op, z]] at h2 hb
        rw [nm_1, h1, hb]; exact h2
      · rw [if_neg (fun q => z ((cm_z (by omega)).mp q))]
        rw [show g i = 0 by rw [hgi]; simp [ct_op, z]] at h2 hb
        rw [Nat.zero_mul] at hb h2
        rw [nm_0, hb]; exact h2
theorem ym_things {F n p : Nat} {sl : Nat → Nat → Nat} {w : Nat → Int32} (o : Int32) (g : Nat → Nat) (hg : mp_B 2 g) (hgo : ∀ t, t < 8 → g t = if o = 0 then cx_kn sl p t else ct_op sl p t) (hF : 1000 ≤ F) (hn : n ≤ 6) (hp : p < n) (hsl : ct_sl n sl) (hS : cm_S n sl w) : fnX5_things F w (nI p) o = some (nI (ct_bits g 8)) := by
  unfold fnX5_things
  exact ym_things_l o g hg hgo hn hp hsl hS 8 0 (by omega) F (by omega)
