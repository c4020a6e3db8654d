-- THE CLASS'S COURT, on: sets, times, a day
/-- who knows a thing -/
def ct_who (sl : Nat → Nat → Nat) (t : Nat) : Nat → Nat
  | 0 => 0
  | k + 1 => ct_who sl t k + (if sl k t = 0 then 0 else 2 ^ k)
theorem ct_who_s (sl : Nat → Nat → Nat) (t k : Nat) : ct_who sl t (k + 1) = ct_who sl t k + (if sl k t = 0 then 0 else 2 ^ k) := rfl
theorem ct_who_lt (sl : Nat → Nat → Nat) (t : Nat) : ∀ k, ct_who sl t k < 2 ^ k
  | 0 => Nat.zero_lt_one
  | k + 1 => by
    have := ct_who_lt sl t k
    rw [ct_who_s, Nat.pow_succ]; split <;> omega
theorem nm_shl {b i : Nat} (hi : i < 31) (hb : b ≤ 1) : nI b <<< (nI i &&& 31) = nI (b * 2 ^ i) := by
  refine pk_shlN _ i (s_l i (by omega)) ?_
  have : 2 ^ i ≤ 2 ^ 30 := Nat.pow_le_pow_right (by omega) (by omega)
  rcases (show b = 0 ∨ b = 1 by omega) with rfl | rfl <;> omega
theorem nm_or {a b i : Nat} (ha : a < 2 ^ i) : nI a ||| nI (b * 2 ^ i) = nI (a + b * 2 ^ i) := by
  rw [fa_or, Nat.or_comm, Nat.mul_comm, ← Nat.two_pow_add_eq_or_of_lt ha, Nat.add_comm]
theorem ml_bit {f : Nat → Nat} (hf : mp_B 2 f) {t : Nat} (ht : t < 8) : (((lN (mp_P f)).toUInt64 >>> ((nI (8 * t)).toInt64.toUInt64 &&& Int64.toUInt64 63)).toInt64 &&& (1 : Int64)).toInt32 = nI (f t) := by
  rw [ml_shr (mp_lt (hf.mono (by omega))) (by omega), ml_1, ml_and, lN_i, Nat.and_one_is_mod]
  have h1 := mp_dig (hf.mono (b := 256) (by omega)) ht
  have h2 := hf t ht
  congr 1; omega
theorem xs_knowersOf_l {F n t : Nat} {sl : Nat → Nat → Nat} {a : Nat → Int64} (hn : n ≤ 6) (ht : t < 8) (ha : cx_L n (cx_kn sl) a) : ∀ k i, i + k = n → ∀ fuel, k < fuel → sx_lp2 (bdX0_knowersOf_4 F (nI t) a (nI n)) fuel (nI (ct_who sl t i)) (nI i) = some (nI (ct_who sl t n)) := by
  intro k
  induction k with
  | zero =>
    intro i hi fuel hf
    obtain ⟨f, rfl⟩ : ∃ f, fuel = f + 1 := ⟨fuel - 1, by omega⟩
    rw [sx_lp2_1, bdX0_knowersOf_4]
    rw [if_pos ((nI_leI (by omega) (by omega)).mpr (by omega)), show i = n by omega]
  | succ k ih =>
    intro i hi fuel hf
    obtain ⟨f, rfl⟩ : ∃ f, fuel = f + 1 := ⟨fuel - 1, by omega⟩
    rw [sx_lp2_1, bdX0_knowersOf_4]
    rw [if_neg (fun h => absurd ((nI_leI (by omega) (by omega)).mp h) (by omega)), sx_gd_e (nm_ib (by omega)), nI_clamp (by omega), ha i (by omega)]
    simp only [sx_nm]
    rw [ml_8, ml_bit (cx_kn_B sl i) ht, nm_shl (by omega) (by have := cx_kn_B sl i t ht; omega), nm_or (ct_who_lt sl t i), nI_1]
    have h2 := ih (i + 1) (by omega) f (by omega)
    rw [ct_who_s] at h2
    rw [← h2]
    congr 3
    unfold cx_kn; split <;> simp
theorem xs_knowersOf {F n t : Nat} {sl : Nat → Nat → Nat} {a : Nat → Int64} (hF : 1000 ≤ F) (hn : n ≤ 6) (ht : t < 8) (ha : cx_L n (cx_kn sl) a) : fnX0_knowersOf F a (nI n) (nI t) = some (nI (ct_who sl t n)) := by
  unfold fnX0_knowersOf
  exact xs_knowersOf_l hn ht ha n 0 (by omega) F (by omega)
/-- a thing is out -/
def ct_out (sl : Nat → Nat → Nat) (n t : Nat) : Bool := decide (0 < n) && decide (ct_who sl t n = 2 ^ n - 1)
theorem nm_1shl {n : Nat} (hn : n ≤ 6) : ((1 : Int32) <<< (nI n &&& 31)) - (1 : Int32) = nI (2 ^ n - 1) := by
  rw [show (1 : Int32) = nI 1 by decide +kernel, nm_shl (by omega) (by omega), Nat.one_mul, pk_sub (Nat.one_le_two_pow)]
theorem pw6 {n : Nat} (hn : n ≤ 6) : 2 ^ n ≤ 64 := by
  have : 2 ^ n ≤ 2 ^ 6 := Nat.pow_le_pow_right (by omega) hn
  simpa using this
theorem xs_isOut {F n t : Nat} {sl : Nat → Nat → Nat} {a : Nat → Int64} (hF : 1000 ≤ F) (hn : n ≤ 6) (ht : t < 8) (ha : cx_L n (cx_kn sl) a) : fnX0_isOut F a (nI n) (nI t) = some (if ct_out sl n t then 1 else 0) := by
  unfold fnX0_isOut ct_out
  have h9 := pw6 hn
  have h8 := ct_who_lt sl t n
  by_cases h : n = 0
  · subst h; rw [if_pos (by decide)]; rfl
  · rw [if_neg (nI_nle (by omega) (by omega)), xs_knowersOf hF hn ht ha]
    simp only [sx_c1]
    rw [nm_1shl hn]
    by_cases e : ct_who sl t n = 2 ^ n - 1
    · rw [if_pos (by rw [e]), if_pos (by simp [e]; omega)]
    · rw [if_neg (fun q => e ((nI_eq (by omega) (by omega)).mp q)), if_neg (by simp [e])]
def ct_outs (sl : Nat → Nat → Nat) (n : Nat) : Nat → Nat
  | 0 => 0
  | t + 1 => ct_outs sl n t + (if ct_out sl n t then 2 ^ t else 0)
theorem ct_outs_s (sl : Nat → Nat → Nat) (n t : Nat) : ct_outs sl n (t + 1) = ct_outs sl n t + (if ct_out sl n t then 2 ^ t else 0) := rfl
theorem ct_outs_lt (sl : Nat → Nat → Nat) (n : Nat) : ∀ t, ct_outs sl n t < 2 ^ t
  | 0 => Nat.zero_lt_one
  | t + 1 => by
    have := ct_outs_lt sl n t
    rw [ct_outs_s, Nat.pow_succ]; split <;> omega
theorem xs_thingsOut_l {F n : Nat} {sl : Nat → Nat → Nat} {a : Nat → Int64} (hF : 1000 ≤ F) (hn : n ≤ 6) (ha : cx_L n (cx_kn sl) a) : ∀ k i, i + k = 8 → ∀ fuel, k < fuel → sx_lp2 (bdX0_thingsOut_4 F a (nI n)) fuel (nI (ct_outs sl n i)) (nI i) = some (nI (ct_outs sl n 8)) := by
  intro k
  induction k with
  | zero =>
    intro i hi fuel hf
    obtain ⟨f, rfl⟩ : ∃ f, fuel = f + 1 := ⟨fuel - 1, by omega⟩
    rw [sx_lp2_1, bdX0_thingsOut_4, show (8 : Int32) = nI 8 by decide +kernel]
    rw [if_pos ((nI_leI (by omega) (by omega)).mpr (by omega)), show i = 8 by omega]
  | succ k ih =>
    intro i hi fuel hf
    obtain ⟨f, rfl⟩ : ∃ f, fuel = f + 1 := ⟨fuel - 1, by omega⟩
    rw [sx_lp2_1, bdX0_thingsOut_4, show (8 : Int32) = nI 8 by decide +kernel]
    rw [if_neg (fun h => absurd ((nI_leI (by omega) (by omega)).mp h) (by omega)), xs_isOut hF hn (by omega) ha]
    have h2 := ih (i + 1) (by omega) f (by omega)
    rw [ct_outs_s] at h2
    simp only [sx_c1, sx_lt, sx_nm, nI_1]
    have h3 := nm_or (b := 1) (ct_outs_lt sl n i)
    have h4 := nm_or (b := 0) (ct_outs_lt sl n i)
    rw [Nat.zero_mul, Nat.add_zero] at h4
    rw [Nat.one_mul] at h3
    by_cases h : ct_out sl n i = true
    · rw [if_pos h] at h2
      simp only [h, if_true]
      rw [if_neg (by decide), show (1 : Int32) = nI 1 by decide +kernel, nm_shl (by omega) (by omega), Nat.one_mul, h3]
      exact h2
    · rw [if_neg h] at h2
      simp only [h]
      rw [if_pos (by decide), show (0 : Int32) = nI 0 by decide +kernel, h4]
      exact h2
theorem xs_thingsOut {F n : Nat} {sl : Nat → Nat → Nat} {a : Nat → Int64} (hF : 1000 ≤ F) (hn : n ≤ 6) (ha : cx_L n (cx_kn sl) a) : fnX0_thingsOut F a (nI n) = some (nI (ct_outs sl n 8)) := by
  unfold fnX0_thingsOut
  exact xs_thingsOut_l hF hn ha 8 0 (by omega) F (by omega)
/-- a sum over persons and things -/
def ct_tm (g : Nat → Nat → Nat) : Nat → Nat
  | 0 => 0
  | k + 1 => ct_tm g k + mp_S (g k)
theorem ct_tm_s (g : Nat → Nat → Nat) (k : Nat) : ct_tm g (k + 1) = ct_tm g k + mp_S (g k) := rfl
theorem xs_timesKnown_l {F n : Nat} {sl : Nat → Nat → Nat} {a : Nat → Int64} (hn : n ≤ 6) (ha : cx_L n (cx_kn sl) a) : ∀ k i, i + k = n → ∀ fuel, k < fuel → sx_lp2 (bdX0_timesKnown_4 F a (nI n)) fuel (nI (ct_tm (cx_kn sl) i)) (nI i) = some (nI (ct_tm (cx_kn sl) n)) := by
  intro k
  induction k with
  | zero =>
    intro i hi fuel hf
    obtain ⟨f, rfl⟩ : ∃ f, fuel = f + 1 := ⟨fuel - 1, by omega⟩
    rw [sx_lp2_1, bdX0_timesKnown_4]
    rw [if_pos ((nI_leI (by omega) (by omega)).mpr (by omega)), show i = n by omega]
  | succ k ih =>
    intro i hi fuel hf
    obtain ⟨f, rfl⟩ : ∃ f, fuel = f + 1 := ⟨fuel - 1, by omega⟩
    rw [sx_lp2_1, bdX0_timesKnown_4]
    rw [if_neg (fun h => absurd ((nI_leI (by omega) (by omega)).mp h) (by omega)), sx_gd_e (nm_ib (by omega)), nI_clamp (by omega), ha i (by omega), xs_bitCount (cx_kn_B sl i)]
    have h2 := ih (i + 1) (by omega) f (by omega)
    rw [ct_tm_s] at h2
    simp only [sx_c1, sx_nm, nI_1, nI_add]
    exact h2
theorem xs_timesKnown {F n : Nat} {sl : Nat → Nat → Nat} {a : Nat → Int64} (hF : 1000 ≤ F) (hn : n ≤ 6) (ha : cx_L n (cx_kn sl) a) : fnX0_timesKnown F a (nI n) = some (nI (ct_tm (cx_kn sl) n)) := by
  unfold fnX0_timesKnown
  exact xs_timesKnown_l hn ha n 0 (by omega) F (by omega)
theorem xs_timesOpen_l {F n : Nat} {sl : Nat → Nat → Nat} {a b : Nat → Int64} (hn : n ≤ 6) (hsl : ct_sl n sl) (ha : cx_L n (cx_kn sl) a) (hb : cx_L n (cx_sg sl) b) : ∀ k i, i + k = n → ∀ fuel, k < fuel → sx_lp2 (bdX0_timesOpen_4 F a b (nI n)) fuel (nI (ct_tm (ct_op sl) i)) (nI i) = some (nI (ct_tm (ct_op sl) n)) := by
  intro k
  induction k with
  | zero =>
    intro i hi fuel hf
    obtain ⟨f, rfl⟩ : ∃ f, fuel = f + 1 := ⟨fuel - 1, by omega⟩
    rw [sx_lp2_1, bdX0_timesOpen_4]
    rw [if_pos ((nI_leI (by omega) (by omega)).mpr (by omega)), show i = n by omega]
  | succ k ih =>
    intro i hi fuel hf
    obtain ⟨f, rfl⟩ : ∃ f, fuel = f + 1 := ⟨fuel - 1, by omega⟩
    rw [sx_lp2_1, bdX0_timesOpen_4]
    rw [if_neg (fun h => absurd ((nI_leI (by omega) (by omega)).mp h) (by omega)), xs_openOf hn (by omega) hsl (ha i (by omega)) (hb i (by omega))]
    have h2 := ih (i + 1) (by omega) f (by omega)
    rw [ct_tm_s] at h2
    simp only [sx_c1]
    rw [xs_bitCount (ct_op_B sl i)]
    simp only [sx_nm, nI_1, nI_add]
    exact h2
theorem xs_timesOpen {F n : Nat} {sl : Nat → Nat → Nat} {a b : Nat → Int64} (hF : 1000 ≤ F) (hn : n ≤ 6) (hsl : ct_sl n sl) (ha : cx_L n (cx_kn sl) a) (hb : cx_L n (cx_sg sl) b) : fnX0_timesOpen F a b (nI n) = some (nI (ct_tm (ct_op sl) n)) := by
  unfold fnX0_timesOpen
  exact xs_timesOpen_l hn hsl ha hb n 0 (by omega) F (by omega)
theorem nm_nz {w : Nat} (h0 : 0 < w) (h : w < 2 ^ 31) : sx_nz (nI w) = true := by
  unfold sx_nz; exact decide_eq_true (nI_ne0 h0 h)
theorem xs_daysToRenewal {F week day : Nat} (hw : 2 ≤ week) (hw2 : week ≤ 30) (hd : day < 2 ^ 30) : fnX0_daysToRenewal F (nI week) (nI day) = some (nI (week - day % week)) := by
  unfold fnX0_daysToRenewal
  have := Nat.mod_lt day (show 0 < week by omega)
  rw [if_neg (nI_nle (by omega) (by omega)), sx_gd_e (nm_nz (by omega) (by omega)), pk_rem (by omega) (by omega) (by omega), pk_sub (by omega)]
/-- all seals of what is known are of this strength -/
def ct_rn (sl : Nat → Nat → Nat) (wax : Nat) : Nat → Nat → Nat := fun p t => if sl p t = 0 then 0 else wax + 1
theorem ct_rn_kn (sl : Nat → Nat → Nat) (wax p : Nat) : cx_kn (ct_rn sl wax) p = cx_kn sl p := by
  funext t; unfold cx_kn ct_rn; by_cases h : sl p t = 0 <;> simp [h]
theorem ct_rn_sl {n : Nat} (sl : Nat → Nat → Nat) {wax : Nat} (h : wax ≤ 9) : ct_sl n (ct_rn sl wax) := by
  intro p _ t _; unfold ct_rn; split <;> omega
theorem xs_renewAll_l {F n wax : Nat} {sl : Nat → Nat → Nat} {a : Nat → Int64} (hn : n ≤ 6) (hw : wax ≤ 9) (ha : cx_L n (cx_kn sl) a) : ∀ k i, i + k = n → ∀ fuel, k < fuel → ∀ b : Nat → Int64, cx_L i (cx_sg (ct_rn sl wax)) b → ∃ b', sx_lp2 (bdX0_renewAll_2 F a (nI n) (nI wax)) fuel (nI i) b = some b' ∧ cx_L n (cx_sg (ct_rn sl wax)) b' := by
  intro k
  induction k with
  | zero =>
    intro i hi fuel hf b hb
    obtain ⟨f, rfl⟩ : ∃ f, fuel = f + 1 := ⟨fuel - 1, by omega⟩
    rw [sx_lp2_1, bdX0_renewAll_2]
    rw [if_pos ((nI_leI (by omega) (by omega)).mpr (by omega))]
    exact ⟨b, rfl, by rw [show n = i by omega]; exact hb⟩
  | succ k ih =>
    intro i hi fuel hf b hb
    obtain ⟨f, rfl⟩ : ∃ f, fuel = f + 1 := ⟨fuel - 1, by omega⟩
    rw [sx_lp2_1, bdX0_renewAll_2]
    rw [if_neg (fun h => absurd ((nI_leI (by omega) (by omega)).mp h) (by omega)), sx_gd_e (nm_ib (by omega)), sx_gd_e (nm_ib (by omega)), nI_clamp (by omega), ha i (by omega)]
    simp only [sx_nm, nI_1]
    refine ih (i + 1) (by omega) f (by omega) _ ?_
    intro q hq
    by_cases e : q = i
    · subst e
      rw [up_same, nI_l (by omega), lN_mul, mp_mul]
      congr 1
      refine mp_cong (fun j hj => ?_)
      unfold cx_kn cx_sg ct_rn
      by_cases h : sl q j = 0 <;> simp [h]
    · rw [up_ne e]; exact hb q (by omega)
theorem xs_renewAll {F n wax : Nat} {sl : Nat → Nat → Nat} {a : Nat → Int64} (hF : 1000 ≤ F) (hn : n ≤ 6) (hw : wax ≤ 9) (ha : cx_L n (cx_kn sl) a) (b : Nat → Int64) : ∃ b', fnX0_renewAll F a b (nI n) (nI wax) = some b' ∧ cx_L n (cx_sg (ct_rn sl wax)) b' := by
  unfold fnX0_renewAll
  exact xs_renewAll_l hn hw ha n 0 (by omega) F (by omega) b (fun q hq => by omega)
/-- the draw goes on -/
def ct_dr (d : Nat) : Nat := (d * 1103515245 + 12345) % 2 ^ 31
theorem ct_dr_lt (d : Nat) : ct_dr d < 2 ^ 31 := Nat.mod_lt _ (by decide)
theorem xs_drawHeat {F d : Nat} : fnX0_drawHeat F (nI d) = some (nI (ct_dr d / 65536 % 10), nI (ct_dr d)) := by
  unfold fnX0_drawHeat
  have h1 := ct_dr_lt d
  have e : nI d * (1103515245 : Int32) + (12345 : Int32) &&& (2147483647 : Int32) = nI (ct_dr d) := by
    rw [show (1103515245 : Int32) = nI 1103515245 by decide +kernel, show (12345 : Int32) = nI 12345 by decide +kernel, show (2147483647 : Int32) = nI (2 ^ 31 - 1) by decide +kernel, pk_mul, nI_add, fa_mask]
    rfl
  rw [e, show (65536 : Int32) = nI 65536 by decide +kernel, show (10 : Int32) = nI 10 by decide +kernel, pk_div (by omega) (by omega) (by omega), pk_rem (by omega) (by omega) (by omega)]
/-- by how much a day weakens a seal -/
def ct_wk (k h day : Nat) : Nat := if k = 0 then h / 2 else if k = 1 then h / 2 + 1 else if k = 3 then (if day % 3 = 0 then 2 * (h / 2 + 1) else h / 2 + 1) else 0
theorem ct_wk_le {k h day : Nat} (hh : h ≤ 9) : ct_wk k h day ≤ 10 := by
  unfold ct_wk; split
  · omega
  · split
    · omega
    · split
      · split <;> omega
      · omega
theorem nm_2 : (2 : Int32) = nI 2 := by decide +kernel
theorem nm_3 : (3 : Int32) = nI 3 := by decide +kernel
theorem nm_4 : (4 : Int32) = nI 4 := by decide +kernel
theorem xs_weakening {F k h day : Nat} (hk : k ≤ 4) (hh : h ≤ 9) (hd : day < 2 ^ 30) : fnX4_weakening F (nI k) (nI h) (nI day) = some (nI (ct_wk k h day)) := by
  unfold fnX4_weakening ct_wk
  rw [nm_0, nm_1, nm_2, nm_3, pk_div (by omega) (by omega) (by omega), pk_rem (by omega) (by omega) (by omega)]
  have h3 := Nat.mod_lt day (show 0 < 3 by omega)
  rcases (show k = 0 ∨ k = 1 ∨ k = 2 ∨ k = 3 ∨ k = 4 by omega) with rfl | rfl | rfl | rfl | rfl
  · simp
  · rw [if_neg (by decide), if_pos rfl, nI_add]; simp
  · rw [if_neg (by decide), if_neg (by decide), if_pos rfl]; simp
  · rw [if_neg (by decide), if_neg (by decide), if_neg (by decide), if_pos rfl]
    by_cases e : day % 3 = 0
    · rw [if_pos (by rw [e]), nI_add, pk_mul]; simp [e]
    · rw [if_neg (fun q => e ((nI_eq (by omega) (by omega)).mp q)), nI_add]; simp [e]
  · rw [if_neg (by decide), if_neg (by decide), if_neg (by decide), if_neg (by decide)]; simp
theorem nb_or128 : ∀ x, x < 16 → x ||| 128 = x + 128 := by decide +kernel
theorem nb_wk : ∀ x, x < 16 → ∀ w, w < 11 → (x + 128 - w) &&& 128 = if w ≤ x then 128 else 0 := by decide +kernel
theorem nb_wk2 : ∀ x, x < 16 → ∀ w, w < 11 → (x + 128 - w) &&& ((if w ≤ x then 1 else 0) * 127) = x - w := by decide +kernel
theorem xs_weaker {F w : Nat} {f : Nat → Nat} (hf : mp_B 10 f) (hw : w ≤ 10) : fnX4_weaker F (lN (mp_P f)) (nI w) = some (lN (mp_P (fun t => f t - w))) := by
  unfold fnX4_weaker
  have hb : mp_B 256 (fun t => f t + 128 - w) := fun j hj => by have := hf j hj; show f j + 128 - w < 256; omega
  have e1 : lN (mp_P f) ||| (-9187201950435737472 : Int64) = lN (mp_P (fun t => f t + 128)) := by
    rw [ml_top, ml_or, mp_or (hf.mono (by omega)) (fun _ _ => by omega)]
    congr 1; exact mp_cong (fun j hj => nb_or128 _ (by have := hf j hj; omega))
  have e2 : (72340172838076673 : Int64) * (nI w).toInt64 = lN (mp_P (fun _ => w)) := by
    rw [ml_one, nI_l (by omega), lN_mul, mp_mul]
    congr 1; exact mp_cong (fun j hj => Nat.one_mul w)
  simp only [sx_nm]
  rw [e1, e2, lN_sub (mp_le (fun j hj => by omega)), mp_sub (fun j hj => by omega), ml_top, ml_and, mp_and hb (fun _ _ => by omega), show (7 : Int32) = nI 7 by decide +kernel, ml_shr (mp_lt (fun j hj => Nat.lt_of_le_of_lt Nat.and_le_left (hb j hj))) (by omega)]
  rw [mp_div (g := fun t => if w ≤ f t then 1 else 0) (by decide) (fun j hj => by
    rw [nb_wk _ (by have := hf j hj; omega) w (by omega)]; split <;> simp)]
  rw [ml_127, lN_mul, mp_mul, ml_and, mp_and hb (fun j hj => by show (if w ≤ f j then 1 else 0) * 127 < 256; split <;> omega)]
  congr 2
  exact mp_cong (fun j hj => nb_wk2 _ (by have := hf j hj; omega) w (by omega))
theorem xs_tells {F k : Nat} (hk : k ≤ 4) : fnX4_tells F (nI k) = some (if k = 2 ∨ k = 4 then 0 else 1) := by
  unfold fnX4_tells
  rcases (show k = 0 ∨ k = 1 ∨ k = 2 ∨ k = 3 ∨ k = 4 by omega) with rfl | rfl | rfl | rfl | rfl <;> decide +kernel
theorem xs_hears {F k : Nat} (hk : k ≤ 4) : fnX4_hears F (nI k) = some (if k = 4 then 0 else 1) := by
  unfold fnX4_hears
  rcases (show k = 0 ∨ k = 1 ∨ k = 2 ∨ k = 3 ∨ k = 4 by omega) with rfl | rfl | rfl | rfl | rfl <;> decide +kernel
