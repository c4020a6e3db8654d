-- THE COURT, in numbers: n persons, kinds kd, seats st (who sits in a place), sl p t: 0 not known, else 1 + strength
def ct_st (n : Nat) (st : Nat → Nat) : Prop := (∀ i, i < n → st i < n) ∧ ∀ i j, i < n → j < n → st i = st j → i = j
def ct_sl (n : Nat) (sl : Nat → Nat → Nat) : Prop := ∀ p, p < n → ∀ t, t < 8 → sl p t ≤ 10
/-- the place of a person -/
def ct_pl (st : Nat → Nat) (p : Nat) : Nat → Nat
  | 0 => 0
  | k + 1 => if st k = p then k else ct_pl st p k
theorem ct_pl_s (st : Nat → Nat) (p k : Nat) : ct_pl st p (k + 1) = if st k = p then k else ct_pl st p k := rfl
theorem ct_pl_le (st : Nat → Nat) (p : Nat) : ∀ k, ct_pl st p k ≤ k
  | 0 => Nat.le_refl 0
  | k + 1 => by
    have := ct_pl_le st p k
    unfold ct_pl; split <;> omega
theorem ct_pl_at {n : Nat} {st : Nat → Nat} (h : ct_st n st) {i : Nat} (hi : i < n) : ct_pl st (st i) n = i := by
  have key : ∀ k, k ≤ n → i < k → ct_pl st (st i) k = i := by
    intro k
    induction k with
    | zero => intro _ h; omega
    | succ k ih =>
      intro hk hik
      unfold ct_pl
      by_cases e : st k = st i
      · rw [if_pos e]; exact h.2 k i (by omega) hi e
      · rw [if_neg e]
        exact ih (by omega) (by rcases Nat.lt_or_ge i k with q | q; exact q; exact absurd (by rw [show k = i by omega]) e)
  exact key n (Nat.le_refl n) hi
theorem ct_onto {n : Nat} {st : Nat → Nat} (h : ct_st n st) {p : Nat} (hp : p < n) : ∃ i, i < n ∧ st i = p :=
  fb_onto h.1 (fun i j hij hj e => by have := h.2 i j (by omega) hj e; omega) hp
theorem ct_pl_lt {n : Nat} {st : Nat → Nat} (h : ct_st n st) {p : Nat} (hp : p < n) : ct_pl st p n < n ∧ st (ct_pl st p n) = p := by
  obtain ⟨i, hi, rfl⟩ := ct_onto h hp
  rw [ct_pl_at h hi]; exact ⟨hi, rfl⟩
-- the class's arrays
def cx_St (n : Nat) (st : Nat → Nat) (a : Nat → Int32) : Prop := ∀ i, i < n → a i = nI (st i)
def cx_kn (sl : Nat → Nat → Nat) (p : Nat) : Nat → Nat := fun t => if sl p t = 0 then 0 else 1
def cx_sg (sl : Nat → Nat → Nat) (p : Nat) : Nat → Nat := fun t => sl p t - 1
def cx_L (n : Nat) (g : Nat → Nat → Nat) (a : Nat → Int64) : Prop := ∀ p, p < n → a p = lN (mp_P (g p))
theorem cx_kn_B (sl : Nat → Nat → Nat) (p : Nat) : mp_B 2 (cx_kn sl p) := by
  intro t _; unfold cx_kn; split <;> omega
theorem cx_sg_B {n : Nat} {sl : Nat → Nat → Nat} (h : ct_sl n sl) {p : Nat} (hp : p < n) : mp_B 10 (cx_sg sl p) := by
  intro t ht; have := h p hp t ht; unfold cx_sg; omega
theorem nm_ib {i n : Nat} (h : i < n) (hn : n < 2 ^ 31 := by omega) : sx_ib (nI i) n = true := by
  unfold sx_ib; rw [nI_toInt (by omega)]; simp; omega
theorem nm_0 : (0 : Int32) = nI 0 := by decide +kernel
theorem nm_1 : (1 : Int32) = nI 1 := by decide +kernel
theorem nm_lt1 (n : Nat) : (OfNat.ofNat n : Int32) = nI n := fa_lit n
-- seats
theorem xs_placeOf_l {F n p : Nat} {st : Nat → Nat} {a : Nat → Int32} (hn : n ≤ 6) (hs : cx_St n st a) (hst : ct_st n st) (hp : p < n) : ∀ k i, i + k = n → ∀ fuel, k < fuel → sx_lp2 (bdX0_placeOf_4 F (nI p) a (nI n)) fuel (nI (ct_pl st p i)) (nI i) = some (nI (ct_pl st p n)) := by
  intro k
  induction k with
  | zero =>
    intro i hi fuel hf
    obtain ⟨f, rfl⟩ : ∃ f, fuel = f + 1 := ⟨fuel - 1, by omega⟩
    rw [sx_lp2_1, bdX0_placeOf_4]
    rw [if_pos ((nI_leI (by omega) (by omega)).mpr (by omega)), show i = n by omega]
  | succ k ih =>
    intro i hi fuel hf
    obtain ⟨f, rfl⟩ : ∃ f, fuel = f + 1 := ⟨fuel - 1, by omega⟩
    rw [sx_lp2_1, bdX0_placeOf_4]
    rw [if_neg (fun h => absurd ((nI_leI (by omega) (by omega)).mp h) (by omega)), sx_gd_e (nm_ib (by omega)), nI_clamp (by omega), hs i (by omega)]
    have h1 := hst.1 i (by omega)
    have h2 := ih (i + 1) (by omega) f (by omega)
    rw [ct_pl_s] at h2
    simp only [sx_lt, sx_nm]
    rw [nI_1]
    by_cases e : st i = p
    · rw [if_pos e] at h2
      rw [if_pos (by rw [e])]; exact h2
    · rw [if_neg e] at h2
      rw [if_neg (fun h => e ((nI_eq (by omega) (by omega)).mp h))]; exact h2
theorem xs_placeOf {F n p : Nat} {st : Nat → Nat} {a : Nat → Int32} (hF : 1000 ≤ F) (hn : n ≤ 6) (hs : cx_St n st a) (hst : ct_st n st) (hp : p < n) : fnX0_placeOf F a (nI n) (nI p) = some (nI (ct_pl st p n)) := by
  unfold fnX0_placeOf
  exact xs_placeOf_l hn hs hst hp n 0 (by omega) F (by omega)
/-- who sits so many places behind -/
def ct_by (n : Nat) (st : Nat → Nat) (p k : Nat) : Nat := st ((ct_pl st p n + k) % n)
theorem xs_around {F n i : Nat} (hn : n ≤ 6) (h0 : 0 < n) (hi : i < 2 * n) : fnX0_around F (nI n) (nI i) = some (nI (i % n)) := by
  unfold fnX0_around
  by_cases h : i < n
  · rw [if_pos ((nI_ltI (by omega) (by omega)).mpr h), Nat.mod_eq_of_lt h]
  · rw [if_neg (fun q => h ((nI_ltI (by omega) (by omega)).mp q)), pk_sub (by omega)]
    rw [Nat.mod_eq_sub_mod (by omega), Nat.mod_eq_of_lt (by omega)]
theorem xs_beside {F n p k : Nat} {st : Nat → Nat} {a : Nat → Int32} (hF : 1000 ≤ F) (hn : n ≤ 6) (hs : cx_St n st a) (hst : ct_st n st) (hp : p < n) (hk : k ≤ n) : fnX0_beside F a (nI n) (nI p) (nI k) = some (nI (ct_by n st p k)) := by
  unfold fnX0_beside
  have h1 := (ct_pl_lt hst hp).1
  have h2 : (ct_pl st p n + k) % n < n := Nat.mod_lt _ (by omega)
  rw [xs_placeOf hF hn hs hst hp]
  simp only [sx_c1]
  rw [nI_add, xs_around hn (by omega) (by omega)]
  simp only []
  rw [sx_gd_e (nm_ib (by omega)), nI_clamp (by omega), hs _ h2]
  rfl
