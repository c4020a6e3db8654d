-- THINGS OF A PERSON OF A TEXT
def tq_r (sl : Nat → Nat → Nat) (p v set : Nat) : Nat → Nat → Nat := fun q t => if q = p then (if set.testBit t = true then v else 0) else sl q t
theorem tq_r_0 (sl : Nat → Nat → Nat) (p v : Nat) : tq_r sl p v 0 = fun q t => if q = p then 0 else sl q t := by
  funext q t
  unfold tq_r
  rw [Nat.zero_testBit, if_neg (show ¬ false = true by decide)]
theorem tq_r_put (sl : Nat → Nat → Nat) (p v set t : Nat) : ct_put (tq_r sl p v set) p t v = tq_r sl p v (set ||| 2 ^ t) := by
  funext q j
  unfold ct_put tq_r
  by_cases e : q = p
  · rw [if_pos e, if_pos e, fb_bit_set]
    by_cases z : j = t
    · rw [if_pos ⟨e, z⟩, if_pos (by rw [decide_eq_true z, Bool.or_true])]
    · rw [if_neg (fun y => z y.2), decide_eq_false z, Bool.or_false]
  · rw [if_neg (fun y => e y.1), if_neg e, if_neg e]
theorem tq_r_sl {n v : Nat} {sl : Nat → Nat → Nat} (h : ct_sl n sl) (hv : v ≤ 10) (set : Nat) : ct_sl (n + 1) (tq_r sl n v set) := by
  intro q hq t ht
  unfold tq_r
  by_cases e : q = n
  · rw [if_pos e]; split <;> omega
  · rw [if_neg e]; exact h q (by omega) t ht
theorem or_pw : ∀ t, t < 8 → ∀ s, s < 256 → s < 2 ^ t → s ||| 2 ^ t = s + 2 ^ t := by decide +kernel
theorem bt_256 : ∀ x, x < 256 → ∀ p, p < 8 → ((nI x >>> (nI p &&& 31)) &&& (1 : Int32)) = if x.testBit p = true then 1 else 0 := by decide +kernel
theorem pw8 : ∀ t, t < 9 → 2 ^ t ≤ 256 := by decide +kernel
theorem th_x {tp : Nat → Nat} {n l i a : Nat} {f : Nat → Int32} (hf : tq_ok tp n f) (ha : a ≤ n) (hl : l ≤ 8) (hi : i ≤ l) (hz : ¬ (48 + l ≤ tq_c tp n a ∧ tq_c tp n a ≤ 55)) (p wx : Int32) (kn sg : Nat → Int64) (fu : Nat) : ∃ a', a' ≤ n ∧ tq_s tp n a' = tq_s tp n a ∧ sx_lp5 (bdX3_readThings_5 1000 p f (nI n) wx) (fu + 1) (nI l) (nI i) (nI a) kn sg = some (nI a', kn, sg) := by
  have hc := tq_c_lt hf a
  have hn := hf.1
  by_cases h8 : i = 8
  · refine ⟨a, ha, rfl, ?_⟩
    rw [sx_lp5_1, bdX3_readThings_5, nm_8, if_pos (nI_leT (by omega) (by omega))]
  · refine ⟨tq_s tp n a, tq_s_le ha, tq_id tp n a, ?_⟩
    rw [sx_lp5_1, bdX3_readThings_5, nm_8, if_neg (nI_nleI (by omega) (by omega)), xp hf ha]
    simp only [sx_c2]
    rw [xs_within, i7, nI_toInt (show l < 2 ^ 31 by omega)]
    simp only [sx_c1, if1]
    rw [if_pos (fun q => hz (by have := (rgS (lo := (l : Int)) (hi := 7) hc).mp q; omega))]
theorem th_y {tp : Nat → Nat} {n l a set : Nat} {g : Nat → Int32} (hg : tq_ok tp n g) (hl : l ≤ 8) (hs : set < 2 ^ l) (hs2 : 0 < l → 2 ^ (l - 1) ≤ set) (hz : ¬ (48 + l ≤ tq_c tp n a ∧ tq_c tp n a ≤ 55)) (kf : Int32 → Int32 → Option (Int32 × Int32 × Int32 × (Nat → Int32))) (pl : Int32) (fu : Nat) : sx_lp3 (bdX5_readPersons_145 1000 g (nI n) kf) (fu + 1) (nI set) (nI (tq_c tp n a) - 48) pl = kf (nI set) pl := by
  have hc := tq_c_lt hg a
  have hp := pw8 l (by omega)
  rw [sx_lp3_1, bdX5_readPersons_145, ym_isThing]
  simp only [sx_c1, if1]
  by_cases q : rg (nI (tq_c tp n a) - 48) 0 7 = true
  · have h1 := (rgS hc).mp q
    rw [if_neg (not_not_intro q), nm_48, pk_sub (by omega), nm_1, nm_shl (show tq_c tp n a - 48 < 31 by omega) (by omega), Nat.one_mul]
    have h2 : tq_c tp n a - 48 ≤ l - 1 := by omega
    have h3 := hs2 (by omega)
    have h4 : 2 ^ (tq_c tp n a - 48) ≤ 2 ^ (l - 1) := Nat.pow_le_pow_right (by omega) h2
    rw [if_pos (nI_leT (by omega) (by omega))]
  · rw [if_pos q]
theorem th_all {tp : Nat → Nat} {n m wx : Nat} {f g : Nat → Int32} {sl : Nat → Nat → Nat} (hf : tq_ok tp n f) (hg : tq_ok tp n g) (hm : m < 6) (hwx : wx ≤ 9) (hsl : ct_sl m sl) : ∀ k l i set a, 8 ≤ l + k → i ≤ l → l ≤ 8 → set < 2 ^ l → (0 < l → 2 ^ (l - 1) ≤ set) → a ≤ n → ∀ fx fy, k < fx → k < fy → ∀ kn sg, cx_L (m + 1) (cx_kn (tq_r sl m (wx + 1) set)) kn → cx_L (m + 1) (cx_sg (tq_r sl m (wx + 1) set)) sg → ∃ a' set' kn' sg', a' ≤ n ∧ set' < 256 ∧ sx_lp5 (bdX3_readThings_5 1000 (nI m) f (nI n) (nI wx)) fx (nI l) (nI i) (nI a) kn sg = some (nI a', kn', sg') ∧ (∀ kf, sx_lp3 (bdX5_readPersons_145 1000 g (nI n) kf) fy (nI set) (nI (tq_c tp n a) - 48) (nI (tq_s tp n a)) = kf (nI set') (nI (tq_s tp n a'))) ∧ cx_L (m + 1) (cx_kn (tq_r sl m (wx + 1) set')) kn' ∧ cx_L (m + 1) (cx_sg (tq_r sl m (wx + 1) set')) sg' := by
  have hn := hf.1
  intro k
  induction k with
  | zero =>
    intro l i set a hk hi hl hs hs2 ha fx fy hfx hfy kn sg hkn hsg
    obtain ⟨ux, rfl⟩ : ∃ g, fx = g + 1 := ⟨fx - 1, by omega⟩
    obtain ⟨uy, rfl⟩ : ∃ g, fy = g + 1 := ⟨fy - 1, by omega⟩
    have hz : ¬ (48 + l ≤ tq_c tp n a ∧ tq_c tp n a ≤ 55) := by omega
    have hp := pw8 l (by omega)
    obtain ⟨a', h1, h2, h3⟩ := th_x hf ha hl hi hz (nI m) (nI wx) kn sg ux
    exact ⟨a', set, kn, sg, h1, by omega, h3, fun kf => by rw [th_y hg hl hs hs2 hz, h2], hkn, hsg⟩
  | succ k ih =>
    intro l i set a hk hi hl hs hs2 ha fx fy hfx hfy kn sg hkn hsg
    obtain ⟨ux, rfl⟩ : ∃ g, fx = g + 1 := ⟨fx - 1, by omega⟩
    obtain ⟨uy, rfl⟩ : ∃ g, fy = g + 1 := ⟨fy - 1, by omega⟩
    have hp := pw8 l (by omega)
    by_cases hz : 48 + l ≤ tq_c tp n a ∧ tq_c tp n a ≤ 55
    · have hc := tq_c_lt hf a
      have hin := tq_in (tp := tp) (n := n) (a := a) (by omega)
      obtain ⟨t, ht⟩ : ∃ t, tq_c tp n a = 48 + t := ⟨tq_c tp n a - 48, by omega⟩
      have hpt : 2 ^ l ≤ 2 ^ t := Nat.pow_le_pow_right (by omega) (by omega)
      have hor := or_pw t (by omega) set (by omega) (by omega)
      have hpt2 : 2 ^ (t + 1) = 2 ^ t * 2 := Nat.pow_succ 2 t
      have h48 : nI (tq_c tp n a) - (48 : Int32) = nI t := by rw [ht, nm_48, pk_sub (by omega), show 48 + t - 48 = t by omega]
      obtain ⟨kn1, sg1, e1, hk1, hs1⟩ := xs_learn (F := 1000) (n := m + 1) (p := m) (t := t) (v := wx) (by omega) (by omega) (by omega) hwx (tq_r_sl hsl (by omega) set) hkn hsg
      rw [tq_r_put] at hk1 hs1
      obtain ⟨a', set', kn', sg', q1, q2, q3, q4, q5, q6⟩ := ih (t + 1) (i + 1) (set ||| 2 ^ t) (tq_s tp n a + 1) (by omega) (by omega) (by omega) (by rw [hor]; omega) (fun _ => by rw [hor, show t + 1 - 1 = t by omega]; omega) (by omega) ux uy (by omega) (by omega) kn1 sg1 hk1 hs1
      refine ⟨a', set', kn', sg', q1, q2, ?_, fun kf => ?_, q5, q6⟩
      · rw [sx_lp5_1, bdX3_readThings_5, nm_8, if_neg (nI_nleI (by omega) (by omega)), xp hf ha]
        simp only [sx_c2]
        rw [xs_within, i7, nI_toInt (show l < 2 ^ 31 by omega)]
        simp only [sx_c1, if1]
        rw [if_neg (not_not_intro ((rgS (lo := (l : Int)) (hi := 7) hc).mpr (by omega))), xp hf (Nat.le_of_lt hin), tq_c_id, tq_id]
        simp only [sx_nm]
        rw [h48, e1]
        simp only []
        rw [nI_1, nI_1, nI_1]
        exact q3
      · rw [sx_lp3_1, bdX5_readPersons_145, ym_isThing]
        simp only [sx_c1, if1]
        rw [if_neg (not_not_intro ((rgS hc).mpr (by omega))), h48, nm_1, nm_shl (show t < 31 by omega) (by omega), Nat.one_mul, if_neg (nI_nleI (by omega) (by have := pw8 t (by omega); omega))]
        simp only [sx_nm]
        rw [fa_or, ← nm_1, nI_1, yp hg (by omega)]
        simp only [sx_c2]
        exact q4 kf
    · obtain ⟨a', h1, h2, h3⟩ := th_x hf ha hl hi hz (nI m) (nI wx) kn sg ux
      exact ⟨a', set, kn, sg, h1, by omega, h3, fun kf => by rw [th_y hg hl hs hs2 hz, h2], hkn, hsg⟩
