-- TABLE
def om : Nat → Nat
  | 0 => 1
  | 1 => 1
  | 2 => 1
  | 3 => 2
  | 4 => 6
  | 5 => 24
  | _ => 120
def oL : Nat → List Nat
  | 0 => [181896]
  | 1 => [181896]
  | 2 => [181896]
  | 3 => [181896, 181840]
  | 4 => [181896, 181448, 181840, 180944, 181336, 180888]
  | 5 => [181896, 178312, 181448, 174280, 177416, 173832, 181840, 178256, 180944, 170192, 176912, 169744, 181336, 174168, 180888, 170136, 172824, 169240, 177248, 173664, 176800, 169632, 172768, 169184]
  | _ => [181896, 153224, 178312, 120968, 146056, 117384, 181448, 152776, 174280, 88264, 142024, 84680, 177416, 120072, 173832, 87816, 109320, 80648, 144712, 116040, 141128, 83784, 108872, 80200, 181840, 153168, 178256, 120912, 146000, 117328, 180944, 152272, 170192, 55504, 137936, 51920, 176912, 119568, 169744, 55056, 105232, 47888, 144208, 115536, 137040, 51024, 104784, 47440, 181336, 152664, 174168, 88152, 141912, 84568, 180888, 152216, 170136, 55448, 137880, 51864, 172824, 86808, 169240, 54552, 72472, 43800, 140120, 82776, 136536, 50520, 72024, 43352, 177248, 119904, 173664, 87648, 109152, 80480, 176800, 119456, 169632, 54944, 105120, 47776, 172768, 86752, 169184, 54496, 72416, 43744, 107360, 78688, 103776, 46432, 71520, 42848, 144488, 115816, 140904, 83560, 108648, 79976, 144040, 115368, 136872, 50856, 104616, 47272, 140008, 82664, 136424, 50408, 71912, 43240, 107304, 78632, 103720, 46376, 71464, 42792]
def oN (n k : Nat) : Nat := (oL n).getD k 0
def od (n k i : Nat) : Nat := oN n k / 8 ^ i % 8
theorem od_st : ∀ n, n < 7 → ∀ k, k < om n → (∀ i, i < n → od n k i < n) ∧ ∀ i, i < n → ∀ j, j < n → od n k i = od n k j → i = j := by decide +kernel
theorem od_6 : ∀ n, n < 7 → ∀ k, k < om n → ∀ i, i < 6 → od n k i < 6 := by decide +kernel
theorem od_0 : ∀ n, n < 7 → ∀ i, i < 6 → od n 0 i = i := by decide +kernel
theorem od_z : ∀ n, n < 7 → 0 < n → ∀ k, k < om n → od n k 0 = 0 := by decide +kernel
theorem om_p : ∀ n, n < 7 → 0 < om n ∧ om n ≤ 120 := by decide +kernel
theorem om_s : ∀ i, i < 6 → 2 ≤ i → om (i + 1) = om i * i := by decide +kernel
theorem om_l : ∀ i, i < 3 → om i = 1 := by decide +kernel
theorem od_ct {n k : Nat} (hn : n ≤ 6) (hk : k < om n) : ct_st n (od n k) := by
  obtain ⟨h1, h2⟩ := od_st n (by omega) k hk
  exact ⟨h1, fun i j hi hj e => h2 i hi j hj e⟩
theorem sx_lt_e {κ β : Type} (k : κ) (f : κ → β) : sx_lt k f = f k := rfl
def oB (n k : Nat) : Nat → Int32 := fun i => nI (od n k i)
def eq6 (f g : Nat → Int32) : Prop := ∀ i, i < 6 → f i = g i
theorem ib6 {a : Int32} (h : sx_ib a 6 = true) : a.toNatClampNeg < 6 := by
  have h2 := of_decide_eq_true h
  show a.toInt.toNat < 6
  omega
theorem sw_cong {F : Nat} {f g f' : Nat → Int32} {a b : Int32} (h : eq6 f g) (e : fnX4_swapInOrder F f a b = some f') : ∃ g', fnX4_swapInOrder F g a b = some g' ∧ eq6 f' g' := by
  unfold fnX4_swapInOrder at e ⊢
  simp only [sx_nm] at e ⊢
  obtain ⟨g1, e⟩ := sx_gd_s e
  obtain ⟨g2, e⟩ := sx_gd_s e
  obtain ⟨-, e⟩ := sx_gd_s e
  obtain ⟨-, e⟩ := sx_gd_s e
  have e := sx_o1 e
  rw [sx_gd_e g1, sx_gd_e g2, sx_gd_e g1, sx_gd_e g2]
  refine ⟨_, rfl, fun i hi => ?_⟩
  rw [← e]
  by_cases q : i = b.toNatClampNeg
  · rw [q, pu_same, pu_same]; exact h _ (ib6 g1)
  · rw [pu_ne q, pu_ne q]
    by_cases q2 : i = a.toNatClampNeg
    · rw [q2, pu_same, pu_same]; exact h _ (ib6 g2)
    · rw [pu_ne q2, pu_ne q2]; exact h i hi
theorem n4_cong {F : Nat} {f g : Nat → Int32} (h : eq6 f g) {kf kg : Int32 → Option (Int32 × (Nat → Int32))} (hk : ∀ x r f', kf x = some (r, f') → ∃ g', kg x = some (r, g') ∧ eq6 f' g') : ∀ fuel x r f', sx_lp1 (bdX4_turnToNextOrder_4 F f kf) fuel x = some (r, f') → ∃ g', sx_lp1 (bdX4_turnToNextOrder_4 F g kg) fuel x = some (r, g') ∧ eq6 f' g' := by
  intro fuel
  induction fuel with
  | zero => intro x r f' e; exact (sx_lp1_0 e).elim
  | succ k ih =>
    intro x r f' e
    rw [sx_lp1_1, bdX4_turnToNextOrder_4] at e ⊢
    by_cases c : x < (1 : Int32)
    · rw [if_pos c] at e ⊢; exact hk _ _ _ e
    · rw [if_neg c] at e ⊢
      obtain ⟨g1, e⟩ := sx_gd_s e
      obtain ⟨g2, e⟩ := sx_gd_s e
      rw [sx_gd_e g1, sx_gd_e g2, ← h _ (ib6 g1), ← h _ (ib6 g2)]
      by_cases c2 : f x.toNatClampNeg ≤ f (x + (1 : Int32)).toNatClampNeg
      · rw [if_pos c2] at e ⊢; exact hk _ _ _ e
      · rw [if_neg c2] at e ⊢; exact ih _ _ _ e
theorem n43_cong {F : Nat} {f g : Nat → Int32} (h : eq6 f g) {y : Int32} {kf kg : Int32 → Option (Int32 × (Nat → Int32))} (hk : ∀ x r f', kf x = some (r, f') → ∃ g', kg x = some (r, g') ∧ eq6 f' g') : ∀ fuel x r f', sx_lp1 (bdX4_turnToNextOrder_43 F y f kf) fuel x = some (r, f') → ∃ g', sx_lp1 (bdX4_turnToNextOrder_43 F y g kg) fuel x = some (r, g') ∧ eq6 f' g' := by
  intro fuel
  induction fuel with
  | zero => intro x r f' e; exact (sx_lp1_0 e).elim
  | succ k ih =>
    intro x r f' e
    rw [sx_lp1_1, bdX4_turnToNextOrder_43] at e ⊢
    by_cases c : x ≤ y
    · rw [if_pos c] at e ⊢; exact hk _ _ _ e
    · rw [if_neg c] at e ⊢
      obtain ⟨g1, e⟩ := sx_gd_s e
      obtain ⟨g2, e⟩ := sx_gd_s e
      rw [sx_gd_e g1, sx_gd_e g2, ← h _ (ib6 g1), ← h _ (ib6 g2)]
      by_cases c2 : f y.toNatClampNeg ≤ f x.toNatClampNeg
      · rw [if_pos c2] at e ⊢; exact hk _ _ _ e
      · rw [if_neg c2] at e ⊢; exact ih _ _ _ e
theorem n85_cong {F : Nat} : ∀ fuel x y (f g : Nat → Int32) r f', eq6 f g → sx_lp3 (bdX4_turnToNextOrder_85 F) fuel x y f = some (r, f') → ∃ g', sx_lp3 (bdX4_turnToNextOrder_85 F) fuel x y g = some (r, g') ∧ eq6 f' g' := by
  intro fuel
  induction fuel with
  | zero => intro x y f g r f' h e; exact (sx_lp3_0 e).elim
  | succ k ih =>
    intro x y f g r f' h e
    rw [sx_lp3_1, bdX4_turnToNextOrder_85] at e ⊢
    by_cases c : y ≤ x
    · rw [if_pos c] at e ⊢
      obtain ⟨e1, e2⟩ := sx_o2 e
      exact ⟨g, by rw [e1], by rw [← e2]; exact h⟩
    · rw [if_neg c] at e ⊢
      cases z : fnX4_swapInOrder F f x y with
      | none => rw [z] at e; cases e
      | some f2 =>
        obtain ⟨g2, z2, h2⟩ := sw_cong h z
        rw [z] at e
        rw [z2]
        exact ih _ _ _ _ _ _ h2 e
theorem nx_cong {F : Nat} {f g : Nat → Int32} (h : eq6 f g) {n r : Int32} {f' : Nat → Int32} (e : fnX4_turnToNextOrder F f n = some (r, f')) : ∃ g', fnX4_turnToNextOrder F g n = some (r, g') ∧ eq6 f' g' := by
  unfold fnX4_turnToNextOrder at e ⊢
  simp only [sx_nm, sx_lt] at e ⊢
  refine n4_cong h (fun x r f' e => ?_) _ _ _ _ e
  by_cases c : (1 : Int32) ≤ x
  · rw [if_pos c] at e ⊢
    refine n43_cong h (fun y r f' e => ?_) _ _ _ _ e
    cases z : fnX4_swapInOrder F f x y with
    | none => rw [z] at e; cases e
    | some f2 =>
      obtain ⟨g2, z2, h2⟩ := sw_cong h z
      rw [z] at e
      rw [z2]
      exact n85_cong _ _ _ _ _ _ _ h2 e
  · rw [if_neg c] at e ⊢
    obtain ⟨e1, e2⟩ := sx_o2 e
    exact ⟨g, by rw [e1], by rw [← e2]; exact h⟩
def nx_ck (n k : Nat) : Bool := match fnX4_turnToNextOrder 1000 (oB n k) (nI n) with
  | none => false
  | some (r, f) => if k + 1 < om n then decide (r = 1) && decide (f 0 = oB n (k + 1) 0) && decide (f 1 = oB n (k + 1) 1) && decide (f 2 = oB n (k + 1) 2) && decide (f 3 = oB n (k + 1) 3) && decide (f 4 = oB n (k + 1) 4) && decide (f 5 = oB n (k + 1) 5) else decide (r = 0)
theorem nx_all : ∀ n, n < 7 → ∀ k, k < om n → nx_ck n k = true := by decide +kernel
theorem xs_next {n k : Nat} {f : Nat → Int32} (hn : n ≤ 6) (hk : k < om n) (h : eq6 (oB n k) f) : ∃ r f', fnX4_turnToNextOrder 1000 f (nI n) = some (r, f') ∧ (k + 1 < om n → r = 1 ∧ eq6 (oB n (k + 1)) f') ∧ (¬ k + 1 < om n → r = 0) := by
  have hc := nx_all n (by omega) k hk
  unfold nx_ck at hc
  cases z : fnX4_turnToNextOrder 1000 (oB n k) (nI n) with
  | none => rw [z] at hc; cases hc
  | some v =>
    obtain ⟨r, f2⟩ := v
    rw [z] at hc
    obtain ⟨f', e, h2⟩ := nx_cong h z
    refine ⟨r, f', e, fun q => ?_, fun q => ?_⟩
    · simp only [if_pos q, Bool.and_eq_true, decide_eq_true_eq] at hc
      obtain ⟨⟨⟨⟨⟨⟨k1, k2⟩, k3⟩, k4⟩, k5⟩, k6⟩, k7⟩ := hc
      refine ⟨k1, fun i hi => ?_⟩
      rw [← h2 i hi]
      rcases (show i = 0 ∨ i = 1 ∨ i = 2 ∨ i = 3 ∨ i = 4 ∨ i = 5 by omega) with rfl | rfl | rfl | rfl | rfl | rfl
      · exact k2.symm
      · exact k3.symm
      · exact k4.symm
      · exact k5.symm
      · exact k6.symm
      · exact k7.symm
    · simp only [if_neg q, decide_eq_true_eq] at hc
      exact hc
def sU (n k : Nat) : Nat → Nat × Nat × Nat
  | 0 => (2 ^ n - 2, om n, k)
  | j + 1 => ((sU n k j).1 - 2 ^ od n k (j + 1), (sU n k j).2.1 / (n - (j + 1)), (sU n k j).2.2 % ((sU n k j).2.1 / (n - (j + 1))))
theorem sU_all : ∀ n, n < 7 → ∀ k, k < om n → ∀ j, j < n - 1 → sx_nz (nI n - nI (j + 1)) = true ∧ nI (sU n k j).2.1 / (nI n - nI (j + 1)) = nI (sU n k (j + 1)).2.1 ∧ sx_nz (nI (sU n k (j + 1)).2.1) = true ∧ fnX5_pick 1000 (nI (sU n k j).1) (nI (sU n k j).2.2 / nI (sU n k (j + 1)).2.1) = some (nI (od n k (j + 1))) ∧ nI (sU n k j).2.2 - nI (sU n k j).2.2 / nI (sU n k (j + 1)).2.1 * nI (sU n k (j + 1)).2.1 = nI (sU n k (j + 1)).2.2 ∧ nI (sU n k j).1 &&& (((1 : Int32) <<< (nI (od n k (j + 1)) &&& 31)) ^^^ (-1 : Int32)) = nI (sU n k (j + 1)).1 := by decide +kernel
theorem sU_0 : ∀ n, n < 7 → 0 < n → ((1 : Int32) <<< (nI n &&& 31)) - (2 : Int32) = nI (2 ^ n - 2) := by decide +kernel
theorem ys_l {n o : Nat} (hn : n ≤ 6) (ho : o < om n) : ∀ k j, j + k + 1 = n → ∀ fuel, k < fuel → ∀ w : Nat → Int32, (∀ i, i ≤ j → w (11 + i) = nI (od n o i)) → ∃ w', sx_lp5 (bdX5_sits_31 1000 (nI n)) fuel (nI (sU n o j).1) (nI (sU n o j).2.1) (nI (sU n o j).2.2) (nI (j + 1)) w = some w' ∧ (∀ i, i < n → w' (11 + i) = nI (od n o i)) ∧ ∀ i, (i < 11 ∨ 17 ≤ i) → w' i = w i := by
  intro k
  induction k with
  | zero =>
    intro j hj fuel hf w hw
    obtain ⟨f, rfl⟩ : ∃ f, fuel = f + 1 := ⟨fuel - 1, by omega⟩
    rw [sx_lp5_1, bdX5_sits_31, if_pos (nI_leT (by omega) (by omega))]
    exact ⟨w, rfl, fun i hi => hw i (by omega), fun i _ => rfl⟩
  | succ k ih =>
    intro j hj fuel hf w hw
    obtain ⟨f, rfl⟩ : ∃ f, fuel = f + 1 := ⟨fuel - 1, by omega⟩
    obtain ⟨q1, q2, q3, q4, q5, q6⟩ := sU_all n (by omega) o ho j (by omega)
    rw [sx_lp5_1, bdX5_sits_31, if_neg (nI_nleI (by omega) (by omega)), sx_gd_e q1, q2]
    simp only [sx_nm]
    rw [sx_gd_e q3, q4]
    simp only [sx_c1]
    rw [sx_gd_e q3, q5, q6, ym_ix11, sx_gd_e (nm_ib (by omega)), nI_clamp (by omega), nI_1]
    obtain ⟨w', e, h1, h2⟩ := ih (j + 1) (by omega) f (by omega) (upd w (11 + (j + 1)) (nI (od n o (j + 1)))) (fun i hi => by
      by_cases e : i = j + 1
      · rw [e, pu_same]
      · rw [pu_ne (by omega)]; exact hw i (by omega))
    exact ⟨w', e, h1, fun i hi => by rw [h2 i hi, pu_ne (by omega)]⟩
theorem sx_n11 : (11 : Int32).toNatClampNeg = 11 := by decide
theorem ys_sits {n o : Nat} (hn : n ≤ 6) (h0 : 0 < n) (ho : o < om n) {w : Nat → Int32} (hw : w 0 = nI n) : ∃ w', fnX5_sits 1000 w (nI o) (nI (om n)) = some w' ∧ (∀ i, i < n → w' (11 + i) = nI (od n o i)) ∧ ∀ i, (i < 11 ∨ 17 ≤ i) → w' i = w i := by
  unfold fnX5_sits
  simp only [sx_nm]
  rw [sx_n0, hw, sU_0 n (by omega) h0, sx_n11]
  obtain ⟨w', e, h1, h2⟩ := ys_l hn ho (n - 1) 0 (by omega) 1000 (by omega) (upd w 11 0) (fun i hi => by
    rw [show i = 0 by omega, od_z n (by omega) h0 o ho]; exact pu_same)
  exact ⟨w', e, h1, fun i hi => by rw [h2 i hi, pu_ne (by omega)]⟩
