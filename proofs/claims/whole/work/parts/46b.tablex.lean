/-- the court at another table -/
def cc_at (C : ctC) (st : Nat → Nat) : ctC := (cc_n C, cc_kd C, st, cc_sl C, cc_wx C, cc_wk C, cc_dy C, cc_dr C)
theorem cc_at_ok {C : ctC} {B : Nat} {st : Nat → Nat} (hC : cc_ok C B) (hs : ct_st (cc_n C) st) : cc_ok (cc_at C st) B := by
  obtain ⟨c1, c2, c3, c4, c5, c6, c7, c8⟩ := hC
  exact ⟨c1, c2, hs, c4, c5, c6, c7, c8⟩
theorem cm_at {C : ctC} {st : Nat → Nat} {w w' : Nat → Int32} (hn : cc_n C ≤ 6) (hM : cm_C C w) (h1 : ∀ i, i < cc_n C → w' (11 + i) = nI (st i)) (h2 : ∀ i, (i < 11 ∨ 17 ≤ i) → w' i = w i) : cm_C (cc_at C st) w' := by
  obtain ⟨⟨m0, m1, m2, m3, m4, m5, m6⟩, mS⟩ := hM
  refine ⟨⟨by rw [h2 0 (by omega)]; exact m0, by rw [h2 1 (by omega)]; exact m1, by rw [h2 2 (by omega)]; exact m2, by rw [h2 3 (by omega)]; exact m3, by rw [h2 4 (by omega)]; exact m4, fun p hp => ?_, h1⟩, fun p hp t ht => ?_⟩
  · have hp' : p < cc_n C := hp
    rw [h2 _ (by omega)]; exact m5 p hp
  · rw [h2 _ (by omega)]; exact mS p hp t ht
/-- of the first k orders: the first of the best, and how much leaks by it -/
def tb_b (L : Nat → Nat) : Nat → Nat × Nat
  | 0 => (0, 49)
  | k + 1 => if L k < (tb_b L k).2 then (k, L k) else tb_b L k
theorem tb_y {L : Nat → Nat} {k : Nat} (h : L k < (tb_b L k).2) : tb_b L (k + 1) = (k, L k) := if_pos h
theorem tb_n {L : Nat → Nat} {k : Nat} (h : ¬ L k < (tb_b L k).2) : tb_b L (k + 1) = tb_b L k := if_neg h
theorem tb_le (L : Nat → Nat) : ∀ k, (tb_b L k).2 ≤ 49
  | 0 => Nat.le_refl _
  | k + 1 => by
    have := tb_le L k
    by_cases h : L k < (tb_b L k).2
    · rw [tb_y h]; show L k ≤ 49; omega
    · rw [tb_n h]; exact this
theorem tb_lt (L : Nat → Nat) : ∀ k, 0 < k → (tb_b L k).1 < k
  | 0, h => absurd h (by omega)
  | k + 1, _ => by
    by_cases h : L k < (tb_b L k).2
    · rw [tb_y h]; show k < k + 1; omega
    · rw [tb_n h]
      rcases Nat.eq_zero_or_pos k with rfl | q
      · show 0 < 1; omega
      · have := tb_lt L k q; omega
theorem tb_z {L : Nat → Nat} {k : Nat} (h : (tb_b L k).2 = 0) : ∀ j, tb_b L (k + j) = tb_b L k
  | 0 => rfl
  | j + 1 => by
    have := tb_z h j
    rw [show k + (j + 1) = (k + j) + 1 by omega, tb_n (by rw [this, h]; omega)]
    exact this
theorem tb_48 {L : Nat → Nat} (hL : ∀ k, L k ≤ 48) {k : Nat} (hk : 0 < k) : (tb_b L k).2 ≤ 48 := by
  obtain ⟨j, rfl⟩ : ∃ j, k = j + 1 := ⟨k - 1, by omega⟩
  have := hL j
  have h2 := tb_le L j
  by_cases h : L j < (tb_b L j).2
  · rw [tb_y h]; exact this
  · rw [tb_n h]; omega
theorem nm_120 : (120 : Int32) = nI 120 := by decide +kernel
theorem cc_at_lk {C : ctC} (hC : cc_ok C 9999) (h N : Nat) {k : Nat} (hk : k < om (cc_n C)) : cc_lks h N (cc_at C (od (cc_n C) k)) ≤ 48 := cc_lks_le (cc_at_ok hC (od_ct hC.1 hk)) h N

def tL (C : ctC) (h N : Nat) : Nat → Nat := fun k => cc_lks h N (cc_at C (od (cc_n C) k))
theorem xt_step {N h o : Nat} {C : ctC} {ki se : Nat → Int32} {a1 a2 : Nat → Int64} {pe wa we da dr : Int32} (hN : N ≤ 20) (hh : h ≤ 9) (hC : cc_ok C 9999) (hX : cx_C C ki se a1 a2 pe wa we da dr) (ho : o < om (cc_n C)) (hz : 0 < (tb_b (tL C h N) o).2) (tk ts : Nat → Int32) (ta tb tc : Nat → Int64) (tp tw te td tr : Int32) (or be : Nat → Int32) (hor : eq6 (oB (cc_n C) o) or) (hbe : 0 < o → eq6 (oB (cc_n C) (tb_b (tL C h N) o).1) be) (f : Nat) : ∃ tk' ts' ta' tb' tc' tp' tw' te' td' tr' or' be', eq6 (oB (cc_n C) (tb_b (tL C h N) (o + 1)).1) be' ∧ (o + 1 < om (cc_n C) → eq6 (oB (cc_n C) (o + 1)) or' ∧ sx_lp14 (bdX4_layBestOrder_27 1000 (nI N) (nI h) ki se a1 a2 pe wa we da dr) (f + 1) (nI (tb_b (tL C h N) o).2) (nI o) tk ts ta tb tc tp tw te td tr or be = sx_lp14 (bdX4_layBestOrder_27 1000 (nI N) (nI h) ki se a1 a2 pe wa we da dr) f (nI (tb_b (tL C h N) (o + 1)).2) (nI (o + 1)) tk' ts' ta' tb' tc' tp' tw' te' td' tr' or' be') ∧ (¬ o + 1 < om (cc_n C) → sx_lp14 (bdX4_layBestOrder_27 1000 (nI N) (nI h) ki se a1 a2 pe wa we da dr) (f + 1) (nI (tb_b (tL C h N) o).2) (nI o) tk ts ta tb tc tp tw te td tr or be = some (nI (tb_b (tL C h N) (o + 1)).2, tk', ts', ta', tb', tc', tp', tw', te', td', tr', or', be')) := by
  have hn := hC.1
  have hom := om_p (cc_n C) (by omega)
  have hle := tb_le (tL C h N) o
  obtain ⟨ki', se', a', b', e1, hX1⟩ := xs_become (F := 1000) hn hX tk ts ta tb tp tw te td tr
  have hX2 : cx_C (cc_at C (od (cc_n C) o)) ki' (va_cpy or se' 0 0 6) a' b' pe wa we da dr := by
    obtain ⟨y1, y2, y3, y4, y5⟩ := hX1
    refine ⟨y1, fun i hi => ?_, y3, y4, y5⟩
    have hi' : i < cc_n C := hi
    rw [pk_cpy_in (by omega) (by omega), show 0 + (i - 0) = i by omega, ← hor i (by omega)]
    rfl
  have ok := cc_at_ok hC (od_ct hn ho)
  obtain ⟨r, a3, b3, c3, d3, e2, h1, h2⟩ := xc_until (F := 1000) (h := h) (N := N) (e := (tb_b (tL C h N) o).2) (Nat.le_refl _) (by omega) ok hh (by omega) (by omega) hX2 tc
  obtain ⟨r4, f4, e4, h4, h5⟩ := xs_next hn ho hor
  have hp : pe = nI (cc_n C) := hX.2.2.2.2.1
  rw [← hp] at e4
  rw [sx_lp14_1, bdX4_layBestOrder_27, nm_120, if_neg (nI_nleI (by omega) (by omega)), if_neg (nI_nle hz (by omega)), e1]
  simp only [sx_c9]
  rw [sx_gd_e (by decide), sx_n0, sx_n6, e2]
  simp only [sx_c5, sx_lt]
  by_cases z : tL C h N o < (tb_b (tL C h N) o).2
  · obtain ⟨rfl, -⟩ := h1 z
    have z' : cc_lks h N (cc_at C (od (cc_n C) o)) < (tb_b (tL C h N) o).2 := z
    rw [if_neg (nI_nleI z' (by omega)), sx_gd_e (by decide), e4, tb_y z]
    simp only [sx_c2]
    refine ⟨ki', va_cpy or se' 0 0 6, a3, b3, c3, pe, wa, we, d3, dr, f4, va_cpy or be 0 0 6, fun i hi => ?_, fun q => ?_, fun q => ?_⟩
    · rw [pk_cpy_in (by omega) (by omega), show 0 + (i - 0) = i by omega]; exact hor i hi
    · obtain ⟨rfl, h6⟩ := h4 q
      rw [if_neg (by decide)]
      simp only [sx_nm]
      rw [nI_1]
      exact ⟨h6, rfl⟩
    · rw [h5 q, if_pos rfl]; rfl
  · obtain ⟨r', rfl, h7, h8⟩ := h2 (show (tb_b (tL C h N) o).2 ≤ cc_lks h N (cc_at C (od (cc_n C) o)) from Nat.le_of_not_lt z)
    have h0 : 0 < o := by
      rcases Nat.eq_zero_or_pos o with rfl | q
      · exact absurd (show tL C h N 0 < 49 from Nat.lt_of_le_of_lt (cc_at_lk hC h N ho) (by omega)) z
      · exact q
    rw [if_pos (nI_leT h7 (by omega)), e4, tb_n z]
    simp only [sx_c2]
    refine ⟨ki', va_cpy or se' 0 0 6, a3, b3, c3, pe, wa, we, d3, dr, f4, be, hbe h0, fun q => ?_, fun q => ?_⟩
    · obtain ⟨rfl, h6⟩ := h4 q
      rw [if_neg (by decide)]
      simp only [sx_nm]
      rw [nI_1]
      exact ⟨h6, rfl⟩
    · rw [h5 q, if_pos rfl]
theorem xt_all {N h : Nat} {C : ctC} {ki se : Nat → Int32} {a1 a2 : Nat → Int64} {pe wa we da dr : Int32} (hN : N ≤ 20) (hh : h ≤ 9) (hC : cc_ok C 9999) (hX : cx_C C ki se a1 a2 pe wa we da dr) : ∀ k o, o + (k + 1) = om (cc_n C) → ∀ fuel, k < fuel → ∀ (tk ts : Nat → Int32) (ta tb tc : Nat → Int64) (tp tw te td tr : Int32) (or be : Nat → Int32), eq6 (oB (cc_n C) o) or → (0 < o → eq6 (oB (cc_n C) (tb_b (tL C h N) o).1) be) → ∃ tk' ts' ta' tb' tc' tp' tw' te' td' tr' or' be', sx_lp14 (bdX4_layBestOrder_27 1000 (nI N) (nI h) ki se a1 a2 pe wa we da dr) fuel (nI (tb_b (tL C h N) o).2) (nI o) tk ts ta tb tc tp tw te td tr or be = some (nI (tb_b (tL C h N) (om (cc_n C))).2, tk', ts', ta', tb', tc', tp', tw', te', td', tr', or', be') ∧ eq6 (oB (cc_n C) (tb_b (tL C h N) (om (cc_n C))).1) be' := by
  have hn := hC.1
  have hom := om_p (cc_n C) (by omega)
  intro k
  induction k with
  | zero =>
    intro o ho fuel hf tk ts ta tb tc tp tw te td tr or be hor hbe
    obtain ⟨f, rfl⟩ : ∃ f, fuel = f + 1 := ⟨fuel - 1, by omega⟩
    rcases Nat.eq_zero_or_pos (tb_b (tL C h N) o).2 with z | z
    · have hz := tb_z z 1
      rw [show o + 1 = om (cc_n C) by omega] at hz
      have h0 : 0 < o := by
        rcases Nat.eq_zero_or_pos o with rfl | q
        · cases z
        · exact q
      rw [sx_lp14_1, bdX4_layBestOrder_27, nm_120, if_neg (nI_nleI (by omega) (by omega)), hz, if_pos (by rw [z]; decide)]
      exact ⟨_, _, _, _, _, _, _, _, _, _, _, _, rfl, hbe h0⟩
    · obtain ⟨tk', ts', ta', tb', tc', tp', tw', te', td', tr', or', be', q1, q2, q3⟩ := xt_step hN hh hC hX (show o < om (cc_n C) by omega) z tk ts ta tb tc tp tw te td tr or be hor hbe f
      have q4 := q3 (by omega)
      rw [show o + 1 = om (cc_n C) by omega] at q1 q4
      exact ⟨_, _, _, _, _, _, _, _, _, _, _, _, q4, q1⟩
  | succ k ih =>
    intro o ho fuel hf tk ts ta tb tc tp tw te td tr or be hor hbe
    obtain ⟨f, rfl⟩ : ∃ f, fuel = f + 1 := ⟨fuel - 1, by omega⟩
    rcases Nat.eq_zero_or_pos (tb_b (tL C h N) o).2 with z | z
    · have hz := tb_z z (k + 1 + 1)
      rw [show o + (k + 1 + 1) = om (cc_n C) by omega] at hz
      have h0 : 0 < o := by
        rcases Nat.eq_zero_or_pos o with rfl | q
        · cases z
        · exact q
      rw [sx_lp14_1, bdX4_layBestOrder_27, nm_120, if_neg (nI_nleI (by omega) (by omega)), hz, if_pos (by rw [z]; decide)]
      exact ⟨_, _, _, _, _, _, _, _, _, _, _, _, rfl, hbe h0⟩
    · obtain ⟨tk', ts', ta', tb', tc', tp', tw', te', td', tr', or', be', q1, q2, q3⟩ := xt_step hN hh hC hX (show o < om (cc_n C) by omega) z tk ts ta tb tc tp tw te td tr or be hor hbe f
      obtain ⟨q4, q5⟩ := q2 (by omega)
      rw [q5]
      exact ih (o + 1) (by omega) f (by omega) tk' ts' ta' tb' tc' tp' tw' te' td' tr' or' be' q4 (fun _ => q1)
theorem xt_2 {F n : Nat} (hn : n ≤ 6) : ∀ k i, i + k = 6 → ∀ fuel, k < fuel → ∀ f : Nat → Int32, (∀ j, j < i → f j = nI j) → ∃ f', eq6 (oB n 0) f' ∧ ∀ kf, sx_lp2 (bdX4_layBestOrder_2 F kf) fuel (nI i) f = kf f' := by
  intro k
  induction k with
  | zero =>
    intro i hi fuel hf f h1
    obtain ⟨fu, rfl⟩ : ∃ f, fuel = f + 1 := ⟨fuel - 1, by omega⟩
    refine ⟨f, fun j hj => ?_, fun kf => ?_⟩
    · rw [h1 j (by omega)]; show nI (od n 0 j) = nI j; rw [od_0 n (by omega) j hj]
    · rw [sx_lp2_1, bdX4_layBestOrder_2, nm_6, if_pos (nI_leT (by omega) (by omega))]
  | succ k ih =>
    intro i hi fuel hf f h1
    obtain ⟨fu, rfl⟩ : ∃ f, fuel = f + 1 := ⟨fuel - 1, by omega⟩
    obtain ⟨f', h2, h3⟩ := ih (i + 1) (by omega) fu (by omega) (upd f i (nI i)) (fun j hj => by
      by_cases e : j = i
      · rw [e, pu_same]
      · rw [pu_ne e]; exact h1 j (by omega))
    refine ⟨f', h2, fun kf => ?_⟩
    rw [sx_lp2_1, bdX4_layBestOrder_2, nm_6, if_neg (nI_nleI (by omega) (by omega)), sx_gd_e (nm_ib (by omega)), nI_clamp (by omega)]
    simp only [sx_nm]
    rw [nI_1]
    exact h3 kf
theorem xt_lay {N h : Nat} {C : ctC} {ki se : Nat → Int32} {a1 a2 : Nat → Int64} {pe wa we da dr : Int32} (hN : N ≤ 20) (hh : h ≤ 9) (hC : cc_ok C 9999) (hX : cx_C C ki se a1 a2 pe wa we da dr) (tk ts : Nat → Int32) (ta tb tc : Nat → Int64) (tp tw te td tr : Int32) (or be : Nat → Int32) : ∃ tk' ts' ta' tb' tc' tp' tw' te' td' tr' or' be', fnX4_layBestOrder 1000 ki se a1 a2 pe wa we da dr tk ts ta tb tc tp tw te td tr or be (nI N) (nI h) = some (nI (tb_b (tL C h N) (om (cc_n C))).2, tk', ts', ta', tb', tc', tp', tw', te', td', tr', or', be') ∧ eq6 (oB (cc_n C) (tb_b (tL C h N) (om (cc_n C))).1) be' := by
  have hn := hC.1
  have hom := om_p (cc_n C) (by omega)
  obtain ⟨f', h2, h3⟩ := xt_2 (F := 1000) hn 6 0 (by omega) 1000 (by omega) or (fun j hj => absurd hj (by omega))
  obtain ⟨tk', ts', ta', tb', tc', tp', tw', te', td', tr', or', be', q1, q2⟩ := xt_all hN hh hC hX (om (cc_n C) - 1) 0 (by omega) 1000 (by omega) tk ts ta tb tc tp tw te td tr f' be h2 (fun q => absurd q (by omega))
  unfold fnX4_layBestOrder
  rw [show (tb_b (tL C h N) 0).2 = 49 from rfl] at q1
  rw [sx_lt_e, nm_0, h3, nm_49]
  exact ⟨_, _, _, _, _, _, _, _, _, _, _, _, q1, q2⟩

