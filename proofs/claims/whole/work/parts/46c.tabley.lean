theorem yt_o {n : Nat} (hn : n ≤ 6) {w : Nat → Int32} (hw : w 0 = nI n) (kf : Int32 → Option (Int32 × (Nat → Int32) × (Nat → Int32) × (Nat → Int32))) : ∀ k i, 2 ≤ i → i + k = n → ∀ fuel, k < fuel → sx_lp2 (bdX5_table_32 1000 w kf) fuel (nI (om i)) (nI i) = kf (nI (om n)) := by
  intro k
  induction k with
  | zero =>
    intro i h2 hi fuel hf
    obtain ⟨f, rfl⟩ : ∃ f, fuel = f + 1 := ⟨fuel - 1, by omega⟩
    rw [sx_lp2_1, bdX5_table_32, sx_n0, hw, if_pos (nI_leT (by omega) (by omega)), show i = n by omega]
  | succ k ih =>
    intro i h2 hi fuel hf
    obtain ⟨f, rfl⟩ : ∃ f, fuel = f + 1 := ⟨fuel - 1, by omega⟩
    rw [sx_lp2_1, bdX5_table_32, sx_n0, hw, if_neg (nI_nleI (by omega) (by omega))]
    simp only [sx_nm]
    rw [pk_mul, ← om_s i (by omega) h2, nI_1]
    exact ih (i + 1) (by omega) (by omega) f (by omega)
theorem yt_o2 {n : Nat} (hn : n ≤ 6) {w : Nat → Int32} (hw : w 0 = nI n) (kf : Int32 → Option (Int32 × (Nat → Int32) × (Nat → Int32) × (Nat → Int32))) : sx_lp2 (bdX5_table_32 1000 w kf) 1000 (1 : Int32) (2 : Int32) = kf (nI (om n)) := by
  rcases Nat.lt_or_ge n 2 with q | q
  · rw [show (1000 : Nat) = 999 + 1 from rfl, sx_lp2_1, bdX5_table_32, sx_n0, hw, nm_2, if_pos (nI_leT (by omega) (by omega)), om_l n (by omega)]
    rfl
  · exact yt_o hn hw kf (n - 2) 2 (by omega) (by omega) 1000 (by omega)
def yl (L : Nat → Nat) (k : Nat) : Int32 := if k = 0 then -1 else nI (tb_b L k).2
theorem yt_step {N h o : Nat} {C : ctC} {s : Nat → Int32} (hN : N ≤ 20) (hh : h ≤ 9) (hC : cc_ok C 9999) (h0 : 0 < cc_n C) (hs : cm_C C s) (ho : o < om (cc_n C)) {w : Nat → Int32} (hw : ∀ j, j < 65 → w j = s j) (hd : Nat → Int32) (f : Nat) : ∃ w' hd', (∀ kf, sx_lp5 (bdX5_table_89 1000 (nI N) (nI h) (nI (om (cc_n C))) s kf) (f + 1) (nI (tb_b (tL C h N) o).1) (yl (tL C h N) o) (nI o) w hd = sx_lp5 (bdX5_table_89 1000 (nI N) (nI h) (nI (om (cc_n C))) s kf) f (nI (tb_b (tL C h N) (o + 1)).1) (yl (tL C h N) (o + 1)) (nI (o + 1)) w' hd') ∧ ∀ j, j < 65 → w' j = s j := by
  have hn := hC.1
  have hom := om_p (cc_n C) (by omega)
  have hM : cm_C C w := hs.ext hn hw
  obtain ⟨w1, e1, h1, h2⟩ := ys_sits hn h0 ho hM.1.1
  have hM1 := cm_at hn hM h1 h2
  have ok := cc_at_ok hC (od_ct hn ho)
  obtain ⟨w2, hd2, e2, h3⟩ := ym_leaksIn (F := 1000) (h := h) (N := N) (Nat.le_refl _) hh (by omega) (by omega) ok hM1 hd s
  have hL : cc_lks h N (cc_at C (od (cc_n C) o)) ≤ 48 := cc_at_lk hC h N ho
  have hle := tb_le (tL C h N) o
  refine ⟨w2, hd2, fun kf => ?_, h3⟩
  rw [sx_lp5_1, bdX5_table_89, if_neg (nI_nleI (by omega) (by omega)), e1]
  simp only [sx_c1]
  rw [e2]
  simp only [sx_c3, sx_lt, sx_nm]
  rw [nI_1]
  rcases Nat.eq_zero_or_pos o with rfl | q
  · have z : tL C h N 0 < (tb_b (tL C h N) 0).2 := Nat.lt_of_le_of_lt hL (show 48 < 49 by omega)
    rw [tb_y z, show yl (tL C h N) 0 = -1 from rfl, if_pos (by decide), if_pos (by decide), show yl (tL C h N) (0 + 1) = nI (tb_b (tL C h N) (0 + 1)).2 from rfl, tb_y z]
    rfl
  · have y1 : yl (tL C h N) o = nI (tb_b (tL C h N) o).2 := if_neg (by omega)
    have y2 : yl (tL C h N) (o + 1) = nI (tb_b (tL C h N) (o + 1)).2 := if_neg (by omega)
    rw [y1, y2, if_neg (nI_pos (by omega))]
    by_cases z : tL C h N o < (tb_b (tL C h N) o).2
    · have z' : cc_lks h N (cc_at C (od (cc_n C) o)) < (tb_b (tL C h N) o).2 := z
      rw [if_neg (nI_nleI z' (by omega)), if_neg (nI_pos (by omega)), if_neg (nI_nleI z' (by omega)), tb_y z]
      rfl
    · have z' : (tb_b (tL C h N) o).2 ≤ cc_lks h N (cc_at C (od (cc_n C) o)) := Nat.le_of_not_lt z
      rw [if_pos (nI_leT z' (by omega)), if_neg (nI_pos (by omega)), if_pos (nI_leT z' (by omega)), tb_n z]
theorem yt_all {N h : Nat} {C : ctC} {s : Nat → Int32} (hN : N ≤ 20) (hh : h ≤ 9) (hC : cc_ok C 9999) (h0 : 0 < cc_n C) (hs : cm_C C s) : ∀ k o, o + k = om (cc_n C) → ∀ fuel, k < fuel → ∀ w hd : Nat → Int32, (∀ j, j < 65 → w j = s j) → ∃ w' hd', (∀ kf, sx_lp5 (bdX5_table_89 1000 (nI N) (nI h) (nI (om (cc_n C))) s kf) fuel (nI (tb_b (tL C h N) o).1) (yl (tL C h N) o) (nI o) w hd = kf (nI (tb_b (tL C h N) (om (cc_n C))).1) (yl (tL C h N) (om (cc_n C))) w' hd') ∧ ∀ j, j < 65 → w' j = s j := by
  have hn := hC.1
  have hom := om_p (cc_n C) (by omega)
  intro k
  induction k with
  | zero =>
    intro o ho fuel hf w hd hw
    obtain ⟨f, rfl⟩ : ∃ f, fuel = f + 1 := ⟨fuel - 1, by omega⟩
    refine ⟨w, hd, fun kf => ?_, hw⟩
    rw [sx_lp5_1, bdX5_table_89, if_pos (nI_leT (by omega) (by omega)), show o = om (cc_n C) by omega]
  | succ k ih =>
    intro o ho fuel hf w hd hw
    obtain ⟨f, rfl⟩ : ∃ f, fuel = f + 1 := ⟨fuel - 1, by omega⟩
    obtain ⟨w1, hd1, e1, h1⟩ := yt_step hN hh hC h0 hs (show o < om (cc_n C) by omega) hw hd f
    obtain ⟨w2, hd2, e2, h2⟩ := ih (o + 1) (by omega) f (by omega) w1 hd1 h1
    exact ⟨w2, hd2, fun kf => by rw [e1 kf, e2 kf], h2⟩
