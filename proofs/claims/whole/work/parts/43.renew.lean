-- RENEW
theorem lw6 : (6 : Int64) = (6 : Int32).toInt64 := by decide
def pc (s : Nat) : Nat := s % 2 + s / 2 % 2 + s / 4 % 2 + s / 8 % 2 + s / 16 % 2 + s / 32 % 2
theorem pc_le (s : Nat) : pc s ≤ 6 := by unfold pc; omega
theorem xs_bc : ∀ s, s < 64 → fnJ6_bitCount_0f7a4 1000 (nI s) = some (nI (pc s)) := by decide +kernel
theorem ym_many : ∀ s, s < 64 → fnX5_many 1000 (nI s) = some (nI (pc s)) := by decide +kernel
theorem sub_no : ∀ m, m < 64 → ∀ s, s < 64 → m < s → ¬ (nI s &&& (nI m ^^^ (-1 : Int32))) = 0 := by decide +kernel
theorem bt_64 : ∀ x, x < 64 → ∀ p, p < 6 → ((nI x >>> (nI p &&& 31)) &&& (1 : Int32)) = if x.testBit p = true then 1 else 0 := by decide +kernel
theorem nm_64 : (64 : Int32) = nI 64 := by decide +kernel
theorem who_64 {n t : Nat} (hn : n ≤ 6) (sl : Nat → Nat → Nat) : ct_who sl t n < 64 := Nat.lt_of_lt_of_le (ct_who_lt sl t n) (pw6 hn)
def ct_rs (sl : Nat → Nat → Nat) (s t v i : Nat) : Nat → Nat → Nat := fun q j => if q < i ∧ j = t ∧ s.testBit q = true then v else sl q j
theorem ct_rs_sl {n : Nat} {sl : Nat → Nat → Nat} (h : ct_sl n sl) (s t : Nat) {v : Nat} (hv : v ≤ 10) (i : Nat) : ct_sl n (ct_rs sl s t v i) := by
  intro p hp j hj; have := h p hp j hj; unfold ct_rs; split <;> omega
theorem ct_rs_0 (sl : Nat → Nat → Nat) (s t v : Nat) : ct_rs sl s t v 0 = sl := by
  funext q j; unfold ct_rs; rw [if_neg (by omega)]
theorem ct_rs_y {sl : Nat → Nat → Nat} {s t v i : Nat} (h : s.testBit i = true) : ct_put (ct_rs sl s t v i) i t v = ct_rs sl s t v (i + 1) := by
  funext q j
  unfold ct_put ct_rs
  by_cases e : q = i ∧ j = t
  · rw [if_pos e, if_pos ⟨by omega, e.2, by rw [e.1]; exact h⟩]
  · rw [if_neg e]
    by_cases z : q < i ∧ j = t ∧ s.testBit q = true
    · rw [if_pos z, if_pos ⟨by omega, z.2⟩]
    · rw [if_neg z, if_neg (fun y => by
        rcases Nat.lt_or_ge q i with w | w
        · exact z ⟨w, y.2⟩
        · exact e ⟨by omega, y.2.1⟩)]
theorem ct_rs_n {sl : Nat → Nat → Nat} {s t v i : Nat} (h : ¬ s.testBit i = true) : ct_rs sl s t v i = ct_rs sl s t v (i + 1) := by
  funext q j
  unfold ct_rs
  by_cases z : q < i ∧ j = t ∧ s.testBit q = true
  · rw [if_pos z, if_pos ⟨by omega, z.2⟩]
  · rw [if_neg z, if_neg (fun y => by
      rcases Nat.lt_or_ge q i with w | w
      · exact z ⟨w, y.2⟩
      · have : q = i := by omega
        rw [this] at y
        exact h y.2.2)]
def cc_rs (C : ctC) (s t : Nat) : ctC := (cc_n C, cc_kd C, cc_st C, ct_rs (cc_sl C) s t (cc_wx C + 1) (cc_n C), cc_wx C, cc_wk C, cc_dy C, cc_dr C)
theorem cc_rs_ok {C : ctC} {B : Nat} (hC : cc_ok C B) (s t : Nat) : cc_ok (cc_rs C s t) B := by
  obtain ⟨c1, c2, c3, c4, c5, c6, c7, c8⟩ := hC
  exact ⟨c1, c2, c3, ct_rs_sl c4 s t (by omega) _, c5, c6, c7, c8⟩
theorem xk_l {F n s t wax : Nat} {sl : Nat → Nat → Nat} (hn : n ≤ 6) (hs : s < 64) (ht : t < 8) (hw : wax ≤ 9) (hsl : ct_sl n sl) : ∀ k i, i + k = n → ∀ fuel, k < fuel → ∀ a b : Nat → Int64, cx_L n (cx_kn (ct_rs sl s t (wax + 1) i)) a → cx_L n (cx_sg (ct_rs sl s t (wax + 1) i)) b → ∃ a' b', (∀ kf, sx_lp3 (bdX4_knowersIfRenewed_14 F (nI t) (nI s) (nI n) (nI wax) kf) fuel (nI i) a b = kf a' b') ∧ cx_L n (cx_kn (ct_rs sl s t (wax + 1) n)) a' ∧ cx_L n (cx_sg (ct_rs sl s t (wax + 1) n)) b' := by
  intro k
  induction k with
  | zero =>
    intro i hi fuel hf a b ha hb
    obtain ⟨f, rfl⟩ : ∃ f, fuel = f + 1 := ⟨fuel - 1, by omega⟩
    have e : i = n := by omega
    subst e
    exact ⟨a, b, fun kf => by rw [sx_lp3_1, bdX4_knowersIfRenewed_14, if_pos (nI_leT (by omega) (by omega))], ha, hb⟩
  | succ k ih =>
    intro i hi fuel hf a b ha hb
    obtain ⟨f, rfl⟩ : ∃ f, fuel = f + 1 := ⟨fuel - 1, by omega⟩
    by_cases z : s.testBit i = true
    · obtain ⟨a1, b1, e1, ha1, hb1⟩ := xs_learn (F := F) (p := i) (t := t) (v := wax) hn (by omega) ht hw (ct_rs_sl hsl s t (by omega) i) ha hb
      rw [ct_rs_y z] at ha1 hb1
      obtain ⟨a', b', q, r1, r2⟩ := ih (i + 1) (by omega) f (by omega) a1 b1 ha1 hb1
      refine ⟨a', b', fun kf => ?_, r1, r2⟩
      rw [sx_lp3_1, bdX4_knowersIfRenewed_14, if_neg (nI_nleI (by omega) (by omega)), bt_64 s hs i (by omega), if_pos z, e1]
      simp only [sx_lt, sx_nm, nI_1, sx_c2, show ¬ (1 : Int32) = 0 from by decide, if_false]
      exact q kf
    · rw [ct_rs_n z] at ha hb
      obtain ⟨a', b', q, r1, r2⟩ := ih (i + 1) (by omega) f (by omega) a b ha hb
      refine ⟨a', b', fun kf => ?_, r1, r2⟩
      rw [sx_lp3_1, bdX4_knowersIfRenewed_14, if_neg (nI_nleI (by omega) (by omega)), bt_64 s hs i (by omega), if_neg z]
      simp only [sx_lt, sx_nm, nI_1, if_true]
      exact q kf
def rb_n (C : ctC) (t N h s : Nat) : Nat := pc (ct_who (cc_sl (cc_days h N (cc_rs C s t))) t (cc_n (cc_days h N (cc_rs C s t))))
theorem xs_kir {N h t s : Nat} {C : ctC} {ki se : Nat → Int32} {a b : Nat → Int64} {pe wa we da dr : Int32} (hN : N ≤ 60) (hh : h ≤ 9) (ht : t < 8) (hs : s < 64) (hC : cc_ok C 9999) (hX : cx_C C ki se a b pe wa we da dr) (tk ts : Nat → Int32) (ta tb tc : Nat → Int64) (tp tw te td tr : Int32) : ∃ tk' ts' ta' tb' tc' tp' tw' te' td' tr', fnX4_knowersIfRenewed 1000 ki se a b pe wa we da dr tk ts ta tb tc tp tw te td tr (nI t) (nI s) (nI N) (nI h) = some (nI (rb_n C t N h s), tk', ts', ta', tb', tc', tp', tw', te', td', tr') := by
  have hX0 := hX
  obtain ⟨y1, y2, y3, y4, rfl, rfl, rfl, rfl, rfl⟩ := hX
  obtain ⟨ki', se', a', b', e1, x1, x2, x3, x4, -⟩ := xs_become (F := 1000) hC.1 hX0 tk ts ta tb tp tw te td tr
  rw [← ct_rs_0 (cc_sl C) s t (cc_wx C + 1)] at x3 x4
  obtain ⟨a1, b1, q, r1, r2⟩ := xk_l (F := 1000) (s := s) (t := t) (wax := cc_wx C) hC.1 hs ht hC.2.2.2.2.1.2 hC.2.2.2.1 (cc_n C) 0 (by omega) 1000 (by have := hC.1; omega) a' b' x3 x4
  have okD := cc_rs_ok hC s t
  obtain ⟨a2, b2, c2, d2, e2, hX2⟩ := xc_days (F := 1000) (N := N) (h := h) (C := cc_rs C s t) (pe := nI (cc_n C)) (wa := nI (cc_wx C)) (we := nI (cc_wk C)) (da := nI (cc_dy C)) (dr := nI (cc_dr C)) (Nat.le_refl _) (show 9999 ≤ 90000 by omega) okD hh hN ⟨x1, x2, r1, r2, rfl, rfl, rfl, rfl, rfl⟩ tc
  have ok := cc_days_ok h N okD
  unfold fnX4_knowersIfRenewed
  rw [e1]
  simp only [sx_c9, sx_lt]
  rw [nm_0, q, e2]
  simp only [sx_c5]
  rw [xd_who (Nat.le_refl _) ok ht hX2]
  simp only [sx_c1]
  rw [xs_bc _ (who_64 ok.1 _)]
  exact ⟨_, _, _, _, _, _, _, _, _, _, rfl⟩
theorem yk_l {F n s t wax : Nat} {sl : Nat → Nat → Nat} (hn : n ≤ 6) (hs : s < 64) (ht : t < 8) : ∀ k i, i + k = n → ∀ fuel, k < fuel → ∀ w : Nat → Int32, w 0 = nI n → w 2 = nI wax → cm_S n (ct_rs sl s t (wax + 1) i) w → ∃ w', (∀ kf, sx_lp2 (bdX5_renew_110 F (nI t) (nI s) kf) fuel (nI i) w = kf w') ∧ (∀ j, j < 17 → w' j = w j) ∧ cm_S n (ct_rs sl s t (wax + 1) n) w' := by
  intro k
  induction k with
  | zero =>
    intro i hi fuel hf w h0 h2 hS
    obtain ⟨f, rfl⟩ : ∃ f, fuel = f + 1 := ⟨fuel - 1, by omega⟩
    have e : i = n := by omega
    subst e
    exact ⟨w, fun kf => by rw [sx_lp2_1, bdX5_renew_110, sx_n0, h0, if_pos (nI_leT (by omega) (by omega))], fun _ _ => rfl, hS⟩
  | succ k ih =>
    intro i hi fuel hf w h0 h2 hS
    obtain ⟨f, rfl⟩ : ∃ f, fuel = f + 1 := ⟨fuel - 1, by omega⟩
    have go : ∀ y : Int32, y = cm_v (ct_rs sl s t (wax + 1) (i + 1) i t) → ∃ w', (∀ kf, sx_lp2 (bdX5_renew_110 F (nI t) (nI s) kf) f (nI (i + 1)) (upd w (17 + 8 * i + t) y) = kf w') ∧ (∀ j, j < 17 → w' j = w j) ∧ cm_S n (ct_rs sl s t (wax + 1) n) w' := by
      intro y hy
      obtain ⟨w', q1, q2, q3⟩ := ih (i + 1) (by omega) f (by omega) (upd w (17 + 8 * i + t) y) (by rw [pu_ne (by omega)]; exact h0) (by rw [pu_ne (by omega)]; exact h2) (fun q hq u hu => by
        by_cases e : q = i ∧ u = t
        · rw [e.1, e.2, pu_same, hy]
        · rw [pu_ne (by omega), hS q hq u hu]
          unfold ct_rs
          by_cases z : q < i ∧ u = t ∧ s.testBit q = true
          · rw [if_pos z, if_pos ⟨by omega, z.2⟩]
          · rw [if_neg z, if_neg (fun y => by
              rcases Nat.lt_or_ge q i with w | w
              · exact z ⟨w, y.2⟩
              · exact e ⟨by omega, y.2.1⟩)])
      exact ⟨w', q1, fun j hj => by rw [q2 j hj, pu_ne (by omega)], q3⟩
    by_cases z : s.testBit i = true
    · obtain ⟨w', q1, q2, q3⟩ := go (nI wax) (by unfold ct_rs; rw [if_pos ⟨by omega, rfl, z⟩]; rfl)
      refine ⟨w', fun kf => ?_, q2, q3⟩
      rw [sx_lp2_1, bdX5_renew_110, sx_n0, h0, if_neg (nI_nleI (by omega) (by omega)), bt_64 s hs i (by omega), if_pos z, sx_n2, h2, ym_ix]
      simp only [sx_lt, if_true]
      rw [sx_gd_e (nm_ib (by omega)), nI_clamp (by omega)]
      simp only [sx_nm, nI_1]
      exact q1 kf
    · obtain ⟨w', q1, q2, q3⟩ := go (w (17 + 8 * i + t)) (by rw [hS i (by omega) t ht, ct_rs_n z])
      refine ⟨w', fun kf => ?_, q2, q3⟩
      rw [sx_lp2_1, bdX5_renew_110, sx_n0, h0, if_neg (nI_nleI (by omega) (by omega)), bt_64 s hs i (by omega), if_neg z, ym_ix, ym_sealOf F w (by omega) ht]
      simp only [sx_lt, sx_c1, show ¬ (0 : Int32) = 1 from by decide, if_false]
      rw [sx_gd_e (nm_ib (by omega)), nI_clamp (by omega)]
      simp only [sx_nm, nI_1]
      exact q1 kf
def rb_x (b : Option Nat) : Int32 := match b with | none => -1 | some v => nI v
def rb_f (b : Option Nat) : Int32 := match b with | none => 7 | some v => nI (pc v)
def rb_y (b : Option Nat) : Int32 := match b with | none => -4 | some v => nI v
def rb_lt (b : Option Nat) (x : Nat) : Bool := match b with | none => true | some v => decide (x < pc v)
def rb_ok (b : Option Nat) : Prop := ∀ v, b = some v → v < 64
def rb_st (C : ctC) (t N h kk may i : Nat) (b : Option Nat) : Option Nat := if (nI i &&& (nI may ^^^ (-1 : Int32))) = 0 ∧ rb_lt b (pc i) = true ∧ rb_n C t N h i ≤ kk then some i else b
theorem rb_st_ok {C : ctC} {t N h kk may i : Nat} {b : Option Nat} (hb : rb_ok b) (hi : i < 64) : rb_ok (rb_st C t N h kk may i b) := by
  intro v hv
  unfold rb_st at hv
  split at hv
  · have : i = v := Option.some.inj hv
    omega
  · exact hb v hv
theorem rb_fle {b : Option Nat} {i : Nat} : (rb_f b ≤ nI (pc i)) ↔ ¬ rb_lt b (pc i) = true := by
  have h1 := pc_le i
  cases b with
  | none =>
    show ((7 : Int32) ≤ nI (pc i)) ↔ ¬ true = true
    rw [nm_7, nI_leI (by omega) (by omega)]
    exact ⟨fun h => by omega, fun h => absurd rfl h⟩
  | some v =>
    have h2 := pc_le v
    show (nI (pc v) ≤ nI (pc i)) ↔ ¬ decide (pc i < pc v) = true
    rw [nI_leI (by omega) (by omega)]
    simp
theorem rb_go {O : Type} {b : Option Nat} {i : Nat} (hb : rb_ok b) (hi : i < 64) (X Y : Option O) : (if rb_y b = (-4 : Int32) then X else sx_c1 (fnX5_many 1000 (nI i)) (fun r60 => sx_c1 (fnX5_many 1000 (rb_y b)) (fun r62 => if r62 ≤ r60 then Y else X))) = if rb_lt b (pc i) = true then X else Y := by
  have h1 := pc_le i
  cases b with
  | none => rw [if_pos (show rb_y none = (-4 : Int32) from rfl), if_pos (show rb_lt none (pc i) = true from rfl)]
  | some v =>
    have hv := hb v rfl
    have h2 := pc_le v
    rw [if_neg (show ¬ rb_y (some v) = (-4 : Int32) from fun q => by
      have q : nI v = (-4 : Int32) := q
      have h1 := congrArg Int32.toInt q
      rw [nI_toInt (by omega)] at h1
      have h2 : (-4 : Int32).toInt = -4 := by decide
      omega), ym_many i hi, show fnX5_many 1000 (rb_y (some v)) = some (nI (pc v)) from ym_many v hv]
    simp only [sx_c1]
    by_cases z : pc i < pc v
    · rw [if_neg (nI_nleI z (by omega)), if_pos (show rb_lt (some v) (pc i) = true from decide_eq_true z)]
    · rw [if_pos (nI_leT (by omega) (by omega)), if_neg (show ¬ rb_lt (some v) (pc i) = true from fun q => z (of_decide_eq_true q))]
theorem xr_step {N h t kk may i : Nat} {C : ctC} {b : Option Nat} {ki se : Nat → Int32} {a1 a2 : Nat → Int64} {pe wa we da dr : Int32} (hN : N ≤ 60) (hh : h ≤ 9) (ht : t < 8) (hk : kk ≤ 6) (hi : i < 64) (hC : cc_ok C 9999) (hX : cx_C C ki se a1 a2 pe wa we da dr) (f : Nat) (tk ts : Nat → Int32) (ta tb tc : Nat → Int64) (tp tw te td tr : Int32) : ∃ tk' ts' ta' tb' tc' tp' tw' te' td' tr', sx_lp13 (bdX4_leastRenewed_20 1000 (nI t) (nI N) (nI h) (nI kk) (nI may) ki se a1 a2 pe wa we da dr) (f + 1) (rb_x b) (rb_f b) (nI i) tk ts ta tb tc tp tw te td tr = sx_lp13 (bdX4_leastRenewed_20 1000 (nI t) (nI N) (nI h) (nI kk) (nI may) ki se a1 a2 pe wa we da dr) f (rb_x (rb_st C t N h kk may i b)) (rb_f (rb_st C t N h kk may i b)) (nI (i + 1)) tk' ts' ta' tb' tc' tp' tw' te' td' tr' := by
  rw [sx_lp13_1, bdX4_leastRenewed_20, nm_64, if_neg (nI_nleI (by omega) (by omega))]
  simp only [sx_lt, if_true]
  unfold rb_st
  by_cases s1 : (nI i &&& (nI may ^^^ (-1 : Int32))) = 0
  · rw [if_pos s1, xs_bc i hi]
    simp only [sx_nm, nI_1, sx_c1, rb_fle]
    by_cases s2 : rb_lt b (pc i) = true
    · rw [if_neg (not_not_intro s2), if_neg (by decide)]
      obtain ⟨tk', ts', ta', tb', tc', tp', tw', te', td', tr', e⟩ := xs_kir (s := i) hN hh ht hi hC hX tk ts ta tb tc tp tw te td tr
      rw [e]
      simp only [sx_c11]
      have hle : rb_n C t N h i ≤ 6 := pc_le _
      by_cases s3 : rb_n C t N h i ≤ kk
      · rw [if_neg (fun q => absurd ((nI_ltI (by omega) (by omega)).mp q) (by omega)), if_pos ⟨s1, s2, s3⟩]
        exact ⟨_, _, _, _, _, _, _, _, _, _, rfl⟩
      · rw [if_pos ((nI_ltI (by omega) (by omega)).mpr (by omega)), if_neg (fun q => s3 q.2.2)]
        exact ⟨_, _, _, _, _, _, _, _, _, _, rfl⟩
    · rw [if_pos s2, if_neg (fun q => s2 q.2.1)]
      exact ⟨_, _, _, _, _, _, _, _, _, _, rfl⟩
  · rw [if_neg s1, if_neg (fun q => s1 q.1)]
    simp only [sx_nm, nI_1]
    exact ⟨_, _, _, _, _, _, _, _, _, _, rfl⟩
theorem yr_step {N h t kk may i : Nat} {C : ctC} {b : Option Nat} {s w : Nat → Int32} (hN : N ≤ 60) (hh : h ≤ 9) (ht : t < 8) (hk : kk ≤ 6) (hb : rb_ok b) (hi : i < 64) (hm : i ≤ may) (hm2 : may < 64) (hC : cc_ok C 9999) (hs : cm_C C s) (hw : ∀ j, j < 65 → w j = s j) (hd : Nat → Int32) (f : Nat) : ∃ w' hd', (∀ kf, sx_lp4 (bdX5_renew_70 1000 (nI t) (nI N) (nI h) (nI kk) (nI may) s kf) (f + 1) (rb_y b) (nI i) w hd = sx_lp4 (bdX5_renew_70 1000 (nI t) (nI N) (nI h) (nI kk) (nI may) s kf) f (rb_y (rb_st C t N h kk may i b)) (nI (i + 1)) w' hd') ∧ ∀ j, j < 65 → w' j = s j := by
  have hnlt : ¬ nI may < nI i := fun q => absurd ((nI_ltI (by omega) (by omega)).mp q) (by omega)
  by_cases s1 : (nI i &&& (nI may ^^^ (-1 : Int32))) = 0
  · by_cases s2 : rb_lt b (pc i) = true
    · have hM := hs.ext hC.1 hw
      have hS := hM.2
      rw [← ct_rs_0 (cc_sl C) i t (cc_wx C + 1)] at hS
      obtain ⟨w1, q1, q2, q3⟩ := yk_l (F := 1000) (s := i) (t := t) (wax := cc_wx C) hC.1 hi ht (cc_n C) 0 (by omega) 1000 (by have := hC.1; omega) w hM.1.1 hM.1.2.2.1 hS
      have hM1 : cm_C (cc_rs C i t) w1 := ⟨cm_H.kept (C := C) hM.1 hC.1 q2, q3⟩
      have okD := cc_rs_ok hC i t
      obtain ⟨w2, hd2, e2, hw2⟩ := ym_goesOn (F := 1000) (N := N) (h := h) (Nat.le_refl _) hh (by omega) (show 9999 ≤ 90000 by omega) okD hM1 hd
      have ok := cc_days_ok h N okD
      obtain ⟨w3, e3, hw3⟩ := ym_backs (F := 1000) (Nat.le_refl _) w2 s
      have hle : rb_n C t N h i ≤ 6 := pc_le _
      refine ⟨w3, hd2, fun kf => ?_, hw3⟩
      rw [sx_lp4_1, bdX5_renew_70, if_neg hnlt]
      simp only [sx_lt]
      rw [if_pos s1, rb_go hb hi, if_pos s2, nm_0, q1, e2]
      simp only [sx_c2]
      rw [yd_who (Nat.le_refl _) ok ht hw2]
      simp only [sx_c1]
      rw [ym_many _ (who_64 ok.1 _), e3]
      simp only [sx_nm, nI_1]
      have en : pc (ct_who (cc_sl (cc_days h N (cc_rs C i t))) t (cc_n (cc_days h N (cc_rs C i t)))) = rb_n C t N h i := rfl
      rw [en]
      unfold rb_st
      by_cases s3 : rb_n C t N h i ≤ kk
      · rw [if_neg (fun q => absurd ((nI_ltI (by omega) (by omega)).mp q) (by omega)), if_pos ⟨s1, s2, s3⟩]; rfl
      · rw [if_pos ((nI_ltI (by omega) (by omega)).mpr (by omega)), if_neg (fun q => s3 q.2.2)]
    · refine ⟨w, hd, fun kf => ?_, hw⟩
      rw [sx_lp4_1, bdX5_renew_70, if_neg hnlt]
      simp only [sx_lt]
      rw [if_pos s1, rb_go hb hi, if_neg s2]
      simp only [sx_nm, nI_1]
      unfold rb_st
      rw [if_neg (fun q => s2 q.2.1)]
  · refine ⟨w, hd, fun kf => ?_, hw⟩
    rw [sx_lp4_1, bdX5_renew_70, if_neg hnlt]
    simp only [sx_lt]
    rw [if_neg s1]
    simp only [sx_nm, nI_1]
    unfold rb_st
    rw [if_neg (fun q => s1 q.1)]
def rb_it (st : Nat → Option Nat → Option Nat) : Nat → Nat → Option Nat → Option Nat
  | 0, _, b => b
  | k + 1, i, b => rb_it st k (i + 1) (st i b)
theorem rb_it_s (st : Nat → Option Nat → Option Nat) (k i : Nat) (b : Option Nat) : rb_it st (k + 1) i b = rb_it st k (i + 1) (st i b) := rfl
theorem rb_it_add (st : Nat → Option Nat → Option Nat) : ∀ (k l i : Nat) (b : Option Nat), rb_it st (k + l) i b = rb_it st l (i + k) (rb_it st k i b) := by
  intro k
  induction k with
  | zero => intro l i b; rw [Nat.zero_add]; rfl
  | succ k ih =>
    intro l i b
    rw [show k + 1 + l = (k + l) + 1 by omega, rb_it_s, rb_it_s, ih, show i + 1 + k = i + (k + 1) by omega]
theorem rb_it_id {st : Nat → Option Nat → Option Nat} : ∀ (k i : Nat) (b : Option Nat), (∀ j, i ≤ j → j < i + k → ∀ c, st j c = c) → rb_it st k i b = b := by
  intro k
  induction k with
  | zero => intro i b _; rfl
  | succ k ih =>
    intro i b h
    rw [rb_it_s, h i (by omega) (by omega)]
    exact ih (i + 1) b (fun j h1 h2 => h j (by omega) (by omega))
theorem xr_all {N h t kk may : Nat} {C : ctC} {ki se : Nat → Int32} {a1 a2 : Nat → Int64} {pe wa we da dr : Int32} (hN : N ≤ 60) (hh : h ≤ 9) (ht : t < 8) (hk : kk ≤ 6) (hC : cc_ok C 9999) (hX : cx_C C ki se a1 a2 pe wa we da dr) : ∀ k i, i + k = 64 → ∀ fuel, k < fuel → ∀ (b : Option Nat) (tk ts : Nat → Int32) (ta tb tc : Nat → Int64) (tp tw te td tr : Int32), rb_ok b → rb_ok (rb_it (rb_st C t N h kk may) k i b) ∧ ∃ tk' ts' ta' tb' tc' tp' tw' te' td' tr', sx_lp13 (bdX4_leastRenewed_20 1000 (nI t) (nI N) (nI h) (nI kk) (nI may) ki se a1 a2 pe wa we da dr) fuel (rb_x b) (rb_f b) (nI i) tk ts ta tb tc tp tw te td tr = some (rb_x (rb_it (rb_st C t N h kk may) k i b), tk', ts', ta', tb', tc', tp', tw', te', td', tr') := by
  intro k
  induction k with
  | zero =>
    intro i hi fuel hf b tk ts ta tb tc tp tw te td tr hb
    obtain ⟨f, rfl⟩ : ∃ f, fuel = f + 1 := ⟨fuel - 1, by omega⟩
    rw [sx_lp13_1, bdX4_leastRenewed_20, nm_64, if_pos (nI_leT (by omega) (by omega))]
    exact ⟨hb, _, _, _, _, _, _, _, _, _, _, rfl⟩
  | succ k ih =>
    intro i hi fuel hf b tk ts ta tb tc tp tw te td tr hb
    obtain ⟨f, rfl⟩ : ∃ f, fuel = f + 1 := ⟨fuel - 1, by omega⟩
    obtain ⟨tk', ts', ta', tb', tc', tp', tw', te', td', tr', e⟩ := xr_step (may := may) (b := b) hN hh ht hk (show i < 64 by omega) hC hX f tk ts ta tb tc tp tw te td tr
    rw [e, rb_it_s]
    exact ih (i + 1) (by omega) f (by omega) _ _ _ _ _ _ _ _ _ _ _ (rb_st_ok hb (by omega))
theorem yr_all {N h t kk may : Nat} {C : ctC} {s : Nat → Int32} (hN : N ≤ 60) (hh : h ≤ 9) (ht : t < 8) (hk : kk ≤ 6) (hm2 : may < 64) (hC : cc_ok C 9999) (hs : cm_C C s) : ∀ k i, i + k = may + 1 → ∀ fuel, k < fuel → ∀ (b : Option Nat) (w hd : Nat → Int32), rb_ok b → (∀ j, j < 65 → w j = s j) → ∃ w' hd', (∀ kf, sx_lp4 (bdX5_renew_70 1000 (nI t) (nI N) (nI h) (nI kk) (nI may) s kf) fuel (rb_y b) (nI i) w hd = kf (rb_y (rb_it (rb_st C t N h kk may) k i b)) w' hd') ∧ ∀ j, j < 65 → w' j = s j := by
  intro k
  induction k with
  | zero =>
    intro i hi fuel hf b w hd hb hw
    obtain ⟨f, rfl⟩ : ∃ f, fuel = f + 1 := ⟨fuel - 1, by omega⟩
    exact ⟨w, hd, fun kf => by rw [sx_lp4_1, bdX5_renew_70, if_pos ((nI_ltI (by omega) (by omega)).mpr (by omega))]; rfl, hw⟩
  | succ k ih =>
    intro i hi fuel hf b w hd hb hw
    obtain ⟨f, rfl⟩ : ∃ f, fuel = f + 1 := ⟨fuel - 1, by omega⟩
    obtain ⟨w1, hd1, e, hw1⟩ := yr_step (may := may) (b := b) hN hh ht hk hb (show i < 64 by omega) (by omega) hm2 hC hs hw hd f
    obtain ⟨w', hd', q, r⟩ := ih (i + 1) (by omega) f (by omega) (rb_st C t N h kk may i b) w1 hd1 (rb_st_ok hb (by omega)) hw1
    exact ⟨w', hd', fun kf => by rw [e kf, q kf]; rfl, r⟩
theorem rb_same {C : ctC} {t N h kk may : Nat} (hm : may < 64) : rb_it (rb_st C t N h kk may) 64 0 none = rb_it (rb_st C t N h kk may) (may + 1) 0 none := by
  rw [show 64 = (may + 1) + (63 - may) by omega, rb_it_add]
  refine rb_it_id _ _ _ (fun j h1 h2 c => ?_)
  unfold rb_st
  rw [if_neg (fun q => sub_no may hm j (by omega) (by omega) q.1)]
theorem ag_renew (a1 : Int32) (a2 : Int32) (a3 : Int32) (a4 : Int32) (a5 : Int32) {X : SX} {M : SM} (h : LInv X M) : ∃ r X2 M2, xo_renew 1000 a1 a2 a3 a4 a5 X = some (r, X2) ∧ mo_renew 1000 a1 a2 a3 a4 a5 M = some (r, M2) ∧ LInv X2 M2 := by
  obtain ⟨x_now_kinds, x_now_seating, x_now_knows, x_now_seals, x_now_telling, x_now_persons, x_now_wax, x_now_week, x_now_day, x_now_draw, x_past_knows, x_past_seals, x_past_dates, x_past_draws, x_past_next, x_past_steps, x_imageCourt_kinds, x_imageCourt_seating, x_imageCourt_knows, x_imageCourt_seals, x_imageCourt_telling, x_imageCourt_persons, x_imageCourt_wax, x_imageCourt_week, x_imageCourt_day, x_imageCourt_draw, x_imagePast_knows, x_imagePast_seals, x_imagePast_dates, x_imagePast_draws, x_imagePast_next, x_imagePast_steps, x_imaged, x_trial_kinds, x_trial_seating, x_trial_knows, x_trial_seals, x_trial_telling, x_trial_persons, x_trial_wax, x_trial_week, x_trial_day, x_trial_draw, x_order, x_bestOrder, x_tape_letters, x_tape_length, x_tape_at, x_sl, x_sn, x_si⟩ := X
  obtain ⟨m_now, m_tape, m_typed, m_place, m_isFault, m_read, m_heard, m_undone, m_undos, m_aside, m_kept, m_keptUndos, m_isKept, m_lanes, m_sizes, m_items, m_moved⟩ := M
  obtain ⟨hnow, himg, htape, hsheet⟩ := h
  have key : ∃ (r : Int32) (w_x_trial_kinds : Nat → Int32) (w_x_trial_seating : Nat → Int32) (w_x_trial_knows : Nat → Int64) (w_x_trial_seals : Nat → Int64) (w_x_trial_telling : Nat → Int64) (w_x_trial_persons : Int32) (w_x_trial_wax : Int32) (w_x_trial_week : Int32) (w_x_trial_day : Int32) (w_x_trial_draw : Int32) (v_m_now : Nat → Int32) (v_m_heard : Nat → Int32) (v_m_aside : Nat → Int32), fnX4_renew 1000 x_now_kinds x_now_seating x_now_knows x_now_seals x_now_persons x_now_wax x_now_week x_now_day x_now_draw x_trial_kinds x_trial_seating x_trial_knows x_trial_seals x_trial_telling x_trial_persons x_trial_wax x_trial_week x_trial_day x_trial_draw a1 a2 a3 a4 a5 = some (r, w_x_trial_kinds, w_x_trial_seating, w_x_trial_knows, w_x_trial_seals, w_x_trial_telling, w_x_trial_persons, w_x_trial_wax, w_x_trial_week, w_x_trial_day, w_x_trial_draw) ∧ fnX5_renew 1000 m_now m_heard m_aside a1 a2 a3 a4 a5 = some (r, v_m_now, v_m_heard, v_m_aside) ∧ P_now x_now_kinds x_now_seating x_now_knows x_now_seals x_now_persons x_now_wax x_now_week x_now_day x_now_draw x_past_knows x_past_seals x_past_dates x_past_draws x_past_next x_past_steps v_m_now m_undone m_undos := by
    have hnow2 := hnow
    obtain ⟨C, k, hs, hC, hk, hX, hP, hM, hU, rfl⟩ := hnow2
    have hC0 := hC
    obtain ⟨c1, c2, c3, c4, c5, c6, c7, c8⟩ := hC
    obtain ⟨x1, x2, x3, x4, rfl, rfl, rfl, rfl, rfl⟩ := hX
    have hM0 := hM
    obtain ⟨⟨m0, m1, m2, m3, m4, m5, m6⟩, mS⟩ := hM
    have hF : 1000 ≤ 1000 := Nat.le_refl _
    unfold fnX4_renew fnX5_renew
    rw [xs_isThing, xs_within, xs_isHeat, xs_within, xs_within, ym_isThing, lw0, lw60, lw6, lw1, ym_in, ym_in, ym_in, ym_isHeat, i0, i60, i6, i1]
    simp only [sx_c1, if1, sx_lt]
    by_cases g1 : rg a1 0 7 = true
    · rw [if_neg (not_not_intro g1), if_neg (not_not_intro g1)]
      by_cases g2 : rg a2 0 60 = true
      · rw [if_neg (not_not_intro g2), if_neg (not_not_intro g2)]
        by_cases g3 : rg a3 0 9 = true
        · rw [if_neg (not_not_intro g3), if_neg (not_not_intro g3)]
          by_cases g4 : rg a4 0 6 = true
          · rw [if_neg (not_not_intro g4), if_neg (not_not_intro g4)]
            by_cases g5 : rg a5 0 1 = true
            · rw [if_neg (not_not_intro g5), if_neg (not_not_intro g5)]
              obtain ⟨t, -, ht, rfl⟩ := rg_of (lo := 0) (hi := 7) g1
              obtain ⟨N, -, hN, rfl⟩ := rg_of (lo := 0) (hi := 60) g2
              obtain ⟨h, -, hh, rfl⟩ := rg_of (lo := 0) (hi := 9) g3
              obtain ⟨kk, -, hkk, rfl⟩ := rg_of (lo := 0) (hi := 6) g4
              obtain ⟨wt, -, hwt, rfl⟩ := rg_of (lo := 0) (hi := 1) g5
              obtain ⟨s', e3, hs'⟩ := ym_asides (F := 1000) hF m_now m_aside
              have hm := who_64 (t := t) c1 (cc_sl C)
              obtain ⟨hb, tk, ts, ta, tb, tc, tp, tw, te, td, tr, e1⟩ := xr_all (may := ct_who (cc_sl C) t (cc_n C)) hN hh (show t < 8 by omega) hkk hC0 ⟨x1, x2, x3, x4, rfl, rfl, rfl, rfl, rfl⟩ 64 0 (by omega) 1000 (by omega) none x_trial_kinds x_trial_seating x_trial_knows x_trial_seals x_trial_telling x_trial_persons x_trial_wax x_trial_week x_trial_day x_trial_draw (fun v hv => by cases hv)
              obtain ⟨w', hd', e2, hw'⟩ := yr_all (may := ct_who (cc_sl C) t (cc_n C)) hN hh (show t < 8 by omega) hkk hm hC0 (hM0.ext c1 hs') (ct_who (cc_sl C) t (cc_n C) + 1) 0 (by omega) 1000 (by omega) none m_now m_heard (fun v hv => by cases hv) (fun j hj => (hs' j hj).symm)
              rw [rb_same hm] at hb e1
              rw [← nm_0] at e1 e2
              rw [e3]
              simp only []
              rw [ym_who hF c1 (show t < 8 by omega) c4 m0 mS]
              simp only []
              rw [show (-4 : Int32) = rb_y none from rfl, e2]
              unfold fnX4_leastRenewed
              rw [xs_knowersOf hF c1 (show t < 8 by omega) x3]
              simp only [sx_c1]
              rw [show (-1 : Int32) = rb_x none from rfl, show (7 : Int32) = rb_f none from rfl, e1]
              simp only [sx_c11]
              have hfin := hnow.m (v := w') (fun j hj => by rw [hw' j hj, hs' j hj])
              generalize rb_it (rb_st C t N h kk (ct_who (cc_sl C) t (cc_n C))) (ct_who (cc_sl C) t (cc_n C) + 1) 0 none = bb at hb ⊢
              cases bb with
              | none =>
                rw [if_neg (show ¬ (0 : Int32) ≤ rb_x none by decide), if_pos (rfl : rb_y none = rb_y none)]
                by_cases e : nI wt = (1 : Int32)
                · rw [if_pos e]; exact ⟨_, _, _, _, _, _, _, _, _, _, _, _, _, _, rfl, rfl, hfin⟩
                · rw [if_neg e]; exact ⟨_, _, _, _, _, _, _, _, _, _, _, _, _, _, rfl, rfl, hfin⟩
              | some v =>
                have hv := hb v rfl
                rw [if_pos (show (0 : Int32) ≤ rb_x (some v) from nI_pos' (by omega)), if_neg (show ¬ rb_y (some v) = rb_y none from fun q => by
                  have h1 := congrArg Int32.toInt q
                  rw [show rb_y (some v) = nI v from rfl, nI_toInt (by omega), show (rb_y none).toInt = -4 by decide] at h1
                  omega), show fnJ6_bitCount_0f7a4 1000 (rb_x (some v)) = some (nI (pc v)) from xs_bc v hv, show fnX5_many 1000 (rb_y (some v)) = some (nI (pc v)) from ym_many v hv]
                rcases (show wt = 0 ∨ wt = 1 by omega) with rfl | rfl
                · rw [if_pos (show nI 0 = (0 : Int32) from nm_0.symm), if_neg (show ¬ nI 0 = (1 : Int32) by decide)]; exact ⟨_, _, _, _, _, _, _, _, _, _, _, _, _, _, rfl, rfl, hfin⟩
                · rw [if_neg (show ¬ nI 1 = (0 : Int32) by decide), if_pos (show nI 1 = (1 : Int32) from nm_1.symm)]; exact ⟨_, _, _, _, _, _, _, _, _, _, _, _, _, _, rfl, rfl, hfin⟩
            · rw [if_pos g5, if_pos g5]; exact ⟨_, _, _, _, _, _, _, _, _, _, _, _, _, _, rfl, rfl, hnow⟩
          · rw [if_pos g4, if_pos g4]; exact ⟨_, _, _, _, _, _, _, _, _, _, _, _, _, _, rfl, rfl, hnow⟩
        · rw [if_pos g3, if_pos g3]; exact ⟨_, _, _, _, _, _, _, _, _, _, _, _, _, _, rfl, rfl, hnow⟩
      · rw [if_pos g2, if_pos g2]; exact ⟨_, _, _, _, _, _, _, _, _, _, _, _, _, _, rfl, rfl, hnow⟩
    · rw [if_pos g1, if_pos g1]; exact ⟨_, _, _, _, _, _, _, _, _, _, _, _, _, _, rfl, rfl, hnow⟩
  obtain ⟨r, w_x_trial_kinds, w_x_trial_seating, w_x_trial_knows, w_x_trial_seals, w_x_trial_telling, w_x_trial_persons, w_x_trial_wax, w_x_trial_week, w_x_trial_day, w_x_trial_draw, v_m_now, v_m_heard, v_m_aside, e1, e2, khnow⟩ := key
  refine ⟨r, (x_now_kinds, x_now_seating, x_now_knows, x_now_seals, x_now_telling, x_now_persons, x_now_wax, x_now_week, x_now_day, x_now_draw, x_past_knows, x_past_seals, x_past_dates, x_past_draws, x_past_next, x_past_steps, x_imageCourt_kinds, x_imageCourt_seating, x_imageCourt_knows, x_imageCourt_seals, x_imageCourt_telling, x_imageCourt_persons, x_imageCourt_wax, x_imageCourt_week, x_imageCourt_day, x_imageCourt_draw, x_imagePast_knows, x_imagePast_seals, x_imagePast_dates, x_imagePast_draws, x_imagePast_next, x_imagePast_steps, x_imaged, w_x_trial_kinds, w_x_trial_seating, w_x_trial_knows, w_x_trial_seals, w_x_trial_telling, w_x_trial_persons, w_x_trial_wax, w_x_trial_week, w_x_trial_day, w_x_trial_draw, x_order, x_bestOrder, x_tape_letters, x_tape_length, x_tape_at, x_sl, x_sn, x_si), (v_m_now, m_tape, m_typed, m_place, m_isFault, m_read, v_m_heard, m_undone, m_undos, v_m_aside, m_kept, m_keptUndos, m_isKept, m_lanes, m_sizes, m_items, m_moved), ?_, ?_, khnow, himg, htape, hsheet⟩
  · unfold xo_renew; simp only []; rw [e1]; rfl
  · unfold mo_renew; simp only []; rw [e2]; rfl
