-- THE CLASS'S COURT: foretold
theorem nI_nleI {a b : Nat} (h : b < a) (ha : a < 2 ^ 31) : ¬ nI a ≤ nI b := fun q => absurd ((nI_leI ha (by omega)).mp q) (by omega)
theorem nI_leT {a b : Nat} (h : a ≤ b) (hb : b < 2 ^ 31) : nI a ≤ nI b := (nI_leI (by omega) hb).mpr h
theorem xc_until_l {F h N e : Nat} {ki se : Nat → Int32} {pe wa we dr : Int32} (hF : 1000 ≤ F) (hh : h ≤ 9) (hN : N ≤ 60) (he : e < 1000) :
    ∀ k i, i + k = N → ∀ fuel, k < fuel → ∀ (C : ctC) (B l : Nat) (a b c : Nat → Int64) (da : Int32), B + k ≤ 100000 → l + 48 * k < 100000 → cc_ok C B → cx_C C ki se a b pe wa we da dr →
      ∃ r a' b' c' da', sx_lp6 (bdX0_liveUntilLeaks_6 F (nI N) (nI h) (nI e) ki se pe wa we) fuel (nI l) (nI i) a b c da = some (r, a', b', c', da') ∧
        (l + cc_lks h k C < e → r = nI (l + cc_lks h k C) ∧ cx_C (cc_days h k C) ki se a' b' pe wa we da' dr) ∧ (e ≤ l + cc_lks h k C → ∃ r', r = nI r' ∧ e ≤ r' ∧ r' < 100000) := by
  intro k
  induction k with
  | zero =>
    intro i hi fuel hf C B l a b c da hB hl hC hX
    obtain ⟨f, rfl⟩ : ∃ f, fuel = f + 1 := ⟨fuel - 1, by omega⟩
    rw [sx_lp6_1, bdX0_liveUntilLeaks_6, if_pos (nI_leT (by omega) (by omega))]
    exact ⟨_, a, b, c, da, rfl, fun _ => ⟨rfl, hX⟩, fun q => ⟨l, rfl, q, by omega⟩⟩
  | succ k ih =>
    intro i hi fuel hf C B l a b c da hB hl hC hX
    obtain ⟨f, rfl⟩ : ∃ f, fuel = f + 1 := ⟨fuel - 1, by omega⟩
    rw [sx_lp6_1, bdX0_liveUntilLeaks_6, if_neg (nI_nleI (by omega) (by omega))]
    by_cases z : e ≤ l
    · rw [if_pos (nI_leT z (by omega))]
      exact ⟨_, a, b, c, da, rfl, fun q => absurd q (by omega), fun q => ⟨l, rfl, z, by omega⟩⟩
    · rw [if_neg (nI_nleI (by omega) (by omega))]
      have hlk := cc_lk_le hC h
      obtain ⟨a1, b1, c1, d1, e1, hX1⟩ := xc_live (F := F) (h := h) hF (by omega) hC hh hX c
      rw [e1]
      simp only [sx_c5, sx_nm]
      rw [nI_add, nI_1, cc_lks_s]
      obtain ⟨r, a', b', c', d', e2, h1, h2⟩ := ih (i + 1) (by omega) f (by omega) (cc_day C h) (B + 1) (l + cc_lk C h) a1 b1 c1 d1 (by omega) (by omega) (cc_day_ok hC h) hX1
      refine ⟨r, a', b', c', d', e2, fun q => ?_, fun q => h2 (by omega)⟩
      have := h1 (by omega)
      rw [show l + (cc_lk C h + cc_lks h k (cc_day C h)) = l + cc_lk C h + cc_lks h k (cc_day C h) by omega]
      exact this
theorem xc_until {F h N e B : Nat} {C : ctC} {ki se : Nat → Int32} {a b : Nat → Int64} {pe wa we da dr : Int32} (hF : 1000 ≤ F) (hB : B ≤ 90000) (hC : cc_ok C B) (hh : h ≤ 9) (hN : N ≤ 60) (he : e < 1000) (hX : cx_C C ki se a b pe wa we da dr) (c : Nat → Int64) :
    ∃ r a' b' c' da', fnX0_liveUntilLeaks F ki se a b c pe wa we da (nI N) (nI h) (nI e) = some (r, a', b', c', da') ∧
        (cc_lks h N C < e → r = nI (cc_lks h N C) ∧ cx_C (cc_days h N C) ki se a' b' pe wa we da' dr) ∧ (e ≤ cc_lks h N C → ∃ r', r = nI r' ∧ e ≤ r' ∧ r' < 100000) := by
  unfold fnX0_liveUntilLeaks
  obtain ⟨r, a', b', c', da', e1, h1, h2⟩ := xc_until_l (F := F) (h := h) (N := N) (e := e) (ki := ki) (se := se) (pe := pe) (wa := wa) (we := we) (dr := dr) hF hh hN he N 0 (by omega) F (by omega) C B 0 a b c da (by omega) (by omega) hC hX
  rw [nm_0, e1]
  rw [Nat.zero_add] at h1 h2
  exact ⟨r, a', b', c', da', rfl, h1, h2⟩
theorem xc_days_l {F h N : Nat} {ki se : Nat → Int32} {pe wa we dr : Int32} (hF : 1000 ≤ F) (hh : h ≤ 9) (hN : N ≤ 60) :
    ∀ k i, i + k = N → ∀ fuel, k < fuel → ∀ (C : ctC) (B l : Nat) (a b c : Nat → Int64) (da : Int32), B + k ≤ 100000 → cc_ok C B → cx_C C ki se a b pe wa we da dr →
      ∃ a' b' c' da', sx_lp6 (bdX0_liveDays_5 F (nI N) (nI h) ki se pe wa we) fuel (nI l) (nI i) a b c da = some (nI (l + cc_lks h k C), a', b', c', da') ∧ cx_C (cc_days h k C) ki se a' b' pe wa we da' dr := by
  intro k
  induction k with
  | zero =>
    intro i hi fuel hf C B l a b c da hB hC hX
    obtain ⟨f, rfl⟩ : ∃ f, fuel = f + 1 := ⟨fuel - 1, by omega⟩
    rw [sx_lp6_1, bdX0_liveDays_5, if_pos (nI_leT (by omega) (by omega))]
    exact ⟨a, b, c, da, rfl, hX⟩
  | succ k ih =>
    intro i hi fuel hf C B l a b c da hB hC hX
    obtain ⟨f, rfl⟩ : ∃ f, fuel = f + 1 := ⟨fuel - 1, by omega⟩
    rw [sx_lp6_1, bdX0_liveDays_5, if_neg (nI_nleI (by omega) (by omega))]
    obtain ⟨a1, b1, c1, d1, e1, hX1⟩ := xc_live (F := F) (h := h) hF (by omega) hC hh hX c
    rw [e1]
    simp only [sx_c5, sx_nm]
    rw [nI_add, nI_1, cc_lks_s]
    obtain ⟨a', b', c', d', e2, h1⟩ := ih (i + 1) (by omega) f (by omega) (cc_day C h) (B + 1) (l + cc_lk C h) a1 b1 c1 d1 (by omega) (cc_day_ok hC h) hX1
    refine ⟨a', b', c', d', ?_, h1⟩
    rw [e2, show l + (cc_lk C h + cc_lks h k (cc_day C h)) = l + cc_lk C h + cc_lks h k (cc_day C h) by omega]
theorem xc_days {F h N B : Nat} {C : ctC} {ki se : Nat → Int32} {a b : Nat → Int64} {pe wa we da dr : Int32} (hF : 1000 ≤ F) (hB : B ≤ 90000) (hC : cc_ok C B) (hh : h ≤ 9) (hN : N ≤ 60) (hX : cx_C C ki se a b pe wa we da dr) (c : Nat → Int64) :
    ∃ a' b' c' da', fnX0_liveDays F ki se a b c pe wa we da (nI N) (nI h) = some (nI (cc_lks h N C), a', b', c', da') ∧ cx_C (cc_days h N C) ki se a' b' pe wa we da' dr := by
  unfold fnX0_liveDays
  obtain ⟨a', b', c', da', e1, h1⟩ := xc_days_l (F := F) (h := h) (N := N) (ki := ki) (se := se) (pe := pe) (wa := wa) (we := we) (dr := dr) hF hh hN N 0 (by omega) F (by omega) C B 0 a b c da (by omega) hC hX
  rw [nm_0, e1, Nat.zero_add]
  exact ⟨a', b', c', da', rfl, h1⟩
/-- the first of 0 .. k days of heat h behind which a thing is out -/
def cc_fo (h t : Nat) : Nat → ctC → Option Nat
  | 0, C => if ct_out (cc_sl C) (cc_n C) t then some 0 else none
  | k + 1, C => if ct_out (cc_sl C) (cc_n C) t then some 0 else (cc_fo h t k (cc_day C h)).map (· + 1)
def cc_fr (d : Nat) (o : Option Nat) : Int32 := match o with
  | none => -4
  | some x => nI (d + x)
theorem cc_fr_s (d : Nat) (o : Option Nat) : cc_fr (d + 1) o = cc_fr d (o.map (· + 1)) := by
  cases o with
  | none => rfl
  | some x => show nI (d + 1 + x) = nI (d + (x + 1)); rw [show d + 1 + x = d + (x + 1) by omega]
theorem xc_firstOut_l {F h N t : Nat} {ki se : Nat → Int32} {pe wa we dr : Int32} (hF : 1000 ≤ F) (hh : h ≤ 9) (hN : N ≤ 60) (ht : t < 8) (kf : (Nat → Int64) → (Nat → Int64) → (Nat → Int64) → Int32 → Option (Int32 × (Nat → Int64) × (Nat → Int64) × (Nat → Int64) × Int32))
    (hkf : ∀ (C : ctC) (B : Nat) (a b c : Nat → Int64) (da : Int32), cc_ok C B → cx_C C ki se a b pe wa we da dr → ∃ a' b' c' da', kf a b c da = some (cc_fr N (cc_fo h t 0 C), a', b', c', da')) :
    ∀ k i, i + k = N → ∀ fuel, k < fuel → ∀ (C : ctC) (B : Nat) (a b c : Nat → Int64) (da : Int32), B + k ≤ 100000 → cc_ok C B → cx_C C ki se a b pe wa we da dr →
      ∃ a' b' c' da', sx_lp5 (bdX0_firstOut_3 F (nI t) (nI N) (nI h) ki se pe wa we kf) fuel (nI i) a b c da = some (cc_fr i (cc_fo h t k C), a', b', c', da') := by
  intro k
  induction k with
  | zero =>
    intro i hi fuel hf C B a b c da hB hC hX
    obtain ⟨f, rfl⟩ : ∃ f, fuel = f + 1 := ⟨fuel - 1, by omega⟩
    rw [sx_lp5_1, bdX0_firstOut_3, if_pos (nI_leT (by omega) (by omega)), show i = N by omega]
    exact hkf C B a b c da hC hX
  | succ k ih =>
    intro i hi fuel hf C B a b c da hB hC hX
    obtain ⟨f, rfl⟩ : ∃ f, fuel = f + 1 := ⟨fuel - 1, by omega⟩
    rw [sx_lp5_1, bdX0_firstOut_3, if_neg (nI_nleI (by omega) (by omega))]
    have hpe := hX.2.2.2.2.1
    have h3 := hX.2.2.1
    rw [show fnX0_isOut F a pe (nI t) = some (if ct_out (cc_sl C) (cc_n C) t then 1 else 0) by rw [hpe]; exact xs_isOut hF hC.1 ht h3]
    simp only [sx_c1]
    unfold cc_fo
    by_cases z : ct_out (cc_sl C) (cc_n C) t = true
    · simp only [z, if_true]
      rw [if_neg (by decide)]
      exact ⟨a, b, c, da, rfl⟩
    · rw [if_neg z, if_neg z, if_pos rfl]
      obtain ⟨a1, b1, c1, d1, e1, hX1⟩ := xc_live (F := F) (h := h) hF (by omega) hC hh hX c
      rw [e1]
      simp only [sx_c5, sx_nm]
      rw [nI_1, ← cc_fr_s]
      exact ih (i + 1) (by omega) f (by omega) (cc_day C h) (B + 1) a1 b1 c1 d1 (by omega) (cc_day_ok hC h) hX1
theorem xc_firstOut {F h N t B : Nat} {C : ctC} {ki se : Nat → Int32} {a b : Nat → Int64} {pe wa we da dr : Int32} (hF : 1000 ≤ F) (hB : B ≤ 90000) (hC : cc_ok C B) (hh : h ≤ 9) (hN : N ≤ 60) (ht : t < 8) (hX : cx_C C ki se a b pe wa we da dr) (c : Nat → Int64) :
    ∃ a' b' c' da', fnX0_firstOut F ki se a b c pe wa we da (nI t) (nI N) (nI h) = some (cc_fr 0 (cc_fo h t N C), a', b', c', da') := by
  unfold fnX0_firstOut
  simp only [sx_lt]
  rw [nm_0]
  refine xc_firstOut_l (F := F) (h := h) (N := N) (t := t) (dr := dr) hF hh hN ht _ (fun C B a b c da hC hX => ?_) N 0 (by omega) F (by omega) C B a b c da (by omega) hC hX
  have hpe := hX.2.2.2.2.1
  have h3 := hX.2.2.1
  rw [show fnX0_isOut F a pe (nI t) = some (if ct_out (cc_sl C) (cc_n C) t then 1 else 0) by rw [hpe]; exact xs_isOut hF hC.1 ht h3]
  simp only [sx_c1]
  unfold cc_fo
  by_cases z : ct_out (cc_sl C) (cc_n C) t = true
  · simp only [z, if_true]
    rw [if_neg (by decide)]
    exact ⟨a, b, c, da, rfl⟩
  · rw [if_neg z, if_neg z, if_pos nm_0]
    exact ⟨a, b, c, da, rfl⟩
-- a thing is forgotten by all
def ct_fg (sl : Nat → Nat → Nat) (t : Nat) : Nat → Nat → Nat := fun p j => if j = t then 0 else sl p j
theorem ct_fg_sl {n : Nat} {sl : Nat → Nat → Nat} (h : ct_sl n sl) (t : Nat) : ct_sl n (ct_fg sl t) := by
  intro p hp j hj; have := h p hp j hj; unfold ct_fg; split <;> omega
theorem xs_forget_l {F n t : Nat} {sl : Nat → Nat → Nat} (hn : n ≤ 6) (ht : t < 8) (hsl : ct_sl n sl) : ∀ k i, i + k = n → ∀ fuel, k < fuel → ∀ a b : Nat → Int64, (∀ q, q < n → a q = lN (mp_P (cx_kn (if q < i then ct_fg sl t else sl) q))) → (∀ q, q < n → b q = lN (mp_P (cx_sg (if q < i then ct_fg sl t else sl) q))) →
    ∃ a' b', sx_lp3 (bdX0_forgetThing_8 F (lN (mp_P (mp_u t 1))) (nI n)) fuel (nI i) a b = some (a', b') ∧ cx_L n (cx_kn (ct_fg sl t)) a' ∧ cx_L n (cx_sg (ct_fg sl t)) b' := by
  intro k
  induction k with
  | zero =>
    intro i hi fuel hf a b ha hb
    obtain ⟨f, rfl⟩ : ∃ f, fuel = f + 1 := ⟨fuel - 1, by omega⟩
    rw [sx_lp3_1, bdX0_forgetThing_8, if_pos (nI_leT (by omega) (by omega))]
    exact ⟨a, b, rfl, fun q hq => by rw [ha q hq, if_pos (by omega)], fun q hq => by rw [hb q hq, if_pos (by omega)]⟩
  | succ k ih =>
    intro i hi fuel hf a b ha hb
    obtain ⟨f, rfl⟩ : ∃ f, fuel = f + 1 := ⟨fuel - 1, by omega⟩
    rw [sx_lp3_1, bdX0_forgetThing_8, if_neg (nI_nleI (by omega) (by omega)), sx_gd_e (nm_ib (by omega)), sx_gd_e (nm_ib (by omega)), sx_gd_e (nm_ib (by omega)), sx_gd_e (nm_ib (by omega)), nI_clamp (by omega)]
    simp only [sx_nm, nI_1]
    have e1 := ha i (by omega)
    have e2 := hb i (by omega)
    rw [if_neg (by omega)] at e1 e2
    have h9 := cx_sg_B hsl (show i < n by omega)
    refine ih (i + 1) (by omega) f (by omega) _ _ (fun q hq => ?_) (fun q hq => ?_)
    · by_cases e : q = i
      · subst e
        rw [up_same, if_pos (by omega), e1, ml_m1, ml_xor, mp_xor (mp_u_B (by omega)) (fun _ _ => by omega), ml_and, mp_and ((cx_kn_B sl q).mono (by omega)) (fun j hj => by
          have : ∀ y, y < 2 → y ^^^ 255 < 256 := by decide +kernel
          exact this _ (mp_u_B (by omega) j hj))]
        congr 1; refine mp_cong (fun j hj => ?_)
        rw [nb_not _ (cx_kn_B sl q j hj) _ (mp_u_B (by omega) j hj)]
        unfold mp_u cx_kn ct_fg
        by_cases z : j = t <;> simp [z]
      · rw [up_ne e, ha q hq]
        by_cases z : q < i
        · rw [if_pos z, if_pos (by omega)]
        · rw [if_neg z, if_neg (by omega)]
    · by_cases e : q = i
      · subst e
        rw [up_same, if_pos (by omega), e2, ml_127, lN_mul, mp_mul, ml_m1, ml_xor, mp_xor (fun j hj => by have := mp_u_B (t := t) (v := 1) (b := 2) (by omega) j hj; omega) (fun _ _ => by omega), ml_and, mp_and (h9.mono (by omega)) (fun j hj => by
          have h8 := mp_u_B (t := t) (v := 1) (b := 2) (by omega) j hj
          have : ∀ x, x < 2 → (x * 127) ^^^ 255 < 256 := by decide +kernel
          exact this _ h8)]
        congr 1; refine mp_cong (fun j hj => ?_)
        have h1 := h9 j hj
        by_cases z : j = t
        · simp only [mp_u, z, if_true, Nat.one_mul]
          rw [show (127 ^^^ 255 : Nat) = 128 by decide, nb_and128 _ (by rw [z] at h1; omega)]
          simp [cx_sg, ct_fg]
        · simp only [mp_u, if_neg z, Nat.zero_mul]
          rw [show (0 ^^^ 255 : Nat) = 255 by decide, nb_255 _ (by omega)]
          simp [cx_sg, ct_fg, z]
      · rw [up_ne e, hb q hq]
        by_cases z : q < i
        · rw [if_pos z, if_pos (by omega)]
        · rw [if_neg z, if_neg (by omega)]
theorem xs_forgetThing {F n t : Nat} {sl : Nat → Nat → Nat} {a b : Nat → Int64} (hF : 1000 ≤ F) (hn : n ≤ 6) (ht : t < 8) (hsl : ct_sl n sl) (ha : cx_L n (cx_kn sl) a) (hb : cx_L n (cx_sg sl) b) : ∃ a' b', fnX0_forgetThing F a b (nI n) (nI t) = some (a', b') ∧ cx_L n (cx_kn (ct_fg sl t)) a' ∧ cx_L n (cx_sg (ct_fg sl t)) b' := by
  unfold fnX0_forgetThing
  rw [ml_byteOf F ht]
  simp only [sx_c1]
  rw [nm_0]
  exact xs_forget_l hn ht hsl n 0 (by omega) F (by omega) a b (fun q hq => by rw [if_neg (by omega)]; exact ha q hq) (fun q hq => by rw [if_neg (by omega)]; exact hb q hq)
