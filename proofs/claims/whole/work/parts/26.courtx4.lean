-- THE CLASS'S COURT: days
/-- a day of heat h: the seals behind it -/
def ct_day (n : Nat) (kd st : Nat → Nat) (wax week h day : Nat) (sl : Nat → Nat → Nat) : Nat → Nat → Nat :=
  if (day + 1) % week = 0 then ct_rn (ct_s2 n kd st (ct_s1 kd h day sl)) wax else ct_s2 n kd st (ct_s1 kd h day sl)
theorem ct_day_sl {n : Nat} {sl : Nat → Nat → Nat} (hs : ct_sl n sl) (kd st : Nat → Nat) {wax : Nat} (hw : wax ≤ 9) (week h day : Nat) : ct_sl n (ct_day n kd st wax week h day sl) := by
  unfold ct_day; split
  · exact ct_rn_sl _ hw
  · exact ct_s2_sl (ct_s1_sl hs kd h day) kd st
def ct_dlk (n : Nat) (kd st : Nat → Nat) (h day : Nat) (sl : Nat → Nat → Nat) : Nat := ct_lk n kd st (ct_s1 kd h day sl) n
theorem xs_live_l {F n h day : Nat} {kd : Nat → Nat} {sl : Nat → Nat → Nat} {ki : Nat → Int32} {a : Nat → Int64} (hn : n ≤ 6) (hh : h ≤ 9) (hd : day < 2 ^ 30) (hkd : ct_kd n kd) (hki : cx_St n kd ki) (hsl : ct_sl n sl) (ha : cx_L n (cx_kn sl) a) (kf : (Nat → Int64) → (Nat → Int64) → Option (Int32 × (Nat → Int64) × (Nat → Int64) × (Nat → Int64) × Int32)) :
    ∀ k i, i + k = n → ∀ fuel, k < fuel → ∀ b c : Nat → Int64, (∀ q, q < n → b q = lN (mp_P (cx_sg (if q < i then ct_s1 kd h day sl else sl) q))) → (∀ q, q < i → c q = lN (mp_P (ct_tl kd (ct_s1 kd h day sl) q))) →
      ∃ b' c', sx_lp3 (bdX0_live_2 F (nI h) ki a (nI n) (nI day) kf) fuel (nI i) b c = kf b' c' ∧ cx_L n (cx_sg (ct_s1 kd h day sl)) b' ∧ cx_L n (ct_tl kd (ct_s1 kd h day sl)) c' := by
  intro k
  induction k with
  | zero =>
    intro i hi fuel hf b c hb hc
    obtain ⟨f, rfl⟩ : ∃ f, fuel = f + 1 := ⟨fuel - 1, by omega⟩
    rw [sx_lp3_1, bdX0_live_2]
    rw [if_pos ((nI_leI (by omega) (by omega)).mpr (by omega))]
    exact ⟨b, c, rfl, fun q hq => by rw [hb q hq, if_pos (by omega)], fun q hq => hc q (by omega)⟩
  | succ k ih =>
    intro i hi fuel hf b c hb hc
    obtain ⟨f, rfl⟩ : ∃ f, fuel = f + 1 := ⟨fuel - 1, by omega⟩
    have hi' : i < n := by omega
    rw [sx_lp3_1, bdX0_live_2]
    have e1 := hb i hi'
    rw [if_neg (by omega)] at e1
    rw [if_neg (fun h => absurd ((nI_leI (by omega) (by omega)).mp h) (by omega)), sx_gd_e (nm_ib (by omega)), sx_gd_e (nm_ib (by omega)), nI_clamp (by omega), hki i hi', xs_weakening (hkd i hi') hh hd]
    simp only [sx_c1]
    rw [e1, xs_weaker (cx_sg_B hsl hi') (ct_wk_le hh)]
    simp only []
    rw [sx_gd_e (nm_ib (by omega)), sx_gd_e (nm_ib (by omega)), xs_tells (hkd i hi')]
    simp only [sx_lt, sx_nm, nI_1]
    have es : mp_P (fun t => cx_sg sl i t - ct_wk (kd i) h day) = mp_P (cx_sg (ct_s1 kd h day sl) i) := mp_cong (fun j _ => (ct_s1_sg kd h day sl i j).symm)
    rw [es]
    have hb2 : ∀ q, q < n → vp_updL b i (lN (mp_P (cx_sg (ct_s1 kd h day sl) i))) q = lN (mp_P (cx_sg (if q < i + 1 then ct_s1 kd h day sl else sl) q)) := by
      intro q hq
      by_cases e : q = i
      · subst e; rw [up_same, if_pos (by omega)]
      · rw [up_ne e, hb q hq]
        by_cases z : q < i
        · rw [if_pos z, if_pos (by omega)]
        · rw [if_neg z, if_neg (by omega)]
    have fin : ∀ y : Int64, y = lN (mp_P (ct_tl kd (ct_s1 kd h day sl) i)) → ∃ b' c', sx_lp3 (bdX0_live_2 F (nI h) ki a (nI n) (nI day) kf) f (nI (i + 1)) (vp_updL b i (lN (mp_P (cx_sg (ct_s1 kd h day sl) i)))) (vp_updL c i y) = kf b' c' ∧ cx_L n (cx_sg (ct_s1 kd h day sl)) b' ∧ cx_L n (ct_tl kd (ct_s1 kd h day sl)) c' := by
      intro y hy
      refine ih (i + 1) (by omega) f (by omega) _ _ hb2 (fun q hq => ?_)
      by_cases e : q = i
      · subst e; rw [up_same, hy]
      · rw [up_ne e]; exact hc q (by omega)
    by_cases z : kd i = 2 ∨ kd i = 4
    · rw [if_pos z, if_pos rfl, sx_gd_e (nm_ib (by omega))]
      refine fin _ ?_
      rw [ml_0]; congr 1; refine mp_cong (fun j _ => ?_)
      unfold ct_tl; rw [if_pos z]
    · rw [if_neg z, if_neg (by decide), xs_openOf hn hi' (ct_s1_sl hsl kd h day) (by rw [ct_s1_kn]; exact ha i hi') (by rw [up_same])]
      simp only []
      rw [sx_gd_e (nm_ib (by omega))]
      refine fin _ ?_
      congr 1; refine mp_cong (fun j _ => ?_)
      unfold ct_tl; rw [if_neg z]
theorem xs_live {F n wax week h day : Nat} {kd st : Nat → Nat} {sl : Nat → Nat → Nat} {ki se : Nat → Int32} {a b : Nat → Int64} (hF : 1000 ≤ F) (hn : n ≤ 6) (hst : ct_st n st) (hkd : ct_kd n kd) (hw : wax ≤ 9) (hk1 : 2 ≤ week) (hk2 : week ≤ 30) (hh : h ≤ 9) (hd : day < 2 ^ 29) (hki : cx_St n kd ki) (hse : cx_St n st se) (hsl : ct_sl n sl) (ha : cx_L n (cx_kn sl) a) (hb : cx_L n (cx_sg sl) b) (c : Nat → Int64) :
    ∃ a' b' c', fnX0_live F ki se a b c (nI n) (nI wax) (nI week) (nI day) (nI h) = some (nI (ct_dlk n kd st h day sl), a', b', c', nI (day + 1)) ∧ cx_L n (cx_kn (ct_day n kd st wax week h day sl)) a' ∧ cx_L n (cx_sg (ct_day n kd st wax week h day sl)) b' := by
  unfold fnX0_live
  simp only [sx_lt]
  obtain ⟨b1, c1, e1, hb1, hc1⟩ := xs_live_l (F := F) (h := h) (day := day) hn hh (by omega) hkd hki hsl ha (fun (z1 : Nat → Int64) (z2 : Nat → Int64) => sx_c2 (fnX0_hearAll F ki se a z2 (nI n)) (fun (r3 : Int32) (w4 : Nat → Int64) => sx_c1 (fnX0_daysToRenewal F (nI week) (nI day + (1 : Int32))) (fun (r6 : Int32) => (if r6 = nI week then sx_c1 (fnX0_renewAll F w4 z1 (nI n) (nI wax)) (fun (w9 : Nat → Int64) => (some (r3, w4, w9, z2, (nI day + (1 : Int32))))) else (some (r3, w4, z1, z2, (nI day + (1 : Int32)))))))) n 0 (by omega) F (by omega) b c (fun q hq => by rw [if_neg (by omega)]; exact hb q hq) (fun q hq => by omega)
  have e0 : (0 : Int32) = nI 0 := by decide +kernel
  rw [e0, e1]
  have ha1 : cx_L n (cx_kn (ct_s1 kd h day sl)) a := fun p hp => by rw [ct_s1_kn]; exact ha p hp
  obtain ⟨a2, e2, ha2⟩ := xs_hearAll (F := F) hF hn hst hkd hki hse hc1 ha1
  rw [e2]
  simp only [sx_c2]
  rw [nI_1, xs_daysToRenewal hk1 hk2 (by omega)]
  simp only [sx_c1]
  have hb2 : cx_L n (cx_sg (ct_s2 n kd st (ct_s1 kd h day sl))) b1 := fun p hp => by rw [hb1 p hp]; congr 1; exact mp_cong (fun j _ => (ct_s2_sg n kd st _ p j).symm)
  have hm := Nat.mod_lt (day + 1) (show 0 < week by omega)
  unfold ct_day
  by_cases z : (day + 1) % week = 0
  · rw [if_pos (by rw [z]; rfl), if_pos z]
    obtain ⟨b3, e3, hb3⟩ := xs_renewAll (F := F) (wax := wax) hF hn hw ha2 b1
    rw [e3]
    exact ⟨a2, b3, c1, rfl, fun p hp => by rw [ct_rn_kn]; exact ha2 p hp, hb3⟩
  · rw [if_neg (fun q => z (by have := (nI_eq (by omega) (by omega)).mp q; omega)), if_neg z]
    exact ⟨a2, b1, c1, rfl, ha2, hb2⟩
/-- days of heat h -/
def ct_days (n : Nat) (kd st : Nat → Nat) (wax week h : Nat) : Nat → Nat → (Nat → Nat → Nat) → Nat → Nat → Nat
  | 0, _, sl => sl
  | k + 1, day, sl => ct_days n kd st wax week h k (day + 1) (ct_day n kd st wax week h day sl)
/-- how much leaks in days of heat h -/
def ct_lks (n : Nat) (kd st : Nat → Nat) (wax week h : Nat) : Nat → Nat → (Nat → Nat → Nat) → Nat
  | 0, _, _ => 0
  | k + 1, day, sl => ct_dlk n kd st h day sl + ct_lks n kd st wax week h k (day + 1) (ct_day n kd st wax week h day sl)
