-- THE CLASS'S COURT: a day
def ct_kd (n : Nat) (kd : Nat → Nat) : Prop := ∀ p, p < n → kd p ≤ 4
/-- seals behind the heat of a day -/
def ct_s1 (kd : Nat → Nat) (h day : Nat) (sl : Nat → Nat → Nat) : Nat → Nat → Nat := fun p t => if sl p t = 0 then 0 else 1 + (sl p t - 1 - ct_wk (kd p) h day)
theorem ct_s1_sl {n : Nat} {sl : Nat → Nat → Nat} (hs : ct_sl n sl) (kd : Nat → Nat) (h day : Nat) : ct_sl n (ct_s1 kd h day sl) := by
  intro p hp t ht; have := hs p hp t ht; unfold ct_s1; split <;> omega
theorem ct_s1_kn (kd : Nat → Nat) (h day : Nat) (sl : Nat → Nat → Nat) (p : Nat) : cx_kn (ct_s1 kd h day sl) p = cx_kn sl p := by
  funext t; unfold cx_kn ct_s1
  by_cases e : sl p t = 0
  · simp [e]
  · rw [if_neg e, if_neg e, if_neg (by omega)]
theorem ct_s1_sg (kd : Nat → Nat) (h day : Nat) (sl : Nat → Nat → Nat) (p t : Nat) : cx_sg (ct_s1 kd h day sl) p t = cx_sg sl p t - ct_wk (kd p) h day := by
  unfold cx_sg ct_s1; split <;> omega
/-- what one tells -/
def ct_tl (kd : Nat → Nat) (sl : Nat → Nat → Nat) (p : Nat) : Nat → Nat := fun t => if kd p = 2 ∨ kd p = 4 then 0 else ct_op sl p t
theorem ct_tl_B (kd : Nat → Nat) (sl : Nat → Nat → Nat) (p : Nat) : mp_B 2 (ct_tl kd sl p) := by
  intro t ht; unfold ct_tl; split
  · omega
  · exact ct_op_B sl p t ht
/-- what is news for one -/
def ct_nw (n : Nat) (kd st : Nat → Nat) (sl : Nat → Nat → Nat) (p : Nat) : Nat → Nat := fun t => if sl p t = 0 ∧ (ct_tl kd sl (ct_by n st p 1) t = 1 ∨ ct_tl kd sl (ct_by n st p (n - 1)) t = 1) then 1 else 0
theorem ct_nw_B (n : Nat) (kd st : Nat → Nat) (sl : Nat → Nat → Nat) (p : Nat) : mp_B 2 (ct_nw n kd st sl p) := by
  intro t _; unfold ct_nw; split <;> omega
/-- seals behind what is told -/
def ct_s2 (n : Nat) (kd st : Nat → Nat) (sl : Nat → Nat → Nat) : Nat → Nat → Nat := fun p t => if kd p ≠ 4 ∧ ct_nw n kd st sl p t = 1 then 1 else sl p t
theorem ct_nw1 {n : Nat} {kd st : Nat → Nat} {sl : Nat → Nat → Nat} {p t : Nat} (h : ct_nw n kd st sl p t = 1) : sl p t = 0 := by
  unfold ct_nw at h
  by_cases q : sl p t = 0 ∧ (ct_tl kd sl (ct_by n st p 1) t = 1 ∨ ct_tl kd sl (ct_by n st p (n - 1)) t = 1)
  · exact q.1
  · rw [if_neg q] at h; omega
theorem ct_s2_no {n : Nat} {kd st : Nat → Nat} {sl : Nat → Nat → Nat} {p t : Nat} (h : ¬ (kd p ≠ 4 ∧ ct_nw n kd st sl p t = 1)) : ct_s2 n kd st sl p t = sl p t := by
  unfold ct_s2; rw [if_neg h]
theorem ct_s2_sl {n : Nat} {sl : Nat → Nat → Nat} (hs : ct_sl n sl) (kd st : Nat → Nat) : ct_sl n (ct_s2 n kd st sl) := by
  intro p hp t ht; have := hs p hp t ht; unfold ct_s2; split <;> omega
theorem ct_s2_sg (n : Nat) (kd st : Nat → Nat) (sl : Nat → Nat → Nat) (p t : Nat) : cx_sg (ct_s2 n kd st sl) p t = cx_sg sl p t := by
  unfold cx_sg
  by_cases h : kd p ≠ 4 ∧ ct_nw n kd st sl p t = 1
  · rw [ct_s2, if_pos h, ct_nw1 h.2]
  · rw [ct_s2_no h]
/-- how much one hears -/
def ct_lk1 (n : Nat) (kd st : Nat → Nat) (sl : Nat → Nat → Nat) (p : Nat) : Nat := if kd p = 4 then 0 else mp_S (ct_nw n kd st sl p)
def ct_lk (n : Nat) (kd st : Nat → Nat) (sl : Nat → Nat → Nat) : Nat → Nat
  | 0 => 0
  | i + 1 => ct_lk n kd st sl i + ct_lk1 n kd st sl (st i)
theorem ct_lk_s (n : Nat) (kd st : Nat → Nat) (sl : Nat → Nat → Nat) (i : Nat) : ct_lk n kd st sl (i + 1) = ct_lk n kd st sl i + ct_lk1 n kd st sl (st i) := rfl
theorem ct_by_at {n : Nat} {st : Nat → Nat} (h : ct_st n st) {i : Nat} (hi : i < n) (k : Nat) : ct_by n st (st i) k = st ((i + k) % n) := by
  unfold ct_by; rw [ct_pl_at h hi]
theorem ct_by_lt {n : Nat} {st : Nat → Nat} (h : ct_st n st) {p : Nat} (hn : 0 < n) (k : Nat) : ct_by n st p k < n := h.1 _ (Nat.mod_lt _ hn)
theorem mp_S0 {f : Nat → Nat} (h : ∀ t, t < 8 → f t = 0) : mp_S f = 0 := by
  obtain ⟨h0, h1, h2, h3, h4, h5, h6, h7⟩ := mp_all h
  unfold mp_S; omega
theorem xs_hearAll_l {F n : Nat} {kd st : Nat → Nat} {sl : Nat → Nat → Nat} {ki se : Nat → Int32} {tl : Nat → Int64} (hn : n ≤ 6) (hst : ct_st n st) (hkd : ct_kd n kd) (hki : cx_St n kd ki) (hse : cx_St n st se) (htl : cx_L n (ct_tl kd sl) tl) :
    ∀ k i, i + k = n → ∀ fuel, k < fuel → ∀ a : Nat → Int64, (∀ j, j < n → a (st j) = lN (mp_P (cx_kn (if j < i then ct_s2 n kd st sl else sl) (st j)))) →
      ∃ a', sx_lp3 (bdX0_hearAll_4 F ki se tl (nI n)) fuel (nI (ct_lk n kd st sl i)) (nI i) a = some (nI (ct_lk n kd st sl n), a') ∧ ∀ j, j < n → a' (st j) = lN (mp_P (cx_kn (ct_s2 n kd st sl) (st j))) := by
  intro k
  induction k with
  | zero =>
    intro i hi fuel hf a ha
    obtain ⟨f, rfl⟩ : ∃ f, fuel = f + 1 := ⟨fuel - 1, by omega⟩
    rw [sx_lp3_1, bdX0_hearAll_4]
    rw [if_pos ((nI_leI (by omega) (by omega)).mpr (by omega)), show i = n by omega]
    exact ⟨a, rfl, fun j hj => by rw [ha j hj, if_pos (by omega)]⟩
  | succ k ih =>
    intro i hi fuel hf a ha
    obtain ⟨f, rfl⟩ : ∃ f, fuel = f + 1 := ⟨fuel - 1, by omega⟩
    have hi' : i < n := by omega
    have hp : st i < n := hst.1 i hi'
    have m1 : (i + 1) % n < n := Nat.mod_lt _ (by omega)
    have m2 : (i + (n - 1)) % n < n := Nat.mod_lt _ (by omega)
    have q1 := hst.1 _ m1
    have q2 := hst.1 _ m2
    rw [sx_lp3_1, bdX0_hearAll_4]
    rw [if_neg (fun h => absurd ((nI_leI (by omega) (by omega)).mp h) (by omega)), sx_gd_e (nm_ib (by omega)), nI_clamp (by omega), hse i hi']
    simp only [sx_nm]
    rw [nI_1, xs_around hn (by omega) (by omega)]
    simp only [sx_c1]
    rw [sx_gd_e (nm_ib (by omega)), nI_clamp (by omega), hse _ m1, sx_gd_e (nm_ib (by omega)), nI_add, nm_1, pk_sub (by omega), xs_around hn (by omega) (by omega)]
    simp only []
    rw [show i + n - 1 = i + (n - 1) by omega, sx_gd_e (nm_ib (by omega)), nI_clamp (by omega), hse _ m2, sx_gd_e (nm_ib (by omega)), sx_gd_e (nm_ib (by omega)), nI_clamp (by omega), nI_clamp (by omega), nI_clamp (by omega)]
    have e1 := ha i hi'
    rw [if_neg (by omega)] at e1
    rw [htl _ q1, htl _ q2, e1]
    have enw : (lN (mp_P (ct_tl kd sl (st ((i + 1) % n)))) ||| lN (mp_P (ct_tl kd sl (st ((i + (n - 1)) % n))))) &&& (lN (mp_P (cx_kn sl (st i))) ^^^ (-1 : Int64)) = lN (mp_P (ct_nw n kd st sl (st i))) := by
      have b1 := ct_tl_B kd sl (st ((i + 1) % n))
      have b2 := ct_tl_B kd sl (st ((i + (n - 1)) % n))
      have b3 := cx_kn_B sl (st i)
      rw [ml_or, mp_or (b1.mono (by omega)) (b2.mono (by omega)), ml_m1, ml_xor, mp_xor (b3.mono (by omega)) (fun _ _ => by omega), ml_and, mp_and (fun j hj => by
        show ct_tl kd sl (st ((i + 1) % n)) j ||| ct_tl kd sl (st ((i + (n - 1)) % n)) j < 256
        rw [nb_or1 _ (b1 j hj) _ (b2 j hj)]
        have := b2 j hj
        split <;> omega) (fun j hj => by
        have : ∀ y, y < 2 → y ^^^ 255 < 256 := by decide +kernel
        exact this _ (b3 j hj))]
      congr 1
      refine mp_cong (fun j hj => ?_)
      have c1 := b1 j hj
      have c2 := b2 j hj
      rw [nb_not _ (by rw [nb_or1 _ (b1 j hj) _ (b2 j hj)]; split <;> omega) _ (b3 j hj), nb_or1 _ (b1 j hj) _ (b2 j hj)]
      unfold ct_nw
      rw [ct_by_at hst hi', ct_by_at hst hi']
      by_cases z : sl (st i) j = 0
      · rw [if_pos (by simp [cx_kn, z])]
        by_cases y1 : ct_tl kd sl (st ((i + 1) % n)) j = 0
        · rw [if_pos y1]
          by_cases y2 : ct_tl kd sl (st ((i + (n - 1)) % n)) j = 0
          · rw [y2, if_neg (by rintro ⟨-, h | h⟩ <;> omega)]
          · rw [if_pos ⟨z, Or.inr (by omega)⟩]; omega
        · rw [if_neg y1, if_pos ⟨z, Or.inl (by omega)⟩]
      · rw [if_neg (by simp [cx_kn, z]), if_neg (fun h => z h.1)]
    rw [enw]
    have hB := ct_nw_B n kd st sl (st i)
    have hB2 : mp_B 256 (ct_nw n kd st sl (st i)) := hB.mono (by omega)
    have step : ∀ (a2 : Nat → Int64) (v : Nat), v = ct_lk1 n kd st sl (st i) → (∀ q, q ≠ st i → a2 q = a q) → a2 (st i) = lN (mp_P (cx_kn (ct_s2 n kd st sl) (st i))) → ∃ a', sx_lp3 (bdX0_hearAll_4 F ki se tl (nI n)) f (nI (ct_lk n kd st sl i + v)) (nI (i + 1)) a2 = some (nI (ct_lk n kd st sl n), a') ∧ ∀ j, j < n → a' (st j) = lN (mp_P (cx_kn (ct_s2 n kd st sl) (st j))) := by
      intro a2 v hv h1 h2
      have := ih (i + 1) (by omega) f (by omega) a2 (fun j hj => ?_)
      · rw [ct_lk_s] at this; rw [hv]; exact this
      · by_cases e : j = i
        · subst e; rw [if_pos (by omega)]; exact h2
        · rw [h1 _ (fun q => e (hst.2 j i hj hi' q)), ha j hj]
          by_cases z : j < i
          · rw [if_pos z, if_pos (by omega)]
          · rw [if_neg z, if_neg (by omega)]
    simp only [sx_lt, nI_1]
    by_cases z : mp_P (ct_nw n kd st sl (st i)) = 0
    · rw [if_pos ((ml_cmp0 (mp_lt hB2)).mpr z)]
      rw [mp_0] at z
      have := step a 0 (by unfold ct_lk1; split; rfl; rw [mp_S0 z]) (fun _ _ => rfl) (by
        rw [e1]; congr 1; refine mp_cong (fun j hj => ?_)
        have := z j hj
        unfold cx_kn; rw [ct_s2_no (by rintro ⟨-, h⟩; omega)])
      exact this
    · rw [if_neg (fun q => z ((ml_cmp0 (mp_lt hB2)).mp q)), sx_gd_e (nm_ib (by omega)), hki _ hp, xs_hears (hkd _ hp)]
      simp only []
      by_cases y : kd (st i) = 4
      · rw [if_pos y, if_pos rfl]
        exact step a 0 (by unfold ct_lk1; rw [if_pos y]) (fun _ _ => rfl) (by
          rw [e1]; congr 1; refine mp_cong (fun j hj => ?_)
          unfold cx_kn; rw [ct_s2_no (by rintro ⟨h, -⟩; exact h y)])
      · rw [if_neg y, if_neg (by decide), sx_gd_e (nm_ib (by omega)), sx_gd_e (nm_ib (by omega)), xs_bitCount hB]
        simp only [nI_add]
        refine step _ _ (by unfold ct_lk1; rw [if_neg y]) (fun q hq => up_ne hq) ?_
        rw [up_same, ml_or, mp_or ((cx_kn_B sl (st i)).mono (by omega)) hB2]
        congr 1; refine mp_cong (fun j hj => ?_)
        have c1 := cx_kn_B sl (st i) j hj
        have c2 := hB j hj
        rw [nb_or1 _ c1 _ c2]
        unfold cx_kn ct_s2
        by_cases x : ct_nw n kd st sl (st i) j = 1
        · rw [x, if_pos (show kd (st i) ≠ 4 ∧ 1 = 1 from ⟨y, rfl⟩)]
          split <;> simp
        · rw [if_neg (show ¬ (kd (st i) ≠ 4 ∧ ct_nw n kd st sl (st i) j = 1) from fun h => x h.2), show ct_nw n kd st sl (st i) j = 0 by omega]
          by_cases w : sl (st i) j = 0 <;> simp [w]
theorem xs_hearAll {F n : Nat} {kd st : Nat → Nat} {sl : Nat → Nat → Nat} {ki se : Nat → Int32} {tl a : Nat → Int64} (hF : 1000 ≤ F) (hn : n ≤ 6) (hst : ct_st n st) (hkd : ct_kd n kd) (hki : cx_St n kd ki) (hse : cx_St n st se) (htl : cx_L n (ct_tl kd sl) tl) (ha : cx_L n (cx_kn sl) a) :
    ∃ a', fnX0_hearAll F ki se a tl (nI n) = some (nI (ct_lk n kd st sl n), a') ∧ cx_L n (cx_kn (ct_s2 n kd st sl)) a' := by
  unfold fnX0_hearAll
  obtain ⟨a', h1, h2⟩ := xs_hearAll_l (F := F) hn hst hkd hki hse htl n 0 (by omega) F (by omega) a (fun j hj => by rw [if_neg (by omega)]; exact ha _ (hst.1 j hj))
  refine ⟨a', h1, fun p hp => ?_⟩
  obtain ⟨i, hi, rfl⟩ := ct_onto hst hp
  exact h2 i hi
