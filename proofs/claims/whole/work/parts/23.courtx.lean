-- THE CLASS'S COURT: what its methods answer, in numbers
theorem mp_0 {g : Nat → Nat} : mp_P g = 0 ↔ ∀ t, t < 8 → g t = 0 := by
  constructor
  · intro h t ht
    unfold mp_P at h
    rcases (show t = 0 ∨ t = 1 ∨ t = 2 ∨ t = 3 ∨ t = 4 ∨ t = 5 ∨ t = 6 ∨ t = 7 by omega) with rfl | rfl | rfl | rfl | rfl | rfl | rfl | rfl <;> omega
  · intro h
    obtain ⟨h0, h1, h2, h3, h4, h5, h6, h7⟩ := mp_all h
    unfold mp_P; omega
theorem nb_and128 : ∀ x, x < 16 → x &&& 128 = 0 := by decide +kernel
theorem nb_or0 (v : Nat) : 0 ||| v = v := Nat.zero_or v
theorem nb_255 : ∀ x, x < 256 → x &&& 255 = x := by decide +kernel
theorem nb_top : ∀ x, x < 16 → (x + 127) &&& 128 = if x = 0 then 0 else 128 := by decide +kernel
theorem nb_not : ∀ x, x < 2 → ∀ y, y < 2 → x &&& (y ^^^ 255) = if y = 0 then x else 0 := by decide +kernel
theorem nb_and1 : ∀ x, x < 2 → x &&& 1 = x := by decide +kernel
theorem nb_or1 : ∀ x, x < 2 → ∀ y, y < 2 → x ||| y = if x = 0 then y else 1 := by decide +kernel
theorem nm_127 : (127 : Int32) = nI 127 := by decide +kernel
theorem xs_isKnownBy {F n p t : Nat} {sl : Nat → Nat → Nat} {a : Nat → Int64} (hn : n ≤ 6) (hp : p < n) (ht : t < 8) (hk : cx_L n (cx_kn sl) a) : fnX0_isKnownBy F a (nI p) (nI t) = some (if sl p t = 0 then 0 else 1) := by
  unfold fnX0_isKnownBy
  rw [sx_gd_e (nm_ib (by omega)), ml_byteOf F ht]
  simp only [sx_c1]
  rw [nI_clamp (by omega), hk p hp, ml_and, mp_and ((cx_kn_B sl p).mono (by omega)) (mp_u_B (by omega))]
  have hB : mp_B 256 (fun j => cx_kn sl p j &&& mp_u t 1 j) := fun j hj => Nat.lt_of_le_of_lt Nat.and_le_left ((cx_kn_B sl p).mono (b := 256) (by omega) j hj)
  have e : lg_cmp (lN (mp_P (fun j => cx_kn sl p j &&& mp_u t 1 j))) (0 : Int64) = 0 ↔ sl p t = 0 := by
    rw [ml_cmp0 (mp_lt hB), mp_0]
    constructor
    · intro h
      have h1 := h t ht
      simp only [mp_u, if_true] at h1
      rw [nb_and1 _ (cx_kn_B sl p t ht)] at h1
      unfold cx_kn at h1
      split at h1
      · assumption
      · omega
    · intro h j hj
      by_cases q : j = t
      · subst q; simp [cx_kn, h]
      · simp [mp_u, q]
  by_cases h : sl p t = 0
  · rw [if_pos (e.mpr h), if_pos h]
  · rw [if_neg (fun q => h (e.mp q)), if_neg h]
theorem ml_dig {f : Nat → Nat} (hf : mp_B 128 f) {t : Nat} (ht : t < 8) : (((lN (mp_P f)).toUInt64 >>> ((nI (8 * t)).toInt64.toUInt64 &&& Int64.toUInt64 63)).toInt64).toInt32 &&& (127 : Int32) = nI (f t) := by
  rw [ml_shr (mp_lt (hf.mono (by omega))) (by omega), lN_i, nm_127, show (127 : Nat) = 2 ^ 7 - 1 by rfl, fa_mask]
  have h1 := mp_dig (hf.mono (b := 256) (by omega)) ht
  have h2 := hf t ht
  congr 1; omega
theorem xs_strengthOf {F n p t : Nat} {sl : Nat → Nat → Nat} {a : Nat → Int64} (hn : n ≤ 6) (hp : p < n) (ht : t < 8) (hsl : ct_sl n sl) (hk : cx_L n (cx_sg sl) a) : fnX0_strengthOf F a (nI p) (nI t) = some (nI (sl p t - 1)) := by
  unfold fnX0_strengthOf
  rw [sx_gd_e (nm_ib (by omega)), nI_clamp (by omega), hk p hp, ml_8, ml_dig ((cx_sg_B hsl hp).mono (by omega)) ht]
  rfl
/-- one seal more -/
def ct_put (sl : Nat → Nat → Nat) (p t v : Nat) : Nat → Nat → Nat := fun q j => if q = p ∧ j = t then v else sl q j
theorem ct_put_sl {n : Nat} {sl : Nat → Nat → Nat} (h : ct_sl n sl) {p t v : Nat} (hv : v ≤ 10) : ct_sl n (ct_put sl p t v) := by
  intro q hq j hj; unfold ct_put; split
  · exact hv
  · exact h q hq j hj
theorem up_same {f : Nat → Int64} {k : Nat} {x : Int64} : vp_updL f k x k = x := pk_uLs
theorem up_ne {f : Nat → Int64} {k j : Nat} {x : Int64} (h : j ≠ k) : vp_updL f k x j = f j := pk_uLn h
theorem cx_L_upd {n p : Nat} {g g' : Nat → Nat → Nat} {a : Nat → Int64} {x : Int64} (h : cx_L n g a) (hx : x = lN (mp_P (g' p))) (hg : ∀ q, q < n → q ≠ p → ∀ j, j < 8 → g' q j = g q j) : cx_L n g' (vp_updL a p x) := by
  intro q hq
  by_cases e : q = p
  · subst e; rw [up_same, hx]
  · rw [up_ne e, h q hq, mp_cong (hg q hq e)]
theorem xs_learn {F n p t v : Nat} {sl : Nat → Nat → Nat} {a b : Nat → Int64} (hn : n ≤ 6) (hp : p < n) (ht : t < 8) (hv : v ≤ 9) (hsl : ct_sl n sl) (ha : cx_L n (cx_kn sl) a) (hb : cx_L n (cx_sg sl) b) :
    ∃ a' b', fnX0_learn F a b (nI p) (nI t) (nI v) = some (a', b') ∧ cx_L n (cx_kn (ct_put sl p t (v + 1))) a' ∧ cx_L n (cx_sg (ct_put sl p t (v + 1))) b' := by
  unfold fnX0_learn
  rw [ml_byteOf F ht]
  simp only [sx_c1]
  rw [sx_gd_e (nm_ib (by omega)), sx_gd_e (nm_ib (by omega)), sx_gd_e (nm_ib (by omega)), sx_gd_e (nm_ib (by omega)), nI_clamp (by omega)]
  refine ⟨_, _, rfl, cx_L_upd ha ?_ ?_, cx_L_upd hb ?_ ?_⟩
  · rw [ha p hp, ml_or, mp_or ((cx_kn_B sl p).mono (by omega)) (mp_u_B (by omega))]
    congr 1
    refine mp_cong (fun j hj => ?_)
    have h1 := cx_kn_B sl p j hj
    rw [nb_or1 _ h1 _ (mp_u_B (by omega) j hj)]
    by_cases e : j = t
    · subst e; simp [cx_kn, ct_put, mp_u]
    · simp [cx_kn, ct_put, mp_u, e]
  · intro q hq hqp j hj; simp [cx_kn, ct_put, hqp]
  · have h9 := cx_sg_B hsl hp
    rw [hb p hp, ml_127, nI_l (by omega), lN_mul, lN_mul, ml_m1, mp_mul, mp_mul, ml_xor, mp_xor (fun j hj => by have := mp_u_B (t := t) (v := 1) (b := 2) (by omega) j hj; omega) (fun _ _ => by omega), ml_and, mp_and (h9.mono (by omega)) (fun j hj => by
      have h8 := mp_u_B (t := t) (v := 1) (b := 2) (by omega) j hj
      have : ∀ x, x < 2 → (x * 127) ^^^ 255 < 256 := by decide +kernel
      exact this _ h8), ml_or, mp_or (fun j hj => Nat.lt_of_le_of_lt Nat.and_le_left (h9.mono (b := 256) (by omega) j hj)) (fun j hj => by
      have h8 := mp_u_B (t := t) (v := 1) (b := 2) (by omega) j hj
      show mp_u t 1 j * v < 256
      rcases (show mp_u t 1 j = 0 ∨ mp_u t 1 j = 1 by omega) with e | e <;> rw [e] <;> omega)]
    congr 1
    refine mp_cong (fun j hj => ?_)
    have h1 := h9 j hj
    by_cases e : j = t
    · subst e
      simp only [mp_u, if_true, Nat.one_mul]
      rw [show (127 ^^^ 255 : Nat) = 128 by decide, nb_and128 _ (by omega), nb_or0]
      simp [cx_sg, ct_put]
    · simp only [mp_u, if_neg e, Nat.zero_mul]
      rw [show (0 ^^^ 255 : Nat) = 255 by decide, nb_255 _ (by omega), Nat.or_zero]
      simp [cx_sg, ct_put, e]
  · intro q hq hqp j hj; simp [cx_sg, ct_put, hqp]
/-- which of one's things are sealed, open -/
theorem xs_sealedIn {F : Nat} {f : Nat → Nat} (hf : mp_B 10 f) : fnX4_sealedIn F (lN (mp_P f)) = some (lN (mp_P (fun t => if f t = 0 then 0 else 1))) := by
  unfold fnX4_sealedIn
  rw [ml_low, ml_top, lN_add, mp_add, ml_and, mp_and (fun j hj => by have := hf j hj; omega) (fun _ _ => by omega), show (7 : Int32) = nI 7 by decide +kernel]
  rw [ml_shr (mp_lt (fun j hj => Nat.lt_of_le_of_lt Nat.and_le_left (by have := hf j hj; omega))) (by omega)]
  rw [mp_div (g := fun t => if f t = 0 then 0 else 1) (by decide) (fun j hj => by
    rw [nb_top _ (by have := hf j hj; omega)]; split <;> simp)]
def ct_op (sl : Nat → Nat → Nat) (p : Nat) : Nat → Nat := fun t => if sl p t = 1 then 1 else 0
theorem ct_op_B (sl : Nat → Nat → Nat) (p : Nat) : mp_B 2 (ct_op sl p) := by intro t _; unfold ct_op; split <;> omega
theorem xs_openOf {F n p : Nat} {sl : Nat → Nat → Nat} {a b : Nat → Int64} (hn : n ≤ 6) (hp : p < n) (hsl : ct_sl n sl) (ha : a p = lN (mp_P (cx_kn sl p))) (hb : b p = lN (mp_P (cx_sg sl p))) : fnX0_openOf F a b (nI p) = some (lN (mp_P (ct_op sl p))) := by
  unfold fnX0_openOf
  rw [sx_gd_e (nm_ib (by omega)), sx_gd_e (nm_ib (by omega)), nI_clamp (by omega), hb, xs_sealedIn (cx_sg_B hsl hp)]
  simp only [sx_c1]
  rw [ha, ml_m1, ml_xor, mp_xor (fun j hj => by split <;> omega) (fun _ _ => by omega), ml_and, mp_and ((cx_kn_B sl p).mono (by omega)) (fun j hj => by
    have : ∀ y, y < 2 → y ^^^ 255 < 256 := by decide +kernel
    exact this _ (by split <;> omega))]
  congr 2
  refine mp_cong (fun j hj => ?_)
  rw [nb_not _ (cx_kn_B sl p j hj) _ (by split <;> omega)]
  have h1 := hsl p hp j hj
  unfold cx_kn cx_sg ct_op
  rcases Nat.lt_or_ge (sl p j) 1 with h | h
  · simp [show sl p j = 0 by omega]
  · by_cases h2 : sl p j = 1
    · simp [h2]
    · have e1 : ¬ sl p j - 1 = 0 := by omega
      have e2 : ¬ sl p j = 0 := by omega
      simp [e1, h2]
def mp_S (f : Nat → Nat) : Nat := f 0 + f 1 + f 2 + f 3 + f 4 + f 5 + f 6 + f 7
set_option maxRecDepth 20000 in
theorem bc_dec : ∀ s, s < 256 → fnJ13_bitCount_95d88 0 (lN (mp_P (fun t => s / 2 ^ t % 2))) = some (nI (mp_S (fun t => s / 2 ^ t % 2))) := by decide +kernel
theorem xs_bitCount {F : Nat} {f : Nat → Nat} (hf : mp_B 2 f) : fnJ13_bitCount_95d88 F (lN (mp_P f)) = some (nI (mp_S f)) := by
  obtain ⟨h0, h1, h2, h3, h4, h5, h6, h7⟩ := mp_all hf
  have h := bc_dec (f 0 + 2 * f 1 + 4 * f 2 + 8 * f 3 + 16 * f 4 + 32 * f 5 + 64 * f 6 + 128 * f 7) (by omega)
  have e : ∀ t, t < 8 → (f 0 + 2 * f 1 + 4 * f 2 + 8 * f 3 + 16 * f 4 + 32 * f 5 + 64 * f 6 + 128 * f 7) / 2 ^ t % 2 = f t := by
    intro t ht
    rcases (show t = 0 ∨ t = 1 ∨ t = 2 ∨ t = 3 ∨ t = 4 ∨ t = 5 ∨ t = 6 ∨ t = 7 by omega) with rfl | rfl | rfl | rfl | rfl | rfl | rfl | rfl <;> omega
  rw [mp_cong e] at h
  have e2 : mp_S (fun t => (f 0 + 2 * f 1 + 4 * f 2 + 8 * f 3 + 16 * f 4 + 32 * f 5 + 64 * f 6 + 128 * f 7) / 2 ^ t % 2) = mp_S f := by
    unfold mp_S
    dsimp only
    rw [e 0 (by omega), e 1 (by omega), e 2 (by omega), e 3 (by omega), e 4 (by omega), e 5 (by omega), e 6 (by omega), e 7 (by omega)]
  rw [e2] at h
  exact h
/-- how many of one's things are sealed -/
def ct_rank (sl : Nat → Nat → Nat) (p : Nat) : Nat := mp_S (fun t => if sl p t ≤ 1 then 0 else 1)
theorem xs_rankOf {F n p : Nat} {sl : Nat → Nat → Nat} {b : Nat → Int64} (hn : n ≤ 6) (hp : p < n) (hsl : ct_sl n sl) (hb : cx_L n (cx_sg sl) b) : fnX0_rankOf F b (nI p) = some (nI (ct_rank sl p)) := by
  unfold fnX0_rankOf
  rw [sx_gd_e (nm_ib (by omega)), nI_clamp (by omega), hb p hp, xs_sealedIn (cx_sg_B hsl hp)]
  simp only [sx_c1]
  rw [xs_bitCount (fun j hj => by split <;> omega)]
  simp only []
  congr 2
  unfold ct_rank cx_sg
  congr 1
  funext t
  by_cases h : sl p t ≤ 1
  · rw [if_pos (by omega), if_pos h]
  · rw [if_neg (by omega), if_neg h]
