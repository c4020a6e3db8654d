-- BYTES: a long of eight bytes, and what the class does with them
/-- eight bytes as one number -/
def mp_P (f : Nat → Nat) : Nat := f 0 + 256 * (f 1 + 256 * (f 2 + 256 * (f 3 + 256 * (f 4 + 256 * (f 5 + 256 * (f 6 + 256 * f 7))))))
def mp_B (b : Nat) (f : Nat → Nat) : Prop := ∀ t, t < 8 → f t < b
theorem mp_all {P : Nat → Prop} (h : ∀ t, t < 8 → P t) : P 0 ∧ P 1 ∧ P 2 ∧ P 3 ∧ P 4 ∧ P 5 ∧ P 6 ∧ P 7 := ⟨h 0 (by omega), h 1 (by omega), h 2 (by omega), h 3 (by omega), h 4 (by omega), h 5 (by omega), h 6 (by omega), h 7 (by omega)⟩
theorem mp_cong {f g : Nat → Nat} (h : ∀ t, t < 8 → f t = g t) : mp_P f = mp_P g := by
  obtain ⟨h0, h1, h2, h3, h4, h5, h6, h7⟩ := mp_all h
  unfold mp_P
  rw [h0, h1, h2, h3, h4, h5, h6, h7]
theorem mp_B.mono {a b : Nat} {f : Nat → Nat} (h : mp_B a f) (hab : a ≤ b) : mp_B b f := fun t ht => Nat.lt_of_lt_of_le (h t ht) hab
theorem mp_lt {f : Nat → Nat} (h : mp_B 256 f) : mp_P f < 2 ^ 64 := by
  obtain ⟨h0, h1, h2, h3, h4, h5, h6, h7⟩ := mp_all h
  unfold mp_P
  omega
theorem mp_and1 {a b x y : Nat} (ha : a < 256) (hb : b < 256) : (a + 256 * x) &&& (b + 256 * y) = (a &&& b) + 256 * (x &&& y) := by
  have h1 := Nat.mod_add_div ((a + 256 * x) &&& (b + 256 * y)) (2 ^ 8)
  rw [Nat.and_mod_two_pow, Nat.and_div_two_pow] at h1
  rw [show (a + 256 * x) % 2 ^ 8 = a by omega, show (b + 256 * y) % 2 ^ 8 = b by omega, show (a + 256 * x) / 2 ^ 8 = x by omega, show (b + 256 * y) / 2 ^ 8 = y by omega] at h1
  exact h1.symm
theorem mp_or1 {a b x y : Nat} (ha : a < 256) (hb : b < 256) : (a + 256 * x) ||| (b + 256 * y) = (a ||| b) + 256 * (x ||| y) := by
  have h1 := Nat.mod_add_div ((a + 256 * x) ||| (b + 256 * y)) (2 ^ 8)
  rw [Nat.or_mod_two_pow, Nat.or_div_two_pow] at h1
  rw [show (a + 256 * x) % 2 ^ 8 = a by omega, show (b + 256 * y) % 2 ^ 8 = b by omega, show (a + 256 * x) / 2 ^ 8 = x by omega, show (b + 256 * y) / 2 ^ 8 = y by omega] at h1
  exact h1.symm
theorem mp_xor1 {a b x y : Nat} (ha : a < 256) (hb : b < 256) : (a + 256 * x) ^^^ (b + 256 * y) = (a ^^^ b) + 256 * (x ^^^ y) := by
  have h1 := Nat.mod_add_div ((a + 256 * x) ^^^ (b + 256 * y)) (2 ^ 8)
  rw [Nat.xor_mod_two_pow, Nat.xor_div_two_pow] at h1
  rw [show (a + 256 * x) % 2 ^ 8 = a by omega, show (b + 256 * y) % 2 ^ 8 = b by omega, show (a + 256 * x) / 2 ^ 8 = x by omega, show (b + 256 * y) / 2 ^ 8 = y by omega] at h1
  exact h1.symm
theorem mp_and {f g : Nat → Nat} (hf : mp_B 256 f) (hg : mp_B 256 g) : mp_P f &&& mp_P g = mp_P (fun t => f t &&& g t) := by
  obtain ⟨h0, h1, h2, h3, h4, h5, h6, h7⟩ := mp_all hf
  obtain ⟨k0, k1, k2, k3, k4, k5, k6, k7⟩ := mp_all hg
  unfold mp_P
  rw [mp_and1 h0 k0, mp_and1 h1 k1, mp_and1 h2 k2, mp_and1 h3 k3, mp_and1 h4 k4, mp_and1 h5 k5, mp_and1 h6 k6]
theorem mp_or {f g : Nat → Nat} (hf : mp_B 256 f) (hg : mp_B 256 g) : mp_P f ||| mp_P g = mp_P (fun t => f t ||| g t) := by
  obtain ⟨h0, h1, h2, h3, h4, h5, h6, h7⟩ := mp_all hf
  obtain ⟨k0, k1, k2, k3, k4, k5, k6, k7⟩ := mp_all hg
  unfold mp_P
  rw [mp_or1 h0 k0, mp_or1 h1 k1, mp_or1 h2 k2, mp_or1 h3 k3, mp_or1 h4 k4, mp_or1 h5 k5, mp_or1 h6 k6]
theorem mp_xor {f g : Nat → Nat} (hf : mp_B 256 f) (hg : mp_B 256 g) : mp_P f ^^^ mp_P g = mp_P (fun t => f t ^^^ g t) := by
  obtain ⟨h0, h1, h2, h3, h4, h5, h6, h7⟩ := mp_all hf
  obtain ⟨k0, k1, k2, k3, k4, k5, k6, k7⟩ := mp_all hg
  unfold mp_P
  rw [mp_xor1 h0 k0, mp_xor1 h1 k1, mp_xor1 h2 k2, mp_xor1 h3 k3, mp_xor1 h4 k4, mp_xor1 h5 k5, mp_xor1 h6 k6]
theorem mp_add (f g : Nat → Nat) : mp_P f + mp_P g = mp_P (fun t => f t + g t) := by
  unfold mp_P; dsimp only; omega
theorem mp_sub {f g : Nat → Nat} (h : ∀ t, t < 8 → g t ≤ f t) : mp_P f - mp_P g = mp_P (fun t => f t - g t) := by
  obtain ⟨h0, h1, h2, h3, h4, h5, h6, h7⟩ := mp_all h
  unfold mp_P; dsimp only; omega
theorem mp_le {f g : Nat → Nat} (h : ∀ t, t < 8 → g t ≤ f t) : mp_P g ≤ mp_P f := by
  obtain ⟨h0, h1, h2, h3, h4, h5, h6, h7⟩ := mp_all h
  unfold mp_P; omega
theorem mp_mul (f : Nat → Nat) (k : Nat) : mp_P f * k = mp_P (fun t => f t * k) := by
  unfold mp_P
  simp only [Nat.add_mul, Nat.mul_assoc, Nat.mul_add]
theorem mp_div {f g : Nat → Nat} {k : Nat} (hk : 0 < k) (h : ∀ t, t < 8 → f t = k * g t) : mp_P f / k = mp_P g := by
  have e : mp_P f = mp_P g * k := by
    rw [mp_mul]; exact mp_cong (fun t ht => by rw [h t ht, Nat.mul_comm])
  rw [e, Nat.mul_div_cancel _ hk]
/-- one byte -/
theorem mp_dig {f : Nat → Nat} (hf : mp_B 256 f) {t : Nat} (ht : t < 8) : mp_P f / 2 ^ (8 * t) % 256 = f t := by
  obtain ⟨h0, h1, h2, h3, h4, h5, h6, h7⟩ := mp_all hf
  unfold mp_P
  rcases (show t = 0 ∨ t = 1 ∨ t = 2 ∨ t = 3 ∨ t = 4 ∨ t = 5 ∨ t = 6 ∨ t = 7 by omega) with rfl | rfl | rfl | rfl | rfl | rfl | rfl | rfl <;> omega
theorem mp_inj {f g : Nat → Nat} (hf : mp_B 256 f) (hg : mp_B 256 g) (h : mp_P f = mp_P g) : ∀ t, t < 8 → f t = g t := by
  intro t ht
  rw [← mp_dig hf ht, ← mp_dig hg ht, h]
/-- the byte of one place alone -/
def mp_u (t v : Nat) : Nat → Nat := fun j => if j = t then v else 0
theorem mp_u_P {t : Nat} (ht : t < 8) (v : Nat) : mp_P (mp_u t v) = 2 ^ (8 * t) * v := by
  unfold mp_P mp_u
  rcases (show t = 0 ∨ t = 1 ∨ t = 2 ∨ t = 3 ∨ t = 4 ∨ t = 5 ∨ t = 6 ∨ t = 7 by omega) with rfl | rfl | rfl | rfl | rfl | rfl | rfl | rfl <;> simp <;> omega
theorem mp_u_B {t v b : Nat} (h : v < b) : mp_B b (mp_u t v) := by
  intro j _
  unfold mp_u
  split <;> omega
-- longs
theorem ml_and (a b : Nat) : lN a &&& lN b = lN (a &&& b) := fb_andL a b
theorem ml_or (a b : Nat) : lN a ||| lN b = lN (a ||| b) := fb_orL a b
theorem ml_xor (a b : Nat) : lN a ^^^ lN b = lN (a ^^^ b) := fb_xorL a b
theorem ml_m1 : (-1 : Int64) = lN (mp_P (fun _ => 255)) := by decide +kernel
theorem ml_low : (9187201950435737471 : Int64) = lN (mp_P (fun _ => 127)) := by decide +kernel
theorem ml_top : (-9187201950435737472 : Int64) = lN (mp_P (fun _ => 128)) := by decide +kernel
theorem ml_one : (72340172838076673 : Int64) = lN (mp_P (fun _ => 1)) := by decide +kernel
theorem ml_127 : (127 : Int64) = lN 127 := by decide +kernel
theorem ml_0 : (0 : Int64) = lN (mp_P (fun _ => 0)) := by decide +kernel
theorem ml_1 : (1 : Int64) = lN 1 := by decide +kernel
theorem ml_shr {n k : Nat} (hn : n < 2 ^ 64) (hk : k < 64) : ((lN n).toUInt64 >>> ((nI k).toInt64.toUInt64 &&& Int64.toUInt64 63)).toInt64 = lN (n / 2 ^ k) := wb_shr hn hk
theorem ml_eq {a b : Nat} (ha : a < 2 ^ 64) (hb : b < 2 ^ 64) : lN a = lN b ↔ a = b := by
  constructor
  · intro h
    have h1 := wb_tn ha
    have h2 := wb_tn hb
    rw [h] at h1
    omega
  · intro h; rw [h]
theorem ml_8 (t : Nat) : (8 : Int32) * nI t = nI (8 * t) := pk_mul 8 t
/-- 1 << 8 t -/
theorem ml_byteOf (F : Nat) {t : Nat} (ht : t < 8) : fnX4_byteOf F (nI t) = some (lN (mp_P (mp_u t 1))) := by
  unfold fnX4_byteOf
  rw [ml_8, ml_1, wb_shl 1 (by omega), mp_u_P ht, Nat.one_mul, Nat.mul_one]
theorem ml_cmp0 {a : Nat} (ha : a < 2 ^ 64) : lg_cmp (lN a) (0 : Int64) = 0 ↔ a = 0 := by
  have e : lN a = (0 : Int64) ↔ a = 0 := by
    rw [show (0 : Int64) = lN 0 by decide +kernel]; exact ml_eq ha (by decide)
  unfold lg_cmp
  by_cases h : lN a = (0 : Int64)
  · rw [h]; simp; exact e.mp h
  · constructor
    · intro q
      rw [if_neg h] at q
      split at q
      · exact absurd q (by decide)
      · exact absurd q (by decide)
    · intro q; exact absurd (e.mpr q) h
