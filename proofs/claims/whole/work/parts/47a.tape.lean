-- THE TAPE
theorem c1_e {A1 O : Type} (a : A1) (k : A1 → Option O) : sx_c1 (some a) k = k a := rfl
theorem c2_e {A1 A2 O : Type} (a : A1) (b : A2) (k : A1 → A2 → Option O) : sx_c2 (some (a, b)) k = k a b := rfl
theorem c3_e {A1 A2 A3 O : Type} (a : A1) (b : A2) (c : A3) (k : A1 → A2 → A3 → Option O) : sx_c3 (some (a, b, c)) k = k a b c := rfl
theorem c4_e {A1 A2 A3 A4 O : Type} (a : A1) (b : A2) (c : A3) (d : A4) (k : A1 → A2 → A3 → A4 → Option O) : sx_c4 (some (a, b, c, d)) k = k a b c d := rfl
theorem c6_e {A1 A2 A3 A4 A5 A6 O : Type} (a : A1) (b : A2) (c : A3) (d : A4) (e : A5) (f : A6) (k : A1 → A2 → A3 → A4 → A5 → A6 → Option O) : sx_c6 (some (a, b, c, d, e, f)) k = k a b c d e f := rfl
theorem c7_e {A1 A2 A3 A4 A5 A6 A7 O : Type} (a : A1) (b : A2) (c : A3) (d : A4) (e : A5) (f : A6) (g : A7) (k : A1 → A2 → A3 → A4 → A5 → A6 → A7 → Option O) : sx_c7 (some (a, b, c, d, e, f, g)) k = k a b c d e f g := rfl
theorem c9_e {A1 A2 A3 A4 A5 A6 A7 A8 A9 O : Type} (a : A1) (b : A2) (c : A3) (d : A4) (e : A5) (f : A6) (g : A7) (h : A8) (i : A9) (k : A1 → A2 → A3 → A4 → A5 → A6 → A7 → A8 → A9 → Option O) : sx_c9 (some (a, b, c, d, e, f, g, h, i)) k = k a b c d e f g h i := rfl
theorem c10_e {A1 A2 A3 A4 A5 A6 A7 A8 A9 A10 O : Type} (a : A1) (b : A2) (c : A3) (d : A4) (e : A5) (f : A6) (g : A7) (h : A8) (i : A9) (j : A10) (k : A1 → A2 → A3 → A4 → A5 → A6 → A7 → A8 → A9 → A10 → Option O) : sx_c10 (some (a, b, c, d, e, f, g, h, i, j)) k = k a b c d e f g h i j := rfl
theorem sx_nm_e {α β : Type} (e : α) (k : α → β) : sx_nm e k = k e := rfl
def tq_l (tp : Nat → Nat) (n a : Nat) : Nat := if a < n then tp a else 0
def tq_k (tp : Nat → Nat) (n : Nat) : Nat → Nat → Nat
  | 0, a => a
  | k + 1, a => if a < n ∧ tp a = 32 then tq_k tp n k (a + 1) else a
/-- the place behind blanks -/
def tq_s (tp : Nat → Nat) (n a : Nat) : Nat := tq_k tp n (n - a) a
/-- the letter there -/
def tq_c (tp : Nat → Nat) (n a : Nat) : Nat := tq_l tp n (tq_s tp n a)
def tq_ok (tp : Nat → Nat) (n : Nat) (f : Nat → Int32) : Prop := n ≤ 70 ∧ ∀ i, i < n → f i = nI (tp i) ∧ 32 ≤ tp i ∧ tp i ≤ 126
def tq_d (tp : Nat → Nat) (n a : Nat) : Prop := a < n ∧ 48 ≤ tp a ∧ tp a ≤ 57
theorem tq_ks (tp : Nat → Nat) (n k a : Nat) : tq_k tp n (k + 1) a = if a < n ∧ tp a = 32 then tq_k tp n k (a + 1) else a := rfl
theorem tq_le (tp : Nat → Nat) (n : Nat) : ∀ k a, a ≤ n → tq_k tp n k a ≤ n
  | 0, a, h => h
  | k + 1, a, h => by
    rw [tq_ks]
    by_cases c : a < n ∧ tp a = 32
    · rw [if_pos c]; exact tq_le tp n k (a + 1) (by omega)
    · rw [if_neg c]; exact h
theorem tq_stop (tp : Nat → Nat) (n : Nat) : ∀ k a, n ≤ a + k → ¬ (tq_k tp n k a < n ∧ tp (tq_k tp n k a) = 32)
  | 0, a, h => fun q => by
    have h2 : a < n := q.1
    omega
  | k + 1, a, h => by
    rw [tq_ks]
    by_cases c : a < n ∧ tp a = 32
    · rw [if_pos c]; exact tq_stop tp n k (a + 1) (by omega)
    · rw [if_neg c]; exact c
theorem tq_fix {tp : Nat → Nat} {n a : Nat} (h : ¬ (a < n ∧ tp a = 32)) : tq_s tp n a = a := by
  unfold tq_s
  cases n - a with
  | zero => rfl
  | succ k => rw [tq_ks, if_neg h]
theorem tq_id (tp : Nat → Nat) (n a : Nat) : tq_s tp n (tq_s tp n a) = tq_s tp n a := tq_fix (tq_stop tp n (n - a) a (by omega))
theorem tq_s_le {tp : Nat → Nat} {n a : Nat} (h : a ≤ n) : tq_s tp n a ≤ n := tq_le tp n _ a h
theorem tq_c_id (tp : Nat → Nat) (n a : Nat) : tq_c tp n (tq_s tp n a) = tq_c tp n a := by unfold tq_c; rw [tq_id]
theorem tq_c_lt {tp : Nat → Nat} {n : Nat} {f : Nat → Int32} (hf : tq_ok tp n f) (a : Nat) : tq_c tp n a < 127 := by
  unfold tq_c tq_l
  by_cases q : tq_s tp n a < n
  · rw [if_pos q]; have := (hf.2 _ q).2; omega
  · rw [if_neg q]; omega
theorem tq_in {tp : Nat → Nat} {n a : Nat} (h : tq_c tp n a ≠ 0) : tq_s tp n a < n := by
  unfold tq_c tq_l at h
  by_cases q : tq_s tp n a < n
  · exact q
  · rw [if_neg q] at h; exact absurd rfl h
theorem tq_at {tp : Nat → Nat} {n a : Nat} (h : tq_s tp n a < n) : tq_c tp n a = tp (tq_s tp n a) := if_pos h
theorem tq_dc {tp : Nat → Nat} {n a : Nat} : (48 ≤ tq_c tp n a ∧ tq_c tp n a ≤ 57) ↔ tq_d tp n (tq_s tp n a) := by
  constructor
  · intro h
    have q := tq_in (tp := tp) (n := n) (a := a) (by omega)
    rw [tq_at q] at h
    exact ⟨q, h⟩
  · intro h
    rw [tq_at h.1]; exact h.2
theorem nm_32 : (32 : Int32) = nI 32 := by decide +kernel
theorem i48 : (48 : Int32).toInt = 48 := by decide
theorem i57 : (57 : Int32).toInt = 57 := by decide
theorem lw48 : (48 : Int64) = (48 : Int32).toInt64 := by decide
theorem lw57 : (57 : Int64) = (57 : Int32).toInt64 := by decide
theorem rgI {c : Nat} {lo hi : Int} (hc : c < 2 ^ 31) : rg (nI c) lo hi = true ↔ lo ≤ (c : Int) ∧ (c : Int) ≤ hi := by
  unfold rg; rw [nI_toInt hc]; exact decide_eq_true_iff
theorem rgS {c : Nat} {lo hi : Int} (hc : c < 127) : rg (nI c - 48) lo hi = true ↔ lo + 48 ≤ (c : Int) ∧ (c : Int) ≤ hi + 48 := by
  unfold rg
  rw [nm_48, pk_sub_toInt (by omega) (by omega), decide_eq_true_iff]
  omega
theorem xp_l {tp : Nat → Nat} {n : Nat} {f : Nat → Int32} (hf : tq_ok tp n f) (kf : Int32 → Option (Int32 × Int32)) : ∀ k a, a + k = n → ∀ fuel, k < fuel → sx_lp1 (bdX3_peek_0 1000 f (nI n) kf) fuel (nI a) = kf (nI (tq_k tp n k a)) := by
  have hn := hf.1
  intro k
  induction k with
  | zero =>
    intro a ha fuel hfu
    obtain ⟨fu, rfl⟩ : ∃ g, fuel = g + 1 := ⟨fuel - 1, by omega⟩
    rw [sx_lp1_1, bdX3_peek_0, if_pos (nI_leT (by omega) (by omega))]
    rfl
  | succ k ih =>
    intro a ha fuel hfu
    obtain ⟨fu, rfl⟩ : ∃ g, fuel = g + 1 := ⟨fuel - 1, by omega⟩
    obtain ⟨e, h1, h2⟩ := hf.2 a (by omega)
    rw [sx_lp1_1, bdX3_peek_0, if_neg (nI_nleI (by omega) (by omega)), sx_gd_e (nm_ib (by omega)), nI_clamp (by omega), e, tq_ks, nm_32]
    by_cases z : tp a = 32
    · rw [if_pos (by rw [z]), if_pos ⟨by omega, z⟩, nI_1]
      exact ih (a + 1) (by omega) fu (by omega)
    · rw [if_neg (fun q => z ((nI_eq (by omega) (by omega)).mp q)), if_neg (fun q => z q.2)]
theorem xp {tp : Nat → Nat} {n : Nat} {f : Nat → Int32} (hf : tq_ok tp n f) {a : Nat} (ha : a ≤ n) : fnX3_peek 1000 f (nI n) (nI a) = some (nI (tq_c tp n a), nI (tq_s tp n a)) := by
  have hn := hf.1
  have hs := tq_s_le (tp := tp) ha
  unfold fnX3_peek
  simp only [sx_lt]
  rw [xp_l hf _ (n - a) a (by omega) 1000 (by omega), show tq_k tp n (n - a) a = tq_s tp n a from rfl]
  unfold tq_c tq_l
  by_cases z : tq_s tp n a < n
  · rw [if_neg (nI_nleI z (by omega)), if_pos z, sx_gd_e (nm_ib (by omega)), nI_clamp (by omega), (hf.2 _ z).1]
  · rw [if_pos (nI_leT (by omega) (by omega)), if_neg z]
    rfl
theorem yp_l {tp : Nat → Nat} {n : Nat} {f : Nat → Int32} (hf : tq_ok tp n f) (kf : Int32 → Option (Int32 × Int32)) : ∀ k a, a + k = n → ∀ fuel, k < fuel → sx_lp1 (bdX5_here_0 1000 f (nI n) kf) fuel (nI a) = kf (nI (tq_k tp n k a)) := by
  have hn := hf.1
  intro k
  induction k with
  | zero =>
    intro a ha fuel hfu
    obtain ⟨fu, rfl⟩ : ∃ g, fuel = g + 1 := ⟨fuel - 1, by omega⟩
    rw [sx_lp1_1, bdX5_here_0, if_pos (nI_leT (by omega) (by omega))]
    rfl
  | succ k ih =>
    intro a ha fuel hfu
    obtain ⟨fu, rfl⟩ : ∃ g, fuel = g + 1 := ⟨fuel - 1, by omega⟩
    obtain ⟨e, h1, h2⟩ := hf.2 a (by omega)
    rw [sx_lp1_1, bdX5_here_0, if_neg (nI_nleI (by omega) (by omega)), sx_gd_e (nm_ib (by omega)), nI_clamp (by omega), e, tq_ks, nm_32]
    by_cases z : tp a = 32
    · rw [if_pos (by rw [z]), if_pos ⟨by omega, z⟩, nI_1]
      exact ih (a + 1) (by omega) fu (by omega)
    · rw [if_neg (fun q => z ((nI_eq (by omega) (by omega)).mp q)), if_neg (fun q => z q.2)]
theorem yp {tp : Nat → Nat} {n : Nat} {f : Nat → Int32} (hf : tq_ok tp n f) {a : Nat} (ha : a ≤ n) : fnX5_here 1000 f (nI n) (nI a) = some (nI (tq_c tp n a), nI (tq_s tp n a)) := by
  have hn := hf.1
  have hs := tq_s_le (tp := tp) ha
  unfold fnX5_here
  simp only [sx_lt]
  rw [yp_l hf _ (n - a) a (by omega) 1000 (by omega), show tq_k tp n (n - a) a = tq_s tp n a from rfl]
  unfold tq_c tq_l
  by_cases z : tq_s tp n a < n
  · rw [if_neg (nI_nleI z (by omega)), if_pos z, sx_gd_e (nm_ib (by omega)), nI_clamp (by omega), (hf.2 _ z).1]
  · rw [if_pos (nI_leT (by omega) (by omega)), if_neg z]
    rfl
theorem rn_n {tp : Nat → Nat} {n : Nat} {f : Nat → Int32} (hf : tq_ok tp n f) {a : Nat} (ha : a ≤ n) (h : ¬ tq_d tp n a) (x1 : Int32) {i : Nat} (hi : i < 2) (fu : Nat) : sx_lp3 (bdX3_readNumber_4 1000 f (nI n)) (fu + 1) x1 (nI i) (nI a) = some (x1, nI a) := by
  have hn := hf.1
  rw [sx_lp3_1, bdX3_readNumber_4, nm_2, if_neg (nI_nleI (by omega) (by omega))]
  by_cases z : a < n
  · obtain ⟨e, h1, h2⟩ := hf.2 a z
    rw [if_neg (nI_nleI z (by omega)), sx_gd_e (nm_ib (by omega)), nI_clamp (by omega), e, xs_within, i48, i57]
    simp only [sx_c1, if1]
    rw [if_pos (fun q => h ⟨z, by have := (rgI (c := tp a) (by omega)).mp q; omega⟩)]
  · rw [if_pos (nI_leT (by omega) (by omega))]
theorem rn_y {tp : Nat → Nat} {n : Nat} {f : Nat → Int32} (hf : tq_ok tp n f) {a : Nat} (h : tq_d tp n a) (x1 : Int32) {i : Nat} (hi : i < 2) (fu : Nat) : sx_lp3 (bdX3_readNumber_4 1000 f (nI n)) (fu + 1) x1 (nI i) (nI a) = sx_lp3 (bdX3_readNumber_4 1000 f (nI n)) fu ((((if x1 < (0 : Int32) then (0 : Int32) else x1) * (10 : Int32)) + nI (tp a)) - (48 : Int32)) (nI (i + 1)) (nI (a + 1)) := by
  have hn := hf.1
  obtain ⟨z, h3, h4⟩ := h
  obtain ⟨e, h1, h2⟩ := hf.2 a z
  rw [sx_lp3_1, bdX3_readNumber_4, nm_2, if_neg (nI_nleI (by omega) (by omega)), if_neg (nI_nleI z (by omega)), sx_gd_e (nm_ib (by omega)), nI_clamp (by omega), e, xs_within, i48, i57]
  simp only [sx_c1, if1]
  rw [if_neg (not_not_intro ((rgI (c := tp a) (by omega)).mpr (by omega))), sx_gd_e (nm_ib (by omega))]
  simp only [sx_nm]
  rw [nI_1, nI_1]
theorem rn_2 {n : Nat} {f : Nat → Int32} (x1 x2 : Int32) (fu : Nat) : sx_lp3 (bdX3_readNumber_4 1000 f (nI n)) (fu + 1) x1 (nI 2) x2 = some (x1, x2) := by
  rw [sx_lp3_1, bdX3_readNumber_4, nm_2, if_pos (nI_leT (by omega) (by omega))]
theorem nv1 : ∀ c, c < 58 → 48 ≤ c → (((if (-1 : Int32) < (0 : Int32) then (0 : Int32) else -1) * (10 : Int32)) + nI c) - (48 : Int32) = nI (c - 48) := by decide +kernel
theorem nv2 : ∀ d, d < 58 → 48 ≤ d → ∀ c, c < 58 → 48 ≤ c → (((if nI (d - 48) < (0 : Int32) then (0 : Int32) else nI (d - 48)) * (10 : Int32)) + nI c) - (48 : Int32) = nI (10 * (d - 48) + (c - 48)) := by decide +kernel
theorem nw1 : ∀ c, c < 58 → 48 ≤ c → (((10 : Int32) * (0 : Int32)) + nI c) - (48 : Int32) = nI (c - 48) := by decide +kernel
theorem nw2 : ∀ d, d < 58 → 48 ≤ d → ∀ c, c < 58 → 48 ≤ c → (((10 : Int32) * nI (d - 48)) + nI c) - (48 : Int32) = nI (10 * (d - 48) + (c - 48)) := by decide +kernel
theorem xn_0 {tp : Nat → Nat} {n : Nat} {f : Nat → Int32} (hf : tq_ok tp n f) {a : Nat} (ha : a ≤ n) (h : ¬ tq_d tp n a) : fnX3_readNumber 1000 f (nI n) (nI a) = some (-1, nI a) := rn_n hf ha h (-1) (i := 0) (by omega) 999
theorem xn_1 {tp : Nat → Nat} {n : Nat} {f : Nat → Int32} (hf : tq_ok tp n f) {a : Nat} (h : tq_d tp n a) (h2 : ¬ tq_d tp n (a + 1)) : fnX3_readNumber 1000 f (nI n) (nI a) = some (nI (tp a - 48), nI (a + 1)) := by
  have hz := h.1
  have e1 : fnX3_readNumber 1000 f (nI n) (nI a) = _ := rn_y hf h (-1) (i := 0) (by omega) 999
  rw [e1, nv1 (tp a) (by have := h.2; omega) h.2.1]
  exact rn_n hf (by omega) h2 _ (i := 1) (by omega) 998
theorem xn_2 {tp : Nat → Nat} {n : Nat} {f : Nat → Int32} (hf : tq_ok tp n f) {a : Nat} (h : tq_d tp n a) (h2 : tq_d tp n (a + 1)) : fnX3_readNumber 1000 f (nI n) (nI a) = some (nI (10 * (tp a - 48) + (tp (a + 1) - 48)), nI (a + 2)) := by
  have hz := h.1
  have e1 : fnX3_readNumber 1000 f (nI n) (nI a) = _ := rn_y hf h (-1) (i := 0) (by omega) 999
  have e2 : sx_lp3 (bdX3_readNumber_4 1000 f (nI n)) 999 (nI (tp a - 48)) (nI (0 + 1)) (nI (a + 1)) = _ := rn_y hf h2 (nI (tp a - 48)) (i := 1) (by omega) 998
  rw [e1, nv1 (tp a) (by have := h.2; omega) h.2.1, e2, nv2 (tp a) (by have := h.2; omega) h.2.1 (tp (a + 1)) (by have := h2.2; omega) h2.2.1]
  exact rn_2 _ _ 997
-- the reference's number
theorem un_n {tp : Nat → Nat} {n : Nat} {g : Nat → Int32} (hg : tq_ok tp n g) {s i : Nat} (c : Int32) (h : ¬ tq_d tp n (s + i)) (hs : s + i ≤ n) (kf : Int32 → Int32 → Option (Int32 × Int32 × Int32)) (x6 : Int32) (fu : Nat) : sx_lp2 (bdX5_number_57 1000 c (nI s) g (nI n) 0 kf) (fu + 1) x6 (nI (s + i)) = kf x6 (nI (s + i)) := by
  have hn := hg.1
  rw [sx_lp2_1, bdX5_number_57, if_pos rfl]
  by_cases z : s + i < n
  · obtain ⟨e, h1, h2⟩ := hg.2 _ z
    rw [if_neg (nI_nleI z (by omega))]
    by_cases q : c ≤ nI (s + i) - nI s
    · rw [if_pos q]
    · rw [if_neg q, sx_gd_e (nm_ib (by omega)), nI_clamp (by omega), e, lw48, lw57, ym_in, i48, i57]
      simp only [sx_c1, if1]
      rw [if_pos (fun q => h ⟨z, by have := (rgI (c := tp (s + i)) (by omega)).mp q; omega⟩)]
  · rw [if_pos (nI_leT (by omega) (by omega))]
theorem un_c {n : Nat} {g : Nat → Int32} (hn : n ≤ 70) {s c : Nat} (hs : s + c ≤ n) (kf : Int32 → Int32 → Option (Int32 × Int32 × Int32)) (x6 : Int32) (fu : Nat) : sx_lp2 (bdX5_number_57 1000 (nI c) (nI s) g (nI n) 0 kf) (fu + 1) x6 (nI (s + c)) = kf x6 (nI (s + c)) := by
  rw [sx_lp2_1, bdX5_number_57, if_pos rfl]
  by_cases z : s + c < n
  · rw [if_neg (nI_nleI z (by omega)), pk_sub (by omega), if_pos (nI_leT (by omega) (by omega))]
  · rw [if_pos (nI_leT (by omega) (by omega))]
theorem un_y {tp : Nat → Nat} {n : Nat} {g : Nat → Int32} (hg : tq_ok tp n g) {s i c : Nat} (hi : i < c) (hc : c ≤ 2) (h : tq_d tp n (s + i)) (kf : Int32 → Int32 → Option (Int32 × Int32 × Int32)) (x6 : Int32) (fu : Nat) : sx_lp2 (bdX5_number_57 1000 (nI c) (nI s) g (nI n) 0 kf) (fu + 1) x6 (nI (s + i)) = sx_lp2 (bdX5_number_57 1000 (nI c) (nI s) g (nI n) 0 kf) fu ((((10 : Int32) * x6) + nI (tp (s + i))) - (48 : Int32)) (nI (s + i + 1)) := by
  have hn := hg.1
  obtain ⟨z, h3, h4⟩ := h
  obtain ⟨e, h1, h2⟩ := hg.2 _ z
  rw [sx_lp2_1, bdX5_number_57, if_pos rfl, if_neg (nI_nleI z (by omega)), pk_sub (by omega), if_neg (nI_nleI (by omega) (by omega)), sx_gd_e (nm_ib (by omega)), nI_clamp (by omega), e, lw48, lw57, ym_in, i48, i57]
  simp only [sx_c1, if1]
  rw [if_neg (not_not_intro ((rgI (c := tp (s + i)) (by omega)).mpr (by omega))), sx_gd_e (nm_ib (by omega))]
  simp only [sx_nm]
  rw [nI_1]
theorem un_1 {c s t x y : Int32} {g : Nat → Int32} (kf : Int32 → Int32 → Option (Int32 × Int32 × Int32)) : sx_lp2 (bdX5_number_57 1000 c s g t 1 kf) 1000 x y = kf x y := by
  show sx_lp2 (bdX5_number_57 1000 c s g t 1 kf) (999 + 1) x y = kf x y
  rw [sx_lp2_1, bdX5_number_57, if_neg (by decide)]
theorem nu_f {g : Nat → Int32} {t p lo hi c : Int32} : fnX5_number 1000 g t p 1 lo hi c = some (0, p, 1) := by
  unfold fnX5_number
  simp only [sx_lt]
  rw [if_neg (by decide), if_neg (by decide), sx_gd_e (by decide), un_1]
  rfl
theorem nu_s1 {O : Type} {g : Nat → Int32} {n p c s : Int32} (h : fnX5_here 1000 g n p = some (c, s)) (K : Int32 → Int32 → Option O) : sx_lt K (fun (k_15 : Int32 → Int32 → Option O) => (if (0 : Int32) = 0 then sx_c2 (fnX5_here 1000 g n p) (fun (r27 : Int32) (w28 : Int32) => (k_15 r27 w28)) else (k_15 (0 : Int32) p))) = K c s := by
  rw [sx_lt_e, if_pos rfl, h, c2_e]
theorem nu_s2 {O : Type} (y : Int32) (K : Int32 → Option O) : sx_lt K (fun (k_54 : Int32 → Option O) => (if (0 : Int32) = 0 then sx_c1 (fnX5_in 1000 (y).toInt64 (48 : Int64) (57 : Int64)) (fun (r23 : Int32) => (if r23 = 0 then (k_54 (1 : Int32)) else (k_54 (0 : Int32)))) else (k_54 (1 : Int32)))) = K (if rg y 48 57 = true then 0 else 1) := by
  rw [sx_lt_e, if_pos rfl, lw48, lw57, ym_in, i48, i57, c1_e]
  by_cases z : rg y 48 57 = true
  · rw [if_pos z, if_neg (by decide), if_pos z]
  · rw [if_neg z, if_pos rfl, if_neg z]
theorem nu_b {tp : Nat → Nat} {n : Nat} {g : Nat → Int32} (hg : tq_ok tp n g) {a : Nat} (ha : a ≤ n) (h : ¬ tq_d tp n (tq_s tp n a)) (lo hi c : Int32) : fnX5_number 1000 g (nI n) (nI a) 0 lo hi c = some (0, nI (tq_s tp n a), 1) := by
  have hc := tq_c_lt hg a
  have hr : ¬ rg (nI (tq_c tp n a)) 48 57 = true := fun q => h (tq_dc.mp (by have := (rgI (c := tq_c tp n a) (by omega)).mp q; omega))
  unfold fnX5_number
  rw [nu_s1 (yp hg ha), nu_s2, if_neg hr, sx_gd_e (by decide), sx_lt_e, un_1, if_neg (by decide)]
theorem nu_g {tp : Nat → Nat} {n : Nat} {g : Nat → Int32} (hg : tq_ok tp n g) {a : Nat} (ha : a ≤ n) (h : tq_d tp n (tq_s tp n a)) (lo hi : Int32) {c v e : Nat} (hl : ∀ kf, sx_lp2 (bdX5_number_57 1000 (nI c) (nI (tq_s tp n a)) g (nI n) 0 kf) 1000 0 (nI (tq_s tp n a)) = kf (nI v) (nI e)) : fnX5_number 1000 g (nI n) (nI a) 0 lo hi (nI c) = if rg (nI v) lo.toInt hi.toInt = true then some (nI v, nI e, 0) else some (nI v, nI (tq_s tp n a), 1) := by
  have hc := tq_c_lt hg a
  have hr : rg (nI (tq_c tp n a)) 48 57 = true := (rgI (c := tq_c tp n a) (by omega)).mpr (by have := tq_dc.mpr h; omega)
  unfold fnX5_number
  rw [nu_s1 (yp hg ha), nu_s2, if_pos hr, sx_gd_e (by decide), sx_lt_e, hl, if_pos rfl, ym_in, c1_e]
  by_cases z : rg (nI v) lo.toInt hi.toInt = true
  · rw [if_pos z, if_neg (by decide), if_pos z]
  · rw [if_neg z, if_pos rfl, if_neg z]
theorem nu_1 {tp : Nat → Nat} {n : Nat} {g : Nat → Int32} (hg : tq_ok tp n g) {s : Nat} (h : tq_d tp n s) : ∀ kf, sx_lp2 (bdX5_number_57 1000 (nI 1) (nI s) g (nI n) 0 kf) 1000 0 (nI s) = kf (nI (tp s - 48)) (nI (s + 1)) := by
  intro kf
  have hz := h.1
  have e1 : sx_lp2 (bdX5_number_57 1000 (nI 1) (nI s) g (nI n) 0 kf) 1000 0 (nI s) = _ := un_y hg (s := s) (i := 0) (c := 1) (by omega) (by omega) h kf 0 999
  rw [e1, Nat.add_zero, nw1 (tp s) (by have := h.2; omega) h.2.1]
  exact un_c hg.1 (by omega) kf _ 998
theorem nu_2 {tp : Nat → Nat} {n : Nat} {g : Nat → Int32} (hg : tq_ok tp n g) {s : Nat} (h : tq_d tp n s) (h2 : ¬ tq_d tp n (s + 1)) : ∀ kf, sx_lp2 (bdX5_number_57 1000 (nI 2) (nI s) g (nI n) 0 kf) 1000 0 (nI s) = kf (nI (tp s - 48)) (nI (s + 1)) := by
  intro kf
  have hz := h.1
  have e1 : sx_lp2 (bdX5_number_57 1000 (nI 2) (nI s) g (nI n) 0 kf) 1000 0 (nI s) = _ := un_y hg (s := s) (i := 0) (c := 2) (by omega) (by omega) h kf 0 999
  rw [e1, Nat.add_zero, nw1 (tp s) (by have := h.2; omega) h.2.1]
  exact un_n hg (nI 2) h2 (by omega) kf _ 998
theorem nu_3 {tp : Nat → Nat} {n : Nat} {g : Nat → Int32} (hg : tq_ok tp n g) {s : Nat} (h : tq_d tp n s) (h2 : tq_d tp n (s + 1)) : ∀ kf, sx_lp2 (bdX5_number_57 1000 (nI 2) (nI s) g (nI n) 0 kf) 1000 0 (nI s) = kf (nI (10 * (tp s - 48) + (tp (s + 1) - 48))) (nI (s + 2)) := by
  intro kf
  have hz := h.1
  have hz2 := h2.1
  have e1 : sx_lp2 (bdX5_number_57 1000 (nI 2) (nI s) g (nI n) 0 kf) 1000 0 (nI s) = _ := un_y hg (s := s) (i := 0) (c := 2) (by omega) (by omega) h kf 0 999
  have e2 : sx_lp2 (bdX5_number_57 1000 (nI 2) (nI s) g (nI n) 0 kf) 999 (nI (tp s - 48)) (nI (s + 1)) = _ := un_y hg (s := s) (i := 1) (c := 2) (by omega) (by omega) h2 kf (nI (tp s - 48)) 998
  rw [e1, Nat.add_zero, nw1 (tp s) (by have := h.2; omega) h.2.1, e2, nw2 (tp s) (by have := h.2; omega) h.2.1 (tp (s + 1)) (by have := h2.2; omega) h2.2.1]
  exact un_c hg.1 (c := 2) (by omega) kf _ 997
theorem mu_1 (a : Nat) : fnX5_must 1000 (nI a) 0 1 = some (nI (a + 1), 0) := by
  unfold fnX5_must
  simp only [sx_lt]
  rw [if_pos trivial, if_neg (by decide), sx_gd_e (by decide), if_pos trivial, nI_1]
theorem mu_0 (p : Int32) : fnX5_must 1000 p 0 0 = some (p, 1) := by
  unfold fnX5_must
  simp only [sx_lt]
  rw [if_pos trivial, if_pos trivial, sx_gd_e (by decide), if_neg (by decide), Int32.add_zero]
theorem mu_f (p a : Int32) : fnX5_must 1000 p 1 a = some (p, 1) := by
  unfold fnX5_must
  simp only [sx_lt]
  rw [if_neg (show ¬ (1 : Int32) = 0 by decide), sx_gd_e (by decide), if_neg (by decide), Int32.add_zero]
/-- a number 2 .. 30 of 1 or 2 digits, on both sides -/
theorem nb_2 {tp : Nat → Nat} {n : Nat} {f g : Nat → Int32} (hf : tq_ok tp n f) (hg : tq_ok tp n g) {a : Nat} (ha : a ≤ n) : (∃ v w x, fnX3_readNumber 1000 f (nI n) (nI (tq_s tp n a)) = some (v, w) ∧ ¬ rg v 2 30 = true ∧ fnX5_number 1000 g (nI n) (nI a) 0 2 30 2 = some (x, nI (tq_s tp n a), 1)) ∨ ∃ v e, 2 ≤ v ∧ v ≤ 30 ∧ e ≤ n ∧ fnX3_readNumber 1000 f (nI n) (nI (tq_s tp n a)) = some (nI v, nI e) ∧ fnX5_number 1000 g (nI n) (nI a) 0 2 30 2 = some (nI v, nI e, 0) := by
  have hs := tq_s_le (tp := tp) ha
  have i2' : (2 : Int32).toInt = 2 := by decide
  have i30' : (30 : Int32).toInt = 30 := by decide
  by_cases h : tq_d tp n (tq_s tp n a)
  · have hz := h.1
    have go : ∀ v e, v < 100 → e ≤ n → fnX3_readNumber 1000 f (nI n) (nI (tq_s tp n a)) = some (nI v, nI e) → (∀ kf, sx_lp2 (bdX5_number_57 1000 (nI 2) (nI (tq_s tp n a)) g (nI n) 0 kf) 1000 0 (nI (tq_s tp n a)) = kf (nI v) (nI e)) → (∃ v w x, fnX3_readNumber 1000 f (nI n) (nI (tq_s tp n a)) = some (v, w) ∧ ¬ rg v 2 30 = true ∧ fnX5_number 1000 g (nI n) (nI a) 0 2 30 2 = some (x, nI (tq_s tp n a), 1)) ∨ ∃ v e, 2 ≤ v ∧ v ≤ 30 ∧ e ≤ n ∧ fnX3_readNumber 1000 f (nI n) (nI (tq_s tp n a)) = some (nI v, nI e) ∧ fnX5_number 1000 g (nI n) (nI a) 0 2 30 2 = some (nI v, nI e, 0) := by
      intro v e hv he e1 e2
      have e3 : fnX5_number 1000 g (nI n) (nI a) 0 2 30 2 = _ := nu_g hg ha h 2 30 (c := 2) e2
      rw [i2', i30'] at e3
      by_cases z : rg (nI v) 2 30 = true
      · rw [if_pos z] at e3
        have := (rgI (c := v) (by omega)).mp z
        exact Or.inr ⟨v, e, by omega, by omega, he, e1, e3⟩
      · rw [if_neg z] at e3
        exact Or.inl ⟨_, _, _, e1, z, e3⟩
    by_cases h2 : tq_d tp n (tq_s tp n a + 1)
    · have := h.2
      have := h2.2
      have := h2.1
      exact go _ _ (by omega) (by omega) (xn_2 hf h h2) (nu_3 hg h h2)
    · have := h.2
      exact go _ _ (by omega) (by omega) (xn_1 hf h h2) (nu_2 hg h h2)
  · exact Or.inl ⟨_, _, _, xn_0 hf hs h, by decide, nu_b hg ha h 2 30 2⟩
