-- PERSONS OF A TEXT
theorem nm_44 : (44 : Int32) = nI 44 := by decide +kernel
theorem rt_no {n : Nat} {g : Nat → Int32} (kf : Int32 → Int32 → Option (Int32 × Int32 × Int32 × (Nat → Int32))) (pl : Int32) : sx_lp3 (bdX5_readPersons_145 1000 g (nI n) kf) 1000 0 (-1) pl = kf 0 pl := by
  show sx_lp3 (bdX5_readPersons_145 1000 g (nI n) kf) (999 + 1) 0 (-1) pl = kf 0 pl
  rw [sx_lp3_1, bdX5_readPersons_145, ym_isThing]
  simp only [sx_c1, if1]
  rw [if_pos (by decide)]
def rI (F : Nat) (m_tape : Nat → Int32) (m_typed : Int32) (r_ : Int32 → Int32 → Int32 → (Nat → Int32) → Option (Int32 × Int32 × Int32 × (Nat → Int32))) (x1_ : Int32) (m_read : Nat → Int32) (z7 z8 : Int32) : Option (Int32 × Int32 × Int32 × (Nat → Int32)) :=
  sx_lt (fun (y9 : Int32) (z10 : Int32) => sx_lt (fun (y11 : Int32) => sx_lt (fun (y12 : Int32) => sx_c2 (fnX5_must F z10 z8 y12) (fun (w13 : Int32) (w14 : Int32) => sx_lt (fun (y16 : Int32) (z17 : Int32) => sx_lt (fun (x18 : Int32) (z19 : Int32) => sx_lt (fun (z20 : Nat → Int32) => sx_nm (x1_ + (1 : Int32)) (fun (v21 : Int32) => (r_ v21 z19 w14 z20))) (fun (k_221 : (Nat → Int32) → Option (Int32 × Int32 × Int32 × (Nat → Int32))) => (if w14 = 0 then sx_gd (sx_ib ((2 : Int32) * x1_) 12) (sx_gd (sx_ib (((2 : Int32) * x1_) + (1 : Int32)) 12) ((k_221 (upd (upd m_read (((2 : Int32) * x1_)).toNatClampNeg y11) ((((2 : Int32) * x1_) + (1 : Int32))).toNatClampNeg x18)))) else (k_221 m_read)))) (fun (k_193 : Int32 → Int32 → Option (Int32 × Int32 × Int32 × (Nat → Int32))) => sx_lp3 (bdX5_readPersons_145 F m_tape m_typed k_193) F (0 : Int32) y16 z17)) (fun (k_143 : Int32 → Int32 → Option (Int32 × Int32 × Int32 × (Nat → Int32))) => (if w14 = 0 then sx_c2 (fnX5_here F m_tape m_typed w13) (fun (r38 : Int32) (w39 : Int32) => (k_143 (r38 - (48 : Int32)) w39)) else (k_143 (-1 : Int32) w13))))) (fun (k_119 : Int32 → Option (Int32 × Int32 × Int32 × (Nat → Int32))) => (if y11 < 0 then (k_119 (0 : Int32)) else (k_119 (1 : Int32))))) (fun (k_108 : Int32 → Option (Int32 × Int32 × Int32 × (Nat → Int32))) => (if y9 = (112 : Int32) then (k_108 (0 : Int32)) else (if y9 = (108 : Int32) then (k_108 (1 : Int32)) else (if y9 = (100 : Int32) then (k_108 (2 : Int32)) else (if y9 = (101 : Int32) then (k_108 (3 : Int32)) else (if y9 = (102 : Int32) then (k_108 (4 : Int32)) else (k_108 (-1 : Int32))))))))) (fun (k_56 : Int32 → Int32 → Option (Int32 × Int32 × Int32 × (Nat → Int32))) => (if z8 = 0 then sx_c2 (fnX5_here F m_tape m_typed z7) (fun (r48 : Int32) (w49 : Int32) => (k_56 r48 w49)) else (k_56 (0 : Int32) z7)))
def kI (y : Int32) : Int32 := if y = (112 : Int32) then 0 else if y = (108 : Int32) then 1 else if y = (100 : Int32) then 2 else if y = (101 : Int32) then 3 else if y = (102 : Int32) then 4 else -1
theorem sx_lt_kd {β : Type} (k : Int32 → β) (y : Int32) : sx_lt k (fun k_108 => (if y = (112 : Int32) then (k_108 (0 : Int32)) else (if y = (108 : Int32) then (k_108 (1 : Int32)) else (if y = (100 : Int32) then (k_108 (2 : Int32)) else (if y = (101 : Int32) then (k_108 (3 : Int32)) else (if y = (102 : Int32) then (k_108 (4 : Int32)) else (k_108 (-1 : Int32)))))))) = k (kI y) := by
  show (if y = (112 : Int32) then k 0 else (if y = (108 : Int32) then k 1 else (if y = (100 : Int32) then k 2 else (if y = (101 : Int32) then k 3 else (if y = (102 : Int32) then k 4 else k (-1)))))) = _
  unfold kI
  by_cases a1 : y = (112 : Int32)
  · rw [if_pos a1, if_pos a1]
  · rw [if_neg a1, if_neg a1]
    by_cases a2 : y = (108 : Int32)
    · rw [if_pos a2, if_pos a2]
    · rw [if_neg a2, if_neg a2]
      by_cases a3 : y = (100 : Int32)
      · rw [if_pos a3, if_pos a3]
      · rw [if_neg a3, if_neg a3]
        by_cases a4 : y = (101 : Int32)
        · rw [if_pos a4, if_pos a4]
        · rw [if_neg a4, if_neg a4]
          by_cases a5 : y = (102 : Int32)
          · rw [if_pos a5, if_pos a5]
          · rw [if_neg a5, if_neg a5]
def kN (c : Nat) : Nat := if c = 112 then 0 else if c = 108 then 1 else if c = 100 then 2 else if c = 101 then 3 else if c = 102 then 4 else 5
theorem kN_le (c : Nat) : kN c ≤ 5 := by
  unfold kN
  repeat' (first | omega | split)
theorem kI_N : ∀ c, c < 127 → kI (nI c) = if kN c = 5 then -1 else nI (kN c) := by decide +kernel
theorem xi_kd : ∀ c, c < 127 → fnJ0_indexOf_0f7a4 1000 (((nI c).toUInt32 % 65536).toInt32) = some (if kN c = 5 then -1 else nI (kN c)) := by decide +kernel
theorem rI_no {tp : Nat → Nat} {n p a : Nat} {g : Nat → Int32} (hg : tq_ok tp n g) (ha : a ≤ n) (hk : kN (tq_c tp n a) = 5) (r_ : Int32 → Int32 → Int32 → (Nat → Int32) → Option (Int32 × Int32 × Int32 × (Nat → Int32))) (rd : Nat → Int32) : rI 1000 g (nI n) r_ (nI p) rd (nI a) 0 = r_ (nI (p + 1)) (nI (tq_s tp n a)) 1 rd := by
  have hc := tq_c_lt hg a
  unfold rI
  rw [sx_lt_e, if_pos rfl, yp hg ha]
  simp only [sx_c2]
  rw [sx_lt_kd, kI_N _ hc, if_pos hk, sx_lt_e, if_pos (by decide)]
  try dsimp only
  rw [mu_0]
  try dsimp only
  rw [sx_lt_e, if_neg (by decide)]
  try dsimp only
  rw [sx_lt_e, rt_no]
  rw [sx_lt_e, if_neg (by decide)]
  simp only [sx_nm]
  rw [nI_1]
theorem rI_f {n p : Nat} {g : Nat → Int32} (z7 : Int32) (r_ : Int32 → Int32 → Int32 → (Nat → Int32) → Option (Int32 × Int32 × Int32 × (Nat → Int32))) (rd : Nat → Int32) : rI 1000 g (nI n) r_ (nI p) rd z7 1 = r_ (nI (p + 1)) z7 1 rd := by
  unfold rI
  rw [sx_lt_e, if_neg (by decide)]
  try dsimp only
  rw [sx_lt_kd, show kI 0 = -1 by decide, sx_lt_e, if_pos (by decide)]
  try dsimp only
  rw [mu_f]
  simp only [sx_c2]
  rw [sx_lt_e, if_neg (by decide)]
  try dsimp only
  rw [sx_lt_e, rt_no]
  rw [sx_lt_e, if_neg (by decide)]
  simp only [sx_nm]
  rw [nI_1]
theorem rI_y {tp : Nat → Nat} {n p a e set : Nat} {g : Nat → Int32} (hg : tq_ok tp n g) (ha : a ≤ n) (hp : p < 6) (hk : ¬ kN (tq_c tp n a) = 5) (ht : ∀ kf, sx_lp3 (bdX5_readPersons_145 1000 g (nI n) kf) 1000 (nI 0) (nI (tq_c tp n (tq_s tp n a + 1)) - 48) (nI (tq_s tp n (tq_s tp n a + 1))) = kf (nI set) (nI e)) (r_ : Int32 → Int32 → Int32 → (Nat → Int32) → Option (Int32 × Int32 × Int32 × (Nat → Int32))) (rd : Nat → Int32) : rI 1000 g (nI n) r_ (nI p) rd (nI a) 0 = r_ (nI (p + 1)) (nI e) 0 (upd (upd rd (2 * p) (nI (kN (tq_c tp n a)))) (2 * p + 1) (nI set)) := by
  have hc := tq_c_lt hg a
  have hkl := kN_le (tq_c tp n a)
  have hin : tq_s tp n a < n := tq_in (fun q => by rw [q] at hk; exact hk (by decide))
  unfold rI
  rw [sx_lt_e, if_pos rfl, yp hg ha]
  simp only [sx_c2]
  rw [sx_lt_kd, kI_N _ hc, if_neg hk, sx_lt_e, if_neg (nI_pos (by omega))]
  try dsimp only
  rw [mu_1]
  try dsimp only
  rw [sx_lt_e, if_pos rfl, yp hg (by omega)]
  try dsimp only
  rw [sx_lt_e, nm_0, ht, ← nm_0]
  try dsimp only
  rw [sx_lt_e, if_pos rfl, nm_2, pk_mul, nI_1, sx_gd_e (nm_ib (by omega)), sx_gd_e (nm_ib (by omega)), nI_clamp (by omega), nI_clamp (by omega)]
  simp only [sx_nm]
  rw [nI_1]

-- the loop of the reference: how a turn begins and ends
theorem yq_f {n : Nat} {g : Nat → Int32} (x pl : Int32) (rd : Nat → Int32) (fu : Nat) : sx_lp4 (bdX5_readPersons_2 1000 g (nI n)) (fu + 1) x pl 1 rd = some (x, pl, 1, rd) := by
  rw [sx_lp4_1, bdX5_readPersons_2, if_neg (by decide)]
theorem yq_0 {n : Nat} {g : Nat → Int32} (pl : Int32) (rd : Nat → Int32) (fu : Nat) : sx_lp4 (bdX5_readPersons_2 1000 g (nI n)) (fu + 1) (nI 0) pl 0 rd = rI 1000 g (nI n) (sx_lp4 (bdX5_readPersons_2 1000 g (nI n)) fu) (nI 0) rd pl 0 := by
  rw [sx_lp4_1, bdX5_readPersons_2, if_pos rfl, sx_lt_e, if_pos (by decide)]
  try dsimp only
  rw [sx_lt_e, if_pos (by decide)]
  rfl
theorem yq_s {tp : Nat → Nat} {n q p : Nat} {g : Nat → Int32} (hg : tq_ok tp n g) (hq : q ≤ n) (h0 : 0 < p) (hp : p < 6) (hc : tq_c tp n q = 44) (rd : Nat → Int32) (fu : Nat) : sx_lp4 (bdX5_readPersons_2 1000 g (nI n)) (fu + 1) (nI p) (nI q) 0 rd = rI 1000 g (nI n) (sx_lp4 (bdX5_readPersons_2 1000 g (nI n)) fu) (nI p) rd (nI (tq_s tp n q + 1)) 0 := by
  rw [sx_lp4_1, bdX5_readPersons_2, if_pos rfl, sx_lt_e, if_neg (nI_nz h0 (by omega)), yp hg hq, hc]
  try dsimp only
  rw [show sx_c2 (some (nI 44, nI (tq_s tp n q))) = fun k => k (nI 44) (nI (tq_s tp n q)) from rfl]
  try dsimp only
  rw [if_pos (by decide), sx_lt_e, if_neg (nI_nle h0 (by omega)), nm_6, if_neg (nI_nleI hp (by omega)), mu_1]
  rfl
theorem yq_6 {tp : Nat → Nat} {n q : Nat} {g : Nat → Int32} (hg : tq_ok tp n g) (hq : q ≤ n) (hc : tq_c tp n q = 44) (rd : Nat → Int32) (fu : Nat) : sx_lp4 (bdX5_readPersons_2 1000 g (nI n)) (fu + 1) (nI 6) (nI q) 0 rd = rI 1000 g (nI n) (sx_lp4 (bdX5_readPersons_2 1000 g (nI n)) fu) (nI 6) rd (nI (tq_s tp n q)) 1 := by
  rw [sx_lp4_1, bdX5_readPersons_2, if_pos rfl, sx_lt_e, if_neg (by decide), yp hg hq, hc]
  try dsimp only
  rw [show sx_c2 (some (nI 44, nI (tq_s tp n q))) = fun k => k (nI 44) (nI (tq_s tp n q)) from rfl]
  try dsimp only
  rw [if_pos (by decide), sx_lt_e, if_neg (by decide), if_pos (by decide), mu_0]
  rfl
theorem yq_e {tp : Nat → Nat} {n q p : Nat} {g : Nat → Int32} (hg : tq_ok tp n g) (hq : q ≤ n) (h0 : 0 < p) (hp : p < 7) (hc : ¬ tq_c tp n q = 44) (rd : Nat → Int32) (fu : Nat) : sx_lp4 (bdX5_readPersons_2 1000 g (nI n)) (fu + 1) (nI p) (nI q) 0 rd = some (nI p, nI (tq_s tp n q), 0, rd) := by
  have hl := tq_c_lt hg q
  rw [sx_lp4_1, bdX5_readPersons_2, if_pos rfl, sx_lt_e, if_neg (nI_nz h0 (by omega)), yp hg hq]
  try dsimp only
  rw [show sx_c2 (some (nI (tq_c tp n q), nI (tq_s tp n q))) = fun k => k (nI (tq_c tp n q)) (nI (tq_s tp n q)) from rfl]
  try dsimp only
  rw [if_neg (fun z => hc ((nI_eq (a := tq_c tp n q) (b := 44) (by omega) (by omega)).mp (z.trans nm_44)))]
