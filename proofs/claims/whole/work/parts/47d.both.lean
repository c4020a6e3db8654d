-- THE PERSONS OF A TEXT, ON BOTH SIDES
def tsl (wx : Nat) (st : Nat → Nat) (q t : Nat) : Nat := if (st q).testBit t = true then wx + 1 else 0
def up1 (f : Nat → Nat) (p v i : Nat) : Nat := if i = p then v else f i
theorem up1_e (f : Nat → Nat) (p v : Nat) : up1 f p v p = v := if_pos rfl
theorem up1_n {f : Nat → Nat} {p v i : Nat} (h : ¬ i = p) : up1 f p v i = f i := if_neg h
theorem tsl_r (wx : Nat) (st : Nat → Nat) (p set : Nat) : tq_r (tsl wx st) p (wx + 1) set = tsl wx (up1 st p set) := by
  funext q t
  unfold tq_r tsl up1
  by_cases e : q = p
  · rw [if_pos e, if_pos e]
  · rw [if_neg e, if_neg e]
theorem tsl_sl (n : Nat) {wx : Nat} (st : Nat → Nat) (h : wx ≤ 9) : ct_sl n (tsl wx st) := by
  intro p _ t _
  unfold tsl
  split <;> omega
def tqC (m : Nat) (kd st : Nat → Nat) (wx wk dr : Nat) : ctC := (m, kd, fun i => i, tsl wx st, wx, wk, 0, dr)
theorem tqC_ok {m wx wk dr : Nat} {kd : Nat → Nat} (st : Nat → Nat) (hm : m ≤ 6) (hk : ∀ i, i < m → kd i ≤ 4) (h1 : 1 ≤ wx) (h2 : wx ≤ 9) (h3 : 2 ≤ wk) (h4 : wk ≤ 30) (h5 : dr < 2 ^ 31) : cc_ok (tqC m kd st wx wk dr) 9999 :=
  ⟨hm, fun p hp => hk p hp, ⟨fun i hi => hi, fun i j _ _ e => e⟩, tsl_sl m st h2, ⟨h1, h2⟩, ⟨h3, h4⟩, Nat.zero_le _, h5⟩
def kF (z1 : Int32) (z2 z3 : Nat → Int32) (z4 z5 : Nat → Int64) (z6 : Int32) : Option (Int32 × Int32 × (Nat → Int32) × (Nat → Int32) × (Nat → Int64) × (Nat → Int64) × Int32) := some ((-20 : Int32) - z1, z1, z2, z3, z4, z5, z6)
theorem rp_x (f : Nat → Int32) (n pl : Int32) (ki se : Nat → Int32) (kn sg : Nat → Int64) (pe wx : Int32) : fnX3_readPersons 1000 f n pl ki se kn sg pe wx = sx_lp7 (bdX3_readPersons_2 1000 f n wx kF kF kF) 1000 (0 : Int32) pl ki se kn sg pe := by
  unfold fnX3_readPersons
  rw [sx_lt_e, sx_lt_e, sx_lt_e]
  rfl
def rd_ok (m : Nat) (kd st : Nat → Nat) (rd : Nat → Int32) : Prop := ∀ i, i < m → rd (2 * i) = nI (kd i) ∧ rd (2 * i + 1) = nI (st i)
theorem rd_up {p : Nat} {kd st : Nat → Nat} {rd : Nat → Int32} (h : rd_ok p kd st rd) (kind set : Nat) : rd_ok (p + 1) (up1 kd p kind) (up1 st p set) (upd (upd rd (2 * p) (nI kind)) (2 * p + 1) (nI set)) := by
  intro i hi
  by_cases e : i = p
  · subst e
    refine ⟨?_, ?_⟩
    · rw [pu_ne (by omega), pu_same, up1_e]
    · rw [pu_same, up1_e]
  · refine ⟨?_, ?_⟩
    · rw [pu_ne (by omega), pu_ne (by omega), up1_n e]; exact (h i (by omega)).1
    · rw [pu_ne (by omega), pu_ne (by omega), up1_n e]; exact (h i (by omega)).2
theorem up1_le {p v b : Nat} {f : Nat → Nat} (h : ∀ i, i < p → f i ≤ b) (hv : v ≤ b) : ∀ i, i < p + 1 → up1 f p v i ≤ b := by
  intro i hi
  by_cases e : i = p
  · rw [e, up1_e]; exact hv
  · rw [up1_n e]; exact h i (by omega)
theorem pl_all {tp : Nat → Nat} {n wx wk dr : Nat} {f g : Nat → Int32} (hf : tq_ok tp n f) (hg : tq_ok tp n g) (hwx : wx ≤ 9) : ∀ k p, p + k = 6 → 0 < k → ∀ a, a ≤ n → ∀ fx fy, k < fx → k + 1 < fy → ∀ (kd st : Nat → Nat) (ki se : Nat → Int32) (kn sg : Nat → Int64) (rd : Nat → Int32), (∀ i, i < p → kd i ≤ 4) → (∀ i, i < p → st i ≤ 255) → cx_C (tqC p kd st wx wk dr) ki se kn sg (nI p) (nI wx) (nI wk) (nI 0) (nI dr) → rd_ok p kd st rd →
    (∃ (e : Nat) (ki' se' : Nat → Int32) (kn' sg' : Nat → Int64) (pe' x fl : Int32) (rd' : Nat → Int32), e ≤ n ∧ sx_lp7 (bdX3_readPersons_2 1000 f (nI n) (nI wx) kF kF kF) fx (nI p) (nI a) ki se kn sg (nI p) = some ((-20 : Int32) - nI e, nI e, ki', se', kn', sg', pe') ∧ rI 1000 g (nI n) (sx_lp4 (bdX5_readPersons_2 1000 g (nI n)) fy) (nI p) rd (nI a) 0 = some (x, nI e, fl, rd') ∧ (fl = 1 ∨ (fl = 0 ∧ tq_s tp n e = e ∧ ¬ tq_c tp n e = 0))) ∨
    ∃ (e m : Nat) (kd' st' : Nat → Nat) (ki' se' : Nat → Int32) (kn' sg' : Nat → Int64) (rd' : Nat → Int32), e ≤ n ∧ 0 < m ∧ m ≤ 6 ∧ (∀ i, i < m → kd' i ≤ 4) ∧ (∀ i, i < m → st' i ≤ 255) ∧ sx_lp7 (bdX3_readPersons_2 1000 f (nI n) (nI wx) kF kF kF) fx (nI p) (nI a) ki se kn sg (nI p) = some ((0 : Int32), nI e, ki', se', kn', sg', nI m) ∧ rI 1000 g (nI n) (sx_lp4 (bdX5_readPersons_2 1000 g (nI n)) fy) (nI p) rd (nI a) 0 = some (nI m, nI e, 0, rd') ∧ cx_C (tqC m kd' st' wx wk dr) ki' se' kn' sg' (nI m) (nI wx) (nI wk) (nI 0) (nI dr) ∧ rd_ok m kd' st' rd' ∧ tq_s tp n e = e ∧ tq_c tp n e = 0 := by
  have hn := hf.1
  intro k
  induction k with
  | zero => intro p hp h0; exact absurd h0 (by omega)
  | succ k ih =>
    intro p hp h0 a ha fx fy hfx hfy kd st ki se kn sg rd hkd hst hX hrd
    obtain ⟨ux, rfl⟩ : ∃ u, fx = u + 1 := ⟨fx - 1, by omega⟩
    obtain ⟨uy, rfl⟩ : ∃ u, fy = u + 1 + 1 := ⟨fy - 2, by omega⟩
    have hc := tq_c_lt hf a
    by_cases hk : kN (tq_c tp n a) = 5
    · refine Or.inl ⟨tq_s tp n a, ki, se, kn, sg, nI p, nI (p + 1), 1, rd, tq_s_le ha, ?_, ?_, Or.inl rfl⟩
      · rw [sx_lp7_1, bdX3_readPersons_2, nm_6, if_neg (nI_nleI (by omega) (by omega)), xp hf ha, c2_e, xi_kd _ hc, c1_e, if_pos hk, xs_within, i0, i4, c1_e, if_pos (by decide)]
        rfl
      · rw [rI_no hg ha hk]
        exact yq_f _ _ _ _
    · have hkl := kN_le (tq_c tp n a)
      have hin : tq_s tp n a < n := tq_in (fun q => by rw [q] at hk; exact hk (by decide))
      obtain ⟨ki1, se1, kn1, sg1, e1, hX1⟩ := xs_seatNew (F := 1000) (kind := kN (tq_c tp n a)) (C := tqC p kd st wx wk dr) (show p < 6 by omega) hX
      have e1' : fnX0_seatNew 1000 ki se kn sg (nI p) (nI (kN (tq_c tp n a))) = some (nI p, ki1, se1, kn1, sg1, nI (p + 1)) := e1
      obtain ⟨y1, y2, y3, y4, -, -, -, -, -⟩ := hX1
      have y3' : cx_L (p + 1) (cx_kn (tq_r (tsl wx st) p (wx + 1) 0)) kn1 := by rw [tq_r_0]; exact y3
      have y4' : cx_L (p + 1) (cx_sg (tq_r (tsl wx st) p (wx + 1) 0)) sg1 := by rw [tq_r_0]; exact y4
      obtain ⟨a', set', kn', sg', q1, q2, q3, q4, q5, q6⟩ := th_all hf hg (show p < 6 by omega) hwx (tsl_sl p st hwx) 8 0 0 0 (tq_s tp n a + 1) (by omega) (by omega) (by omega) (by decide) (fun h => absurd h (by omega)) (by omega) 1000 1000 (by omega) (by omega) kn1 sg1 y3' y4'
      rw [tsl_r] at q5 q6
      have q3' : fnX3_readThings 1000 f (nI n) (nI (tq_s tp n a + 1)) kn1 sg1 (nI wx) (nI p) = some (nI a', kn', sg') := by
        unfold fnX3_readThings
        rw [nm_0]
        exact q3
      have hX' : cx_C (tqC (p + 1) (up1 kd p (kN (tq_c tp n a))) (up1 st p set') wx wk dr) ki1 se1 kn' sg' (nI (p + 1)) (nI wx) (nI wk) (nI 0) (nI dr) := by
        refine ⟨fun i hi => y1 i hi, fun i hi => ?_, q5, q6, rfl, rfl, rfl, rfl, rfl⟩
        have h2 : se1 i = nI (if i = p then p else i) := y2 i hi
        show se1 i = nI i
        rw [h2]
        by_cases e : i = p
        · rw [if_pos e, e]
        · rw [if_neg e]
      have hkd' := up1_le hkd (show kN (tq_c tp n a) ≤ 4 by omega)
      have hst' := up1_le hst (show set' ≤ 255 by omega)
      have hrd' := rd_up hrd (kN (tq_c tp n a)) set'
      have hs' := tq_s_le (tp := tp) q1
      have hc' := tq_c_lt hf a'
      have hw : ¬ ((if rg (nI (kN (tq_c tp n a))) 0 4 = true then (1 : Int32) else 0) = 0) := fun q => (if1 _).mp q ((rgI (by omega)).mpr ⟨by omega, by omega⟩)
      have ec : sx_lp7 (bdX3_readPersons_2 1000 f (nI n) (nI wx) kF kF kF) (ux + 1) (nI p) (nI a) ki se kn sg (nI p) = (if nI (tq_c tp n a') = 0 then (some ((0 : Int32), nI (tq_s tp n a'), ki1, se1, kn', sg', nI (p + 1))) else sx_c2 (fnX3_peek 1000 f (nI n) (nI (tq_s tp n a'))) (fun (r56 : Int32) (w57 : Int32) => (if r56 = (44 : Int32) then (if nI p = (5 : Int32) then (kF w57 ki1 se1 kn' sg' (nI (p + 1))) else sx_nm (nI p + (1 : Int32)) (fun (v61 : Int32) => (sx_lp7 (bdX3_readPersons_2 1000 f (nI n) (nI wx) kF kF kF) ux v61 (w57 + (1 : Int32)) ki1 se1 kn' sg' (nI (p + 1))))) else (kF w57 ki1 se1 kn' sg' (nI (p + 1)))))) := by
        rw [sx_lp7_1, bdX3_readPersons_2, nm_6, if_neg (nI_nleI (by omega) (by omega)), xp hf ha, c2_e, xi_kd _ hc, c1_e, if_neg hk, xs_within, i0, i4, c1_e, if_neg hw, e1', c6_e, nI_1 (tq_s tp n a), q3', c3_e, xp hf q1, c2_e]
      have er := fun r_ : Int32 → Int32 → Int32 → (Nat → Int32) → Option (Int32 × Int32 × Int32 × (Nat → Int32)) => rI_y hg ha (show p < 6 by omega) hk q4 r_ rd
      by_cases z0 : tq_c tp n a' = 0
      · refine Or.inr ⟨tq_s tp n a', p + 1, _, _, ki1, se1, kn', sg', _, hs', by omega, by omega, hkd', hst', ?_, ?_, hX', hrd', tq_id tp n a', by rw [tq_c_id]; exact z0⟩
        · rw [ec, if_pos (by rw [z0]; exact nm_0.symm)]
        · rw [er, yq_e hg hs' (by omega) (by omega) (by rw [tq_c_id, z0]; decide), tq_id]
      · have ec2 : sx_lp7 (bdX3_readPersons_2 1000 f (nI n) (nI wx) kF kF kF) (ux + 1) (nI p) (nI a) ki se kn sg (nI p) = (if nI (tq_c tp n a') = (44 : Int32) then (if nI p = (5 : Int32) then (kF (nI (tq_s tp n a')) ki1 se1 kn' sg' (nI (p + 1))) else sx_nm (nI p + (1 : Int32)) (fun (v61 : Int32) => (sx_lp7 (bdX3_readPersons_2 1000 f (nI n) (nI wx) kF kF kF) ux v61 (nI (tq_s tp n a') + (1 : Int32)) ki1 se1 kn' sg' (nI (p + 1))))) else (kF (nI (tq_s tp n a')) ki1 se1 kn' sg' (nI (p + 1)))) := by
          rw [ec, if_neg (nI_nz (by omega) (by omega)), xp hf hs', tq_c_id, tq_id, c2_e]
        have hin' := tq_in z0
        by_cases z1 : tq_c tp n a' = 44
        · have z1' : tq_c tp n (tq_s tp n a') = 44 := by rw [tq_c_id]; exact z1
          by_cases z5 : p = 5
          · subst z5
            refine Or.inl ⟨tq_s tp n a', ki1, se1, kn', sg', nI (5 + 1), nI (6 + 1), 1, upd (upd rd (2 * 5) (nI (kN (tq_c tp n a)))) (2 * 5 + 1) (nI set'), hs', ?_, ?_, Or.inl rfl⟩
            · rw [ec2, if_pos (by rw [z1]; exact nm_44.symm), if_pos nm_5.symm]
              rfl
            · rw [er]
              show sx_lp4 (bdX5_readPersons_2 1000 g (nI n)) (uy + 1 + 1) (nI 6) _ _ _ = _
              rw [yq_6 hg hs' z1', tq_id, rI_f]
              exact yq_f _ _ _ _
          · have ecl : sx_lp7 (bdX3_readPersons_2 1000 f (nI n) (nI wx) kF kF kF) (ux + 1) (nI p) (nI a) ki se kn sg (nI p) = sx_lp7 (bdX3_readPersons_2 1000 f (nI n) (nI wx) kF kF kF) ux (nI (p + 1)) (nI (tq_s tp n a' + 1)) ki1 se1 kn' sg' (nI (p + 1)) := by
              rw [ec2, if_pos (by rw [z1]; exact nm_44.symm), if_neg (fun q => z5 ((nI_eq (a := p) (b := 5) (by omega) (by omega)).mp (q.trans nm_5))), sx_nm_e, nI_1, nI_1]
            have erl := er (sx_lp4 (bdX5_readPersons_2 1000 g (nI n)) (uy + 1 + 1))
            rw [yq_s hg hs' (by omega) (by omega) z1', tq_id] at erl
            rw [ecl, erl]
            exact ih (p + 1) (by omega) (by omega) (tq_s tp n a' + 1) (by omega) ux (uy + 1) (by omega) (by omega) _ _ ki1 se1 kn' sg' _ hkd' hst' hX' hrd'
        · refine Or.inl ⟨tq_s tp n a', ki1, se1, kn', sg', nI (p + 1), nI (p + 1), 0, upd (upd rd (2 * p) (nI (kN (tq_c tp n a)))) (2 * p + 1) (nI set'), hs', ?_, ?_, Or.inr ⟨rfl, tq_id tp n a', by rw [tq_c_id]; exact z0⟩⟩
          · rw [ec2, if_neg (fun q => z1 ((nI_eq (a := tq_c tp n a') (b := 44) (by omega) (by omega)).mp (q.trans nm_44)))]
            rfl
          · rw [er, yq_e hg hs' (by omega) (by omega) (by rw [tq_c_id]; exact z1), tq_id]
-- the reference fills its court
theorem fl_in {wx p set : Nat} {rd : Nat → Int32} (hp : p < 6) (hs : set ≤ 255) (hr : rd (2 * p + 1) = nI set) (kf : (Nat → Int32) → Option (Int32 × (Nat → Int32) × Int32 × Int32 × Int32 × (Nat → Int32) × Int32)) : ∀ k i, i + k = 8 → ∀ fuel, k < fuel → ∀ w : Nat → Int32, (∀ t, t < i → w (17 + 8 * p + t) = cm_v (if set.testBit t = true then wx + 1 else 0)) → ∃ w', sx_lp2 (bdX5_court_179 1000 (nI wx) (nI p) rd kf) fuel (nI i) w = kf w' ∧ (∀ j, (j < 17 + 8 * p ∨ 17 + 8 * p + 8 ≤ j) → w' j = w j) ∧ ∀ t, t < 8 → w' (17 + 8 * p + t) = cm_v (if set.testBit t = true then wx + 1 else 0) := by
  intro k
  induction k with
  | zero =>
    intro i hi fuel hf w h1
    obtain ⟨f, rfl⟩ : ∃ f, fuel = f + 1 := ⟨fuel - 1, by omega⟩
    rw [sx_lp2_1, bdX5_court_179, nm_8, if_pos (nI_leT (by omega) (by omega))]
    exact ⟨w, rfl, fun _ _ => rfl, fun t ht => h1 t (by omega)⟩
  | succ k ih =>
    intro i hi fuel hf w h1
    obtain ⟨f, rfl⟩ : ∃ f, fuel = f + 1 := ⟨fuel - 1, by omega⟩
    obtain ⟨w', q1, q2, q3⟩ := ih (i + 1) (by omega) f (by omega) (upd w (17 + 8 * p + i) (cm_v (if set.testBit i = true then wx + 1 else 0))) (fun t ht => by
      by_cases e : t = i
      · subst e; rw [pu_same]
      · rw [pu_ne (by omega)]; exact h1 t (by omega))
    refine ⟨w', ?_, fun j hj => by rw [q2 j hj, pu_ne (by omega)], q3⟩
    rw [← q1, sx_lp2_1, bdX5_court_179, ym_ix, nm_8, if_neg (nI_nleI (by omega) (by omega)), nm_2, pk_mul, nI_1, sx_gd_e (nm_ib (by omega)), nI_clamp (show 2 * p + 1 < 2 ^ 31 by omega), hr, sx_lt_e]
    by_cases z : set.testBit i = true
    · rw [if_pos ((nm_bit (by omega) (by omega)).mpr z)]
      dsimp only
      rw [sx_gd_e (nm_ib (by omega)), nI_clamp (by omega), sx_nm_e, nI_1, if_pos z, cm_vs (by omega), show wx + 1 - 1 = wx by omega]
    · rw [if_neg (fun q => z ((nm_bit (by omega) (by omega)).mp q))]
      dsimp only
      rw [sx_gd_e (nm_ib (by omega)), nI_clamp (by omega), sx_nm_e, nI_1, if_neg z, cm_v0]
theorem fl_all {m wx wk dr : Nat} {kd st : Nat → Nat} {rd : Nat → Int32} (hm : m ≤ 6) (hst : ∀ i, i < m → st i ≤ 255) (hrd : rd_ok m kd st rd) (ty pl fl : Int32) : ∀ k p, p + k = m → ∀ fuel, k < fuel → ∀ (w : Nat → Int32) (ud : Int32), cm_C (tqC p kd st wx wk dr) w → (0 < p → ud = 0) → ∃ w' ud', sx_lp3 (bdX5_court_157 1000 (nI wx) (nI m) ty pl fl rd) fuel (nI p) w ud = some (nI m, w', ty, pl, fl, rd, ud') ∧ cm_C (tqC m kd st wx wk dr) w' ∧ (0 < m → ud' = 0) := by
  intro k
  induction k with
  | zero =>
    intro p hp fuel hf w ud hw hu
    obtain ⟨f, rfl⟩ : ∃ f, fuel = f + 1 := ⟨fuel - 1, by omega⟩
    obtain rfl : p = m := by omega
    rw [sx_lp3_1, bdX5_court_157, if_pos (nI_leT (by omega) (by omega))]
    exact ⟨w, ud, rfl, hw, hu⟩
  | succ k ih =>
    intro p hp fuel hf w ud hw hu
    obtain ⟨f, rfl⟩ : ∃ f, fuel = f + 1 := ⟨fuel - 1, by omega⟩
    obtain ⟨r1, r2⟩ := hrd p (by omega)
    obtain ⟨w1, e1, hM1⟩ := ym_comes (F := 1000) (kind := kd p) (C := tqC p kd st wx wk dr) (Nat.le_refl _) (show p < 6 by omega) hw ud
    obtain ⟨⟨m0, m1, m2, m3, m4, m5, m6⟩, mS⟩ := hM1
    obtain ⟨w2, q1, q2, q3⟩ := fl_in (wx := wx) (p := p) (set := st p) (rd := rd) (by omega) (hst p (by omega)) r2 (fun (z36 : Nat → Int32) => sx_nm (nI p + (1 : Int32)) (fun (v37 : Int32) => (sx_lp3 (bdX5_court_157 1000 (nI wx) (nI m) ty pl fl rd) f v37 z36 0))) 8 0 (by omega) 1000 (by omega) w1 (fun t ht => absurd ht (by omega))
    have hM2 : cm_C (tqC (p + 1) kd st wx wk dr) w2 := by
      refine ⟨⟨?_, ?_, ?_, ?_, ?_, fun i hi => ?_, fun i hi => ?_⟩, fun q hq t ht => ?_⟩
      · rw [q2 0 (Or.inl (by omega))]; exact m0
      · rw [q2 1 (Or.inl (by omega))]; exact m1
      · rw [q2 2 (Or.inl (by omega))]; exact m2
      · rw [q2 3 (Or.inl (by omega))]; exact m3
      · rw [q2 4 (Or.inl (by omega))]; exact m4
      · have hi' : i < p + 1 := hi
        have h5 : w1 (5 + i) = nI (if i = p then kd p else kd i) := m5 i hi
        rw [q2 (5 + i) (Or.inl (by omega)), h5]
        show nI (if i = p then kd p else kd i) = nI (kd i)
        by_cases e : i = p
        · rw [if_pos e, e]
        · rw [if_neg e]
      · have hi' : i < p + 1 := hi
        have h6 : w1 (11 + i) = nI (if i = p then p else i) := m6 i hi
        rw [q2 (11 + i) (Or.inl (by omega)), h6]
        show nI (if i = p then p else i) = nI i
        by_cases e : i = p
        · rw [if_pos e, e]
        · rw [if_neg e]
      · have hq' : q < p + 1 := hq
        show w2 (17 + 8 * q + t) = cm_v (if (st q).testBit t = true then wx + 1 else 0)
        by_cases e : q = p
        · rw [e]; exact q3 t ht
        · have h7 : w1 (17 + 8 * q + t) = cm_v (if q = p then 0 else tsl wx st q t) := mS q hq t ht
          rw [q2 (17 + 8 * q + t) (Or.inl (by omega)), h7, if_neg e]
          rfl
    obtain ⟨w', ud', z1, z2, z3⟩ := ih (p + 1) (by omega) f (by omega) w2 0 hM2 (fun _ => rfl)
    refine ⟨w', ud', ?_, z2, z3⟩
    have q1' : sx_lp2 (bdX5_court_179 1000 (nI wx) (nI p) rd (fun (z36 : Nat → Int32) => sx_nm (nI p + (1 : Int32)) (fun (v37 : Int32) => (sx_lp3 (bdX5_court_157 1000 (nI wx) (nI m) ty pl fl rd) f v37 z36 0)))) 1000 (0 : Int32) w1 = sx_lp3 (bdX5_court_157 1000 (nI wx) (nI m) ty pl fl rd) f (nI p + 1) w2 0 := (congrArg (fun x => sx_lp2 (bdX5_court_179 1000 (nI wx) (nI p) rd (fun (z36 : Nat → Int32) => sx_nm (nI p + (1 : Int32)) (fun (v37 : Int32) => (sx_lp3 (bdX5_court_157 1000 (nI wx) (nI m) ty pl fl rd) f v37 z36 0)))) 1000 x w1) nm_0).trans q1
    rw [sx_lp3_1, bdX5_court_157, if_neg (nI_nleI (by omega) (by omega)), nm_2, pk_mul, sx_gd_e (nm_ib (by omega)), nI_clamp (by omega), r1, e1, c2_e, sx_lt_e, q1', nI_1]
    exact z1
